/-! length, peek, cut, poke, append on both sides -/
/-- m bytes g 0, g 1 .. are added to the row a -/
def ad_ (σ : sg_) (a : Nat) (g : Int → Int) (m : Int) : sg_ := fun b j => if b = a + 1 ∧ σ a 1 ≤ j ∧ j < σ a 1 + m then g (j - σ a 1) else if b = a ∧ j = 1 then σ a 1 + m else σ b j
theorem ad_0 (σ : sg_) (a : Nat) (g : Int → Int) : ad_ σ a g 0 = σ := by
  funext b j
  unfold ad_
  rw [if_neg (by omega)]
  split
  · rename_i h
    obtain ⟨rfl, rfl⟩ := h
    omega
  · rfl
theorem ad_n (σ : sg_) (a : Nat) (g : Int → Int) (m : Int) : ad_ σ a g m a 1 = σ a 1 + m := by
  unfold ad_
  rw [if_neg (by omega), if_pos ⟨rfl, rfl⟩]
theorem ad_o (σ : sg_) {a b : Nat} (g : Int → Int) (m : Int) (h1 : b ≠ a) (h2 : b ≠ a + 1) : ad_ σ a g m b = σ b := by
  funext j
  unfold ad_
  rw [if_neg (by omega), if_neg (by omega)]
theorem ad_c (σ : sg_) {a : Nat} (g : Int → Int) (m : Int) {j : Int} : ad_ σ a g m (a + 1) j = if σ a 1 ≤ j ∧ j < σ a 1 + m then g (j - σ a 1) else σ (a + 1) j := by
  unfold ad_
  by_cases h : σ a 1 ≤ j ∧ j < σ a 1 + m
  · rw [if_pos ⟨rfl, h⟩, if_pos h]
  · rw [if_neg (fun q => h q.2), if_neg h, if_neg (by omega)]
theorem ad_S (σ : sg_) {a : Nat} {g : Int → Int} {m x : Int} (hm : 0 ≤ m) (hc : g m = x) : up_ (up_ (ad_ σ a g m) (a + 1) (σ a 1 + m) x) a 1 (σ a 1 + m + 1) = ad_ σ a g (m + 1) := by
  funext b j
  unfold up_ ad_
  by_cases h1 : b = a ∧ j = 1
  · obtain ⟨rfl, rfl⟩ := h1
    rw [if_pos ⟨rfl, rfl⟩, if_neg (by omega), if_pos ⟨rfl, rfl⟩]
    omega
  · rw [if_neg h1, if_neg h1]
    by_cases h2 : b = a + 1 ∧ j = σ a 1 + m
    · rw [if_pos h2, if_pos (by omega), h2.2, ← hc]
      congr 1
      omega
    · rw [if_neg h2]
      by_cases h3 : b = a + 1 ∧ σ a 1 ≤ j ∧ j < σ a 1 + m
      · rw [if_pos h3, if_pos (by omega)]
      · rw [if_neg h3, if_neg (by omega), if_neg h1]
/-- the number that the class's append hands to the row for the byte i of X -/
def yv_ (X : Int64) (i : Int) : Int := ((X >>> ((iI (8 * i)).toInt64 &&& 63)).toInt32).toInt
theorem yv_i (X : Int64) (i : Int) : (X >>> ((iI (8 * i)).toInt64 &&& 63)).toInt32 = iI (yv_ X i) := (Int32.ofInt_toInt _).symm
theorem and_l2i (Z : Int64) : (Z &&& 255).toInt32 = Z.toInt32 &&& iI 255 := by
  apply Int32.toBitVec.inj
  show ((Z.toBitVec &&& (255 : Int64).toBitVec).signExtend 32) = (Z.toBitVec.signExtend 32) &&& (iI 255).toBitVec
  rw [BitVec.signExtend_eq_setWidth_of_le _ (by decide), BitVec.signExtend_eq_setWidth_of_le _ (by decide), BitVec.setWidth_and]
  rfl
section EA
variable {l : Launch} {σ : sg_} {K : Option Value → mx_H → Prop} {p q x n : Int}
theorem c_M_length (hK : K (some (.int (iI (σ 1 1)))) (hp_ σ)) : ct_m l Y_M_length 0 0 [.ref 0] (hp_ σ) K := by
  refine ct_of (L := [.ref 0]) (by decide +kernel) (Nat.le_of_ble_eq_true rfl) rfl ?_
  refine wp_aload_n dc_M_length_0 rfl rfl (wi_getR dc_M_length_1 lf_M_10 sh_0 rfl ?_)
  refine wp_callV (As := []) dc_M_length_4 lm_M_52 ls_B_size (by decide) rfl rfl (hp_at _ sh_1) rfl rfl (Nat.le_of_ble_eq_true rfl) (Nat.le_refl _) (Nat.le_refl _) ?_
  refine c_B_size by_1 ?_
  refine wp_ireturn dc_M_length_7 rfl rfl hK
theorem c_R_length (hK : K (some (.int (iI (σ 51 1)))) (hp_ σ)) : ct_m l Y_R_length 0 0 [.ref 51] (hp_ σ) K := by
  refine ct_of (L := [.ref 51]) (by decide +kernel) (Nat.le_of_ble_eq_true rfl) rfl ?_
  refine wp_aload_n dc_R_length_0 rfl rfl (wi_getI 1 dc_R_length_1 lf_R_58 sh_51 rfl rfl ?_)
  refine wp_ireturn dc_R_length_4 rfl rfl hK
theorem op_length (h : Inv_ σ) : op_ok l Inv_ Y_M_length Y_R_length [] σ := by
  obtain ⟨F, n, hf, hr⟩ := id h
  refine ⟨iI n, fun s => s = σ, fun K hK => c_M_length (by rw [hf.2.2.1]; exact hK σ rfl), fun s hs K hK => ?_⟩
  subst hs
  exact c_R_length (by rw [hf.2.2.2.1]; exact hK _ h)
theorem c_M_peek (h0 : 0 ≤ σ 1 1) (h1 : σ 1 1 ≤ 1000) (hp : rg p) (hK : K (some (.int (iI (at_ (σ 2) (σ 1 1) p)))) (hp_ σ)) : ct_m l Y_M_peek 0 0 [.ref 0, .int (iI p)] (hp_ σ) K := by
  refine ct_of (L := [.ref 0, .int (iI p)]) (by decide +kernel) (Nat.le_of_ble_eq_true rfl) rfl ?_
  refine wp_aload_n dc_M_peek_0 rfl rfl (wi_getR dc_M_peek_1 lf_M_10 sh_0 rfl (wp_iload_n dc_M_peek_4 rfl rfl ?_))
  refine wp_callV (As := [_]) dc_M_peek_5 lm_M_64 ls_B_at (by decide) rfl rfl (hp_at _ sh_1) rfl rfl (Nat.le_of_ble_eq_true rfl) (Nat.le_refl _) (Nat.le_refl _) ?_
  refine c_B_at by_1 h0 h1 hp ?_
  refine wp_ireturn dc_M_peek_8 rfl rfl hK
theorem c_R_peek (h0 : 0 ≤ σ 51 1) (h1 : σ 51 1 ≤ 1000) (hp : rg p) (hK : K (some (.int (iI (at_ (σ 52) (σ 51 1) p)))) (hp_ σ)) : ct_m l Y_R_peek 0 0 [.ref 51, .int (iI p)] (hp_ σ) K := by
  refine ct_of (L := [.ref 51, .int (iI p)]) (by decide +kernel) (Nat.le_of_ble_eq_true rfl) rfl ?_
  refine wp_iload_n dc_R_peek_0 rfl rfl ?_
  refine wi_if_lt dc_R_peek_1 rfl (fun hc => ?_) (fun hc => ?_)
  · rw [at_out (by omega)] at hK
    refine wi_sipush dc_R_peek_12 (wp_goto dc_R_peek_15 rfl ?_)
    refine wp_ireturn dc_R_peek_24 rfl rfl hK
  · refine wp_iload_n dc_R_peek_4 rfl rfl (wp_aload_n dc_R_peek_5 rfl rfl (wi_getI 1 dc_R_peek_6 lf_R_58 sh_51 rfl rfl ?_))
    refine wi_ic_lt dc_R_peek_9 rfl (fun hd => ?_) (fun hd => ?_)
    · rw [at_in (by omega) (by omega)] at hK
      refine wp_aload_n dc_R_peek_18 rfl rfl (wi_getR dc_R_peek_19 lf_R_7 sh_51 rfl (wp_iload_n dc_R_peek_22 rfl rfl (wi_ald dc_R_peek_23 sh_52 (by omega) (by omega) (by decide) ?_)))
      refine wp_ireturn dc_R_peek_24 rfl rfl hK
    · rw [at_out (by omega)] at hK
      refine wi_sipush dc_R_peek_12 (wp_goto dc_R_peek_15 rfl ?_)
      refine wp_ireturn dc_R_peek_24 rfl rfl hK
theorem fo_at {F : Int → Int} (hf : fo_ σ F n) (p : Int) : at_ (σ 2) (σ 1 1) p = at_ (σ 52) (σ 51 1) p := by
  obtain ⟨h0, h1, h2, h3, h4, h5⟩ := hf
  rw [h2, h3]
  by_cases hp : 0 ≤ p ∧ p < n
  · rw [at_in hp.1 hp.2, at_in hp.1 hp.2, (h4 p hp.1 hp.2).1, (h4 p hp.1 hp.2).2.1]
  · rw [at_out hp, at_out hp]
theorem op_peek (h : Inv_ σ) (x0 : Int32) : op_ok l Inv_ Y_M_peek Y_R_peek [.int x0] σ := by
  obtain ⟨F, n, hf, hr⟩ := id h
  obtain ⟨p, hp, rfl⟩ := iI_of x0
  have h0 := hf.1
  have h1 := hf.2.1
  have e1 := hf.2.2.1
  have e2 := hf.2.2.2.1
  refine ⟨iI (at_ (σ 2) (σ 1 1) p), fun s => s = σ, fun K hK => c_M_peek (by omega) (by omega) hp (hK σ rfl), fun s hs K hK => ?_⟩
  subst hs
  exact c_R_peek (by omega) (by omega) hp (by rw [← fo_at hf]; exact hK _ h)
theorem c_M_cut (h0 : 0 ≤ σ 1 1) (h1 : σ 1 1 ≤ 1000) (hp : rg p) (hK : K (some (.int (iI (if 0 ≤ p ∧ p ≤ σ 1 1 then 1 else 0)))) (hp_ (if 0 ≤ p ∧ p ≤ σ 1 1 then up_ (up_ σ 1 1 p) 0 6 1 else σ))) : ct_m l Y_M_cut 0 0 [.ref 0, .int (iI p)] (hp_ σ) K := by
  refine ct_of (L := [.ref 0, .int (iI p)]) (by decide +kernel) (Nat.le_of_ble_eq_true rfl) rfl ?_
  refine wp_iload_n dc_M_cut_0 rfl rfl ?_
  refine wi_if_lt dc_M_cut_1 rfl (fun hc => ?_) (fun hc => ?_)
  · rw [if_neg (by omega), if_neg (by omega)] at hK
    refine wi_iconst dc_M_cut_15 ?_
    refine wp_ireturn dc_M_cut_16 rfl rfl hK
  · refine wp_iload_n dc_M_cut_4 rfl rfl (wp_aload_n dc_M_cut_5 rfl rfl (wi_getR dc_M_cut_6 lf_M_10 sh_0 rfl ?_))
    refine wp_callV (As := []) dc_M_cut_9 lm_M_52 ls_B_size (by decide) rfl rfl (hp_at _ sh_1) rfl rfl (Nat.le_of_ble_eq_true rfl) (Nat.le_refl _) (Nat.le_refl _) ?_
    refine c_B_size by_1 ?_
    refine wi_ic_le dc_M_cut_12 rfl (fun hd => ?_) (fun hd => ?_)
    · rw [if_pos (by omega), if_pos (by omega)] at hK
      refine wp_aload_n dc_M_cut_17 rfl rfl (wi_getR dc_M_cut_18 lf_M_10 sh_0 rfl (wp_iload_n dc_M_cut_21 rfl rfl ?_))
      refine wp_callV (As := [_]) dc_M_cut_22 lm_M_72 ls_B_keep (by decide) rfl rfl (hp_at _ sh_1) rfl rfl (Nat.le_of_ble_eq_true rfl) (Nat.le_refl _) (Nat.le_refl _) ?_
      refine c_B_keep by_1 h0 h1 (by omega) (by omega) ?_
      refine wp_aload_n dc_M_cut_25 rfl rfl (wi_iconst dc_M_cut_26 (wi_putI 6 dc_M_cut_27 lf_M_48 sh_0 rfl rfl pv_1 (wi_iconst dc_M_cut_30 ?_)))
      refine wp_ireturn dc_M_cut_31 rfl rfl hK
    · rw [if_neg (by omega), if_neg (by omega)] at hK
      refine wi_iconst dc_M_cut_15 ?_
      refine wp_ireturn dc_M_cut_16 rfl rfl hK
theorem c_R_cut (h0 : 0 ≤ σ 51 1) (h1 : σ 51 1 ≤ 1000) (hp : rg p) (hK : K (some (.int (iI (if 0 ≤ p ∧ p ≤ σ 51 1 then 1 else 0)))) (hp_ (if 0 ≤ p ∧ p ≤ σ 51 1 then up_ σ 51 1 p else σ))) : ct_m l Y_R_cut 0 0 [.ref 51, .int (iI p)] (hp_ σ) K := by
  refine ct_of (L := [.ref 51, .int (iI p)]) (by decide +kernel) (Nat.le_of_ble_eq_true rfl) rfl ?_
  refine wp_iload_n dc_R_cut_0 rfl rfl ?_
  refine wi_if_lt dc_R_cut_1 rfl (fun hc => ?_) (fun hc => ?_)
  · rw [if_neg (by omega), if_neg (by omega)] at hK
    refine wi_iconst dc_R_cut_12 ?_
    refine wp_ireturn dc_R_cut_13 rfl rfl hK
  · refine wp_iload_n dc_R_cut_4 rfl rfl (wp_aload_n dc_R_cut_5 rfl rfl (wi_getI 1 dc_R_cut_6 lf_R_58 sh_51 rfl rfl ?_))
    refine wi_ic_le dc_R_cut_9 rfl (fun hd => ?_) (fun hd => ?_)
    · rw [if_pos (by omega), if_pos (by omega)] at hK
      refine wp_aload_n dc_R_cut_14 rfl rfl (wp_iload_n dc_R_cut_15 rfl rfl (wi_putI 1 dc_R_cut_16 lf_R_58 sh_51 rfl rfl pv_int (wi_iconst dc_R_cut_19 ?_)))
      refine wp_ireturn dc_R_cut_20 rfl rfl hK
    · rw [if_neg (by omega), if_neg (by omega)] at hK
      refine wi_iconst dc_R_cut_12 ?_
      refine wp_ireturn dc_R_cut_13 rfl rfl hK
theorem op_cut (h : Inv_ σ) (x0 : Int32) : op_ok l Inv_ Y_M_cut Y_R_cut [.int x0] σ := by
  obtain ⟨F, n, hf, ho, hr⟩ := id h
  obtain ⟨p, hp, rfl⟩ := iI_of x0
  obtain ⟨h0, h1, e1, e2, h4, h5⟩ := id hf
  by_cases hc : 0 ≤ p ∧ p ≤ n
  · refine ⟨iI 1, fun s => s = up_ (up_ σ 1 1 p) 0 6 1, fun K hK => c_M_cut (by omega) (by omega) hp (by rw [e1, if_pos hc, if_pos hc]; exact hK _ rfl), fun s hs K hK => ?_⟩
    subst hs
    have e3 : up_ (up_ σ 1 1 p) 0 6 1 51 1 = n := e2
    refine c_R_cut (by omega) (by omega) hp ?_
    rw [e3, if_pos hc, if_pos hc]
    refine hK _ ⟨fun i => if 0 ≤ i ∧ i < p then F i else 0, p, ⟨hc.1, by omega, rfl, rfl, fun i h6 h7 => ?_, fun i h6 => if_neg h6⟩, ho, Or.inl rfl⟩
    dsimp only
    rw [if_pos ⟨h6, h7⟩]
    exact h4 i h6 (by omega)
  · refine ⟨iI 0, fun s => s = σ, fun K hK => c_M_cut (by omega) (by omega) hp (by rw [e1, if_neg hc, if_neg hc]; exact hK _ rfl), fun s hs K hK => ?_⟩
    subst hs
    refine c_R_cut (by omega) (by omega) hp ?_
    rw [e2, if_neg hc, if_neg hc]
    exact hK _ h
theorem c_M_poke (h0 : 0 ≤ σ 1 1) (h1 : σ 1 1 ≤ 1000) (hp : rg p) (hq : rg q) (hK : K (some (.int (iI (if (0 ≤ p ∧ p < σ 1 1) ∧ 0 ≤ q ∧ q ≤ 255 then σ 2 p else -1000)))) (hp_ (if (0 ≤ p ∧ p < σ 1 1) ∧ 0 ≤ q ∧ q ≤ 255 then up_ (up_ σ 2 p q) 0 6 1 else σ))) : ct_m l Y_M_poke 0 0 [.ref 0, .int (iI p), .int (iI q)] (hp_ σ) K := by
  refine ct_of (L := [.ref 0, .int (iI p), .int (iI q), .retAddr 0]) (by decide +kernel) (Nat.le_of_ble_eq_true rfl) rfl ?_
  refine wp_aload_n dc_M_poke_0 rfl rfl (wi_getR dc_M_poke_1 lf_M_10 sh_0 rfl (wp_iload_n dc_M_poke_4 rfl rfl ?_))
  refine wp_callV (As := [_]) dc_M_poke_5 lm_M_60 ls_B_has (by decide) rfl rfl (hp_at _ sh_1) rfl rfl (Nat.le_of_ble_eq_true rfl) (Nat.le_refl _) (Nat.le_refl _) ?_
  refine c_B_has by_1 h0 h1 hp ?_
  by_cases hc : 0 ≤ p ∧ p < σ 1 1
  · rw [if_pos hc]
    refine wi_if_eq dc_M_poke_8 rfl (fun hd => ?_) (fun hd => ?_)
    · omega
    · refine wp_iload_n dc_M_poke_11 rfl rfl ?_
      refine wi_if_lt dc_M_poke_12 rfl (fun he => ?_) (fun he => ?_)
      · rw [if_neg (by omega), if_neg (by omega)] at hK
        refine wi_sipush dc_M_poke_22 ?_
        refine wp_ireturn dc_M_poke_25 rfl rfl hK
      · refine wp_iload_n dc_M_poke_15 rfl rfl (wi_sipush dc_M_poke_16 ?_)
        refine wi_ic_le dc_M_poke_19 rfl (fun hf => ?_) (fun hf => ?_)
        · rw [if_pos (by omega), if_pos (by omega)] at hK
          refine wp_aload_n dc_M_poke_26 rfl rfl (wi_getR dc_M_poke_27 lf_M_10 sh_0 rfl (wp_iload_n dc_M_poke_30 rfl rfl ?_))
          refine wp_callV (As := [_]) dc_M_poke_31 lm_M_64 ls_B_at (by decide) rfl rfl (hp_at _ sh_1) rfl rfl (Nat.le_of_ble_eq_true rfl) (Nat.le_refl _) (Nat.le_refl _) ?_
          refine c_B_at by_1 h0 h1 hp ?_
          rw [at_in hc.1 hc.2]
          refine wp_is3 dc_M_poke_34 (wp_aload_n dc_M_poke_35 rfl rfl (wi_getR dc_M_poke_36 lf_M_10 sh_0 rfl (wp_iload_n dc_M_poke_39 rfl rfl (wp_iload_n dc_M_poke_40 rfl rfl ?_))))
          refine wp_callV (As := [_, _]) dc_M_poke_41 lm_M_68 ls_B_put (by decide) rfl rfl (hp_at _ sh_1) rfl rfl (Nat.le_of_ble_eq_true rfl) (Nat.le_refl _) (Nat.le_refl _) ?_
          refine c_B_put by_1 h0 h1 hc.1 hc.2 ?_
          rw [show q % 256 = q by omega]
          refine wp_aload_n dc_M_poke_44 rfl rfl (wi_iconst dc_M_poke_45 (wi_putI 6 dc_M_poke_46 lf_M_48 sh_0 rfl rfl pv_1 (wp_iload_n dc_M_poke_49 rfl rfl ?_)))
          refine wp_ireturn dc_M_poke_50 rfl rfl hK
        · rw [if_neg (by omega), if_neg (by omega)] at hK
          refine wi_sipush dc_M_poke_22 ?_
          refine wp_ireturn dc_M_poke_25 rfl rfl hK
  · rw [if_neg hc]
    rw [if_neg (fun q => hc q.1), if_neg (fun q => hc q.1)] at hK
    refine wi_if_eq dc_M_poke_8 rfl (fun hd => ?_) (fun hd => ?_)
    · refine wi_sipush dc_M_poke_22 ?_
      refine wp_ireturn dc_M_poke_25 rfl rfl hK
    · omega
theorem c_R_poke (h0 : 0 ≤ σ 51 1) (h1 : σ 51 1 ≤ 1000) (hp : rg p) (hq : rg q) (hK : K (some (.int (iI (if (0 ≤ p ∧ p < σ 51 1) ∧ 0 ≤ q ∧ q ≤ 255 then σ 52 p else -1000)))) (hp_ (if (0 ≤ p ∧ p < σ 51 1) ∧ 0 ≤ q ∧ q ≤ 255 then up_ σ 52 p q else σ))) : ct_m l Y_R_poke 0 0 [.ref 51, .int (iI p), .int (iI q)] (hp_ σ) K := by
  refine ct_of (L := [.ref 51, .int (iI p), .int (iI q), .retAddr 0]) (by decide +kernel) (Nat.le_of_ble_eq_true rfl) rfl ?_
  refine wp_iload_n dc_R_poke_0 rfl rfl ?_
  refine wi_if_lt dc_R_poke_1 rfl (fun hc => ?_) (fun hc => ?_)
  · rw [if_neg (by omega), if_neg (by omega)] at hK
    refine wi_sipush dc_R_poke_23 ?_
    refine wp_ireturn dc_R_poke_26 rfl rfl hK
  · refine wp_iload_n dc_R_poke_4 rfl rfl (wp_aload_n dc_R_poke_5 rfl rfl (wi_getI 1 dc_R_poke_6 lf_R_58 sh_51 rfl rfl ?_))
    refine wi_ic_ge dc_R_poke_9 rfl (fun hd => ?_) (fun hd => ?_)
    · rw [if_neg (by omega), if_neg (by omega)] at hK
      refine wi_sipush dc_R_poke_23 ?_
      refine wp_ireturn dc_R_poke_26 rfl rfl hK
    · refine wp_iload_n dc_R_poke_12 rfl rfl ?_
      refine wi_if_lt dc_R_poke_13 rfl (fun he => ?_) (fun he => ?_)
      · rw [if_neg (by omega), if_neg (by omega)] at hK
        refine wi_sipush dc_R_poke_23 ?_
        refine wp_ireturn dc_R_poke_26 rfl rfl hK
      · refine wp_iload_n dc_R_poke_16 rfl rfl (wi_sipush dc_R_poke_17 ?_)
        refine wi_ic_le dc_R_poke_20 rfl (fun hf => ?_) (fun hf => ?_)
        · rw [if_pos (by omega), if_pos (by omega)] at hK
          refine wp_aload_n dc_R_poke_27 rfl rfl (wi_getR dc_R_poke_28 lf_R_7 sh_51 rfl (wp_iload_n dc_R_poke_31 rfl rfl (wi_ald dc_R_poke_32 sh_52 (by omega) (by omega) (by decide) (wp_is3 dc_R_poke_33 (wp_aload_n dc_R_poke_34 rfl rfl (wi_getR dc_R_poke_35 lf_R_7 sh_51 rfl (wp_iload_n dc_R_poke_38 rfl rfl (wp_iload_n dc_R_poke_39 rfl rfl (wi_ast dc_R_poke_40 sh_52 (by omega) (by omega) (by decide) (wp_iload_n dc_R_poke_41 rfl rfl ?_))))))))))
          refine wp_ireturn dc_R_poke_42 rfl rfl hK
        · rw [if_neg (by omega), if_neg (by omega)] at hK
          refine wi_sipush dc_R_poke_23 ?_
          refine wp_ireturn dc_R_poke_26 rfl rfl hK
theorem op_poke (h : Inv_ σ) (x0 x1 : Int32) : op_ok l Inv_ Y_M_poke Y_R_poke [.int x0, .int x1] σ := by
  obtain ⟨F, n, hf, ho, hr⟩ := id h
  obtain ⟨p, hp, rfl⟩ := iI_of x0
  obtain ⟨q, hq, rfl⟩ := iI_of x1
  obtain ⟨h0, h1, e1, e2, h4, h5⟩ := id hf
  by_cases hc : (0 ≤ p ∧ p < n) ∧ 0 ≤ q ∧ q ≤ 255
  · refine ⟨iI (F p), fun s => s = up_ (up_ σ 2 p q) 0 6 1, fun K hK => c_M_poke (by omega) (by omega) hp hq (by rw [e1, if_pos hc, if_pos hc, (h4 p hc.1.1 hc.1.2).1]; exact hK _ rfl), fun s hs K hK => ?_⟩
    subst hs
    have e3 : up_ (up_ σ 2 p q) 0 6 1 51 1 = n := e2
    refine c_R_poke (by omega) (by omega) hp hq ?_
    rw [e3, if_pos hc, if_pos hc, show up_ (up_ σ 2 p q) 0 6 1 52 p = F p from (h4 p hc.1.1 hc.1.2).2.1]
    refine hK _ ⟨fun i => if i = p then q else F i, n, ⟨h0, h1, e1, e2, fun i h6 h7 => ?_, fun i h6 => by dsimp only; rw [if_neg (by omega)]; exact h5 i h6⟩, ho, Or.inl rfl⟩
    dsimp only
    by_cases hi : i = p
    · subst hi
      rw [if_pos rfl]
      refine ⟨?_, ?_, hc.2.1, by omega⟩
      · simp [up_]
      · simp [up_]
    · rw [if_neg hi]
      have h8 := h4 i h6 h7
      refine ⟨?_, ?_, h8.2.2.1, h8.2.2.2⟩
      · simp [up_, hi, h8.1]
      · simp [up_, hi, h8.2.1]
  · refine ⟨iI (-1000), fun s => s = σ, fun K hK => c_M_poke (by omega) (by omega) hp hq (by rw [e1, if_neg hc, if_neg hc]; exact hK _ rfl), fun s hs K hK => ?_⟩
    subst hs
    refine c_R_poke (by omega) (by omega) hp hq ?_
    rw [e2, if_neg hc, if_neg hc]
    exact hK _ h
theorem wi_l2i {Y : mx_Y} {sc : mx_S} {k n : Nat} {pc : Nat} {L st : List Value} {h : mx_H} {Q : Option Value → mx_H → Prop} {X : Int64} {i : Int} (hi : decode Y.2.1 pc = .ok (.l2i, 1)) (kk : wp_m l Y sc k n (pc + 1) L (.int (iI (yv_ X i)) :: st) h Q) : wp_m l Y sc k n pc L (.long (X >>> ((iI (8 * i)).toInt64 &&& 63)) :: st) h Q := wp_l2i hi (by rw [yv_i]; exact kk)
theorem wi_l2iA {Y : mx_Y} {sc : mx_S} {k n : Nat} {pc : Nat} {L st : List Value} {h : mx_H} {Q : Option Value → mx_H → Prop} {X : Int64} {i : Int} (hi : decode Y.2.1 pc = .ok (.l2i, 1)) (kk : wp_m l Y sc k n (pc + 1) L (.int (iI (yv_ X i % 256)) :: st) h Q) : wp_m l Y sc k n pc L (.long (X >>> ((iI (8 * i)).toInt64 &&& 63) &&& 255) :: st) h Q := wp_l2i hi (by rw [and_l2i, yv_i, iI_255]; exact kk)
def yb_ (X : Int64) (n t : Int) : Int := yv_ X (n - 1 - t) % 256
theorem lp_M_append {X : Int64} (h0 : 0 ≤ σ 1 1) (hn0 : 1 ≤ n) (hn1 : n ≤ 8) (h1 : σ 1 1 + n ≤ 1000) (hK : K (some (.int (iI (σ 1 1 + n)))) (hp_ (up_ (ad_ σ 1 (yb_ X n) n) 0 6 1))) :
    ∀ (j : Nat) (i : Int), i = j - 1 → i ≤ n - 1 → wp_m l Y_M_append none 0 0 36 [.ref 0, .long X, .retAddr 0, .int (iI n), .int (iI i)] [] (hp_ (ad_ σ 1 (yb_ X n) (n - 1 - i))) K := by
  intro j
  induction j with
  | zero =>
    intro i hi hin
    refine wp_iload dc_M_append_36 rfl ?_
    refine wi_if_lt dc_M_append_38 rfl (fun hc => ?_) (fun hc => ?_)
    · rw [show n - 1 - i = n by omega]
      refine wp_aload_n dc_M_append_62 rfl rfl (wi_iconst dc_M_append_63 (wi_putI 6 dc_M_append_64 lf_M_48 sh_0 rfl rfl pv_1 (wp_aload_n dc_M_append_67 rfl rfl (wi_getR dc_M_append_68 lf_M_10 sh_0 rfl ?_))))
      refine wp_callV (As := []) dc_M_append_71 lm_M_52 ls_B_size (by decide) rfl rfl (hp_at _ sh_1) rfl rfl (Nat.le_of_ble_eq_true rfl) (Nat.le_refl _) (Nat.le_refl _) ?_
      refine c_B_size by_1 ?_
      rw [show up_ (ad_ σ 1 (yb_ X n) n) 0 6 1 1 1 = σ 1 1 + n from ad_n σ 1 (yb_ X n) n]
      refine wp_ireturn dc_M_append_74 rfl rfl hK
    · omega
  | succ j ih =>
    intro i hi hin
    refine wp_iload dc_M_append_36 rfl ?_
    refine wi_if_lt dc_M_append_38 rfl (fun hc => ?_) (fun hc => ?_)
    · omega
    · refine wp_aload_n dc_M_append_41 rfl rfl (wi_getR dc_M_append_42 lf_M_10 sh_0 rfl (wp_lload_n dc_M_append_45 rfl rfl (wi_bipush dc_M_append_46 (wp_iload dc_M_append_48 rfl (wi_imul dc_M_append_50 (wp_lshr dc_M_append_51 (wi_l2i dc_M_append_52 ?_)))))))
      refine wp_callV (As := [_]) dc_M_append_53 lm_M_56 ls_B_add (by decide) rfl rfl (hp_at _ sh_1) rfl rfl (Nat.le_of_ble_eq_true rfl) (Nat.le_refl _) (Nat.le_refl _) ?_
      refine c_B_add by_1 (by rw [ad_n]; omega) (by rw [ad_n]; omega) ?_
      rw [ad_n, ad_S σ (by omega) (show yb_ X n (n - 1 - i) = yv_ X i % 256 by unfold yb_; rw [show n - 1 - (n - 1 - i) = i by omega]), show n - 1 - i + 1 = n - 1 - (i + -1) by omega]
      refine wp_ii4 dc_M_append_56 (wp_goto dc_M_append_59 rfl ?_)
      exact ih (i + -1) (by omega) (by omega)
theorem c_M_append {X : Int64} (h0 : 0 ≤ σ 1 1) (h1 : σ 1 1 ≤ 1000) (hn : rg n) (hK : K (some (.int (iI (if n < 1 ∨ 8 < n then -1 else if σ 1 1 + n > 1000 then -2 else σ 1 1 + n)))) (hp_ (if n < 1 ∨ 8 < n then σ else if σ 1 1 + n > 1000 then σ else up_ (ad_ σ 1 (yb_ X n) n) 0 6 1))) : ct_m l Y_M_append 0 0 [.ref 0, .long X, .int (iI n)] (hp_ σ) K := by
  refine ct_of (L := [.ref 0, .long X, .retAddr 0, .int (iI n), .retAddr 0]) (by decide +kernel) (Nat.le_of_ble_eq_true rfl) rfl ?_
  refine wp_iload_n dc_M_append_0 rfl rfl (wi_iconst dc_M_append_1 ?_)
  refine wi_ic_lt dc_M_append_2 rfl (fun hc => ?_) (fun hc => ?_)
  · rw [if_pos (by omega), if_pos (by omega)] at hK
    refine wi_iconst dc_M_append_11 ?_
    refine wp_ireturn dc_M_append_12 rfl rfl hK
  · refine wp_iload_n dc_M_append_5 rfl rfl (wi_bipush dc_M_append_6 ?_)
    refine wi_ic_le dc_M_append_8 rfl (fun hd => ?_) (fun hd => ?_)
    · have c1 : ¬ (n < 1 ∨ 8 < n) := by omega
      rw [if_neg c1, if_neg c1] at hK
      refine wp_aload_n dc_M_append_13 rfl rfl (wi_getR dc_M_append_14 lf_M_10 sh_0 rfl ?_)
      refine wp_callV (As := []) dc_M_append_17 lm_M_52 ls_B_size (by decide) rfl rfl (hp_at _ sh_1) rfl rfl (Nat.le_of_ble_eq_true rfl) (Nat.le_refl _) (Nat.le_refl _) ?_
      refine c_B_size by_1 ?_
      refine wp_iload_n dc_M_append_20 rfl rfl (wi_iadd dc_M_append_21 (wi_sipush dc_M_append_22 ?_))
      refine wi_ic_le dc_M_append_25 rfl (fun he => ?_) (fun he => ?_)
      · have c2 : ¬ (σ 1 1 + n > 1000) := by omega
        rw [if_neg c2, if_neg c2] at hK
        refine wp_iload_n dc_M_append_31 rfl rfl (wi_iconst dc_M_append_32 (wi_isub dc_M_append_33 (wp_is4 dc_M_append_34 ?_)))
        have h := lp_M_append (l := l) (X := X) h0 (by omega) hd (by omega) hK n.toNat (n - 1) (by omega) (by omega)
        rw [show n - 1 - (n - 1) = 0 by omega, ad_0] at h
        exact h
      · have c2 : σ 1 1 + n > 1000 := by omega
        rw [if_pos c2, if_pos c2] at hK
        refine wi_bipush dc_M_append_28 ?_
        refine wp_ireturn dc_M_append_30 rfl rfl hK
    · rw [if_pos (by omega), if_pos (by omega)] at hK
      refine wi_iconst dc_M_append_11 ?_
      refine wp_ireturn dc_M_append_12 rfl rfl hK
theorem lp_R_append {X : Int64} (h0 : 0 ≤ σ 51 1) (hn0 : 1 ≤ n) (hn1 : n ≤ 8) (h1 : σ 51 1 + n ≤ 1000) (hK : K (some (.int (iI (σ 51 1 + n)))) (hp_ (ad_ σ 51 (yb_ X n) n))) :
    ∀ (j : Nat) (i : Int), i = j - 1 → i ≤ n - 1 → wp_m l Y_R_append none 0 0 33 [.ref 51, .long X, .retAddr 0, .int (iI n), .int (iI i)] [] (hp_ (ad_ σ 51 (yb_ X n) (n - 1 - i))) K := by
  intro j
  induction j with
  | zero =>
    intro i hi hin
    refine wp_iload dc_R_append_33 rfl ?_
    refine wi_if_lt dc_R_append_35 rfl (fun hc => ?_) (fun hc => ?_)
    · rw [show n - 1 - i = n by omega]
      refine wp_aload_n dc_R_append_75 rfl rfl (wi_getI 1 dc_R_append_76 lf_R_58 sh_51 rfl rfl ?_)
      rw [show ad_ σ 51 (yb_ X n) n 51 1 = σ 51 1 + n from ad_n σ 51 (yb_ X n) n]
      refine wp_ireturn dc_R_append_79 rfl rfl hK
    · omega
  | succ j ih =>
    intro i hi hin
    refine wp_iload dc_R_append_33 rfl ?_
    refine wi_if_lt dc_R_append_35 rfl (fun hc => ?_) (fun hc => ?_)
    · omega
    · have e := ad_n σ 51 (yb_ X n) (n - 1 - i)
      refine wp_aload_n dc_R_append_38 rfl rfl (wi_getR dc_R_append_39 lf_R_7 sh_51 rfl (wp_aload_n dc_R_append_42 rfl rfl (wi_getI 1 dc_R_append_43 lf_R_58 sh_51 rfl rfl (wp_lload_n dc_R_append_46 rfl rfl (wi_bipush dc_R_append_47 (wp_iload dc_R_append_49 rfl (wi_imul dc_R_append_51 (wp_lshr dc_R_append_52 ?_))))))))
      refine wp_ldc2 dc_R_append_53 lq_c1 (wp_land dc_R_append_56 (wi_l2iA dc_R_append_57 (wi_ast dc_R_append_58 sh_52 (by omega) (by omega) (by decide) ?_)))
      refine wp_aload_n dc_R_append_59 rfl rfl (wp_dup dc_R_append_60 (wi_getI 1 dc_R_append_61 lf_R_58 sh_51 rfl rfl (wi_iconst dc_R_append_64 (wi_iadd dc_R_append_65 (wi_putI 1 dc_R_append_66 lf_R_58 sh_51 rfl rfl pv_int ?_)))))
      rw [up_n _ _ (fun q => absurd q.1 (by decide)), e, show (52 : Nat) = 51 + 1 from rfl, ad_S σ (a := 51) (by omega) (show yb_ X n (n - 1 - i) = yv_ X i % 256 by unfold yb_; rw [show n - 1 - (n - 1 - i) = i by omega]), show n - 1 - i + 1 = n - 1 - (i + -1) by omega]
      refine wp_ii4 dc_R_append_69 (wp_goto dc_R_append_72 rfl ?_)
      exact ih (i + -1) (by omega) (by omega)
theorem c_R_append {X : Int64} (h0 : 0 ≤ σ 51 1) (h1 : σ 51 1 ≤ 1000) (hn : rg n) (hK : K (some (.int (iI (if n < 1 ∨ 8 < n then -1 else if σ 51 1 + n > 1000 then -2 else σ 51 1 + n)))) (hp_ (if n < 1 ∨ 8 < n then σ else if σ 51 1 + n > 1000 then σ else ad_ σ 51 (yb_ X n) n))) : ct_m l Y_R_append 0 0 [.ref 51, .long X, .int (iI n)] (hp_ σ) K := by
  refine ct_of (L := [.ref 51, .long X, .retAddr 0, .int (iI n), .retAddr 0]) (by decide +kernel) (Nat.le_of_ble_eq_true rfl) rfl ?_
  refine wp_iload_n dc_R_append_0 rfl rfl (wi_iconst dc_R_append_1 ?_)
  refine wi_ic_lt dc_R_append_2 rfl (fun hc => ?_) (fun hc => ?_)
  · rw [if_pos (by omega), if_pos (by omega)] at hK
    refine wi_iconst dc_R_append_11 ?_
    refine wp_ireturn dc_R_append_12 rfl rfl hK
  · refine wp_iload_n dc_R_append_5 rfl rfl (wi_bipush dc_R_append_6 ?_)
    refine wi_ic_le dc_R_append_8 rfl (fun hd => ?_) (fun hd => ?_)
    · have c1 : ¬ (n < 1 ∨ 8 < n) := by omega
      rw [if_neg c1, if_neg c1] at hK
      refine wp_aload_n dc_R_append_13 rfl rfl (wi_getI 1 dc_R_append_14 lf_R_58 sh_51 rfl rfl (wp_iload_n dc_R_append_17 rfl rfl (wi_iadd dc_R_append_18 (wi_sipush dc_R_append_19 ?_))))
      refine wi_ic_le dc_R_append_22 rfl (fun he => ?_) (fun he => ?_)
      · have c2 : ¬ (σ 51 1 + n > 1000) := by omega
        rw [if_neg c2, if_neg c2] at hK
        refine wp_iload_n dc_R_append_28 rfl rfl (wi_iconst dc_R_append_29 (wi_isub dc_R_append_30 (wp_is4 dc_R_append_31 ?_)))
        have h := lp_R_append (l := l) (X := X) h0 (by omega) hd (by omega) hK n.toNat (n - 1) (by omega) (by omega)
        rw [show n - 1 - (n - 1) = 0 by omega, ad_0] at h
        exact h
      · have c2 : σ 51 1 + n > 1000 := by omega
        rw [if_pos c2, if_pos c2] at hK
        refine wi_bipush dc_R_append_25 ?_
        refine wp_ireturn dc_R_append_27 rfl rfl hK
    · rw [if_pos (by omega), if_pos (by omega)] at hK
      refine wi_iconst dc_R_append_11 ?_
      refine wp_ireturn dc_R_append_12 rfl rfl hK
theorem op_append (h : Inv_ σ) (X : Int64) (x1 : Int32) : op_ok l Inv_ Y_M_append Y_R_append [.long X, .int x1] σ := by
  obtain ⟨F, n, hf, ho, hr⟩ := id h
  obtain ⟨q, hq, rfl⟩ := iI_of x1
  obtain ⟨h0, h1, e1, e2, h4, h5⟩ := id hf
  by_cases hc : q < 1 ∨ 8 < q
  · refine ⟨iI (-1), fun s => s = σ, fun K hK => c_M_append (by omega) (by omega) hq (by rw [if_pos hc, if_pos hc]; exact hK _ rfl), fun s hs K hK => ?_⟩
    subst hs
    exact c_R_append (by omega) (by omega) hq (by rw [if_pos hc, if_pos hc]; exact hK _ h)
  by_cases hd : n + q > 1000
  · refine ⟨iI (-2), fun s => s = σ, fun K hK => c_M_append (by omega) (by omega) hq (by rw [if_neg hc, if_neg hc, if_pos (by omega), if_pos (by omega)]; exact hK _ rfl), fun s hs K hK => ?_⟩
    subst hs
    exact c_R_append (by omega) (by omega) hq (by rw [if_neg hc, if_neg hc, if_pos (by omega), if_pos (by omega)]; exact hK _ h)
  refine ⟨iI (n + q), fun s => s = up_ (ad_ σ 1 (yb_ X q) q) 0 6 1, fun K hK => c_M_append (by omega) (by omega) hq (by rw [if_neg hc, if_neg hc, if_neg (by omega), if_neg (by omega), e1]; exact hK _ rfl), fun s hs K hK => ?_⟩
  have e3 : s 51 1 = n := by rw [hs]; exact e2
  refine c_R_append (by omega) (by omega) hq ?_
  rw [if_neg hc, if_neg hc, if_neg (by omega), if_neg (by omega), e3]
  have e4 : ∀ j, s 2 j = if n ≤ j ∧ j < n + q then yb_ X q (j - n) else σ 2 j := fun j => by
    rw [hs, show up_ (ad_ σ 1 (yb_ X q) q) 0 6 1 2 j = ad_ σ 1 (yb_ X q) q (1 + 1) j from rfl, ad_c, e1]
  have e5 : ∀ j, ad_ s 51 (yb_ X q) q 52 j = if n ≤ j ∧ j < n + q then yb_ X q (j - n) else σ 52 j := fun j => by
    rw [show ad_ s 51 (yb_ X q) q 52 j = ad_ s 51 (yb_ X q) q (51 + 1) j from rfl, ad_c, e3, show s (51 + 1) j = σ 52 j by rw [hs]; rfl]
  refine hK _ ⟨fun i => if n ≤ i ∧ i < n + q then yb_ X q (i - n) else F i, n + q, ⟨by omega, by omega, ?_, ?_, fun i h6 h7 => ?_, fun i h6 => ?_⟩, ?_, Or.inl ?_⟩
  · rw [ad_o s (yb_ X q) q (by decide) (by decide), hs]
    show ad_ σ 1 (yb_ X q) q 1 1 = n + q
    rw [ad_n, e1]
  · rw [ad_n, e3]
  · dsimp only
    rw [e5, ad_o s (yb_ X q) q (by decide) (by decide), e4]
    by_cases hi : n ≤ i ∧ i < n + q
    · rw [if_pos hi, if_pos hi, if_pos hi]
      refine ⟨rfl, rfl, ?_, ?_⟩ <;> (unfold yb_; omega)
    · rw [if_neg hi, if_neg hi, if_neg hi]
      exact h4 i h6 (by omega)
  · dsimp only
    rw [if_neg (by omega)]
    exact h5 i (by omega)
  · rw [ad_o s (yb_ X q) q (by decide) (by decide), hs]
    exact ho
  · rw [ad_o s (yb_ X q) q (by decide) (by decide), hs]
    rfl
end EA
