/-! rows of bytes: the objects 1 and 46, their cells 2 and 47 -/
abbrev by_ (a : Nat) : Prop := SH[a]? = some (.inr (1, [.ref (a + 1), .int 0])) ∧ SH[a + 1]? = some (.inl (0, 1000, .inl (fun _ => 0)))
theorem by_1 : by_ 1 := ⟨rfl, rfl⟩
theorem by_46 : by_ 46 := ⟨rfl, rfl⟩
def at_ (f : Int → Int) (n p : Int) : Int := if 0 ≤ p ∧ p < n then f p else -1000
theorem at_in {f : Int → Int} {n p : Int} (h0 : 0 ≤ p) (h1 : p < n) : at_ f n p = f p := if_pos ⟨h0, h1⟩
theorem at_out {f : Int → Int} {n p : Int} (h : ¬ (0 ≤ p ∧ p < n)) : at_ f n p = -1000 := if_neg h
theorem nI_iI (n : Nat) : nI n = iI (n : Int) := (Int32.ofInt_eq_ofNat).symm
theorem iI_255 (z : Int) : iI z &&& iI 255 = iI (z % 256) := by
  rw [pk_and (iI z) (m := iI 255) 8 (by decide)]
  have e : (iI z).toBitVec.toNat = (z % 4294967296).toNat := by
    show (BitVec.ofInt 32 z).toNat = _
    rw [BitVec.toNat_ofInt]
    rfl
  rw [e, nI_iI]
  congr 1
  omega
theorem iI_shr8 {z : Int} (h : rg z) : iI z >>> (iI 8 &&& 31) = iI (z / 256) := by
  rw [← Int32.toInt_inj, pk_shr (iI z) (iI 8 &&& 31) 8 (by decide), iI_t h, iI_t ⟨by omega, by omega⟩, Int.shiftRight_eq_div_pow]
  rfl
section BY
variable {l : Launch} {σ : sg_} {K : Option Value → mx_H → Prop} {a b : Nat} {p q x : Int}
theorem wi_and255 {Y : mx_Y} {sc : mx_S} {k n : Nat} {pc : Nat} {L st : List Value} {h : mx_H} {Q : Option Value → mx_H → Prop} {x : Int} (hi : decode Y.2.1 pc = .ok (.iand, 1)) (kk : wp_m l Y sc k n (pc + 1) L (.int (iI (x % 256)) :: st) h Q) : wp_m l Y sc k n pc L (.int (iI 255) :: .int (iI x) :: st) h Q := wp_iand hi (by rw [iI_255]; exact kk)
theorem wi_shr8 {Y : mx_Y} {sc : mx_S} {k n : Nat} {pc : Nat} {L st : List Value} {h : mx_H} {Q : Option Value → mx_H → Prop} {x : Int} (hi : decode Y.2.1 pc = .ok (.ishr, 1)) (kk : wp_m l Y sc k n (pc + 1) L (.int (iI (x / 256)) :: st) h Q) (hx : rg x := by first | assumption | (constructor <;> omega)) : wp_m l Y sc k n pc L (.int (iI 8) :: .int (iI x) :: st) h Q := wp_ishr hi (by rw [iI_shr8 hx]; exact kk)
theorem c_B_size (hb : by_ a) (hK : K (some (.int (iI (σ a 1)))) (hp_ σ)) : ct_m l Y_B_size 0 0 [.ref a] (hp_ σ) K := by
  obtain ⟨hB, hA⟩ := hb
  refine ct_of (L := [.ref a]) (by decide +kernel) (Nat.le_of_ble_eq_true rfl) rfl ?_
  refine wp_aload_n dc_B_size_0 rfl rfl (wi_getI 1 dc_B_size_1 lf_B_15 hB rfl rfl ?_)
  refine wp_ireturn dc_B_size_4 rfl rfl hK
theorem c_B_has (hb : by_ a) (h0 : 0 ≤ σ a 1) (h1 : σ a 1 ≤ 1000) (hp : rg p) (hK : K (some (.int (iI (if 0 ≤ p ∧ p < σ a 1 then 1 else 0)))) (hp_ σ)) : ct_m l Y_B_has 0 0 [.ref a, .int (iI p)] (hp_ σ) K := by
  obtain ⟨hB, hA⟩ := hb
  refine ct_of (L := [.ref a, .int (iI p)]) (by decide +kernel) (Nat.le_of_ble_eq_true rfl) rfl ?_
  refine wp_iload_n dc_B_has_0 rfl rfl ?_
  refine wi_if_lt dc_B_has_1 rfl (fun hc => ?_) (fun hc => ?_)
  · rw [if_neg (by omega)] at hK
    refine wi_iconst dc_B_has_16 ?_
    refine wp_ireturn dc_B_has_17 rfl rfl hK
  · refine wp_iload_n dc_B_has_4 rfl rfl (wp_aload_n dc_B_has_5 rfl rfl (wi_getI 1 dc_B_has_6 lf_B_15 hB rfl rfl ?_))
    refine wi_ic_ge dc_B_has_9 rfl (fun hd => ?_) (fun hd => ?_)
    · rw [if_neg (by omega)] at hK
      refine wi_iconst dc_B_has_16 ?_
      refine wp_ireturn dc_B_has_17 rfl rfl hK
    · rw [if_pos (by omega)] at hK
      refine wi_iconst dc_B_has_12 (wp_goto dc_B_has_13 rfl ?_)
      refine wp_ireturn dc_B_has_17 rfl rfl hK
theorem c_B_at (hb : by_ a) (h0 : 0 ≤ σ a 1) (h1 : σ a 1 ≤ 1000) (hp : rg p) (hK : K (some (.int (iI (at_ (σ (a + 1)) (σ a 1) p)))) (hp_ σ)) : ct_m l Y_B_at 0 0 [.ref a, .int (iI p)] (hp_ σ) K := by
  obtain ⟨hB, hA⟩ := hb
  refine ct_of (L := [.ref a, .int (iI p)]) (by decide +kernel) (Nat.le_of_ble_eq_true rfl) rfl ?_
  refine wp_iload_n dc_B_at_0 rfl rfl ?_
  refine wi_if_lt dc_B_at_1 rfl (fun hc => ?_) (fun hc => ?_)
  · rw [at_out (by omega)] at hK
    refine wi_sipush dc_B_at_21 ?_
    refine wp_ireturn dc_B_at_24 rfl rfl hK
  · refine wp_iload_n dc_B_at_4 rfl rfl (wp_aload_n dc_B_at_5 rfl rfl (wi_getI 1 dc_B_at_6 lf_B_15 hB rfl rfl ?_))
    refine wi_ic_ge dc_B_at_9 rfl (fun hd => ?_) (fun hd => ?_)
    · rw [at_out (by omega)] at hK
      refine wi_sipush dc_B_at_21 ?_
      refine wp_ireturn dc_B_at_24 rfl rfl hK
    · rw [at_in (by omega) (by omega)] at hK
      refine wp_aload_n dc_B_at_12 rfl rfl (wi_getR dc_B_at_13 lf_B_9 hB rfl (wp_iload_n dc_B_at_16 rfl rfl (wi_ald dc_B_at_17 hA (by omega) (by omega) (by decide) (wp_goto dc_B_at_18 rfl ?_))))
      refine wp_ireturn dc_B_at_24 rfl rfl hK
theorem c_B_pairAt (hb : by_ a) (h0 : 0 ≤ σ a 1) (h1 : σ a 1 ≤ 1000) (hp0 : 0 ≤ p) (hp1 : p < σ a 1 - 1) (hK : K (some (.int (iI (σ (a + 1) p * 256 + σ (a + 1) (p + 1))))) (hp_ σ)) : ct_m l Y_B_pairAt 0 0 [.ref a, .int (iI p)] (hp_ σ) K := by
  obtain ⟨hB, hA⟩ := hb
  refine ct_of (L := [.ref a, .int (iI p)]) (by decide +kernel) (Nat.le_of_ble_eq_true rfl) rfl ?_
  refine wp_iload_n dc_B_pairAt_0 rfl rfl ?_
  refine wi_if_lt dc_B_pairAt_1 rfl (fun hc => ?_) (fun hc => ?_)
  · omega
  · refine wp_iload_n dc_B_pairAt_4 rfl rfl (wp_aload_n dc_B_pairAt_5 rfl rfl (wi_getI 1 dc_B_pairAt_6 lf_B_15 hB rfl rfl (wi_iconst dc_B_pairAt_9 (wi_isub dc_B_pairAt_10 ?_))))
    refine wi_ic_ge dc_B_pairAt_11 rfl (fun hd => ?_) (fun hd => ?_)
    · omega
    · refine wp_aload_n dc_B_pairAt_14 rfl rfl (wi_getR dc_B_pairAt_15 lf_B_9 hB rfl (wp_iload_n dc_B_pairAt_18 rfl rfl (wi_ald dc_B_pairAt_19 hA (by omega) (by omega) (by decide) (wi_sipush dc_B_pairAt_20 (wi_imul dc_B_pairAt_23 (wp_aload_n dc_B_pairAt_24 rfl rfl (wi_getR dc_B_pairAt_25 lf_B_9 hB rfl (wp_iload_n dc_B_pairAt_28 rfl rfl (wi_iconst dc_B_pairAt_29 (wi_iadd dc_B_pairAt_30 (wi_ald dc_B_pairAt_31 hA (by omega) (by omega) (by decide) (wi_iadd dc_B_pairAt_32 (wp_goto dc_B_pairAt_33 rfl ?_)))))))))))))
      refine wp_ireturn dc_B_pairAt_39 rfl rfl hK
theorem c_B_put (hb : by_ a) (h0 : 0 ≤ σ a 1) (h1 : σ a 1 ≤ 1000) (hp0 : 0 ≤ p) (hp1 : p < σ a 1) (hK : K none (hp_ (up_ σ (a + 1) p (x % 256)))) : ct_m l Y_B_put 0 0 [.ref a, .int (iI p), .int (iI x)] (hp_ σ) K := by
  have hb' := hb
  obtain ⟨hB, hA⟩ := hb'
  refine ct_of (L := [.ref a, .int (iI p), .int (iI x)]) (by decide +kernel) (Nat.le_of_ble_eq_true rfl) rfl ?_
  refine wp_aload_n dc_B_put_0 rfl rfl (wp_iload_n dc_B_put_1 rfl rfl ?_)
  refine wp_callV (As := [_]) dc_B_put_2 lm_B_19 ls_B_has (by decide) rfl rfl (hp_at _ hB) rfl rfl (Nat.le_of_ble_eq_true rfl) (Nat.le_refl _) (Nat.le_refl _) ?_
  refine c_B_has hb h0 h1 ⟨by omega, by omega⟩ ?_
  rw [if_pos ⟨hp0, hp1⟩]
  refine wi_if_eq dc_B_put_5 rfl (fun hc => ?_) (fun hc => ?_)
  · omega
  · refine wp_aload_n dc_B_put_8 rfl rfl (wi_getR dc_B_put_9 lf_B_9 hB rfl (wp_iload_n dc_B_put_12 rfl rfl (wp_iload_n dc_B_put_13 rfl rfl (wi_sipush dc_B_put_14 (wi_and255 dc_B_put_17 (wi_ast dc_B_put_18 hA (by omega) (by omega) (by decide) ?_))))))
    refine wp_return dc_B_put_19 rfl hK
theorem c_B_add (hb : by_ a) (h0 : 0 ≤ σ a 1) (h1 : σ a 1 < 1000) (hK : K none (hp_ (up_ (up_ σ (a + 1) (σ a 1) (x % 256)) a 1 (σ a 1 + 1)))) : ct_m l Y_B_add 0 0 [.ref a, .int (iI x)] (hp_ σ) K := by
  obtain ⟨hB, hA⟩ := hb
  refine ct_of (L := [.ref a, .int (iI x)]) (by decide +kernel) (Nat.le_of_ble_eq_true rfl) rfl ?_
  refine wp_aload_n dc_B_add_0 rfl rfl (wi_getI 1 dc_B_add_1 lf_B_15 hB rfl rfl (wi_sipush dc_B_add_4 ?_))
  refine wi_ic_ge dc_B_add_7 rfl (fun hc => ?_) (fun hc => ?_)
  · omega
  · refine wp_aload_n dc_B_add_10 rfl rfl (wi_getR dc_B_add_11 lf_B_9 hB rfl (wp_aload_n dc_B_add_14 rfl rfl (wi_getI 1 dc_B_add_15 lf_B_15 hB rfl rfl (wp_iload_n dc_B_add_18 rfl rfl (wi_sipush dc_B_add_19 (wi_and255 dc_B_add_22 (wi_ast dc_B_add_23 hA (by omega) (by omega) (by decide) (wp_aload_n dc_B_add_24 rfl rfl (wp_dup dc_B_add_25 (wi_getI 1 dc_B_add_26 lf_B_15 hB rfl rfl (wi_iconst dc_B_add_29 (wi_iadd dc_B_add_30 (wi_putI 1 dc_B_add_31 lf_B_15 hB rfl rfl pv_int ?_)))))))))))))
    rw [up_n _ _ (fun q => by omega)]
    refine wp_return dc_B_add_34 rfl hK
theorem c_B_addPair (hb : by_ a) (h0 : 0 ≤ σ a 1) (h1 : σ a 1 < 999) (hx : rg x) (hK : K none (hp_ (up_ (up_ (up_ (up_ σ (a + 1) (σ a 1) (x / 256 % 256)) a 1 (σ a 1 + 1)) (a + 1) (σ a 1 + 1) (x % 256)) a 1 (σ a 1 + 1 + 1)))) : ct_m l Y_B_addPair 0 0 [.ref a, .int (iI x)] (hp_ σ) K := by
  have hb' := hb
  obtain ⟨hB, hA⟩ := hb'
  refine ct_of (L := [.ref a, .int (iI x)]) (by decide +kernel) (Nat.le_of_ble_eq_true rfl) rfl ?_
  refine wp_aload_n dc_B_addPair_0 rfl rfl (wp_iload_n dc_B_addPair_1 rfl rfl (wi_bipush dc_B_addPair_2 (wi_shr8 dc_B_addPair_4 ?_)))
  refine wp_callV (As := [_]) dc_B_addPair_5 lm_B_23 ls_B_add (by decide) rfl rfl (hp_at _ hB) rfl rfl (Nat.le_of_ble_eq_true rfl) (Nat.le_refl _) (Nat.le_refl _) ?_
  refine c_B_add hb h0 (by omega) ?_
  refine wp_aload_n dc_B_addPair_8 rfl rfl (wp_iload_n dc_B_addPair_9 rfl rfl ?_)
  refine wp_callV (As := [_]) dc_B_addPair_10 lm_B_23 ls_B_add (by decide) rfl rfl (hp_at _ hB) rfl rfl (Nat.le_of_ble_eq_true rfl) (Nat.le_refl _) (Nat.le_refl _) ?_
  refine c_B_add hb (by rw [up_s]; omega) (by rw [up_s]; omega) ?_
  rw [up_s]
  refine wp_return dc_B_addPair_13 rfl hK
theorem c_B_keep (hb : by_ a) (h0 : 0 ≤ σ a 1) (h1 : σ a 1 ≤ 1000) (hp0 : 0 ≤ p) (hp1 : p ≤ σ a 1) (hK : K none (hp_ (up_ σ a 1 p))) : ct_m l Y_B_keep 0 0 [.ref a, .int (iI p)] (hp_ σ) K := by
  obtain ⟨hB, hA⟩ := hb
  refine ct_of (L := [.ref a, .int (iI p)]) (by decide +kernel) (Nat.le_of_ble_eq_true rfl) rfl ?_
  refine wp_iload_n dc_B_keep_0 rfl rfl ?_
  refine wi_if_lt dc_B_keep_1 rfl (fun hc => ?_) (fun hc => ?_)
  · omega
  · refine wp_iload_n dc_B_keep_4 rfl rfl (wp_aload_n dc_B_keep_5 rfl rfl (wi_getI 1 dc_B_keep_6 lf_B_15 hB rfl rfl ?_))
    refine wi_ic_gt dc_B_keep_9 rfl (fun hd => ?_) (fun hd => ?_)
    · omega
    · refine wp_aload_n dc_B_keep_12 rfl rfl (wp_iload_n dc_B_keep_13 rfl rfl (wi_putI 1 dc_B_keep_14 lf_B_15 hB rfl rfl pv_int ?_))
      refine wp_return dc_B_keep_17 rfl hK
/-- m bytes of the cells c, from s on, are added to the row a -/
def ap_ (σ : sg_) (a c : Nat) (s m : Int) : sg_ := fun b j => if b = a + 1 ∧ σ a 1 ≤ j ∧ j < σ a 1 + m then σ c (s + (j - σ a 1)) else if b = a ∧ j = 1 then σ a 1 + m else σ b j
theorem ap_0 (σ : sg_) (a c : Nat) (s : Int) : ap_ σ a c s 0 = σ := by
  funext b j
  unfold ap_
  rw [if_neg (by omega)]
  split
  · rename_i h
    obtain ⟨rfl, rfl⟩ := h
    omega
  · rfl
theorem ap_n (σ : sg_) (a c : Nat) (s m : Int) : ap_ σ a c s m a 1 = σ a 1 + m := by
  unfold ap_
  rw [if_neg (by omega), if_pos ⟨rfl, rfl⟩]
theorem ap_o (σ : sg_) {a c b : Nat} (s m : Int) (h1 : b ≠ a) (h2 : b ≠ a + 1) : ap_ σ a c s m b = σ b := by
  funext j
  unfold ap_
  rw [if_neg (by omega), if_neg (by omega)]
theorem ap_S (σ : sg_) {a c : Nat} {s m x : Int} (hm : 0 ≤ m) (hc : σ c (s + m) = x) : up_ (up_ (ap_ σ a c s m) (a + 1) (σ a 1 + m) x) a 1 (σ a 1 + m + 1) = ap_ σ a c s (m + 1) := by
  funext b j
  unfold up_ ap_
  by_cases h1 : b = a ∧ j = 1
  · obtain ⟨rfl, rfl⟩ := h1
    rw [if_pos ⟨rfl, rfl⟩, if_neg (by omega), if_pos ⟨rfl, rfl⟩]
    omega
  · rw [if_neg h1, if_neg h1]
    by_cases h2 : b = a + 1 ∧ j = σ a 1 + m
    · rw [if_pos h2, if_pos (by omega), h2.2, ← hc]
      congr 1
      omega
    · rw [if_neg h2]
      by_cases h3 : b = a + 1 ∧ σ a 1 ≤ j ∧ j < σ a 1 + m
      · rw [if_pos h3, if_pos (by omega)]
      · rw [if_neg h3, if_neg (by omega), if_neg h1]
theorem lp_B_addPart (hb : by_ a) (hb2 : by_ b) (hne : b ≠ a) (hne1 : b ≠ a + 1) (hne2 : b + 1 ≠ a) (hn0 : 0 ≤ σ a 1) (hf : 0 ≤ p) (ht : q ≤ σ b 1) (h1000 : σ b 1 ≤ 1000) (hm : σ a 1 + (q - p) ≤ 1000) (hby : ∀ i, p ≤ i → i < q → 0 ≤ σ (b + 1) i ∧ σ (b + 1) i < 256) (hK : K none (hp_ (ap_ σ a (b + 1) p (q - p)))) :
    ∀ (j : Nat) (i : Int), i = q - j → p ≤ i → wp_m l Y_B_addPart none 0 0 3 [.ref a, .ref b, .int (iI p), .int (iI q), .int (iI i)] [] (hp_ (ap_ σ a (b + 1) p (i - p))) K := by
  intro j
  have hb' := hb
  obtain ⟨hB, hA⟩ := hb'
  induction j with
  | zero =>
    intro i hi hpi
    refine wp_iload dc_B_addPart_3 rfl (wp_iload_n dc_B_addPart_5 rfl rfl ?_)
    refine wi_ic_ge dc_B_addPart_6 rfl (fun hc => ?_) (fun hc => ?_)
    · have e : i - p = q - p := by omega
      rw [e]
      refine wp_return dc_B_addPart_25 rfl hK
    · omega
  | succ j ih =>
    intro i hi hpi
    refine wp_iload dc_B_addPart_3 rfl (wp_iload_n dc_B_addPart_5 rfl rfl ?_)
    refine wi_ic_ge dc_B_addPart_6 rfl (fun hc => ?_) (fun hc => ?_)
    · omega
    · refine wp_aload_n dc_B_addPart_9 rfl rfl (wp_aload_n dc_B_addPart_10 rfl rfl (wp_iload dc_B_addPart_11 rfl ?_))
      have e1 := ap_o σ (a := a) (c := b + 1) p (i - p) hne hne1
      have e2 := ap_o σ (a := a) (c := b + 1) (b := b + 1) p (i - p) hne2 (by omega)
      have h2 := hby i hpi (by omega)
      refine wp_callV (As := [_]) dc_B_addPart_13 lm_B_27 ls_B_at (by decide) rfl rfl (hp_at _ hb2.1) rfl rfl (Nat.le_of_ble_eq_true rfl) (Nat.le_refl _) (Nat.le_refl _) ?_
      refine c_B_at hb2 (by rw [e1]; omega) (by rw [e1]; omega) ⟨by omega, by omega⟩ ?_
      rw [e1, e2, at_in (by omega) (by omega)]
      refine wp_callV (As := [_]) dc_B_addPart_16 lm_B_23 ls_B_add (by decide) rfl rfl (hp_at _ hB) rfl rfl (Nat.le_of_ble_eq_true rfl) (Nat.le_refl _) (Nat.le_refl _) ?_
      refine c_B_add hb (by rw [ap_n]; omega) (by rw [ap_n]; omega) ?_
      rw [ap_n, ap_S σ (by omega) (show σ (b + 1) (p + (i - p)) = σ (b + 1) i % 256 by rw [show p + (i - p) = i by omega]; omega), show i - p + 1 = i + 1 - p by omega]
      refine wp_ii4 dc_B_addPart_19 (wp_goto dc_B_addPart_22 rfl ?_)
      exact ih (i + 1) (by omega) (by omega)
theorem c_B_addPart (hb : by_ a) (hb2 : by_ b) (hne : b ≠ a) (hne1 : b ≠ a + 1) (hne2 : b + 1 ≠ a) (hn0 : 0 ≤ σ a 1) (hf : 0 ≤ p) (hpq : p ≤ q) (ht : q ≤ σ b 1) (h1000 : σ b 1 ≤ 1000) (hm : σ a 1 + (q - p) ≤ 1000) (hby : ∀ i, p ≤ i → i < q → 0 ≤ σ (b + 1) i ∧ σ (b + 1) i < 256) (hK : K none (hp_ (ap_ σ a (b + 1) p (q - p)))) : ct_m l Y_B_addPart 0 0 [.ref a, .ref b, .int (iI p), .int (iI q)] (hp_ σ) K := by
  have hb' := hb
  obtain ⟨hB, hA⟩ := hb'
  refine ct_of (L := [.ref a, .ref b, .int (iI p), .int (iI q), .retAddr 0]) (by decide +kernel) (Nat.le_of_ble_eq_true rfl) rfl ?_
  refine wp_iload_n dc_B_addPart_0 rfl rfl (wp_is4 dc_B_addPart_1 ?_)
  have h := lp_B_addPart (l := l) hb hb2 hne hne1 hne2 hn0 hf ht h1000 hm hby hK (q - p).toNat p (by omega) (by omega)
  rw [show p - p = 0 by omega, ap_0] at h
  exact h
theorem c_B_become (hb : by_ a) (hb2 : by_ b) (hne : b ≠ a) (hne1 : b ≠ a + 1) (hne2 : b + 1 ≠ a) (h0 : 0 ≤ σ a 1) (h1 : σ a 1 ≤ 1000) (hn0 : 0 ≤ σ b 1) (h1000 : σ b 1 ≤ 1000) (hby : ∀ i, 0 ≤ i → i < σ b 1 → 0 ≤ σ (b + 1) i ∧ σ (b + 1) i < 256) (hK : K none (hp_ (ap_ (up_ σ a 1 0) a (b + 1) 0 (σ b 1)))) : ct_m l Y_B_become 0 0 [.ref a, .ref b] (hp_ σ) K := by
  have hb' := hb
  obtain ⟨hB, hA⟩ := hb'
  have e1 : ∀ j, up_ σ a 1 0 b j = σ b j := fun j => by rw [up_n _ _ (fun q => hne q.1)]
  have e2 : ∀ j, up_ σ a 1 0 (b + 1) j = σ (b + 1) j := fun j => by rw [up_n _ _ (fun q => hne2 q.1)]
  refine ct_of (L := [.ref a, .ref b]) (by decide +kernel) (Nat.le_of_ble_eq_true rfl) rfl ?_
  refine wp_aload_n dc_B_become_0 rfl rfl (wi_iconst dc_B_become_1 ?_)
  refine wp_callV (As := [_]) dc_B_become_2 lm_B_31 ls_B_keep (by decide) rfl rfl (hp_at _ hB) rfl rfl (Nat.le_of_ble_eq_true rfl) (Nat.le_refl _) (Nat.le_refl _) ?_
  refine c_B_keep hb h0 h1 (by omega) h0 ?_
  refine wp_aload_n dc_B_become_5 rfl rfl (wp_aload_n dc_B_become_6 rfl rfl (wi_iconst dc_B_become_7 (wp_aload_n dc_B_become_8 rfl rfl ?_)))
  refine wp_callV (As := []) dc_B_become_9 lm_B_34 ls_B_size (by decide) rfl rfl (hp_at _ hb2.1) rfl rfl (Nat.le_of_ble_eq_true rfl) (Nat.le_refl _) (Nat.le_refl _) ?_
  refine c_B_size hb2 ?_
  rw [e1]
  refine wp_callV (As := [_, _, _]) dc_B_become_12 lm_B_38 ls_B_addPart (by decide) rfl rfl (hp_at _ hB) rfl rfl (Nat.le_of_ble_eq_true rfl) (Nat.le_refl _) (Nat.le_refl _) ?_
  refine c_B_addPart hb hb2 hne hne1 hne2 (by rw [up_s]; omega) (by omega) hn0 (by rw [e1]; omega) (by rw [e1]; omega) (by rw [up_s]; omega) (fun i h1 h2 => by rw [e2]; exact hby i h1 h2) ?_
  rw [show σ b 1 - 0 = σ b 1 by omega]
  refine wp_return dc_B_become_15 rfl hK
end BY
