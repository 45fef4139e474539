/-! where the chunks lie; the reference's settle -/
/-- the place of chunk c; the first sample of it; the bytes of m samples from k on -/
def pc_ (F : Int → Int) (T : px_T) (f : Int → Int) (c : Int) : Int := if f 4 = -1 then 256 * F (st_ T (pj_ f) + (2 * c - 1)) + F (st_ T (pj_ f) + 2 * c) else F (st_ T (pj_ f) + c)
abbrev bt_ (F : Int → Int) (s k : Int) (m : Nat) : Int := sm_ (fun i => sz_ F s (k + i)) m
/-- box k is a data box that holds m bytes from p on -/
def DBX_ (T : px_T) (p m k : Int) : Prop := T 4 k = 0 ∧ T 2 k = 68 ∧ T 0 k + T 3 k ≤ p ∧ p + m ≤ T 0 k + T 1 k
abbrev ks_ (F : Int → Int) (T : px_T) (f : Int → Int) (c : Int) : Int := smn_ F (st_ T (f 2)) (c - 1)
abbrev cb_ (F : Int → Int) (T : px_T) (f : Int → Int) (c : Int) : Int := bt_ F (st_ T (f 3)) (ks_ F T f c) (mn_ F (st_ T (f 2)) c).toNat
def DA_ (F : Int → Int) (N : Int) (T : px_T) (f : Int → Int) : Prop := ∀ c, 1 ≤ c → c ≤ CC_ F T f → ∃ k, 0 ≤ k ∧ k < N ∧ DBX_ T (pc_ F T f c) (cb_ F T f c) k
theorem sm_mono {g : Int → Int} (h : ∀ i : Nat, 0 ≤ g i) (x : Nat) : ∀ d : Nat, sm_ g x ≤ sm_ g (x + d)
  | 0 => Int.le_refl _
  | d + 1 => by
    have h1 := sm_mono h x d
    have h2 := h (x + d)
    show _ ≤ sm_ g (x + d) + g ((x + d : Nat) : Int)
    omega
theorem ks_S {F : Int → Int} {T : px_T} {f : Int → Int} {c : Int} (hc : 1 ≤ c) : ks_ F T f (c + 1) = ks_ F T f c + mn_ F (st_ T (f 2)) c := by
  show sm_ _ (c + 1 - 1).toNat = sm_ _ (c - 1).toNat + _
  rw [show (c + 1 - 1).toNat = (c - 1).toNat + 1 by omega]
  show sm_ _ (c - 1).toNat + mn_ F (st_ T (f 2)) (((c - 1).toNat : Int) + 1) = _
  rw [show ((c - 1).toNat : Int) + 1 = c by omega]
theorem ks_le {F : Int → Int} {T : px_T} {f : Int → Int} (hF : ∀ i, 0 ≤ F i ∧ F i < 256) (hcn : CN_ F T f) {c : Int} (h1 : 1 ≤ c) (h2 : c ≤ CC_ F T f) : 0 ≤ ks_ F T f c ∧ ks_ F T f c + mn_ F (st_ T (f 2)) c ≤ SC_ F T f := by
  rw [← ks_S h1]
  refine ⟨(smn_rg hF _ _).1, ?_⟩
  have := sm_mono (g := fun c => mn_ F (st_ T (f 2)) (c + 1)) (fun i => (mn_rg hF _ _).1) (c + 1 - 1).toNat (CC_ F T f - c).toNat
  rw [show (c + 1 - 1).toNat + (CC_ F T f - c).toNat = (CC_ F T f).toNat by omega, hcn.2.2.2.2.1] at this
  exact this
theorem sz_rg {F : Int → Int} (hF : ∀ i, 0 ≤ F i ∧ F i < 256) (s k : Int) : 0 ≤ sz_ F s k ∧ sz_ F s k ≤ 255 := by
  unfold sz_
  have h1 := hF s
  have h2 := hF (s + 2 + k)
  split <;> omega
theorem bt_rg {F : Int → Int} (hF : ∀ i, 0 ≤ F i ∧ F i < 256) (s k : Int) (m : Nat) : 0 ≤ bt_ F s k m ∧ bt_ F s k m ≤ 255 * m := sm_rg (by omega) m (fun i _ => sz_rg hF s _)
theorem pc_rg {F : Int → Int} (hF : ∀ i, 0 ≤ F i ∧ F i < 256) (T : px_T) (f : Int → Int) (c : Int) : 0 ≤ pc_ F T f c ∧ pc_ F T f c ≤ 65535 := by
  unfold pc_
  have h1 := hF (st_ T (pj_ f) + (2 * c - 1))
  have h2 := hF (st_ T (pj_ f) + 2 * c)
  have h3 := hF (st_ T (pj_ f) + c)
  split <;> omega
section DR
variable {l : Launch} {σ : sg_} {K : Option Value → mx_H → Prop} {F : Int → Int} {n N : Int} {T : px_T} {t b : Int} {f : Int → Int}
theorem c_R_sizeOf {k : Int} (hx : rx_ σ F n N T t b f) (k0 : 0 ≤ k) (k1 : k < SC_ F T f) (hK : K (some (.int (iI (sz_ F (st_ T (f 3)) k)))) (hp_ σ)) : ct_m l Y_R_sizeOf 0 0 [.ref 51, .int (iI t), .int (iI k)] (hp_ σ) K := by
  obtain ⟨hro, hrt, htt, ht, htab, hkt, hrh⟩ := hx
  have k3 := hkt.2.2.2.1
  obtain ⟨g1, g2, g3, g4, -⟩ := rh_q htt hkt hrh (q := 3) (by omega) (by omega) k3
  have g4 := g4 rfl
  have hs := hro.2.2.2.2 (st_ T (f 3))
  have z0 : st_ T (f 3) + 0 = st_ T (f 3) := by omega
  have esc : SC_ F T f = F (st_ T (f 3) + 1) := rfl
  unfold sz_ at hK
  refine ct_of (L := [.ref 51, .int (iI t), .int (iI k), .retAddr 0, .retAddr 0]) (by decide +kernel) (Nat.le_of_ble_eq_true rfl) rfl ?_
  refine wp_aload_n dc_R_sizeOf_0 rfl rfl (wi_getR dc_R_sizeOf_1 lf_R_40 sh_51 rfl (wi_bipush dc_R_sizeOf_4 (wp_iload_n dc_R_sizeOf_6 rfl rfl (wi_imul dc_R_sizeOf_7 (wi_iconst dc_R_sizeOf_8 (wi_iadd dc_R_sizeOf_9 (wi_aldE (f 3) dc_R_sizeOf_10 sh_62 (by omega) (by omega) (by decide) (htab 3 (by omega) (by omega)) (wp_is3 dc_R_sizeOf_11 (wp_aload_n dc_R_sizeOf_12 rfl rfl (wp_iload_n dc_R_sizeOf_13 rfl rfl (wi_iconst dc_R_sizeOf_14 ?_)))))))))))
  refine wp_callV (As := [_, _]) dc_R_sizeOf_15 lm_R_106 ls_R_pay (by decide) rfl rfl (hp_at _ sh_51) rfl rfl (Nat.le_of_ble_eq_true rfl) (Nat.le_refl _) (Nat.le_refl _) ?_
  refine c_R_pay hro hrt htt k3 g1 (by omega) (by omega) ?_
  rw [z0]
  refine wp_is4 dc_R_sizeOf_18 (wp_iload dc_R_sizeOf_20 rfl ?_)
  refine wi_if_eq dc_R_sizeOf_22 rfl (fun hd => ?_) (fun hd => ?_)
  · rw [if_pos hd] at hK g4
    refine wp_aload_n dc_R_sizeOf_30 rfl rfl (wp_iload_n dc_R_sizeOf_31 rfl rfl (wi_iconst dc_R_sizeOf_32 (wp_iload_n dc_R_sizeOf_33 rfl rfl (wi_iadd dc_R_sizeOf_34 ?_))))
    refine wp_callV (As := [_, _]) dc_R_sizeOf_35 lm_R_106 ls_R_pay (by decide) rfl rfl (hp_at _ sh_51) rfl rfl (Nat.le_of_ble_eq_true rfl) (Nat.le_refl _) (Nat.le_refl _) ?_
    refine c_R_pay hro hrt htt k3 g1 (by omega) (by omega) ?_
    rw [show st_ T (f 3) + (2 + k) = st_ T (f 3) + 2 + k by omega]
    refine wp_ireturn dc_R_sizeOf_38 rfl rfl hK
  · rw [if_neg hd] at hK
    refine wp_iload dc_R_sizeOf_25 rfl (wp_goto dc_R_sizeOf_27 rfl ?_)
    refine wp_ireturn dc_R_sizeOf_38 rfl rfl hK
theorem c_R_chunkPlace {c : Int} (hx : rx_ σ F n N T t b f) (c0 : 1 ≤ c) (c1 : c ≤ CC_ F T f) (hK : K (some (.int (iI (pc_ F T f c)))) (hp_ σ)) : ct_m l Y_R_chunkPlace 0 0 [.ref 51, .int (iI t), .int (iI c)] (hp_ σ) K := by
  obtain ⟨hro, hrt, htt, ht, htab, hkt, hrh⟩ := id hx
  obtain ⟨p0, p1, p2, p3, p4, p5, p6⟩ := rh_p htt hkt hrh
  have t2 := htt.2.1
  have ecc : CC_ F T f = F (st_ T (pj_ f)) := rfl
  unfold pc_ at hK
  refine ct_of (L := [.ref 51, .int (iI t), .int (iI c), .retAddr 0]) (by decide +kernel) (Nat.le_of_ble_eq_true rfl) rfl ?_
  refine wp_aload_n dc_R_chunkPlace_0 rfl rfl (wp_iload_n dc_R_chunkPlace_1 rfl rfl ?_)
  refine wp_callV (As := [_]) dc_R_chunkPlace_2 lm_R_122 ls_R_placesBox (by decide) rfl rfl (hp_at _ sh_51) rfl rfl (Nat.le_of_ble_eq_true rfl) (Nat.le_refl _) (Nat.le_refl _) ?_
  refine c_R_placesBox hx ?_
  rcases p6 with ⟨q1, q2, q3, q4⟩ | ⟨q1, q2, q3, q4, q5⟩
  · rw [if_neg (by omega)] at hK
    rw [q3] at p5
    refine wp_is3 dc_R_chunkPlace_5 (wp_aload_n dc_R_chunkPlace_6 rfl rfl (wi_getR dc_R_chunkPlace_7 lf_R_19 sh_51 rfl (wp_iload_n dc_R_chunkPlace_10 rfl rfl (wi_aldE (111) dc_R_chunkPlace_11 sh_55 (by omega) (by omega) (by decide) ((hrt.2 2 (pj_ f) (by decide) p0 p1).trans q4) (wi_bipush dc_R_chunkPlace_12 ?_)))))
    refine wi_ic_ne dc_R_chunkPlace_14 rfl (fun hd => ?_) (fun hd => ?_)
    · omega
    refine wp_aload_n dc_R_chunkPlace_17 rfl rfl (wp_iload_n dc_R_chunkPlace_18 rfl rfl (wp_iload_n dc_R_chunkPlace_19 rfl rfl ?_))
    refine wp_callV (As := [_, _]) dc_R_chunkPlace_20 lm_R_106 ls_R_pay (by decide) rfl rfl (hp_at _ sh_51) rfl rfl (Nat.le_of_ble_eq_true rfl) (Nat.le_refl _) (Nat.le_refl _) ?_
    refine c_R_pay hro hrt htt p0 p1 (by omega) (by omega) ?_
    refine wp_goto dc_R_chunkPlace_23 rfl ?_
    refine wp_ireturn dc_R_chunkPlace_49 rfl rfl hK
  · rw [if_pos q1] at hK
    rw [q4] at p5
    refine wp_is3 dc_R_chunkPlace_5 (wp_aload_n dc_R_chunkPlace_6 rfl rfl (wi_getR dc_R_chunkPlace_7 lf_R_19 sh_51 rfl (wp_iload_n dc_R_chunkPlace_10 rfl rfl (wi_aldE (79) dc_R_chunkPlace_11 sh_55 (by omega) (by omega) (by decide) ((hrt.2 2 (pj_ f) (by decide) p0 p1).trans q5) (wi_bipush dc_R_chunkPlace_12 ?_)))))
    refine wi_ic_ne dc_R_chunkPlace_14 rfl (fun hd => ?_) (fun hd => ?_)
    rotate_left
    · omega
    refine wi_sipush dc_R_chunkPlace_26 (wp_aload_n dc_R_chunkPlace_29 rfl rfl (wp_iload_n dc_R_chunkPlace_30 rfl rfl (wi_iconst dc_R_chunkPlace_31 (wp_iload_n dc_R_chunkPlace_32 rfl rfl (wi_imul dc_R_chunkPlace_33 (wi_iconst dc_R_chunkPlace_34 (wi_isub dc_R_chunkPlace_35 ?_)))))))
    refine wp_callV (As := [_, _]) dc_R_chunkPlace_36 lm_R_106 ls_R_pay (by decide) rfl rfl (hp_at _ sh_51) rfl rfl (Nat.le_of_ble_eq_true rfl) (Nat.le_refl _) (Nat.le_refl _) ?_
    refine c_R_pay hro hrt htt p0 p1 (by omega) (by omega) ?_
    refine wi_imul dc_R_chunkPlace_39 (wp_aload_n dc_R_chunkPlace_40 rfl rfl (wp_iload_n dc_R_chunkPlace_41 rfl rfl (wi_iconst dc_R_chunkPlace_42 (wp_iload_n dc_R_chunkPlace_43 rfl rfl (wi_imul dc_R_chunkPlace_44 ?_)))))
    refine wp_callV (As := [_, _]) dc_R_chunkPlace_45 lm_R_106 ls_R_pay (by decide) rfl rfl (hp_at _ sh_51) rfl rfl (Nat.le_of_ble_eq_true rfl) (Nat.le_refl _) (Nat.le_refl _) ?_
    refine c_R_pay hro hrt htt p0 p1 (by omega) (by omega) ?_
    refine wi_iadd dc_R_chunkPlace_48 ?_
    refine wp_ireturn dc_R_chunkPlace_49 rfl rfl hK
theorem lp_R_db {p m : Int} (hrt : rt_ σ N T) (htt : tt_ n N T) (hn : n ≤ 1000) (hp : 0 ≤ p ∧ p ≤ 65535) (hm : 0 ≤ m ∧ m ≤ 65025) (hK : ∀ r, ff_ (DBX_ T p m) N r → K (some (.int (iI r))) (hp_ σ)) : ∀ (j : Nat) (i : Int), i + j = N → 0 ≤ i → (∀ k, 0 ≤ k → k < i → ¬ DBX_ T p m k) → wp_m l Y_R_dataBox none 0 0 2 [.ref 51, .int (iI p), .int (iI m), .int (iI i)] [] (hp_ σ) K := by
  have t2 := htt.2.1
  intro j
  induction j with
  | zero =>
    intro i hi i0 hall
    refine wp_iload_n dc_R_dataBox_2 rfl rfl (wp_aload_n dc_R_dataBox_3 rfl rfl (wi_getE 2 (N) dc_R_dataBox_4 lf_R_64 sh_51 rfl rfl hrt.1 ?_))
    refine wi_ic_ge dc_R_dataBox_7 rfl (fun hd => ?_) (fun hd => ?_)
    · refine wi_iconst dc_R_dataBox_74 ?_
      refine wp_ireturn dc_R_dataBox_75 rfl rfl (hK _ (Or.inl ⟨rfl, fun k k0 k1 => hall k k0 (by omega)⟩))
    · omega
  | succ j ih =>
    intro i hi i0 hall
    have bx := htt.2.2.1 i i0 (by omega)
    unfold bx_ at bx
    have nx : ¬ DBX_ T p m i → wp_m l Y_R_dataBox none 0 0 68 [.ref 51, .int (iI p), .int (iI m), .int (iI i)] [] (hp_ σ) K := fun hn => by
      refine wp_ii3 dc_R_dataBox_68 (wp_goto dc_R_dataBox_71 rfl ?_)
      refine ih (i + 1) (by omega) (by omega) (fun k k0 k1 => ?_)
      by_cases hk : k = i
      · subst hk; exact hn
      · exact hall k k0 (by omega)
    refine wp_iload_n dc_R_dataBox_2 rfl rfl (wp_aload_n dc_R_dataBox_3 rfl rfl (wi_getE 2 (N) dc_R_dataBox_4 lf_R_64 sh_51 rfl rfl hrt.1 ?_))
    refine wi_ic_ge dc_R_dataBox_7 rfl (fun hd => ?_) (fun hd => ?_)
    · omega
    refine wp_aload_n dc_R_dataBox_10 rfl rfl (wi_getR dc_R_dataBox_11 lf_R_25 sh_51 rfl (wp_iload_n dc_R_dataBox_14 rfl rfl (wi_aldE (T 4 i) dc_R_dataBox_15 sh_57 (by omega) (by omega) (by decide) (hrt.2 4 i (by decide) i0 (by omega)) ?_)))
    refine wi_if_ne dc_R_dataBox_16 rfl (fun he => ?_) (fun he => ?_)
    · exact nx (fun h => he h.1)
    refine wp_aload_n dc_R_dataBox_19 rfl rfl (wi_getR dc_R_dataBox_20 lf_R_19 sh_51 rfl (wp_iload_n dc_R_dataBox_23 rfl rfl (wi_aldE (T 2 i) dc_R_dataBox_24 sh_55 (by omega) (by omega) (by decide) (hrt.2 2 i (by decide) i0 (by omega)) (wi_bipush dc_R_dataBox_25 ?_))))
    refine wi_ic_ne dc_R_dataBox_27 rfl (fun hf => ?_) (fun hf => ?_)
    · exact nx (fun h => hf h.2.1)
    refine wp_aload_n dc_R_dataBox_30 rfl rfl (wi_getR dc_R_dataBox_31 lf_R_13 sh_51 rfl (wp_iload_n dc_R_dataBox_34 rfl rfl (wi_aldE (T 0 i) dc_R_dataBox_35 sh_53 (by omega) (by omega) (by decide) (hrt.2 0 i (by decide) i0 (by omega)) (wp_aload_n dc_R_dataBox_36 rfl rfl (wi_getR dc_R_dataBox_37 lf_R_22 sh_51 rfl (wp_iload_n dc_R_dataBox_40 rfl rfl (wi_aldE (T 3 i) dc_R_dataBox_41 sh_56 (by omega) (by omega) (by decide) (hrt.2 3 i (by decide) i0 (by omega)) (wi_iadd dc_R_dataBox_42 (wp_iload_n dc_R_dataBox_43 rfl rfl ?_)))))))))
    refine wi_ic_gt dc_R_dataBox_44 rfl (fun hg => ?_) (fun hg => ?_)
    · exact nx (fun h => by have := h.2.2.1; omega)
    refine wp_iload_n dc_R_dataBox_47 rfl rfl (wp_iload_n dc_R_dataBox_48 rfl rfl (wi_iadd dc_R_dataBox_49 (wp_aload_n dc_R_dataBox_50 rfl rfl (wi_getR dc_R_dataBox_51 lf_R_13 sh_51 rfl (wp_iload_n dc_R_dataBox_54 rfl rfl (wi_aldE (T 0 i) dc_R_dataBox_55 sh_53 (by omega) (by omega) (by decide) (hrt.2 0 i (by decide) i0 (by omega)) (wp_aload_n dc_R_dataBox_56 rfl rfl (wi_getR dc_R_dataBox_57 lf_R_16 sh_51 rfl (wp_iload_n dc_R_dataBox_60 rfl rfl (wi_aldE (T 1 i) dc_R_dataBox_61 sh_54 (by omega) (by omega) (by decide) (hrt.2 1 i (by decide) i0 (by omega)) (wi_iadd dc_R_dataBox_62 ?_)))))))))))
    refine wi_ic_gt dc_R_dataBox_63 rfl (fun hh => ?_) (fun hh => ?_)
    · exact nx (fun h => by have := h.2.2.2; omega)
    refine wp_iload_n dc_R_dataBox_66 rfl rfl ?_
    refine wp_ireturn dc_R_dataBox_67 rfl rfl (hK _ (Or.inr ⟨i0, by omega, ⟨he, hf, by omega, by omega⟩, hall⟩))
theorem c_R_dataBox {p m : Int} (hrt : rt_ σ N T) (htt : tt_ n N T) (hn : n ≤ 1000) (hp : 0 ≤ p ∧ p ≤ 65535) (hm : 0 ≤ m ∧ m ≤ 65025) (hK : ∀ r, ff_ (DBX_ T p m) N r → K (some (.int (iI r))) (hp_ σ)) : ct_m l Y_R_dataBox 0 0 [.ref 51, .int (iI p), .int (iI m)] (hp_ σ) K := by
  have t1 := htt.1
  refine ct_of (L := [.ref 51, .int (iI p), .int (iI m), .retAddr 0]) (by decide +kernel) (Nat.le_of_ble_eq_true rfl) rfl ?_
  refine wi_iconst dc_R_dataBox_0 (wp_is3 dc_R_dataBox_1 ?_)
  exact lp_R_db hrt htt hn hp hm hK N.toNat 0 (by omega) (by omega) (fun k k0 k1 => by omega)
theorem lp_R_se1 {x2 k m c : Int} (hx : rx_ σ F n N T t b f) (k0 : 0 ≤ k) (m0 : 0 ≤ m) (m1 : m ≤ 255) (hk : k + m ≤ SC_ F T f)
    (hK : wp_m l Y_R_settle none 0 0 59 [.ref 51, .int (iI t), .int (iI x2), .int (iI (k + m)), .int (iI c), .int (iI (bt_ F (st_ T (f 3)) k m.toNat)), .int (iI m), .int (iI m)] [] (hp_ σ) K) :
    ∀ (j i : Nat), (i : Int) + j = m → wp_m l Y_R_settle none 0 0 32 [.ref 51, .int (iI t), .int (iI x2), .int (iI (k + i)), .int (iI c), .int (iI (bt_ F (st_ T (f 3)) k i)), .int (iI m), .int (iI (i : Int))] [] (hp_ σ) K := by
  have hs := hx.1.2.2.2.2 (st_ T (f 3) + 1)
  have esc : SC_ F T f = F (st_ T (f 3) + 1) := rfl
  intro j
  induction j with
  | zero =>
    intro i hi
    have e : (i : Int) = m := by omega
    have e2 : i = m.toNat := by omega
    rw [← e2, ← e] at hK
    rw [← e]
    refine wp_iload dc_R_settle_32 rfl (wp_iload dc_R_settle_34 rfl ?_)
    refine wi_ic_ge dc_R_settle_36 rfl (fun hd => ?_) (fun hd => ?_)
    · exact hK
    · omega
  | succ j ih =>
    intro i hi
    refine wp_iload dc_R_settle_32 rfl (wp_iload dc_R_settle_34 rfl ?_)
    refine wi_ic_ge dc_R_settle_36 rfl (fun hd => ?_) (fun hd => ?_)
    · omega
    refine wp_iload dc_R_settle_39 rfl (wp_aload_n dc_R_settle_41 rfl rfl (wp_iload_n dc_R_settle_42 rfl rfl (wp_iload_n dc_R_settle_43 rfl rfl ?_)))
    refine wp_callV (As := [_, _]) dc_R_settle_44 lm_R_128 ls_R_sizeOf (by decide) rfl rfl (hp_at _ sh_51) rfl rfl (Nat.le_of_ble_eq_true rfl) (Nat.le_refl _) (Nat.le_refl _) ?_
    refine c_R_sizeOf hx (by omega) (by omega) ?_
    refine wi_iadd dc_R_settle_47 (wp_is5 dc_R_settle_48 (wp_ii3 dc_R_settle_50 (wp_ii7 dc_R_settle_53 (wp_goto dc_R_settle_56 rfl ?_))))
    rw [show k + (i : Int) + 1 = k + ((i + 1 : Nat) : Int) by omega]
    exact ih (i + 1) (by omega)
def stW (t : Int) (b : Nat) (j : Int) : Prop := b = 63 ∧ 256 * t ≤ j ∧ j < 256 * t + 256
theorem rx_fr {σ' : sg_} (hx : rx_ σ F n N T t b f) {P : Nat → Int → Prop} (h : fr_ P σ σ') (hP : ∀ b j, P b j → b = 63) : rx_ σ' F n N T t b f := by
  obtain ⟨hro, hrt, htt, ht, htab, hkt, hrh⟩ := hx
  refine ⟨hro.fr h (fun q => by have := hP _ _ q; omega) (fun j q => by have := hP _ _ q; omega), ⟨(h 51 2 (fun q => by have := hP _ _ q; omega)).trans hrt.1, fun c i c0 i0 i1 => (h (53 + c) i (fun q => by have := hP _ _ q; omega)).trans (hrt.2 c i c0 i0 i1)⟩, htt, ht, fun q q0 q1 => (h 62 _ (fun q => by have := hP _ _ q; omega)).trans (htab q q0 q1), hkt, hrh⟩
theorem lp_R_se (hcn : CN_ F T f) {σ0 : sg_} (hx0 : rx_ σ0 F n N T t b f)
    (hK : ∀ σ' w, fr_ (stW t) σ0 σ' → (∀ c, 1 ≤ c → c ≤ CC_ F T f → ff_ (DBX_ T (pc_ F T f c) (cb_ F T f c)) N (σ' 63 (256 * t + c))) → ((w = 1 ∧ DA_ F N T f) ∨ (w = 0 ∧ ¬ DA_ F N T f)) → K (some (.int (iI w))) (hp_ σ')) :
    ∀ (j : Nat) (c w : Int) (σ : sg_) (u5 u6 u7 : Value), c + j = CC_ F T f + 1 → 1 ≤ c → fr_ (stW t) σ0 σ → (∀ i, 1 ≤ i → i < c → ff_ (DBX_ T (pc_ F T f i) (cb_ F T f i)) N (σ 63 (256 * t + i))) → ((w = 1 ∧ ∀ i, 1 ≤ i → i < c → 0 ≤ σ 63 (256 * t + i)) ∨ (w = 0 ∧ ∃ i, 1 ≤ i ∧ i < c ∧ ¬ 0 ≤ σ 63 (256 * t + i))) → wp_m l Y_R_settle none 0 0 7 [.ref 51, .int (iI t), .int (iI w), .int (iI (ks_ F T f c)), .int (iI c), u5, u6, u7] [] (hp_ σ) K := by
  have a5 := hx0.1.2.2.2.2
  have hs3 := a5 (st_ T (f 3) + 1)
  have hsp := a5 (st_ T (pj_ f))
  have hs2 := a5 (st_ T (f 2))
  have esc : SC_ F T f = F (st_ T (f 3) + 1) := rfl
  have ecc : CC_ F T f = F (st_ T (pj_ f)) := rfl
  have t2 := hx0.2.2.1.2.1
  intro j
  induction j with
  | zero =>
    intro c w σ u5 u6 u7 hi c0 hfr hh hw
    have hx := rx_fr hx0 hfr (fun b j h => h.1)
    have hw01 : w = 0 ∨ w = 1 := by rcases hw with h | h <;> omega
    refine wp_iload dc_R_settle_7 rfl (wp_aload_n dc_R_settle_9 rfl rfl (wp_iload_n dc_R_settle_10 rfl rfl ?_))
    refine wp_callV (As := [_]) dc_R_settle_11 lm_R_116 ls_R_chunkCount (by decide) rfl rfl (hp_at _ sh_51) rfl rfl (Nat.le_of_ble_eq_true rfl) (Nat.le_refl _) (Nat.le_refl _) ?_
    refine c_R_chunkCount hx ?_
    refine wi_ic_gt dc_R_settle_14 rfl (fun hd => ?_) (fun hd => ?_)
    rotate_left
    · omega
    have fin : K (some (.int (iI w))) (hp_ σ) := by
      refine hK σ w hfr (fun i i0 i1 => hh i i0 (by omega)) ?_
      rcases hw with ⟨e, g⟩ | ⟨e, i, g1, g2, g3⟩
      · refine Or.inl ⟨e, fun i i0 i1 => ?_⟩
        have q := g i i0 (by omega)
        rcases hh i i0 (by omega) with p | p
        · omega
        · exact ⟨_, p.1, p.2.1, p.2.2.1⟩
      · refine Or.inr ⟨e, fun hda => ?_⟩
        obtain ⟨k, k0, k1, k2⟩ := hda i g1 (by omega)
        rcases hh i g1 g2 with p | p
        · exact p.2 k k0 k1 k2
        · omega
    rcases hw01 with rfl | rfl
    · refine wp_iload_n dc_R_settle_121 rfl rfl ?_
      refine wp_ireturn dc_R_settle_122 rfl rfl fin
    · refine wp_iload_n dc_R_settle_121 rfl rfl ?_
      refine wp_ireturn dc_R_settle_122 rfl rfl fin
  | succ j ih =>
    intro c w σ u5 u6 u7 hi c0 hfr hh hw
    have hx := rx_fr hx0 hfr (fun b j h => h.1)
    obtain ⟨hro, hrt, htt, ht, htab, hkt, hrh⟩ := id hx
    have hw01 : w = 0 ∨ w = 1 := by rcases hw with h | h <;> omega
    have mr := mn_rg a5 (st_ T (f 2)) c
    obtain ⟨kl0, kl1⟩ := ks_le a5 hcn c0 (by omega)
    have pr := pc_rg a5 T f c
    have br := bt_rg a5 (st_ T (f 3)) (ks_ F T f c) (mn_ F (st_ T (f 2)) c).toNat
    have ecb : cb_ F T f c = bt_ F (st_ T (f 3)) (ks_ F T f c) (mn_ F (st_ T (f 2)) c).toNat := rfl
    have hR : 0 < F (st_ T (f 2)) := by have := hcn.2.2.1; omega
    refine wp_iload dc_R_settle_7 rfl (wp_aload_n dc_R_settle_9 rfl rfl (wp_iload_n dc_R_settle_10 rfl rfl ?_))
    refine wp_callV (As := [_]) dc_R_settle_11 lm_R_116 ls_R_chunkCount (by decide) rfl rfl (hp_at _ sh_51) rfl rfl (Nat.le_of_ble_eq_true rfl) (Nat.le_refl _) (Nat.le_refl _) ?_
    refine c_R_chunkCount hx ?_
    refine wi_ic_gt dc_R_settle_14 rfl (fun hd => ?_) (fun hd => ?_)
    · omega
    refine wi_iconst dc_R_settle_17 (wp_is5 dc_R_settle_18 (wp_aload_n dc_R_settle_20 rfl rfl (wp_iload_n dc_R_settle_21 rfl rfl (wp_iload dc_R_settle_22 rfl ?_))))
    refine wp_callV (As := [_, _]) dc_R_settle_24 lm_R_119 ls_R_many (by decide) rfl rfl (hp_at _ sh_51) rfl rfl (Nat.le_of_ble_eq_true rfl) (Nat.le_refl _) (Nat.le_refl _) ?_
    refine c_R_many ⟨by omega, by omega⟩ hx hR ?_
    refine wp_is6 dc_R_settle_27 (wi_iconst dc_R_settle_29 (wp_is7 dc_R_settle_30 ?_))
    rw [show ks_ F T f c = ks_ F T f c + ((0 : Nat) : Int) by omega]
    refine lp_R_se1 hx kl0 mr.1 mr.2 kl1 ?_ (mn_ F (st_ T (f 2)) c).toNat 0 (by omega)
    refine wp_aload_n dc_R_settle_59 rfl rfl (wp_iload_n dc_R_settle_60 rfl rfl (wp_iload dc_R_settle_61 rfl ?_))
    refine wp_callV (As := [_, _]) dc_R_settle_63 lm_R_131 ls_R_chunkPlace (by decide) rfl rfl (hp_at _ sh_51) rfl rfl (Nat.le_of_ble_eq_true rfl) (Nat.le_refl _) (Nat.le_refl _) ?_
    refine c_R_chunkPlace hx c0 (by omega) ?_
    refine wp_is7 dc_R_settle_66 (wp_aload_n dc_R_settle_68 rfl rfl (wi_getR dc_R_settle_69 lf_R_43 sh_51 rfl (wi_sipush dc_R_settle_72 (wp_iload_n dc_R_settle_75 rfl rfl (wi_imul dc_R_settle_76 (wp_iload dc_R_settle_77 rfl (wi_iadd dc_R_settle_79 (wp_aload_n dc_R_settle_80 rfl rfl (wp_iload dc_R_settle_81 rfl (wp_iload dc_R_settle_83 rfl ?_))))))))))
    refine wp_callV (As := [_, _]) dc_R_settle_85 lm_R_134 ls_R_dataBox (by decide) rfl rfl (hp_at _ sh_51) rfl rfl (Nat.le_of_ble_eq_true rfl) (Nat.le_refl _) (Nat.le_refl _) ?_
    refine c_R_dataBox hrt htt hro.2.1 pr (by omega) (fun r hr => ?_)
    have hrN : -1 ≤ r ∧ r < 20 := by rcases hr with h | h <;> omega
    refine wi_ast dc_R_settle_88 sh_63 (by omega) (by omega) (by decide) (wp_iload_n dc_R_settle_89 rfl rfl ?_)
    have fr2 : fr_ (stW t) σ0 (up_ σ 63 (256 * t + c) r) := hfr.up ⟨rfl, by omega, by omega⟩
    have hup : up_ σ 63 (256 * t + c) r 63 (256 * t + c) = r := up_s _ _ _ _
    have hun : ∀ i, i < c → up_ σ 63 (256 * t + c) r 63 (256 * t + i) = σ 63 (256 * t + i) := fun i h => up_n _ _ (by omega)
    have fin : ∀ w' : Int, (w' = 1 ∧ w = 1 ∧ 0 ≤ r) ∨ (w' = 0 ∧ ¬ (w = 1 ∧ 0 ≤ r)) → wp_m l Y_R_settle none 0 0 114 [.ref 51, .int (iI t), .int (iI w), .int (iI (ks_ F T f c + mn_ F (st_ T (f 2)) c)), .int (iI c), .int (iI (bt_ F (st_ T (f 3)) (ks_ F T f c) (mn_ F (st_ T (f 2)) c).toNat)), .int (iI (mn_ F (st_ T (f 2)) c)), .int (iI (pc_ F T f c))] [.int (iI w')] (hp_ (up_ σ 63 (256 * t + c) r)) K := fun w' h => by
      rw [← ks_S c0]
      refine wp_is2 dc_R_settle_114 (wp_ii4 dc_R_settle_115 (wp_goto dc_R_settle_118 rfl ?_))
      refine ih (c + 1) w' _ _ _ _ (by omega) (by omega) fr2 (fun i i0 i1 => ?_) ?_
      · by_cases e : i = c
        · rw [e, hup]; exact hr
        · rw [hun i (by omega)]; exact hh i i0 (by omega)
      · rcases h with ⟨e1, e2, e3⟩ | ⟨e1, e2⟩
        · refine Or.inl ⟨e1, fun i i0 i1 => ?_⟩
          by_cases e : i = c
          · rw [e, hup]; exact e3
          · rw [hun i (by omega)]
            rcases hw with g | g
            · exact g.2 i i0 (by omega)
            · omega
        · refine Or.inr ⟨e1, ?_⟩
          rcases hw with g | ⟨g1, i, g2, g3, g4⟩
          · exact ⟨c, c0, by omega, by rw [hup]; omega⟩
          · exact ⟨i, g2, by omega, by rw [hun i g3]; exact g4⟩
    refine wi_if_eq dc_R_settle_90 rfl (fun he => ?_) (fun he => ?_)
    · refine wi_iconst dc_R_settle_113 ?_
      exact fin 0 (Or.inr ⟨rfl, by omega⟩)
    refine wp_aload_n dc_R_settle_93 rfl rfl (wi_getR dc_R_settle_94 lf_R_43 sh_51 rfl (wi_sipush dc_R_settle_97 (wp_iload_n dc_R_settle_100 rfl rfl (wi_imul dc_R_settle_101 (wp_iload dc_R_settle_102 rfl (wi_iadd dc_R_settle_104 (wi_aldE (r) dc_R_settle_105 sh_63 (by omega) (by omega) (by decide) hup ?_)))))))
    refine wi_if_lt dc_R_settle_106 rfl (fun hf => ?_) (fun hf => ?_)
    · refine wi_iconst dc_R_settle_113 ?_
      exact fin 0 (Or.inr ⟨rfl, by omega⟩)
    · refine wi_iconst dc_R_settle_109 (wp_goto dc_R_settle_110 rfl ?_)
      exact fin 1 (Or.inl ⟨rfl, by omega, by omega⟩)
theorem c_R_settle (hcn : CN_ F T f) (hx : rx_ σ F n N T t b f) (hK : ∀ σ' w, fr_ (stW t) σ σ' → (∀ c, 1 ≤ c → c ≤ CC_ F T f → ff_ (DBX_ T (pc_ F T f c) (cb_ F T f c)) N (σ' 63 (256 * t + c))) → ((w = 1 ∧ DA_ F N T f) ∨ (w = 0 ∧ ¬ DA_ F N T f)) → K (some (.int (iI w))) (hp_ σ')) : ct_m l Y_R_settle 0 0 [.ref 51, .int (iI t)] (hp_ σ) K := by
  have hsp := hx.1.2.2.2.2 (st_ T (pj_ f))
  have ecc : CC_ F T f = F (st_ T (pj_ f)) := rfl
  refine ct_of (L := [.ref 51, .int (iI t), .retAddr 0, .retAddr 0, .retAddr 0, .retAddr 0, .retAddr 0, .retAddr 0]) (by decide +kernel) (Nat.le_of_ble_eq_true rfl) rfl ?_
  refine wi_iconst dc_R_settle_0 (wp_is2 dc_R_settle_1 (wi_iconst dc_R_settle_2 (wp_is3 dc_R_settle_3 (wi_iconst dc_R_settle_4 (wp_is4 dc_R_settle_5 ?_)))))
  exact lp_R_se hcn hx hK (CC_ F T f).toNat 1 1 σ _ _ _ (by omega) (by omega) fr_.rf (fun i i0 i1 => by omega) (Or.inl ⟨rfl, fun i i0 i1 => by omega⟩)
end DR
