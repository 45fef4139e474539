/-! fastStart: both sides behind the check -/
section FU
variable {l : Launch} {K : Option Value → mx_H → Prop} {F : Int → Int} {n N : Int} {T : px_T} {mi tc : Int} {b : Int → Int} {tab : Int → Int → Int} {me : Int} {σ : sg_}
theorem ff_ex (P : Int → Prop) {N : Int} (hN : 0 ≤ N) : ∃ r, ff_ P N r := by
  have : ∀ (j : Nat) (i : Int), i + j = N → 0 ≤ i → (∀ k, 0 ≤ k → k < i → ¬ P k) → ∃ r, ff_ P N r := by
    intro j
    induction j with
    | zero => intro i hi i0 h; exact ⟨-1, Or.inl ⟨rfl, fun k k0 k1 => h k k0 (by omega)⟩⟩
    | succ j ih =>
      intro i hi i0 h
      by_cases q : P i
      · exact ⟨i, Or.inr ⟨i0, by omega, q, h⟩⟩
      · refine ih (i + 1) (by omega) (by omega) (fun k k0 k1 => ?_)
        by_cases e : k = i
        · rw [e]; exact q
        · exact h k k0 (by omega)
  exact this N.toNat 0 (by omega) (by omega) (fun k k0 k1 => by omega)
theorem me_ex (htt : tt_ n N T) (m0 : 0 ≤ mi) (m1 : mi < N) : ∃ me, ME_ N T mi me := by
  have : ∀ (j : Nat) (i : Int), i + j = N → mi < i → (∀ k, mi < k → k < i → 1 ≤ T 4 k) → ∃ me, ME_ N T mi me := by
    intro j
    induction j with
    | zero => intro i hi i0 h; exact ⟨i, i0, by omega, h, Or.inl (by omega)⟩
    | succ j ih =>
      intro i hi i0 h
      have bx := htt.2.2.1 i (by omega) (by omega)
      unfold bx_ at bx
      by_cases q : T 4 i = 0
      · exact ⟨i, i0, by omega, h, Or.inr q⟩
      · refine ih (i + 1) (by omega) (by omega) (fun k k0 k1 => ?_)
        by_cases e : k = i
        · rw [e]; omega
        · exact h k k0 (by omega)
  exact this (N - (mi + 1)).toNat (mi + 1) (by omega) (by omega) (fun k k0 k1 => by omega)
theorem fm_13 {r0 u : Int} (hx : fx_ F n N T mi tc b tab me) (hu : LF_ F N T mi tc tab me u) (hlo : lo_ σ F n) (hlt : lt_ σ N T) (h46 : 0 ≤ σ 46 1 ∧ σ 46 1 ≤ 1000) (hr : ff_ (DT_ T) N r0)
    (hB : r0 < 0 ∨ mi < r0 → K (some (.int (iI (T 1 mi)))) (hp_ σ))
    (hC : 0 ≤ r0 → r0 < mi → n - T 1 mi + nL_ F T mi tc tab me u > 1000 → ∀ σ', fr_ mvV σ σ' → K (some (.int (iI (-2)))) (hp_ (up_ σ' 0 6 1)))
    (hD : 0 ≤ r0 → r0 < mi → n - T 1 mi + nL_ F T mi tc tab me u ≤ 1000 → ∀ σ', fr_ mvW σ σ' → σ' 1 1 = ((rl_ F n N T mi tc tab me u (T 0 r0)).length : Int) → gs_ (rl_ F n N T mi tc tab me u (T 0 r0)) (σ' 2) → σ' 46 1 = ((rl_ F n N T mi tc tab me u (T 0 r0)).length : Int) → K (some (.int (iI (nL_ F T mi tc tab me u)))) (hp_ (up_ σ' 0 6 1))) :
    wp_m l Y_M_fastStart none 0 0 13 [.ref 0, .retAddr 0, .retAddr 0, .retAddr 0] [] (hp_ σ) K := by
  have m := fx_mi hx
  have htt := hx.2.2.1
  have hn := hx.2.1
  have bm := htt.2.2.1 mi m.1 (by omega)
  unfold bx_ at bm
  have rr : -1 ≤ r0 ∧ r0 < N ∧ r0 ≠ mi := by
    rcases hr with h | h
    · omega
    · refine ⟨by omega, h.2.1, fun q => ?_⟩
      have := h.2.2.1.2
      rw [q] at this
      omega
  refine wp_aload_n dc_M_fastStart_13 rfl rfl (wi_getR dc_M_fastStart_14 lf_M_21 sh_0 rfl (wi_iconst dc_M_fastStart_17 (wi_bipush dc_M_fastStart_18 ?_)))
  refine wp_callV (As := [_, _]) dc_M_fastStart_20 lm_M_98 ls_L_find (by decide) rfl rfl (hp_at _ sh_3) rfl rfl (Nat.le_of_ble_eq_true rfl) (Nat.le_refl _) (Nat.le_refl _) ?_
  refine c_L_find hlt htt ⟨by decide, by decide⟩ ⟨by decide, by decide⟩ (fun rm hrm => ?_)
  have em : rm = mi := by
    rcases hrm with h | h
    · exact absurd ((ck_mv (htt.2.2.1 mi m.1 (by omega)) (htt.2.2.2.1 mi m.1 (by omega))).mpr ⟨m.2.2.2.2.2.1, m.2.2.2.2.2.2.1⟩) (h.2 mi m.1 (by omega))
    · exact hx.2.2.2.1.1.2.2.2 rm h.1 h.2.1 ((ck_mv (htt.2.2.1 rm h.1 h.2.1) (htt.2.2.2.1 rm h.1 h.2.1)).mp h.2.2.1)
  subst em
  refine wp_is1 dc_M_fastStart_23 (wp_aload_n dc_M_fastStart_24 rfl rfl (wi_getR dc_M_fastStart_25 lf_M_21 sh_0 rfl (wi_iconst dc_M_fastStart_28 (wi_bipush dc_M_fastStart_29 ?_))))
  refine wp_callV (As := [_, _]) dc_M_fastStart_31 lm_M_98 ls_L_find (by decide) rfl rfl (hp_at _ sh_3) rfl rfl (Nat.le_of_ble_eq_true rfl) (Nat.le_refl _) (Nat.le_refl _) ?_
  refine c_L_find hlt htt ⟨by decide, by decide⟩ ⟨by decide, by decide⟩ (fun rd hrd => ?_)
  obtain rfl := ff_un (ff_dt htt hrd) hr
  have K44 : rd < 0 ∨ rm < rd → wp_m l Y_M_fastStart none 0 0 44 [.ref 0, .int (iI rm), .int (iI rd), .retAddr 0] [] (hp_ σ) K := fun q => by
    refine wp_aload_n dc_M_fastStart_44 rfl rfl (wi_getR dc_M_fastStart_45 lf_M_21 sh_0 rfl (wp_iload_n dc_M_fastStart_48 rfl rfl (wi_iconst dc_M_fastStart_49 ?_)))
    refine wp_callV (As := [_, _]) dc_M_fastStart_50 lm_M_83 ls_L_of (by decide) rfl rfl (hp_at _ sh_3) rfl rfl (Nat.le_of_ble_eq_true rfl) (Nat.le_refl _) (Nat.le_refl _) ?_
    refine c_L_of (c := 1) (by decide) (by rw [hlt.1]; omega) (by rw [hlt.1]; omega) ⟨by omega, by omega⟩ ?_
    rw [hlt.1, at_in m.1 (by omega), show σ (5 + 1) rm = T 1 rm from hlt.2.1 1 rm (by decide) m.1 (by omega)]
    refine wp_ireturn dc_M_fastStart_53 rfl rfl (hB q)
  refine wp_is2 dc_M_fastStart_34 (wp_iload_n dc_M_fastStart_35 rfl rfl ?_)
  refine wi_if_lt dc_M_fastStart_36 rfl (fun hd => ?_) (fun hd => ?_)
  · exact K44 (Or.inl hd)
  refine wp_iload_n dc_M_fastStart_39 rfl rfl (wp_iload_n dc_M_fastStart_40 rfl rfl ?_)
  refine wi_ic_ge dc_M_fastStart_41 rfl (fun he => ?_) (fun he => ?_)
  · have hdt : DT_ T rd := by
      rcases hr with h | h
      · omega
      · exact h.2.2.1
    refine wp_aload_n dc_M_fastStart_54 rfl rfl (wi_getR dc_M_fastStart_55 lf_M_37 sh_0 rfl (wp_iload_n dc_M_fastStart_58 rfl rfl (wp_iload_n dc_M_fastStart_59 rfl rfl ?_)))
    refine wp_callV (As := [_, _]) dc_M_fastStart_60 lm_M_101 ls_V_move (by decide) rfl rfl (hp_at _ sh_45) rfl rfl (Nat.le_of_ble_eq_true rfl) (Nat.le_refl _) (Nat.le_refl _) ?_
    refine c_V_move hx hu hlo hlt h46 (by omega) (by omega) hdt (fun q σ' f => ?_) (fun q σ' f g1 g2 g3 => ?_)
    · refine wp_is3 dc_M_fastStart_63 (wp_aload_n dc_M_fastStart_64 rfl rfl (wi_iconst dc_M_fastStart_65 (wi_putI 6 dc_M_fastStart_66 lf_M_48 sh_0 rfl rfl pv_1 (wp_iload_n dc_M_fastStart_69 rfl rfl ?_))))
      refine wp_ireturn dc_M_fastStart_70 rfl rfl (hC (by omega) (by omega) q σ' f)
    · refine wp_is3 dc_M_fastStart_63 (wp_aload_n dc_M_fastStart_64 rfl rfl (wi_iconst dc_M_fastStart_65 (wi_putI 6 dc_M_fastStart_66 lf_M_48 sh_0 rfl rfl pv_1 (wp_iload_n dc_M_fastStart_69 rfl rfl ?_))))
      refine wp_ireturn dc_M_fastStart_70 rfl rfl (hD (by omega) (by omega) q σ' f g1 g2 g3)
  · exact K44 (Or.inr (by omega))
theorem lp_R_fs {σ0 : sg_} {r0 u : Int} (hx : fx_ F n N T mi tc b tab me) (hu : LF_ F N T mi tc tab me u) (hy0 : ry_ σ0 F n N T mi tc b tab)
    (hK : ∀ σ' i u5, fr_ lyW σ0 σ' → wp_m l Y_R_fastStart none 0 0 81 [.ref 51, .int (iI 0), .int (iI r0), .int (iI u), .int (iI i), u5] [] (hp_ σ') K) :
    ∀ (j : Nat) (i x : Int) (σ : sg_) (u5 : Value), i + j = 4 → 0 ≤ i → fr_ lyW σ0 σ → ((x = -1 ∧ ∀ v, 0 ≤ v → v < i → fp_ F N T mi tc tab me v ≠ v) ∨ ((0 ≤ x ∧ x < i) ∧ fp_ F N T mi tc tab me x = x ∧ ∀ v, 0 ≤ v → v < x → fp_ F N T mi tc tab me v ≠ v)) → wp_m l Y_R_fastStart none 0 0 43 [.ref 51, .int (iI 0), .int (iI r0), .int (iI x), .int (iI i), u5] [] (hp_ σ) K := by
  have m := fx_mi hx
  intro j
  induction j with
  | zero =>
    intro i x σ u5 hi i0 hfr hxx
    have ex : x = u := by
      obtain ⟨u1, u2, u3⟩ := hu
      rcases hxx with ⟨-, h⟩ | ⟨h1, h2, h3⟩
      · exact absurd u2 (h u u1.1 (by omega))
      · have s := u3 x h1.1 (by omega) h2
        unfold sbw_ at s
        by_cases q : u < x
        · exact absurd u2 (h3 u u1.1 q)
        · omega
    subst ex
    refine wp_iload dc_R_fastStart_43 rfl (wi_iconst dc_R_fastStart_45 ?_)
    refine wi_ic_ge dc_R_fastStart_46 rfl (fun hd => ?_) (fun hd => ?_)
    · exact hK σ i u5 hfr
    · omega
  | succ j ih =>
    intro i x σ u5 hi i0 hfr hxx
    have hy := ry_fr hy0 hfr (fun b j h => by unfold lyW at h; omega)
    have xr : -1 ≤ x ∧ x < 4 := by rcases hxx with h | h <;> omega
    have nr := fx_np hx (wk_ tc tab i) (Int.le_refl mi) m.2.1
    have eL : nL_ F T mi tc tab me i = np_ F T (wk_ tc tab i) mi me mi + hd_ T mi (np_ F T (wk_ tc tab i) mi me mi) := rfl
    have pr := fp_rg (F := F) (N := N) (T := T) (mi := mi) (tc := tc) (tab := tab) (me := me) i
    refine wp_iload dc_R_fastStart_43 rfl (wi_iconst dc_R_fastStart_45 ?_)
    refine wi_ic_ge dc_R_fastStart_46 rfl (fun hd => ?_) (fun hd => ?_)
    · omega
    refine wp_aload_n dc_R_fastStart_49 rfl rfl (wp_iload dc_R_fastStart_50 rfl ?_)
    refine wp_callV (As := [_]) dc_R_fastStart_52 lm_R_171 ls_R_layout (by decide) rfl rfl (hp_at _ sh_51) rfl rfl (Nat.le_of_ble_eq_true rfl) (Nat.le_refl _) (Nat.le_refl _) ?_
    refine c_R_layout hx hy i0 (by omega) (fun σ1 f1 h1 => ?_)
    have fB := hfr.tr f1
    have nx : ∀ x', ((x' = -1 ∧ ∀ v, 0 ≤ v → v < i + 1 → fp_ F N T mi tc tab me v ≠ v) ∨ ((0 ≤ x' ∧ x' < i + 1) ∧ fp_ F N T mi tc tab me x' = x' ∧ ∀ v, 0 ≤ v → v < x' → fp_ F N T mi tc tab me v ≠ v)) → wp_m l Y_R_fastStart none 0 0 75 [.ref 51, .int (iI 0), .int (iI r0), .int (iI x'), .int (iI i), .int (iI (nL_ F T mi tc tab me i))] [] (hp_ σ1) K := fun x' h => by
      refine wp_ii4 dc_R_fastStart_75 (wp_goto dc_R_fastStart_78 rfl ?_)
      exact ih (i + 1) x' σ1 _ (by omega) (by omega) fB h
    refine wp_is5 dc_R_fastStart_55 (wp_iload_n dc_R_fastStart_57 rfl rfl ?_)
    refine wi_if_ge dc_R_fastStart_58 rfl (fun he => ?_) (fun he => ?_)
    · rcases hxx with h | ⟨h1, h2, h3⟩
      · omega
      · exact nx x (Or.inr ⟨by omega, h2, h3⟩)
    have hz : ∀ v, 0 ≤ v → v < i → fp_ F N T mi tc tab me v ≠ v := by
      rcases hxx with h | h
      · exact h.2
      · omega
    refine wp_aload_n dc_R_fastStart_61 rfl rfl (wp_iload dc_R_fastStart_62 rfl ?_)
    refine wp_callV (As := [_]) dc_R_fastStart_64 lm_R_174 ls_R_tooNarrow (by decide) rfl rfl (hp_at _ sh_51) rfl rfl (Nat.le_of_ble_eq_true rfl) (Nat.le_refl _) (Nat.le_refl _) ?_
    refine c_R_tooNarrow hx (ry_fr hy0 fB (fun b j h => by unfold lyW at h; omega)) (by omega) ?_
    rw [show ph_ F N T mi tc tab (nL_ F T mi tc tab me i) = fp_ F N T mi tc tab me i from rfl]
    refine wp_iload dc_R_fastStart_67 rfl ?_
    refine wi_ic_ne dc_R_fastStart_69 rfl (fun hf => ?_) (fun hf => ?_)
    · refine nx x (Or.inl ⟨by omega, fun v v0 v1 => ?_⟩)
      by_cases q : v = i
      · rw [q]; exact hf
      · exact hz v v0 (by omega)
    · refine wp_iload dc_R_fastStart_72 rfl (wp_is3 dc_R_fastStart_74 ?_)
      exact nx i (Or.inr ⟨by omega, hf, hz⟩)
theorem rf_11 {r0 u : Int} (hx : fx_ F n N T mi tc b tab me) (hu : LF_ F N T mi tc tab me u) (hy : ry_ σ F n N T mi tc b tab) (hr : ff_ (DT_ T) N r0)
    (hB : r0 < 0 ∨ mi < r0 → K (some (.int (iI (T 1 mi)))) (hp_ σ))
    (hC : 0 ≤ r0 → r0 < mi → n - T 1 mi + nL_ F T mi tc tab me u > 1000 → ∀ σ', fr_ lyW σ σ' → K (some (.int (iI (-2)))) (hp_ σ'))
    (hD : 0 ≤ r0 → r0 < mi → n - T 1 mi + nL_ F T mi tc tab me u ≤ 1000 → ∀ σ' σ'', fr_ lyW σ σ' → fr_ wrW σ' σ'' → σ'' 51 1 = ((rl_ F n N T mi tc tab me u (T 0 r0)).length : Int) → gs_ (rl_ F n N T mi tc tab me u (T 0 r0)) (σ'' 52) → K (some (.int (iI (nL_ F T mi tc tab me u)))) (hp_ σ'')) :
    wp_m l Y_R_fastStart none 0 0 11 [.ref 51, .int (iI 0), .retAddr 0, .retAddr 0, .retAddr 0, .retAddr 0] [] (hp_ σ) K := by
  have m := fx_mi hx
  have htt := hx.2.2.1
  have hn := hx.2.1
  have bm := htt.2.2.1 mi m.1 (by omega)
  unfold bx_ at bm
  have hrt := hy.2.1.1
  refine wp_aload_n dc_R_fastStart_11 rfl rfl ?_
  refine wp_callV (As := []) dc_R_fastStart_12 lm_R_168 ls_R_firstData (by decide) rfl rfl (hp_at _ sh_51) rfl rfl (Nat.le_of_ble_eq_true rfl) (Nat.le_refl _) (Nat.le_refl _) ?_
  refine c_R_firstData hrt htt (fun rd hrd => ?_)
  obtain rfl := ff_un hrd hr
  have rr : -1 ≤ rd ∧ rd < N ∧ rd ≠ mi := by
    rcases hr with h | h
    · omega
    · refine ⟨by omega, h.2.1, fun q => ?_⟩
      have := h.2.2.1.2
      rw [q] at this
      omega
  have K28 : rd < 0 ∨ mi < rd → wp_m l Y_R_fastStart none 0 0 28 [.ref 51, .int (iI 0), .int (iI rd), .retAddr 0, .retAddr 0, .retAddr 0] [] (hp_ σ) K := fun q => by
    refine wp_aload_n dc_R_fastStart_28 rfl rfl (wi_getR dc_R_fastStart_29 lf_R_16 sh_51 rfl (wp_aload_n dc_R_fastStart_32 rfl rfl (wi_getE 11 (mi) dc_R_fastStart_33 lf_R_96 sh_51 rfl rfl hy.2.1.2.1 (wi_aldE (T 1 mi) dc_R_fastStart_36 sh_54 (by omega) (by omega) (by decide) (hrt.2 1 mi (by decide) m.1 (by omega)) ?_))))
    refine wp_ireturn dc_R_fastStart_37 rfl rfl (hB q)
  refine wp_is2 dc_R_fastStart_15 (wp_iload_n dc_R_fastStart_16 rfl rfl ?_)
  refine wi_if_lt dc_R_fastStart_17 rfl (fun hd => ?_) (fun hd => ?_)
  · exact K28 (Or.inl hd)
  refine wp_iload_n dc_R_fastStart_20 rfl rfl (wp_aload_n dc_R_fastStart_21 rfl rfl (wi_getE 11 (mi) dc_R_fastStart_22 lf_R_96 sh_51 rfl rfl hy.2.1.2.1 ?_))
  refine wi_ic_le dc_R_fastStart_25 rfl (fun he => ?_) (fun he => ?_)
  rotate_left
  · exact K28 (Or.inr (by omega))
  have br := htt.2.2.1 rd (by omega) (by omega)
  unfold bx_ at br
  have hdt : DT_ T rd := by
    rcases hr with h | h
    · omega
    · exact h.2.2.1
  have ord := htt.2.2.2.2 rd mi (by omega) (by omega) (by omega) hdt.1 m.2.2.2.2.2.1
  have nr := fx_np hx (wk_ tc tab u) (Int.le_refl mi) m.2.1
  have eL : nL_ F T mi tc tab me u = np_ F T (wk_ tc tab u) mi me mi + hd_ T mi (np_ F T (wk_ tc tab u) mi me mi) := rfl
  refine wi_iconst dc_R_fastStart_38 (wp_is3 dc_R_fastStart_39 (wi_iconst dc_R_fastStart_40 (wp_is4 dc_R_fastStart_41 ?_)))
  refine lp_R_fs hx hu hy (fun σ1 i1 u5 f1 => ?_) 4 0 (-1) σ _ (by omega) (by omega) fr_.rf (Or.inl ⟨rfl, fun v v0 v1 => by omega⟩)
  have hy1 := ry_fr hy f1 (fun b j h => by unfold lyW at h; omega)
  have ur := hu.1
  refine wp_aload_n dc_R_fastStart_81 rfl rfl (wp_iload_n dc_R_fastStart_82 rfl rfl ?_)
  refine wp_callV (As := [_]) dc_R_fastStart_83 lm_R_171 ls_R_layout (by decide) rfl rfl (hp_at _ sh_51) rfl rfl (Nat.le_of_ble_eq_true rfl) (Nat.le_refl _) (Nat.le_refl _) ?_
  refine c_R_layout hx hy1 ur.1 ur.2 (fun σ2 f2 h2 => ?_)
  have fC := f1.tr f2
  have hy2 := ry_fr hy fC (fun b j h => by unfold lyW at h; omega)
  have hrt2 := hy2.2.1.1
  refine wp_is4 dc_R_fastStart_86 (wp_aload_n dc_R_fastStart_88 rfl rfl (wi_getE 1 (n) dc_R_fastStart_89 lf_R_58 sh_51 rfl rfl hy2.1.2.2.1 (wp_aload_n dc_R_fastStart_92 rfl rfl (wi_getR dc_R_fastStart_93 lf_R_16 sh_51 rfl (wp_aload_n dc_R_fastStart_96 rfl rfl (wi_getE 11 (mi) dc_R_fastStart_97 lf_R_96 sh_51 rfl rfl hy2.2.1.2.1 (wi_aldE (T 1 mi) dc_R_fastStart_100 sh_54 (by omega) (by omega) (by decide) (hrt2.2 1 mi (by decide) m.1 (by omega)) (wi_isub dc_R_fastStart_101 (wp_iload dc_R_fastStart_102 rfl (wi_iadd dc_R_fastStart_104 (wi_sipush dc_R_fastStart_105 ?_)))))))))))
  refine wi_ic_le dc_R_fastStart_108 rfl (fun hf => ?_) (fun hf => ?_)
  rotate_left
  · refine wi_bipush dc_R_fastStart_111 ?_
    refine wp_ireturn dc_R_fastStart_113 rfl rfl (hC (by omega) (by omega) (by omega) σ2 fC)
  refine wp_aload_n dc_R_fastStart_114 rfl rfl (wp_aload_n dc_R_fastStart_115 rfl rfl (wi_getR dc_R_fastStart_116 lf_R_13 sh_51 rfl (wp_iload_n dc_R_fastStart_119 rfl rfl (wi_aldE (T 0 rd) dc_R_fastStart_120 sh_53 (by omega) (by omega) (by decide) (hrt2.2 0 rd (by decide) (by omega) (by omega)) (wp_iload_n dc_R_fastStart_121 rfl rfl (wp_iload dc_R_fastStart_122 rfl ?_))))))
  refine wp_callV (As := [_, _, _]) dc_R_fastStart_124 lm_R_177 ls_R_write (by decide) rfl rfl (hp_at _ sh_51) rfl rfl (Nat.le_of_ble_eq_true rfl) (Nat.le_refl _) (Nat.le_refl _) ?_
  refine c_R_write hx hy2 ur.1 ur.2 h2 rfl (by omega) hu.2.1 (by omega) (by omega) (fun σ3 f3 g1 g2 => ?_)
  refine wp_iload dc_R_fastStart_127 rfl ?_
  refine wp_ireturn dc_R_fastStart_129 rfl rfl (hD (by omega) (by omega) hf σ2 σ3 fC f3 g1 g2)
end FU
