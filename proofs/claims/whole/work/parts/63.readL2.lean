/-! the class's reading, on -/
section RM
variable {l : Launch} {σ : sg_} {K : Option Value → mx_H → Prop} {F : Int → Int} {n k p i : Int} {v : Nat} {E O : Nat → Int} {T : px_T}
theorem gi_O {n k p : Int} {v : Nat} {E O : Nat → Int} {T : px_T} (hg : gi_ n k p v E O T) : -1 ≤ O v ∧ O v < k ∧ (O v = -1 ↔ v = 0) := by
  obtain ⟨g1, g2, g3, g4, g5, g6, g7, g8, g9⟩ := hg
  cases v with
  | zero => omega
  | succ w =>
    have h8 := g8 w (by omega)
    omega
theorem lp_L_open (hlt : lt_ σ k T) (hk1 : k ≤ 20) (hn : n ≤ 1000) {x : Value} (hg0 : 0 ≤ p) : ∀ (v : Nat) (up : Int), gi_ n k p v E O T → 0 ≤ up → up + v ≤ 2 → K (some (.int (iI (O (px_pop p E v))))) (hp_ σ) → wp_m l Y_L_openHolder none 0 0 5 [.ref 3, x, .int (iI p), .int (iI (O v)), .int (iI up)] [] (hp_ σ) K := by
  intro v
  induction v with
  | zero =>
    intro up hg h0 h1 hK
    obtain ⟨g1, g2, g3, g4, g5, g6, g7, g8, g9⟩ := id hg
    have hk := hlt.1
    refine wp_iload dc_L_openHolder_5 rfl (wi_iconst dc_L_openHolder_7 ?_)
    refine wi_ic_ge dc_L_openHolder_8 rfl (fun hd => ?_) (fun hd => ?_)
    · refine wp_iload_n dc_L_openHolder_38 rfl rfl ?_
      refine wp_ireturn dc_L_openHolder_39 rfl rfl hK
    · refine wp_iload_n dc_L_openHolder_11 rfl rfl (wi_iconst dc_L_openHolder_12 ?_)
      refine wi_ic_eq dc_L_openHolder_13 rfl (fun he => ?_) (fun he => ?_)
      · refine wp_iload_n dc_L_openHolder_38 rfl rfl ?_
        refine wp_ireturn dc_L_openHolder_39 rfl rfl hK
      · omega
  | succ v ih =>
    intro up hg h0 h1 hK
    obtain ⟨g1, g2, g3, g4, g5, g6, g7, g8, g9⟩ := id hg
    have hk := hlt.1
    have h8 := g8 v (by omega)
    have hEn := gi_En hg
    have e0 := hlt.2.1 0 (O (v + 1)) (by decide) (by omega) (by omega)
    have e1 := hlt.2.1 1 (O (v + 1)) (by decide) (by omega) (by omega)
    have e5 := hlt.2.1 5 (O (v + 1)) (by decide) (by omega) (by omega)
    refine wp_iload dc_L_openHolder_5 rfl (wi_iconst dc_L_openHolder_7 ?_)
    refine wi_ic_ge dc_L_openHolder_8 rfl (fun hd => ?_) (fun hd => ?_)
    · omega
    · refine wp_iload_n dc_L_openHolder_11 rfl rfl (wi_iconst dc_L_openHolder_12 ?_)
      refine wi_ic_eq dc_L_openHolder_13 rfl (fun he => ?_) (fun he => ?_)
      · omega
      · refine wp_iload_n dc_L_openHolder_16 rfl rfl (wp_aload_n dc_L_openHolder_17 rfl rfl (wp_iload_n dc_L_openHolder_18 rfl rfl ?_))
        refine wp_callV (As := [_]) dc_L_openHolder_19 lm_L_37 ls_L_endOf (by decide) rfl rfl (hp_at _ sh_3) rfl rfl (Nat.le_of_ble_eq_true rfl) (Nat.le_refl _) (Nat.le_refl _) ?_
        refine c_L_endOf (by omega) (by omega) ⟨by omega, by omega⟩ ?_
        rw [hk, at_in (by omega) (by omega), show σ 5 (O (v + 1)) = _ from e0, show σ 6 (O (v + 1)) = _ from e1, h8.2.2.2.2.1]
        unfold px_pop at hK
        refine wi_ic_lt dc_L_openHolder_22 rfl (fun hf => ?_) (fun hf => ?_)
        · rw [if_neg (by omega)] at hK
          refine wp_iload_n dc_L_openHolder_38 rfl rfl ?_
          refine wp_ireturn dc_L_openHolder_39 rfl rfl hK
        · rw [if_pos (by omega)] at hK
          refine wp_aload_n dc_L_openHolder_25 rfl rfl (wp_iload_n dc_L_openHolder_26 rfl rfl (wi_iconst dc_L_openHolder_27 ?_))
          refine wp_callV (As := [_, _]) dc_L_openHolder_28 lm_L_24 ls_L_of (by decide) rfl rfl (hp_at _ sh_3) rfl rfl (Nat.le_of_ble_eq_true rfl) (Nat.le_refl _) (Nat.le_refl _) ?_
          refine c_L_of (c := 5) (by decide) (by omega) (by omega) ⟨by omega, by omega⟩ ?_
          rw [hk, at_in (by omega) (by omega), e5, h8.2.2.2.1]
          refine wp_is3 dc_L_openHolder_31 (wp_ii4 dc_L_openHolder_32 (wp_goto dc_L_openHolder_35 rfl ?_))
          exact ih (up + 1) ⟨g1, by omega, g3, by have := g7 v (by omega); omega, g5, g6, fun i hi => g7 i (by omega), fun i hi => g8 i (by omega), g9⟩ (by omega) (by omega) hK
theorem c_L_openHolder (hlt : lt_ σ k T) (hk1 : k ≤ 20) (hn : n ≤ 1000) (hg : gi_ n k p v E O T) (hK : K (some (.int (iI (O (px_pop p E v))))) (hp_ σ)) : ct_m l Y_L_openHolder 0 0 [.ref 3, .int (iI (O v)), .int (iI p)] (hp_ σ) K := by
  have g2 := hg.2.1
  refine ct_of (L := [.ref 3, .int (iI (O v)), .int (iI p), .retAddr 0, .retAddr 0]) (by decide +kernel) (Nat.le_of_ble_eq_true rfl) rfl ?_
  refine wp_iload_n dc_L_openHolder_0 rfl rfl (wp_is3 dc_L_openHolder_1 (wi_iconst dc_L_openHolder_2 (wp_is4 dc_L_openHolder_3 ?_)))
  exact lp_L_open hlt hk1 hn hg.2.2.1 v 0 hg (by omega) (by omega) hK
theorem c_L_readBox (hlo : lo_ σ F n) (hlt : lt_ σ k T) (hg : gi_ n k p v E O T) (hk1 : k < 20)
    (hN : px_one F p (E v - p) v = none → K (some (.int (iI 0))) (hp_ σ)) (hS : ∀ s h, px_one F p (E v - p) v = some (s, h) → K (some (.int (iI 1))) (hp_ (s2_ σ k p s (F (p + 1)) h v (O v) (px_kind (F (p + 1)) v)))) : ct_m l Y_L_readBox 0 0 [.ref 3, .int (iI p), .int (iI (E v - p)), .int (iI (O v))] (hp_ σ) K := by
  obtain ⟨a1, a2, a3, a4, a5⟩ := id hlo
  have hEn := gi_En hg
  have hp := hg.2.2.1
  have hE := hg.2.2.2.1
  have hO := gi_O hg
  have hpw : px_one F p (E v - p) v = if E v - p < 2 then none else if E v - p < px_h F p ∨ (F p = 0 ∧ 0 < v) then none else if px_w F p (E v - p) < px_h F p ∨ E v - p < px_w F p (E v - p) then none else some (px_w F p (E v - p), px_h F p) := rfl
  have hh : px_h F p = 2 ∨ px_h F p = 4 := by
    unfold px_h
    split
    · exact Or.inr rfl
    · exact Or.inl rfl
  have hF0 := a5 p
  have hF2 := a5 (p + 2)
  have hF3 := a5 (p + 3)
  have hwr : 0 ≤ px_w F p (E v - p) ∧ px_w F p (E v - p) ≤ 70000 := by
    unfold px_w
    split
    · omega
    split <;> omega
  refine ct_of (L := [.ref 3, .int (iI p), .int (iI (E v - p)), .int (iI (O v)), .retAddr 0, .retAddr 0, .retAddr 0]) (by decide +kernel) (Nat.le_of_ble_eq_true rfl) rfl ?_
  refine wp_iload_n dc_L_readBox_0 rfl rfl (wi_iconst dc_L_readBox_1 ?_)
  refine wi_ic_ge dc_L_readBox_2 rfl (fun hc => ?_) (fun hc => ?_)
  rotate_left
  · refine wi_iconst dc_L_readBox_5 ?_
    refine wp_ireturn dc_L_readBox_6 rfl rfl (hN (by rw [hpw, if_pos (by omega)]))
  suffices K28 : wp_m l Y_L_readBox none 0 0 28 [.ref 3, .int (iI p), .int (iI (E v - p)), .int (iI (O v)), .int (iI (F p)), .retAddr 0, .retAddr 0] [.int (iI (px_h F p))] (hp_ σ) K by
    refine wp_aload_n dc_L_readBox_7 rfl rfl (wi_getR dc_L_readBox_8 lf_L_9 sh_3 rfl (wp_iload_n dc_L_readBox_11 rfl rfl ?_))
    refine wp_callV (As := [_]) dc_L_readBox_12 lm_L_52 ls_B_at (by decide) rfl rfl (hp_at _ sh_1) rfl rfl (Nat.le_of_ble_eq_true rfl) (Nat.le_refl _) (Nat.le_refl _) ?_
    refine c_B_at by_1 (by omega) (by omega) ⟨by omega, by omega⟩ ?_
    rw [a3, at_in (by omega) (by omega), show σ (1 + 1) p = σ 2 p from rfl, a4 p (by omega) (by omega)]
    refine wp_is4 dc_L_readBox_15 (wp_iload dc_L_readBox_17 rfl (wi_iconst dc_L_readBox_19 ?_))
    refine wi_ic_ne dc_L_readBox_20 rfl (fun hd => ?_) (fun hd => ?_)
    · rw [show px_h F p = 2 from if_neg hd] at K28
      refine wi_iconst dc_L_readBox_27 ?_
      exact K28
    · rw [show px_h F p = 4 from if_pos hd] at K28
      refine wi_iconst dc_L_readBox_23 (wp_goto dc_L_readBox_24 rfl ?_)
      exact K28
  refine wp_is5 dc_L_readBox_28 (wp_iload_n dc_L_readBox_30 rfl rfl (wp_iload dc_L_readBox_31 rfl ?_))
  refine wi_ic_lt dc_L_readBox_33 rfl (fun hd => ?_) (fun hd => ?_)
  · refine wi_iconst dc_L_readBox_46 ?_
    refine wp_ireturn dc_L_readBox_47 rfl rfl (hN (by rw [hpw, if_neg (by omega), if_pos (Or.inl hd)]))
  suffices K48 : ¬ (F p = 0 ∧ 0 < v) → wp_m l Y_L_readBox none 0 0 48 [.ref 3, .int (iI p), .int (iI (E v - p)), .int (iI (O v)), .int (iI (F p)), .int (iI (px_h F p)), .retAddr 0] [] (hp_ σ) K by
    refine wp_iload dc_L_readBox_36 rfl ?_
    refine wi_if_ne dc_L_readBox_38 rfl (fun he => ?_) (fun he => ?_)
    · exact K48 (by omega)
    · refine wp_iload_n dc_L_readBox_41 rfl rfl (wi_iconst dc_L_readBox_42 ?_)
      have hk20 : k < 20 := hk1
      refine wi_ic_eq dc_L_readBox_43 rfl (fun hf => ?_) (fun hf => ?_)
      · exact K48 (by omega)
      · refine wi_iconst dc_L_readBox_46 ?_
        refine wp_ireturn dc_L_readBox_47 rfl rfl (hN (by rw [hpw, if_neg (by omega), if_pos (Or.inr ⟨he, by omega⟩)]))
  intro hz
  suffices K81 : wp_m l Y_L_readBox none 0 0 81 [.ref 3, .int (iI p), .int (iI (E v - p)), .int (iI (O v)), .int (iI (F p)), .int (iI (px_h F p)), .int (iI (px_w F p (E v - p)))] [] (hp_ σ) K by
    refine wp_iload dc_L_readBox_48 rfl (wp_is6 dc_L_readBox_50 (wp_iload dc_L_readBox_52 rfl (wi_iconst dc_L_readBox_54 ?_)))
    refine wi_ic_ne dc_L_readBox_55 rfl (fun he => ?_) (fun he => ?_)
    · refine wp_iload dc_L_readBox_73 rfl ?_
      refine wi_if_ne dc_L_readBox_75 rfl (fun hf => ?_) (fun hf => ?_)
      · rw [show px_w F p (E v - p) = F p by unfold px_w; rw [if_neg hf, if_neg he]] at K81
        exact K81
      · rw [show px_w F p (E v - p) = E v - p by unfold px_w; rw [if_pos hf]] at K81
        refine wp_iload_n dc_L_readBox_78 rfl rfl (wp_is6 dc_L_readBox_79 ?_)
        exact K81
    · have h4 : px_h F p = 4 := if_pos he
      rw [show px_w F p (E v - p) = F (p + 2) * 256 + F (p + 2 + 1) by unfold px_w; rw [if_neg (by omega), if_pos he, show p + 2 + 1 = p + 3 by omega]; omega] at K81
      refine wp_aload_n dc_L_readBox_58 rfl rfl (wi_getR dc_L_readBox_59 lf_L_9 sh_3 rfl (wp_iload_n dc_L_readBox_62 rfl rfl (wi_iconst dc_L_readBox_63 (wi_iadd dc_L_readBox_64 ?_))))
      refine wp_callV (As := [_]) dc_L_readBox_65 lm_L_55 ls_B_pairAt (by decide) rfl rfl (hp_at _ sh_1) rfl rfl (Nat.le_of_ble_eq_true rfl) (Nat.le_refl _) (Nat.le_refl _) ?_
      refine c_B_pairAt by_1 (by omega) (by omega) (by omega) (by omega) ?_
      rw [show σ (1 + 1) (p + 2) = σ 2 (p + 2) from rfl, show σ (1 + 1) (p + 2 + 1) = σ 2 (p + 2 + 1) from rfl, a4 (p + 2) (by omega) (by omega), a4 (p + 2 + 1) (by omega) (by omega)]
      refine wp_is6 dc_L_readBox_68 (wp_goto dc_L_readBox_70 rfl ?_)
      exact K81
  refine wp_iload dc_L_readBox_81 rfl (wp_iload dc_L_readBox_83 rfl ?_)
  refine wi_ic_lt dc_L_readBox_85 rfl (fun he => ?_) (fun he => ?_)
  · refine wi_iconst dc_L_readBox_94 ?_
    refine wp_ireturn dc_L_readBox_95 rfl rfl (hN (by rw [hpw, if_neg (by omega), if_neg (by omega), if_pos (Or.inl he)]))
  · refine wp_iload dc_L_readBox_88 rfl (wp_iload_n dc_L_readBox_90 rfl rfl ?_)
    refine wi_ic_le dc_L_readBox_91 rfl (fun hf => ?_) (fun hf => ?_)
    rotate_left
    · refine wi_iconst dc_L_readBox_94 ?_
      refine wp_ireturn dc_L_readBox_95 rfl rfl (hN (by rw [hpw, if_neg (by omega), if_neg (by omega), if_pos (Or.inr (by omega))]))
    · have hk2 := hS (px_w F p (E v - p)) (px_h F p) (by rw [hpw, if_neg (by omega), if_neg (by omega), if_neg (by omega)])
      refine wp_aload_n dc_L_readBox_96 rfl rfl (wp_iload_n dc_L_readBox_97 rfl rfl (wp_iload dc_L_readBox_98 rfl (wp_iload dc_L_readBox_100 rfl (wp_iload_n dc_L_readBox_102 rfl rfl ?_))))
      refine wp_callV (As := [_, _, _, _]) dc_L_readBox_103 lm_L_58 ls_L_note (by decide) rfl rfl (hp_at _ sh_3) rfl rfl (Nat.le_of_ble_eq_true rfl) (Nat.le_refl _) (Nat.le_refl _) ?_
      refine c_L_note hlo hlt hg hk1 (by omega) ?_
      refine wi_iconst dc_L_readBox_106 ?_
      refine wp_ireturn dc_L_readBox_107 rfl rfl hk2
theorem kind_hold {t : Int} {v : Nat} (hv : v ≤ 2) : (px_kind t v = 77 ∨ px_kind t v = 84) ↔ px_hold v t := by
  unfold px_kind
  split <;> omega
theorem lp_L_read {σ0 : sg_} (hlo : lo_ σ0 F n) : ∀ (j : Nat) (k p : Int) (v : Nat) (E O : Nat → Int) (T : px_T) (σ : sg_) (u1 u2 u3 : Value), u1.category = 1 → u2.category = 1 → (20 : Int) - j = k → fr_ rdL σ0 σ → lt_ σ k T → gi_ n k p v E O T →
    (∀ σ', fr_ rdL σ0 σ' → lt_ σ' (px_rd F j k p v E O T).2.1 (px_rd F j k p v E O T).2.2 → K (some (.int (iI (px_rd F j k p v E O T).1))) (hp_ σ')) →
    wp_m l Y_L_read none 0 0 11 [.ref 3, .int (iI p), .int (iI (O v)), .int (iI k), u1, u2, u3] [] (hp_ σ) K := by
  have pre : ∀ (j : Nat) (k p : Int) (v : Nat) (E O : Nat → Int) (T : px_T) (σ : sg_) (u1 u2 u3 : Value), u1.category = 1 → u2.category = 1 → (20 : Int) - j = k → fr_ rdL σ0 σ → lt_ σ k T → gi_ n k p v E O T →
      (p = E (px_pop p E v) → K (some (.int (iI 0))) (hp_ σ)) → (p ≠ E (px_pop p E v) → wp_m l Y_L_read none 0 0 54 [.ref 3, .int (iI p), .int (iI (O (px_pop p E v))), .int (iI k), .int (iI (E (px_pop p E v))), u2, u3] [] (hp_ σ) K) → wp_m l Y_L_read none 0 0 11 [.ref 3, .int (iI p), .int (iI (O v)), .int (iI k), u1, u2, u3] [] (hp_ σ) K := by
    intro j k p v E O T σ u1 u2 u3 hu1 hu2 hj hfr hlt hg hK1 hK2
    have hg' := gi_pop hg
    have hEv := gi_En hg'
    have hO' := gi_O hg'
    have hlo' := hlo.fr hfr (by unfold rdL; omega) (fun j => by unfold rdL; omega)
    obtain ⟨a1, a2, a3, a4, a5⟩ := id hlo'
    obtain ⟨g1, g2, g3, g4, g5, g6, g7, g8, g9⟩ := id hg'
    have hk := hlt.1
    refine wp_iload_n dc_L_read_11 rfl rfl (wi_bipush dc_L_read_12 ?_)
    refine wi_ic_gt dc_L_read_14 rfl (fun hd => ?_) (fun hd => ?_)
    · omega
    refine wp_aload_n dc_L_read_17 rfl rfl (wp_iload_n dc_L_read_18 rfl rfl (wp_iload_n dc_L_read_19 rfl rfl ?_))
    refine wp_callV (As := [_, _]) dc_L_read_20 lm_L_28 ls_L_openHolder (by decide) rfl rfl (hp_at _ sh_3) rfl rfl (Nat.le_of_ble_eq_true rfl) (Nat.le_refl _) (Nat.le_refl _) ?_
    refine c_L_openHolder hlt (by omega) a2 hg ?_
    refine wp_is2 dc_L_read_23 (wp_iload_n dc_L_read_24 rfl rfl (wi_iconst dc_L_read_25 ?_))
    suffices K44 : wp_m l Y_L_read none 0 0 44 [.ref 3, .int (iI p), .int (iI (O (px_pop p E v))), .int (iI k), u1, u2, u3] [.int (iI (E (px_pop p E v)))] (hp_ σ) K by
      generalize px_pop p E v = w at *
      cases w with
      | zero =>
        refine wi_ic_ne dc_L_read_26 rfl (fun he => ?_) (fun he => ?_)
        · omega
        · refine wp_aload_n dc_L_read_29 rfl rfl (wi_getR dc_L_read_30 lf_L_9 sh_3 rfl ?_)
          refine wp_callV (As := []) dc_L_read_33 lm_L_31 ls_B_size (by decide) rfl rfl (hp_at _ sh_1) rfl rfl (Nat.le_of_ble_eq_true rfl) (Nat.le_refl _) (Nat.le_refl _) ?_
          refine c_B_size by_1 ?_
          rw [a3, ← g5]
          refine wp_goto dc_L_read_36 rfl ?_
          exact K44
      | succ w =>
        have h8 := g8 w (by omega)
        refine wi_ic_ne dc_L_read_26 rfl (fun he => ?_) (fun he => ?_)
        · refine wp_aload_n dc_L_read_39 rfl rfl (wp_iload_n dc_L_read_40 rfl rfl ?_)
          refine wp_callV (As := [_]) dc_L_read_41 lm_L_37 ls_L_endOf (by decide) rfl rfl (hp_at _ sh_3) rfl rfl (Nat.le_of_ble_eq_true rfl) (Nat.le_refl _) (Nat.le_refl _) ?_
          refine c_L_endOf (by omega) (by omega) ⟨by omega, by omega⟩ ?_
          rw [hk, at_in (by omega) (by omega), show σ 5 (O (w + 1)) = _ from hlt.2.1 0 (O (w + 1)) (by decide) (by omega) (by omega), show σ 6 (O (w + 1)) = _ from hlt.2.1 1 (O (w + 1)) (by decide) (by omega) (by omega), h8.2.2.2.2.1]
          exact K44
        · omega
    refine wp_is4 dc_L_read_44 (wp_iload_n dc_L_read_46 rfl rfl (wp_iload dc_L_read_47 rfl ?_))
    refine wi_ic_lt dc_L_read_49 rfl (fun he => ?_) (fun he => ?_)
    · exact hK2 (by omega)
    · refine wi_iconst dc_L_read_52 ?_
      refine wp_ireturn dc_L_read_53 rfl rfl (hK1 (by omega))
  intro j
  induction j with
  | zero =>
    intro k p v E O T σ u1 u2 u3 hu1 hu2 hj hfr hlt hg hK
    unfold px_rd at hK
    have hk := hlt.1
    refine pre 0 k p v E O T σ u1 u2 u3 hu1 hu2 hj hfr hlt hg (fun he => ?_) (fun he => ?_)
    · rw [if_pos he] at hK
      exact hK σ hfr hlt
    · rw [if_neg he] at hK
      refine wp_aload_n dc_L_read_54 rfl rfl (wi_getE 2 (k) dc_L_read_55 lf_L_20 sh_3 rfl rfl hk (wi_bipush dc_L_read_58 ?_))
      refine wi_ic_lt dc_L_read_60 rfl (fun hf => ?_) (fun hf => ?_)
      · omega
      · refine wi_iconst dc_L_read_63 ?_
        refine wp_ireturn dc_L_read_64 rfl rfl (hK σ hfr hlt)
  | succ j ih =>
    intro k p v E O T σ u1 u2 u3 hu1 hu2 hj hfr hlt hg hK
    unfold px_rd at hK
    have hk := hlt.1
    refine pre (j + 1) k p v E O T σ u1 u2 u3 hu1 hu2 hj hfr hlt hg (fun he => ?_) (fun he => ?_)
    · rw [if_pos he] at hK
      exact hK σ hfr hlt
    rw [if_neg he] at hK
    have hg' := gi_pop hg
    have hlo' := hlo.fr hfr (by unfold rdL; omega) (fun j => by unfold rdL; omega)
    obtain ⟨a1, a2, a3, a4, a5⟩ := id hlo'
    obtain ⟨g1, g2, g3, g4, g5, g6, g7, g8, g9⟩ := id hg'
    have hEv := gi_En hg'
    have hO' := gi_O hg'
    generalize hw : px_pop p E v = w at *
    refine wp_aload_n dc_L_read_54 rfl rfl (wi_getE 2 (k) dc_L_read_55 lf_L_20 sh_3 rfl rfl hk (wi_bipush dc_L_read_58 ?_))
    refine wi_ic_lt dc_L_read_60 rfl (fun hf => ?_) (fun hf => ?_)
    rotate_left
    · omega
    refine wp_aload_n dc_L_read_65 rfl rfl (wp_iload_n dc_L_read_66 rfl rfl (wp_iload dc_L_read_67 rfl (wp_iload_n dc_L_read_69 rfl rfl (wi_isub dc_L_read_70 (wp_iload_n dc_L_read_71 rfl rfl ?_)))))
    refine wp_callV (As := [_, _, _]) dc_L_read_72 lm_L_41 ls_L_readBox (by decide) rfl rfl (hp_at _ sh_3) rfl rfl (Nat.le_of_ble_eq_true rfl) (Nat.le_refl _) (Nat.le_refl _) ?_
    refine c_L_readBox hlo' hlt hg' (by omega) (fun ho => ?_) (fun s h ho => ?_)
    · rw [ho] at hK
      refine wi_if_ne dc_L_read_75 rfl (fun hx => ?_) (fun hx => ?_)
      · omega
      · refine wi_iconst dc_L_read_78 ?_
        refine wp_ireturn dc_L_read_79 rfl rfl (hK σ hfr hlt)
    · rw [ho] at hK
      dsimp only at hK
      obtain ⟨o1, o2, o3, o4, o5, o6, o7, o8⟩ := one_spec ho
      have hlt1 := s2_lt (a := p) (s := s) (t := F (p + 1)) (h := h) (v := w) (o := O w) hlt
      have hfr1 := hfr.tr (s2_fr σ k p s (F (p + 1)) h w (O w) (px_kind (F (p + 1)) w))
      have hk1 := hlt1.1
      have t0 := hlt1.2.1 0 k (by decide) g1 (by omega)
      have t1 := hlt1.2.1 1 k (by decide) g1 (by omega)
      have t3 := hlt1.2.1 3 k (by decide) g1 (by omega)
      have t6 := hlt1.2.2 k g1 (by omega)
      rw [put_0] at t0
      rw [put_1] at t1
      rw [put_3] at t3
      rw [put_2, put_4] at t6
      have hF1 := a5 (p + 1)
      have hkr : rg (px_kind (F (p + 1)) w) := by
        unfold px_kind
        split <;> (constructor <;> omega)
      generalize s2_ σ k p s (F (p + 1)) h w (O w) (px_kind (F (p + 1)) w) = σ1 at *
      refine wi_if_ne dc_L_read_75 rfl (fun hx => ?_) (fun hx => ?_)
      rotate_left
      · omega
      refine wp_aload_n dc_L_read_80 rfl rfl (wi_getE 2 (k + 1) dc_L_read_81 lf_L_20 sh_3 rfl rfl hk1 (wi_iconst dc_L_read_84 (wi_isub dc_L_read_85 (wp_is5 dc_L_read_86 (wp_aload_n dc_L_read_88 rfl rfl (wp_iload dc_L_read_89 rfl ?_))))))
      rw [show k + 1 - 1 = k by omega]
      refine wp_callV (As := [_]) dc_L_read_91 lm_L_45 ls_L_holdsBoxes (by decide) rfl rfl (hp_at _ sh_3) rfl rfl (Nat.le_of_ble_eq_true rfl) (Nat.le_refl _) (Nat.le_refl _) ?_
      refine c_L_holdsBoxes (by omega) (by omega) g1 (by omega) (by rw [t6]; exact hkr) ?_
      rw [t6]
      by_cases hh : px_hold w (F (p + 1))
      · rw [if_pos hh] at hK
        rw [if_pos ((kind_hold g2).mpr hh)]
        have hgn := gi_hold a5 hg' ho hh
        refine wp_is6 dc_L_read_94 (wp_iload dc_L_read_96 rfl ?_)
        refine wi_if_eq dc_L_read_98 rfl (fun hy => ?_) (fun hy => ?_)
        · omega
        refine wp_iload dc_L_read_101 rfl (wp_goto dc_L_read_103 rfl (wp_is2 dc_L_read_107 (wp_iload dc_L_read_108 rfl ?_)))
        refine wi_if_eq dc_L_read_110 rfl (fun hz => ?_) (fun hz => ?_)
        · omega
        refine wp_aload_n dc_L_read_113 rfl rfl (wp_iload dc_L_read_114 rfl ?_)
        refine wp_callV (As := [_]) dc_L_read_116 lm_L_49 ls_L_payloadOf (by decide) rfl rfl (hp_at _ sh_3) rfl rfl (Nat.le_of_ble_eq_true rfl) (Nat.le_refl _) (Nat.le_refl _) ?_
        refine c_L_payloadOf (by omega) (by omega) ⟨by omega, by omega⟩ ?_
        rw [hk1, at_in (by omega) (by omega), show σ1 5 k = p from t0, show σ1 8 k = h from t3]
        refine wp_goto dc_L_read_119 rfl (wp_is1 dc_L_read_128 (wp_ii3 dc_L_read_129 (wp_goto dc_L_read_132 rfl ?_)))
        have e1 : k = px_upN O (w + 1) k (w + 1) := (upN_s O (w + 1) k).symm
        have ih' := ih (k + 1) (p + h) (w + 1) _ _ _ σ1 (.int (iI (E w))) (.int (iI k)) (.int (iI 1)) rfl rfl (by omega) hfr1 hlt1 hgn hK
        rw [upN_s] at ih'
        exact ih'
      · rw [if_neg hh] at hK
        rw [if_neg (fun q => hh ((kind_hold g2).mp q))]
        refine wp_is6 dc_L_read_94 (wp_iload dc_L_read_96 rfl ?_)
        refine wi_if_eq dc_L_read_98 rfl (fun hy => ?_) (fun hy => ?_)
        rotate_left
        · omega
        refine wp_iload_n dc_L_read_106 rfl rfl (wp_is2 dc_L_read_107 (wp_iload dc_L_read_108 rfl ?_))
        refine wi_if_eq dc_L_read_110 rfl (fun hz => ?_) (fun hz => ?_)
        rotate_left
        · omega
        refine wp_aload_n dc_L_read_122 rfl rfl (wp_iload dc_L_read_123 rfl ?_)
        refine wp_callV (As := [_]) dc_L_read_125 lm_L_37 ls_L_endOf (by decide) rfl rfl (hp_at _ sh_3) rfl rfl (Nat.le_of_ble_eq_true rfl) (Nat.le_refl _) (Nat.le_refl _) ?_
        refine c_L_endOf (by omega) (by omega) ⟨by omega, by omega⟩ ?_
        rw [hk1, at_in (by omega) (by omega), show σ1 5 k = p from t0, show σ1 6 k = s from t1]
        refine wp_is1 dc_L_read_128 (wp_ii3 dc_L_read_129 (wp_goto dc_L_read_132 rfl ?_))
        exact ih (k + 1) (p + s) w E O _ σ1 (.int (iI (E w))) (.int (iI k)) (.int (iI 0)) rfl rfl (by omega) hfr1 hlt1 (gi_put a5 hg' ho) hK
theorem c_L_read (hlo : lo_ σ F n) (hK : ∀ σ', fr_ rdL σ σ' → lt_ σ' (px_ F n).2.1 (px_ F n).2.2 → K (some (.int (iI (px_ F n).1))) (hp_ σ')) : ct_m l Y_L_read 0 0 [.ref 3] (hp_ σ) K := by
  refine ct_of (L := [.ref 3, .retAddr 0, .retAddr 0, .retAddr 0, .retAddr 0, .retAddr 0, .retAddr 0]) (by decide +kernel) (Nat.le_of_ble_eq_true rfl) rfl ?_
  refine wp_aload_n dc_L_read_0 rfl rfl (wi_iconst dc_L_read_1 (wi_putI 2 dc_L_read_2 lf_L_20 sh_3 rfl rfl pv_int (wi_iconst dc_L_read_5 (wp_is1 dc_L_read_6 (wi_iconst dc_L_read_7 (wp_is2 dc_L_read_8 (wi_iconst dc_L_read_9 (wp_is3 dc_L_read_10 ?_))))))))
  refine lp_L_read (n := n) hlo 20 0 0 0 (fun _ => n) (fun _ => -1) (fun _ _ => 0) _ _ _ _ rfl rfl (by omega) (fr_.rf.up ?_) ⟨?_, fun c i _ h0 h1 => by omega, fun i h0 h1 => by omega⟩ (gi_0 hlo.1) hK
  · unfold rdL; omega
  · simp [up_]
end RM
