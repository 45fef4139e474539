/-! fastStart: the class's measure, its pieces -/
section FC
variable {l : Launch} {σ : sg_} {K : Option Value → mx_H → Prop} {F W : Int → Int} {n N : Int} {T : px_T} {k : Int}
theorem c_L_holdsBoxes' (hlt : lt_ σ N T) (htt : tt_ n N T) (k0 : 0 ≤ k) (k1 : k < N) (h1 : (T 4 k = 0 ∧ T 2 k = 77) ∨ (T 4 k = 1 ∧ T 2 k = 84) → K (some (.int (iI 1))) (hp_ σ)) (h0 : ¬ ((T 4 k = 0 ∧ T 2 k = 77) ∨ (T 4 k = 1 ∧ T 2 k = 84)) → K (some (.int (iI 0))) (hp_ σ)) : ct_m l Y_L_holdsBoxes 0 0 [.ref 3, .int (iI k)] (hp_ σ) K := by
  have t1 := htt.1
  have t2 := htt.2.1
  have b1 := htt.2.2.1 k k0 k1
  have e := hlt.2.2 k k0 k1
  have m1 := kd_mv b1
  have m2 := kd_tk b1
  have kr := kd_rg b1
  refine c_L_holdsBoxes (by rw [hlt.1]; omega) (by rw [hlt.1]; omega) k0 (by rw [hlt.1]; omega) (by rw [e]; exact ⟨by omega, by omega⟩) ?_
  rw [e]
  by_cases h : (T 4 k = 0 ∧ T 2 k = 77) ∨ (T 4 k = 1 ∧ T 2 k = 84)
  · rw [if_pos (h.imp m1.mpr m2.mpr)]
    exact h1 h
  · rw [if_neg (fun q => h (q.imp m1.mp m2.mp))]
    exact h0 h
theorem c_V_ownPayload (hlo : lo_ σ F n) (hlt : lt_ σ N T) (htt : tt_ n N T) (k0 : 0 ≤ k) (k1 : k < N) (hw : σ 48 k = W k) (hw01 : W k = 0 ∨ W k = 1) (hpl : W k = 1 → 1 ≤ pl_ T k) (hK : K (some (.int (iI (ow_ F T W k)))) (hp_ σ)) : ct_m l Y_V_ownPayload 0 0 [.ref 45, .int (iI k)] (hp_ σ) K := by
  have t2 := htt.2.1
  unfold ow_ at hK
  refine ct_of (L := [.ref 45, .int (iI k), .retAddr 0]) (by decide +kernel) (Nat.le_of_ble_eq_true rfl) rfl ?_
  refine wp_aload_n dc_V_ownPayload_0 rfl rfl (wi_getR dc_V_ownPayload_1 lf_V_15 sh_45 rfl (wp_iload_n dc_V_ownPayload_4 rfl rfl ?_))
  refine wp_callV (As := [_]) dc_V_ownPayload_5 lm_V_95 ls_L_holdsBoxes (by decide) rfl rfl (hp_at _ sh_3) rfl rfl (Nat.le_of_ble_eq_true rfl) (Nat.le_refl _) (Nat.le_refl _) ?_
  refine c_L_holdsBoxes' hlt htt k0 k1 (fun h => ?_) (fun h => ?_)
  · rw [if_pos h] at hK
    refine wi_if_eq dc_V_ownPayload_8 rfl (fun hd => ?_) (fun hd => ?_)
    · omega
    refine wi_iconst dc_V_ownPayload_11 ?_
    refine wp_ireturn dc_V_ownPayload_12 rfl rfl hK
  · rw [if_neg h] at hK
    refine wi_if_eq dc_V_ownPayload_8 rfl (fun hd => ?_) (fun hd => ?_)
    rotate_left
    · omega
    refine wp_aload_n dc_V_ownPayload_13 rfl rfl (wi_getR dc_V_ownPayload_14 lf_V_15 sh_45 rfl (wp_iload_n dc_V_ownPayload_17 rfl rfl ?_))
    refine wp_callV (As := [_]) dc_V_ownPayload_18 lm_V_99 ls_L_payloadSizeOf (by decide) rfl rfl (hp_at _ sh_3) rfl rfl (Nat.le_of_ble_eq_true rfl) (Nat.le_refl _) (Nat.le_refl _) ?_
    refine c_L_payloadSizeOf' hlt htt k0 k1 ?_
    refine wp_is2 dc_V_ownPayload_21 (wp_aload_n dc_V_ownPayload_22 rfl rfl (wi_getR dc_V_ownPayload_23 lf_V_25 sh_45 rfl (wp_iload_n dc_V_ownPayload_26 rfl rfl (wi_baldE (W k) dc_V_ownPayload_27 sh_48 (by omega) (by omega) (by decide) hw ?_))))
    refine wi_if_eq dc_V_ownPayload_28 rfl (fun he => ?_) (fun he => ?_)
    · rw [if_neg (by omega)] at hK
      refine wp_iload_n dc_V_ownPayload_41 rfl rfl ?_
      refine wp_ireturn dc_V_ownPayload_42 rfl rfl hK
    · rw [if_pos (by omega)] at hK
      refine wp_iload_n dc_V_ownPayload_31 rfl rfl (wp_aload_n dc_V_ownPayload_32 rfl rfl (wp_iload_n dc_V_ownPayload_33 rfl rfl ?_))
      refine wp_callV (As := [_]) dc_V_ownPayload_34 lm_V_102 ls_V_rowsOf (by decide) rfl rfl (hp_at _ sh_45) rfl rfl (Nat.le_of_ble_eq_true rfl) (Nat.le_refl _) (Nat.le_refl _) ?_
      refine c_V_rowsOf hlo hlt htt k0 k1 (hpl (by omega)) ?_
      refine wi_iadd dc_V_ownPayload_37 (wp_goto dc_V_ownPayload_38 rfl ?_)
      refine wp_ireturn dc_V_ownPayload_42 rfl rfl hK
theorem c_V_newHeader {p : Int} (hlt : lt_ σ N T) (htt : tt_ n N T) (k0 : 0 ≤ k) (k1 : k < N) (hp : σ 49 k = p) (hpr : 0 ≤ p ∧ p ≤ 2000000000) (hK : K (some (.int (iI (hd_ T k p)))) (hp_ σ)) : ct_m l Y_V_newHeader 0 0 [.ref 45, .int (iI k)] (hp_ σ) K := by
  have t1 := htt.1
  have t2 := htt.2.1
  have bx := htt.2.2.1 k k0 k1
  unfold bx_ at bx
  unfold hd_ at hK
  have K19 : ∀ o : Int, (o = 1 ∧ p + 2 ≤ 255) ∨ (o = 0 ∧ ¬ p + 2 ≤ 255) → wp_m l Y_V_newHeader none 0 0 19 [.ref 45, .int (iI k), .retAddr 0, .retAddr 0] [.int (iI o)] (hp_ σ) K := fun o ho => by
    have K38 : ∀ s : Int, (s = 1 ∧ T 3 k = 2) ∨ (s = 0 ∧ ¬ T 3 k = 2) → wp_m l Y_V_newHeader none 0 0 38 [.ref 45, .int (iI k), .int (iI o), .retAddr 0] [.int (iI s)] (hp_ σ) K := fun s hs => by
      have four : ¬ (T 3 k = 2 ∧ p + 2 ≤ 255) → wp_m l Y_V_newHeader none 0 0 51 [.ref 45, .int (iI k), .int (iI o), .int (iI s)] [] (hp_ σ) K := fun hn => by
        rw [if_neg hn] at hK
        refine wi_iconst dc_V_newHeader_51 ?_
        refine wp_ireturn dc_V_newHeader_52 rfl rfl hK
      refine wp_is3 dc_V_newHeader_38 (wp_iload_n dc_V_newHeader_39 rfl rfl ?_)
      refine wi_if_eq dc_V_newHeader_40 rfl (fun he => four (by omega)) (fun he => ?_) ⟨by omega, by omega⟩
      refine wp_iload_n dc_V_newHeader_43 rfl rfl ?_
      refine wi_if_eq dc_V_newHeader_44 rfl (fun hg => four (by omega)) (fun hg => ?_) ⟨by omega, by omega⟩
      rw [if_pos (by omega)] at hK
      refine wi_iconst dc_V_newHeader_47 (wp_goto dc_V_newHeader_48 rfl ?_)
      refine wp_ireturn dc_V_newHeader_52 rfl rfl hK
    refine wp_is2 dc_V_newHeader_19 (wp_aload_n dc_V_newHeader_20 rfl rfl (wi_getR dc_V_newHeader_21 lf_V_15 sh_45 rfl (wp_iload_n dc_V_newHeader_24 rfl rfl (wi_iconst dc_V_newHeader_25 ?_))))
    refine wp_callV (As := [_, _]) dc_V_newHeader_26 lm_V_52 ls_L_of (by decide) rfl rfl (hp_at _ sh_3) rfl rfl (Nat.le_of_ble_eq_true rfl) (Nat.le_refl _) (Nat.le_refl _) ?_
    refine c_L_of (c := 3) (by decide) (by rw [hlt.1]; omega) (by rw [hlt.1]; omega) ⟨by omega, by omega⟩ ?_
    rw [hlt.1, at_in k0 k1, show σ (5 + 3) k = T 3 k from hlt.2.1 3 k (by decide) k0 k1]
    refine wi_iconst dc_V_newHeader_29 ?_
    refine wi_ic_ne dc_V_newHeader_30 rfl (fun he => ?_) (fun he => ?_)
    · refine wi_iconst dc_V_newHeader_37 ?_
      exact K38 0 (Or.inr ⟨rfl, he⟩)
    · refine wi_iconst dc_V_newHeader_33 (wp_goto dc_V_newHeader_34 rfl ?_)
      exact K38 1 (Or.inl ⟨rfl, he⟩)
  refine ct_of (L := [.ref 45, .int (iI k), .retAddr 0, .retAddr 0]) (by decide +kernel) (Nat.le_of_ble_eq_true rfl) rfl ?_
  refine wp_aload_n dc_V_newHeader_0 rfl rfl (wi_getR dc_V_newHeader_1 lf_V_29 sh_45 rfl (wp_iload_n dc_V_newHeader_4 rfl rfl (wi_aldE (p) dc_V_newHeader_5 sh_49 (by omega) (by omega) (by decide) hp (wi_iconst dc_V_newHeader_6 (wi_iadd dc_V_newHeader_7 (wi_sipush dc_V_newHeader_8 ?_))))))
  refine wi_ic_gt dc_V_newHeader_11 rfl (fun hd => ?_) (fun hd => ?_)
  · refine wi_iconst dc_V_newHeader_18 ?_
    exact K19 0 (Or.inr ⟨rfl, by omega⟩)
  · refine wi_iconst dc_V_newHeader_14 (wp_goto dc_V_newHeader_15 rfl ?_)
    exact K19 1 (Or.inl ⟨rfl, by omega⟩)
end FC
