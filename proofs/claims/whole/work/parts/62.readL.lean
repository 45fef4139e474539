/-! the class's reading -/
def lo_ (σ : sg_) (F : Int → Int) (n : Int) : Prop := 0 ≤ n ∧ n ≤ 1000 ∧ σ 1 1 = n ∧ (∀ i, 0 ≤ i → i < n → σ 2 i = F i) ∧ ∀ i, 0 ≤ F i ∧ F i < 256
def rdL (b : Nat) (j : Int) : Prop := (b = 3 ∧ j = 2) ∨ (5 ≤ b ∧ b ≤ 11)
theorem lo_.fr {σ σ' : sg_} {F : Int → Int} {n : Int} {P : Nat → Int → Prop} (h : lo_ σ F n) (hf : fr_ P σ σ') (h1 : ¬ P 1 1) (h2 : ∀ j, ¬ P 2 j) : lo_ σ' F n := by
  obtain ⟨a1, a2, a3, a4, a5⟩ := h
  exact ⟨a1, a2, by rw [hf 1 1 h1]; exact a3, fun i i0 i1 => by rw [hf 2 i (h2 i)]; exact a4 i i0 i1, a5⟩
def px_tab (t : Int) : Prop := t = 79 ∨ t = 99 ∨ t = 101 ∨ t = 107 ∨ t = 111 ∨ t = 115 ∨ t = 121 ∨ t = 122
theorem px_tabD (t : Int) : px_tab t ∨ ¬ px_tab t := Classical.em _
noncomputable def px_kind (t v : Int) : Int := if (v = 0 ∧ (t = 77 ∨ t = 68)) ∨ (v = 1 ∧ t = 84) ∨ (v ≠ 0 ∧ v ≠ 1 ∧ (t = 79 ∨ t = 99 ∨ t = 101 ∨ t = 107 ∨ t = 111 ∨ t = 115 ∨ t = 121 ∨ t = 122)) then t else -1
/-- the class's table of k boxes -/
def lt_ (σ : sg_) (k : Int) (T : px_T) : Prop := σ 3 2 = k ∧ (∀ (c : Nat) (i : Int), c < 6 → 0 ≤ i → i < k → σ (5 + c) i = T c i) ∧ ∀ i, 0 ≤ i → i < k → σ 11 i = px_kind (T 2 i) (T 4 i)
theorem sh_col {c : Nat} (hc : c < 7) : SH[5 + c]? = some (.inl (0, 20, .inl (fun _ => 0))) := by
  match c, hc with
  | 0, _ => rfl
  | 1, _ => rfl
  | 2, _ => rfl
  | 3, _ => rfl
  | 4, _ => rfl
  | 5, _ => rfl
  | 6, _ => rfl
section RL
variable {l : Launch} {σ : sg_} {K : Option Value → mx_H → Prop} {F : Int → Int} {n k p i : Int} {v : Nat} {E O : Nat → Int} {T : px_T}
theorem c_L_size (hK : K (some (.int (iI (σ 3 2)))) (hp_ σ)) : ct_m l Y_L_size 0 0 [.ref 3] (hp_ σ) K := by
  refine ct_of (L := [.ref 3]) (by decide +kernel) (Nat.le_of_ble_eq_true rfl) rfl ?_
  refine wp_aload_n dc_L_size_0 rfl rfl (wi_getI 2 dc_L_size_1 lf_L_20 sh_3 rfl rfl ?_)
  refine wp_ireturn dc_L_size_4 rfl rfl hK
theorem c_L_of {c : Nat} (hc : c < 7) (h0 : 0 ≤ σ 3 2) (h1 : σ 3 2 ≤ 20) (hi : rg i) (hK : K (some (.int (iI (at_ (σ (5 + c)) (σ 3 2) i)))) (hp_ σ)) : ct_m l Y_L_of 0 0 [.ref 3, .int (iI i), .int (iI c)] (hp_ σ) K := by
  refine ct_of (L := [.ref 3, .int (iI i), .int (iI c)]) (by decide +kernel) (Nat.le_of_ble_eq_true rfl) rfl ?_
  refine wp_iload_n dc_L_of_0 rfl rfl ?_
  refine wi_if_lt dc_L_of_1 rfl (fun hd => ?_) (fun hd => ?_)
  · rw [at_out (by omega)] at hK
    refine wi_sipush dc_L_of_22 ?_
    refine wp_ireturn dc_L_of_25 rfl rfl hK
  · refine wp_iload_n dc_L_of_4 rfl rfl (wp_aload_n dc_L_of_5 rfl rfl (wi_getI 2 dc_L_of_6 lf_L_20 sh_3 rfl rfl ?_))
    refine wi_ic_ge dc_L_of_9 rfl (fun he => ?_) (fun he => ?_)
    · rw [at_out (by omega)] at hK
      refine wi_sipush dc_L_of_22 ?_
      refine wp_ireturn dc_L_of_25 rfl rfl hK
    · refine wp_iload_n dc_L_of_12 rfl rfl ?_
      refine wi_if_lt dc_L_of_13 rfl (fun hf => ?_) (fun hf => ?_)
      · omega
      · refine wp_iload_n dc_L_of_16 rfl rfl (wi_bipush dc_L_of_17 ?_)
        refine wi_ic_lt dc_L_of_19 rfl (fun hg => ?_) (fun hg => ?_)
        · rw [at_in (by omega) (by omega)] at hK
          refine wp_aload_n dc_L_of_26 rfl rfl (wi_getR dc_L_of_27 lf_L_17 sh_3 rfl (wp_iload_n dc_L_of_30 rfl rfl (wi_aald dc_L_of_31 sh_4 rfl rfl (by omega) (by omega) (by decide) (j := 5 + c) (by rw [Int.toNat_natCast, if_pos hc]) (wp_iload_n dc_L_of_32 rfl rfl (wi_ald dc_L_of_33 (sh_col hc) (by omega) (by omega) (by decide) ?_)))))
          refine wp_ireturn dc_L_of_34 rfl rfl hK
        · omega
theorem c_L_endOf (h0 : 0 ≤ σ 3 2) (h1 : σ 3 2 ≤ 20) (hi : rg i) (hK : K (some (.int (iI (at_ (fun i => σ 5 i + σ 6 i) (σ 3 2) i)))) (hp_ σ)) : ct_m l Y_L_endOf 0 0 [.ref 3, .int (iI i)] (hp_ σ) K := by
  refine ct_of (L := [.ref 3, .int (iI i)]) (by decide +kernel) (Nat.le_of_ble_eq_true rfl) rfl ?_
  refine wp_iload_n dc_L_endOf_0 rfl rfl ?_
  refine wi_if_lt dc_L_endOf_1 rfl (fun hd => ?_) (fun hd => ?_)
  · rw [at_out (by omega)] at hK
    refine wi_sipush dc_L_endOf_32 ?_
    refine wp_ireturn dc_L_endOf_35 rfl rfl hK
  · refine wp_iload_n dc_L_endOf_4 rfl rfl (wp_aload_n dc_L_endOf_5 rfl rfl (wi_getI 2 dc_L_endOf_6 lf_L_20 sh_3 rfl rfl ?_))
    refine wi_ic_ge dc_L_endOf_9 rfl (fun he => ?_) (fun he => ?_)
    · rw [at_out (by omega)] at hK
      refine wi_sipush dc_L_endOf_32 ?_
      refine wp_ireturn dc_L_endOf_35 rfl rfl hK
    · rw [at_in (by omega) (by omega)] at hK
      refine wp_aload_n dc_L_endOf_12 rfl rfl (wi_getR dc_L_endOf_13 lf_L_17 sh_3 rfl (wi_iconst dc_L_endOf_16 (wi_aald dc_L_endOf_17 sh_4 rfl rfl (by decide) (by decide) (by decide) rfl (wp_iload_n dc_L_endOf_18 rfl rfl (wi_ald dc_L_endOf_19 sh_5 (by omega) (by omega) (by decide) (wp_aload_n dc_L_endOf_20 rfl rfl (wi_getR dc_L_endOf_21 lf_L_17 sh_3 rfl (wi_iconst dc_L_endOf_24 (wi_aald dc_L_endOf_25 sh_4 rfl rfl (by decide) (by decide) (by decide) rfl (wp_iload_n dc_L_endOf_26 rfl rfl (wi_ald dc_L_endOf_27 sh_6 (by omega) (by omega) (by decide) (wi_iadd dc_L_endOf_28 (wp_goto dc_L_endOf_29 rfl ?_)))))))))))))
      refine wp_ireturn dc_L_endOf_35 rfl rfl hK
theorem c_L_payloadOf (h0 : 0 ≤ σ 3 2) (h1 : σ 3 2 ≤ 20) (hi : rg i) (hK : K (some (.int (iI (at_ (fun i => σ 5 i + σ 8 i) (σ 3 2) i)))) (hp_ σ)) : ct_m l Y_L_payloadOf 0 0 [.ref 3, .int (iI i)] (hp_ σ) K := by
  refine ct_of (L := [.ref 3, .int (iI i)]) (by decide +kernel) (Nat.le_of_ble_eq_true rfl) rfl ?_
  refine wp_iload_n dc_L_payloadOf_0 rfl rfl ?_
  refine wi_if_lt dc_L_payloadOf_1 rfl (fun hd => ?_) (fun hd => ?_)
  · rw [at_out (by omega)] at hK
    refine wi_sipush dc_L_payloadOf_32 ?_
    refine wp_ireturn dc_L_payloadOf_35 rfl rfl hK
  · refine wp_iload_n dc_L_payloadOf_4 rfl rfl (wp_aload_n dc_L_payloadOf_5 rfl rfl (wi_getI 2 dc_L_payloadOf_6 lf_L_20 sh_3 rfl rfl ?_))
    refine wi_ic_ge dc_L_payloadOf_9 rfl (fun he => ?_) (fun he => ?_)
    · rw [at_out (by omega)] at hK
      refine wi_sipush dc_L_payloadOf_32 ?_
      refine wp_ireturn dc_L_payloadOf_35 rfl rfl hK
    · rw [at_in (by omega) (by omega)] at hK
      refine wp_aload_n dc_L_payloadOf_12 rfl rfl (wi_getR dc_L_payloadOf_13 lf_L_17 sh_3 rfl (wi_iconst dc_L_payloadOf_16 (wi_aald dc_L_payloadOf_17 sh_4 rfl rfl (by decide) (by decide) (by decide) rfl (wp_iload_n dc_L_payloadOf_18 rfl rfl (wi_ald dc_L_payloadOf_19 sh_5 (by omega) (by omega) (by decide) (wp_aload_n dc_L_payloadOf_20 rfl rfl (wi_getR dc_L_payloadOf_21 lf_L_17 sh_3 rfl (wi_iconst dc_L_payloadOf_24 (wi_aald dc_L_payloadOf_25 sh_4 rfl rfl (by decide) (by decide) (by decide) rfl (wp_iload_n dc_L_payloadOf_26 rfl rfl (wi_ald dc_L_payloadOf_27 sh_8 (by omega) (by omega) (by decide) (wi_iadd dc_L_payloadOf_28 (wp_goto dc_L_payloadOf_29 rfl ?_)))))))))))))
      refine wp_ireturn dc_L_payloadOf_35 rfl rfl hK
theorem c_L_payloadSizeOf (h0 : 0 ≤ σ 3 2) (h1 : σ 3 2 ≤ 20) (hi : rg i) (hK : K (some (.int (iI (at_ (fun i => σ 6 i - σ 8 i) (σ 3 2) i)))) (hp_ σ)) : ct_m l Y_L_payloadSizeOf 0 0 [.ref 3, .int (iI i)] (hp_ σ) K := by
  refine ct_of (L := [.ref 3, .int (iI i)]) (by decide +kernel) (Nat.le_of_ble_eq_true rfl) rfl ?_
  refine wp_iload_n dc_L_payloadSizeOf_0 rfl rfl ?_
  refine wi_if_lt dc_L_payloadSizeOf_1 rfl (fun hd => ?_) (fun hd => ?_)
  · rw [at_out (by omega)] at hK
    refine wi_sipush dc_L_payloadSizeOf_32 ?_
    refine wp_ireturn dc_L_payloadSizeOf_35 rfl rfl hK
  · refine wp_iload_n dc_L_payloadSizeOf_4 rfl rfl (wp_aload_n dc_L_payloadSizeOf_5 rfl rfl (wi_getI 2 dc_L_payloadSizeOf_6 lf_L_20 sh_3 rfl rfl ?_))
    refine wi_ic_ge dc_L_payloadSizeOf_9 rfl (fun he => ?_) (fun he => ?_)
    · rw [at_out (by omega)] at hK
      refine wi_sipush dc_L_payloadSizeOf_32 ?_
      refine wp_ireturn dc_L_payloadSizeOf_35 rfl rfl hK
    · rw [at_in (by omega) (by omega)] at hK
      refine wp_aload_n dc_L_payloadSizeOf_12 rfl rfl (wi_getR dc_L_payloadSizeOf_13 lf_L_17 sh_3 rfl (wi_iconst dc_L_payloadSizeOf_16 (wi_aald dc_L_payloadSizeOf_17 sh_4 rfl rfl (by decide) (by decide) (by decide) rfl (wp_iload_n dc_L_payloadSizeOf_18 rfl rfl (wi_ald dc_L_payloadSizeOf_19 sh_6 (by omega) (by omega) (by decide) (wp_aload_n dc_L_payloadSizeOf_20 rfl rfl (wi_getR dc_L_payloadSizeOf_21 lf_L_17 sh_3 rfl (wi_iconst dc_L_payloadSizeOf_24 (wi_aald dc_L_payloadSizeOf_25 sh_4 rfl rfl (by decide) (by decide) (by decide) rfl (wp_iload_n dc_L_payloadSizeOf_26 rfl rfl (wi_ald dc_L_payloadSizeOf_27 sh_8 (by omega) (by omega) (by decide) (wi_isub dc_L_payloadSizeOf_28 (wp_goto dc_L_payloadSizeOf_29 rfl ?_)))))))))))))
      refine wp_ireturn dc_L_payloadSizeOf_35 rfl rfl hK
theorem c_L_holdsBoxes (h0 : 0 ≤ σ 3 2) (h1 : σ 3 2 ≤ 20) (hi0 : 0 ≤ i) (hi1 : i < σ 3 2) (hr : rg (σ 11 i)) (hK : K (some (.int (iI (if σ 11 i = 77 ∨ σ 11 i = 84 then 1 else 0)))) (hp_ σ)) : ct_m l Y_L_holdsBoxes 0 0 [.ref 3, .int (iI i)] (hp_ σ) K := by
  refine ct_of (L := [.ref 3, .int (iI i), .retAddr 0]) (by decide +kernel) (Nat.le_of_ble_eq_true rfl) rfl ?_
  refine wp_aload_n dc_L_holdsBoxes_0 rfl rfl (wp_iload_n dc_L_holdsBoxes_1 rfl rfl (wi_bipush dc_L_holdsBoxes_2 ?_))
  refine wp_callV (As := [_, _]) dc_L_holdsBoxes_4 lm_L_24 ls_L_of (by decide) rfl rfl (hp_at _ sh_3) rfl rfl (Nat.le_of_ble_eq_true rfl) (Nat.le_refl _) (Nat.le_refl _) ?_
  refine c_L_of (c := 6) (by decide) h0 h1 ⟨by omega, by omega⟩ ?_
  rw [at_in hi0 hi1, show σ (5 + 6) i = σ 11 i from rfl]
  refine wp_is2 dc_L_holdsBoxes_7 (wp_iload_n dc_L_holdsBoxes_8 rfl rfl (wi_bipush dc_L_holdsBoxes_9 ?_))
  refine wi_ic_eq dc_L_holdsBoxes_11 rfl (fun hd => ?_) (fun hd => ?_)
  · rw [if_pos (Or.inl hd)] at hK
    refine wi_iconst dc_L_holdsBoxes_20 (wp_goto dc_L_holdsBoxes_21 rfl ?_)
    refine wp_ireturn dc_L_holdsBoxes_25 rfl rfl hK
  · refine wp_iload_n dc_L_holdsBoxes_14 rfl rfl (wi_bipush dc_L_holdsBoxes_15 ?_)
    refine wi_ic_ne dc_L_holdsBoxes_17 rfl (fun he => ?_) (fun he => ?_)
    · rw [if_neg (by omega)] at hK
      refine wi_iconst dc_L_holdsBoxes_24 ?_
      refine wp_ireturn dc_L_holdsBoxes_25 rfl rfl hK
    · rw [if_pos (Or.inr he)] at hK
      refine wi_iconst dc_L_holdsBoxes_20 (wp_goto dc_L_holdsBoxes_21 rfl ?_)
      refine wp_ireturn dc_L_holdsBoxes_25 rfl rfl hK
theorem c_L_isTable {t : Int} {h : mx_H} (ht : rg t) (hK : K (some (.int (iI (if t = 79 ∨ t = 99 ∨ t = 101 ∨ t = 107 ∨ t = 111 ∨ t = 115 ∨ t = 121 ∨ t = 122 then 1 else 0)))) h) : ct_m l Y_L_isTable 0 0 [.int (iI t)] h K := by
  refine ct_of (L := [.int (iI t)]) (by decide +kernel) (Nat.le_of_ble_eq_true rfl) rfl ?_
  refine wp_iload_n dc_L_isTable_0 rfl rfl ?_
  by_cases hc : t = 79 ∨ t = 99 ∨ t = 101 ∨ t = 107 ∨ t = 111 ∨ t = 115 ∨ t = 121 ∨ t = 122
  · rw [if_pos hc] at hK
    refine wp_lookup dc_L_isTable_1 (off := 75) (t := 76) rfl ?_ rfl (wi_iconst dc_L_isTable_76 (wp_ireturn dc_L_isTable_77 rfl rfl hK))
    rw [iI_t ht]
    rcases hc with rfl | rfl | rfl | rfl | rfl | rfl | rfl | rfl <;> rfl
  · rw [if_neg hc] at hK
    refine wp_lookup dc_L_isTable_1 (off := 77) (t := 78) rfl ?_ rfl (wi_iconst dc_L_isTable_78 (wp_ireturn dc_L_isTable_79 rfl rfl hK))
    rw [iI_t ht]
    simp only [Op.lookupswitch.offset_cons]
    rw [if_neg (by omega), if_neg (by omega), if_neg (by omega), if_neg (by omega), if_neg (by omega), if_neg (by omega), if_neg (by omega), if_neg (by omega)]
    rfl
theorem c_L_kindOf {t x : Int} {h : mx_H} (ht : rg t) (hx : rg x) (hK : K (some (.int (iI (px_kind t x)))) h) : ct_m l Y_L_kindOf 0 0 [.int (iI t), .int (iI x)] h K := by
  refine ct_of (L := [.int (iI t), .int (iI x), .retAddr 0]) (by decide +kernel) (Nat.le_of_ble_eq_true rfl) rfl ?_
  unfold px_kind at hK
  have key : ∀ b : Int, (b = 1 ∧ ((x = 0 ∧ (t = 77 ∨ t = 68)) ∨ (x = 1 ∧ t = 84) ∨ (x ≠ 0 ∧ x ≠ 1 ∧ (t = 79 ∨ t = 99 ∨ t = 101 ∨ t = 107 ∨ t = 111 ∨ t = 115 ∨ t = 121 ∨ t = 122)))) ∨ (b = 0 ∧ ¬ ((x = 0 ∧ (t = 77 ∨ t = 68)) ∨ (x = 1 ∧ t = 84) ∨ (x ≠ 0 ∧ x ≠ 1 ∧ (t = 79 ∨ t = 99 ∨ t = 101 ∨ t = 107 ∨ t = 111 ∨ t = 115 ∨ t = 121 ∨ t = 122)))) → wp_m l Y_L_kindOf none 0 0 50 [.int (iI t), .int (iI x), .int (iI b)] [] h K := by
    intro b hb
    rcases hb with ⟨rfl, hb⟩ | ⟨rfl, hb⟩
    · rw [if_pos hb] at hK
      refine wp_iload_n dc_L_kindOf_50 rfl rfl ?_
      refine wi_if_eq dc_L_kindOf_51 rfl (fun hd => ?_) (fun hd => ?_)
      · omega
      · refine wp_iload_n dc_L_kindOf_54 rfl rfl (wp_goto dc_L_kindOf_55 rfl ?_)
        refine wp_ireturn dc_L_kindOf_59 rfl rfl hK
    · rw [if_neg hb] at hK
      refine wp_iload_n dc_L_kindOf_50 rfl rfl ?_
      refine wi_if_eq dc_L_kindOf_51 rfl (fun hd => ?_) (fun hd => ?_)
      · refine wi_iconst dc_L_kindOf_58 ?_
        refine wp_ireturn dc_L_kindOf_59 rfl rfl hK
      · omega
  refine wp_iload_n dc_L_kindOf_0 rfl rfl ?_
  refine wi_if_ne dc_L_kindOf_1 rfl (fun hd => ?_) (fun hd => ?_)
  · refine wp_iload_n dc_L_kindOf_25 rfl rfl (wi_iconst dc_L_kindOf_26 ?_)
    refine wi_ic_ne dc_L_kindOf_27 rfl (fun he => ?_) (fun he => ?_)
    · refine wp_iload_n dc_L_kindOf_45 rfl rfl ?_
      refine wp_callS (As := [_]) dc_L_kindOf_46 lm_L_65 ls_L_isTable (by decide) rfl rfl (Nat.le_of_ble_eq_true rfl) (Nat.le_refl _) (Nat.le_refl _) ?_
      refine c_L_isTable ht ?_
      refine wp_is2 dc_L_kindOf_49 ?_
      by_cases hc : t = 79 ∨ t = 99 ∨ t = 101 ∨ t = 107 ∨ t = 111 ∨ t = 115 ∨ t = 121 ∨ t = 122
      · rw [if_pos hc]
        exact key 1 (Or.inl ⟨rfl, Or.inr (Or.inr ⟨hd, he, hc⟩)⟩)
      · rw [if_neg hc]
        exact key 0 (Or.inr ⟨rfl, by omega⟩)
    · refine wp_iload_n dc_L_kindOf_30 rfl rfl (wi_bipush dc_L_kindOf_31 ?_)
      refine wi_ic_ne dc_L_kindOf_33 rfl (fun hf => ?_) (fun hf => ?_)
      · refine wi_iconst dc_L_kindOf_40 (wp_is2 dc_L_kindOf_41 (wp_goto dc_L_kindOf_42 rfl ?_))
        exact key 0 (Or.inr ⟨rfl, by omega⟩)
      · refine wi_iconst dc_L_kindOf_36 (wp_goto dc_L_kindOf_37 rfl (wp_is2 dc_L_kindOf_41 (wp_goto dc_L_kindOf_42 rfl ?_)))
        exact key 1 (Or.inl ⟨rfl, by omega⟩)
  · refine wp_iload_n dc_L_kindOf_4 rfl rfl (wi_bipush dc_L_kindOf_5 ?_)
    refine wi_ic_eq dc_L_kindOf_7 rfl (fun he => ?_) (fun he => ?_)
    · refine wi_iconst dc_L_kindOf_16 (wp_goto dc_L_kindOf_17 rfl (wp_is2 dc_L_kindOf_21 (wp_goto dc_L_kindOf_22 rfl ?_)))
      exact key 1 (Or.inl ⟨rfl, by omega⟩)
    · refine wp_iload_n dc_L_kindOf_10 rfl rfl (wi_bipush dc_L_kindOf_11 ?_)
      refine wi_ic_ne dc_L_kindOf_13 rfl (fun hf => ?_) (fun hf => ?_)
      · refine wi_iconst dc_L_kindOf_20 (wp_is2 dc_L_kindOf_21 (wp_goto dc_L_kindOf_22 rfl ?_))
        exact key 0 (Or.inr ⟨rfl, by omega⟩)
      · refine wi_iconst dc_L_kindOf_16 (wp_goto dc_L_kindOf_17 rfl (wp_is2 dc_L_kindOf_21 (wp_goto dc_L_kindOf_22 rfl ?_)))
        exact key 1 (Or.inl ⟨rfl, by omega⟩)
/-- the state behind a box that was noted -/
def s2_ (σ : sg_) (k a s t h v o d : Int) : sg_ := up_ (up_ (up_ (up_ (up_ (up_ (up_ (up_ σ 5 k a) 6 k s) 7 k t) 8 k h) 9 k v) 10 k o) 11 k d) 3 2 (k + 1)
theorem s2_fr (σ : sg_) (k a s t h v o d : Int) : fr_ rdL σ (s2_ σ k a s t h v o d) := by
  unfold s2_
  refine fr_.up (fr_.up (fr_.up (fr_.up (fr_.up (fr_.up (fr_.up (fr_.up fr_.rf ?_) ?_) ?_) ?_) ?_) ?_) ?_) ?_ <;> (unfold rdL; omega)
theorem s2_lt {σ : sg_} {k a s t h v o : Int} {T : px_T} (hr : lt_ σ k T) : lt_ (s2_ σ k a s t h v o (px_kind t v)) (k + 1) (px_put T k a s t h v o) := by
  refine ⟨by unfold s2_; rw [up_s], fun c i hc h0 h1 => ?_, fun i h0 h1 => ?_⟩
  · by_cases hi : i = k
    · subst hi
      match c, hc with
      | 0, _ => simp [s2_, up_, px_put]
      | 1, _ => simp [s2_, up_, px_put]
      | 2, _ => simp [s2_, up_, px_put]
      | 3, _ => simp [s2_, up_, px_put]
      | 4, _ => simp [s2_, up_, px_put]
      | 5, _ => simp [s2_, up_, px_put]
    · rw [put_ne T hi, ← hr.2.1 c i hc h0 (by omega)]
      unfold s2_ up_
      simp [hi]
      omega
  · by_cases hi : i = k
    · subst hi
      rw [put_2, put_4]
      simp [s2_, up_]
    · rw [put_ne T hi, put_ne T hi, ← hr.2.2 i h0 (by omega)]
      unfold s2_ up_
      simp [hi]
theorem c_L_note {s h : Int} (hlo : lo_ σ F n) (hlt : lt_ σ k T) (hg : gi_ n k p v E O T) (hk1 : k < 20) (hs : 2 ≤ E v - p) (hK : K none (hp_ (s2_ σ k p s (F (p + 1)) h v (O v) (px_kind (F (p + 1)) v)))) : ct_m l Y_L_note 0 0 [.ref 3, .int (iI p), .int (iI s), .int (iI h), .int (iI (O v))] (hp_ σ) K := by
  obtain ⟨a1, a2, a3, a4, a5⟩ := id hlo
  obtain ⟨g1, g2, g3, g4, g5, g6, g7, g8, g9⟩ := id hg
  have hEv := gi_En hg
  have hk := hlt.1
  have hF1 := a5 (p + 1)
  refine ct_of (L := [.ref 3, .int (iI p), .int (iI s), .int (iI h), .int (iI (O v)), .retAddr 0, .retAddr 0]) (by decide +kernel) (Nat.le_of_ble_eq_true rfl) rfl ?_
  refine wp_aload_n dc_L_note_0 rfl rfl (wi_getE 2 (k) dc_L_note_1 lf_L_20 sh_3 rfl rfl hk (wi_bipush dc_L_note_4 ?_))
  refine wi_ic_lt dc_L_note_6 rfl (fun hd => ?_) (fun hd => ?_)
  rotate_left
  · omega
  refine wp_aload_n dc_L_note_10 rfl rfl (wi_getR dc_L_note_11 lf_L_9 sh_3 rfl (wp_iload_n dc_L_note_14 rfl rfl (wi_iconst dc_L_note_15 (wi_iadd dc_L_note_16 ?_))))
  refine wp_callV (As := [_]) dc_L_note_17 lm_L_52 ls_B_at (by decide) rfl rfl (hp_at _ sh_1) rfl rfl (Nat.le_of_ble_eq_true rfl) (Nat.le_refl _) (Nat.le_refl _) ?_
  refine c_B_at by_1 (by omega) (by omega) ⟨by omega, by omega⟩ ?_
  rw [a3, at_in (by omega) (by omega), show σ (1 + 1) (p + 1) = σ 2 (p + 1) from rfl, a4 (p + 1) (by omega) (by omega)]
  suffices K41 : wp_m l Y_L_note none 0 0 41 [.ref 3, .int (iI p), .int (iI s), .int (iI h), .int (iI (O v)), .int (iI (F (p + 1))), .retAddr 0] [.int (iI v)] (hp_ σ) K by
    have hOr : rg (O v) := by
      cases v with
      | zero => rw [g6]; decide
      | succ w =>
        have h8 := g8 w (by omega)
        exact ⟨by omega, by omega⟩
    refine wp_is5 dc_L_note_20 (wp_iload dc_L_note_22 rfl (wi_iconst dc_L_note_24 ?_))
    cases v with
    | zero =>
      refine wi_ic_ne dc_L_note_25 rfl (fun he => ?_) (fun he => ?_)
      · omega
      · refine wi_iconst dc_L_note_28 (wp_goto dc_L_note_29 rfl ?_)
        exact K41
    | succ w =>
      have h8 := g8 w (by omega)
      refine wi_ic_ne dc_L_note_25 rfl (fun he => ?_) (fun he => ?_)
      · refine wp_aload_n dc_L_note_32 rfl rfl (wp_iload dc_L_note_33 rfl (wi_iconst dc_L_note_35 ?_))
        refine wp_callV (As := [_, _]) dc_L_note_36 lm_L_24 ls_L_of (by decide) rfl rfl (hp_at _ sh_3) rfl rfl (Nat.le_of_ble_eq_true rfl) (Nat.le_refl _) (Nat.le_refl _) ?_
        refine c_L_of (c := 4) (by decide) (by omega) (by omega) hOr ?_
        rw [hk, at_in (by omega) (by omega), hlt.2.1 4 (O (w + 1)) (by decide) (by omega) (by omega), h8.2.2.1]
        refine wi_iconst dc_L_note_39 (wi_iadd dc_L_note_40 ?_)
        exact K41
      · omega
  refine wp_is6 dc_L_note_41 (wp_aload_n dc_L_note_43 rfl rfl (wi_getR dc_L_note_44 lf_L_17 sh_3 rfl (wi_iconst dc_L_note_47 (wi_aald dc_L_note_48 sh_4 rfl rfl (by decide) (by decide) (by decide) rfl (wp_aload_n dc_L_note_49 rfl rfl (wi_getE 2 (k) dc_L_note_50 lf_L_20 sh_3 rfl rfl (by simp [up_, hk]) (wp_iload_n dc_L_note_53 rfl rfl (wi_ast dc_L_note_54 sh_5 (by omega) (by omega) (by decide) (wp_aload_n dc_L_note_55 rfl rfl (wi_getR dc_L_note_56 lf_L_17 sh_3 rfl (wi_iconst dc_L_note_59 (wi_aald dc_L_note_60 sh_4 rfl rfl (by decide) (by decide) (by decide) rfl (wp_aload_n dc_L_note_61 rfl rfl ?_)))))))))))))
  refine wi_getE 2 (k) dc_L_note_62 lf_L_20 sh_3 rfl rfl (by simp [up_, hk]) (wp_iload_n dc_L_note_65 rfl rfl (wi_ast dc_L_note_66 sh_6 (by omega) (by omega) (by decide) (wp_aload_n dc_L_note_67 rfl rfl (wi_getR dc_L_note_68 lf_L_17 sh_3 rfl (wi_iconst dc_L_note_71 (wi_aald dc_L_note_72 sh_4 rfl rfl (by decide) (by decide) (by decide) rfl (wp_aload_n dc_L_note_73 rfl rfl (wi_getE 2 (k) dc_L_note_74 lf_L_20 sh_3 rfl rfl (by simp [up_, hk]) (wp_iload dc_L_note_77 rfl (wi_ast dc_L_note_79 sh_7 (by omega) (by omega) (by decide) (wp_aload_n dc_L_note_80 rfl rfl (wi_getR dc_L_note_81 lf_L_17 sh_3 rfl (wi_iconst dc_L_note_84 ?_)))))))))))))
  refine wi_aald dc_L_note_85 sh_4 rfl rfl (by decide) (by decide) (by decide) rfl (wp_aload_n dc_L_note_86 rfl rfl (wi_getE 2 (k) dc_L_note_87 lf_L_20 sh_3 rfl rfl (by simp [up_, hk]) (wp_iload_n dc_L_note_90 rfl rfl (wi_ast dc_L_note_91 sh_8 (by omega) (by omega) (by decide) (wp_aload_n dc_L_note_92 rfl rfl (wi_getR dc_L_note_93 lf_L_17 sh_3 rfl (wi_iconst dc_L_note_96 (wi_aald dc_L_note_97 sh_4 rfl rfl (by decide) (by decide) (by decide) rfl (wp_aload_n dc_L_note_98 rfl rfl (wi_getE 2 (k) dc_L_note_99 lf_L_20 sh_3 rfl rfl (by simp [up_, hk]) (wp_iload dc_L_note_102 rfl (wi_ast dc_L_note_104 sh_9 (by omega) (by omega) (by decide) (wp_aload_n dc_L_note_105 rfl rfl ?_)))))))))))))
  refine wi_getR dc_L_note_106 lf_L_17 sh_3 rfl (wi_iconst dc_L_note_109 (wi_aald dc_L_note_110 sh_4 rfl rfl (by decide) (by decide) (by decide) rfl (wp_aload_n dc_L_note_111 rfl rfl (wi_getE 2 (k) dc_L_note_112 lf_L_20 sh_3 rfl rfl (by simp [up_, hk]) (wp_iload dc_L_note_115 rfl (wi_ast dc_L_note_117 sh_10 (by omega) (by omega) (by decide) (wp_aload_n dc_L_note_118 rfl rfl (wi_getR dc_L_note_119 lf_L_17 sh_3 rfl (wi_bipush dc_L_note_122 (wi_aald dc_L_note_124 sh_4 rfl rfl (by decide) (by decide) (by decide) rfl (wp_aload_n dc_L_note_125 rfl rfl (wi_getE 2 (k) dc_L_note_126 lf_L_20 sh_3 rfl rfl (by simp [up_, hk]) (wp_iload dc_L_note_129 rfl ?_)))))))))))))
  refine wp_iload dc_L_note_131 rfl ?_
  refine wp_callS (As := [_, _]) dc_L_note_133 lm_L_62 ls_L_kindOf (by decide) rfl rfl (Nat.le_of_ble_eq_true rfl) (Nat.le_refl _) (Nat.le_refl _) ?_
  refine c_L_kindOf ⟨by omega, by omega⟩ ⟨by omega, by omega⟩ ?_
  refine wi_ast dc_L_note_136 sh_11 (by omega) (by omega) (by decide) (wp_aload_n dc_L_note_137 rfl rfl (wp_dup dc_L_note_138 (wi_getE 2 (k) dc_L_note_139 lf_L_20 sh_3 rfl rfl (by simp [up_, hk]) (wi_iconst dc_L_note_142 (wi_iadd dc_L_note_143 (wi_putI 2 dc_L_note_144 lf_L_20 sh_3 rfl rfl pv_int ?_))))))
  refine wp_return dc_L_note_147 rfl hK
end RL
