/-! the class's tables: binding and reading -/
abbrev tbo_ (a : Nat) : Prop := SH[a]? = some (.inr (3, [.ref 1, .int 0, .int 0, .int 0, .int 0, .int 0]))
abbrev zbo_ (a : Nat) : Prop := SH[a]? = some (.inr (4, [.ref 1, .int 0, .int 0, .int 0, .int 0]))
def tb_ (σ : sg_) (F : Int → Int) (T : px_T) (a : Nat) (j w : Int) : Prop := σ a 1 = (if j = -1 then 0 else 1) ∧ σ a 2 = (if j = -1 then 0 else st_ T j) ∧ σ a 3 = (if j = -1 then 0 else pl_ T j) ∧ σ a 4 = w ∧ σ a 5 = (if j = -1 then 0 else if 1 ≤ pl_ T j then F (st_ T j) else 0)
def zb_ (σ : sg_) (F : Int → Int) (T : px_T) (a : Nat) (j : Int) : Prop := σ a 1 = st_ T j ∧ σ a 2 = pl_ T j ∧ σ a 3 = (if 2 ≤ pl_ T j then F (st_ T j) else 0) ∧ σ a 4 = (if 2 ≤ pl_ T j then F (st_ T j + 1) else 0)
def sm_ (f : Int → Int) : Nat → Int
  | 0 => 0
  | m + 1 => sm_ f m + f m
theorem sm_rg {f : Int → Int} {c : Int} (hc : 0 ≤ c) : ∀ m : Nat, (∀ i : Nat, i < m → 0 ≤ f i ∧ f i ≤ c) → 0 ≤ sm_ f m ∧ sm_ f m ≤ c * m
  | 0, _ => by simp [sm_]
  | m + 1, h => by
    have h1 := sm_rg hc m (fun i hi => h i (by omega))
    have h2 := h m (by omega)
    show 0 ≤ sm_ f m + f m ∧ sm_ f m + f m ≤ c * ((m + 1 : Nat) : Int)
    have e : c * ((m + 1 : Nat) : Int) = c * m + c := by rw [Int.natCast_add, Int.mul_add]; simp
    omega
theorem sm_congr {f g : Int → Int} : ∀ m : Nat, (∀ i : Nat, i < m → f i = g i) → sm_ f m = sm_ g m
  | 0, _ => rfl
  | m + 1, h => by
    show sm_ f m + f m = sm_ g m + g m
    rw [sm_congr m (fun i hi => h i (by omega)), h m (by omega)]
theorem lo_fr {σ σ' : sg_} {F : Int → Int} {n : Int} (h : fr_ (fun b _ => 12 ≤ b) σ σ') (hlo : lo_ σ F n) : lo_ σ' F n := by
  obtain ⟨a1, a2, a3, a4, a5⟩ := hlo
  exact ⟨a1, a2, (h 1 1 (by omega)).trans a3, fun i i0 i1 => (h 2 i (by omega)).trans (a4 i i0 i1), a5⟩
theorem lt_fr {σ σ' : sg_} {N : Int} {T : px_T} (h : fr_ (fun b _ => 12 ≤ b) σ σ') (hlt : lt_ σ N T) : lt_ σ' N T := by
  obtain ⟨a1, a2, a3⟩ := hlt
  exact ⟨(h 3 2 (by omega)).trans a1, fun c i c0 i0 i1 => (h (5 + c) i (by omega)).trans (a2 c i c0 i0 i1), fun i i0 i1 => (h 11 i (by omega)).trans (a3 i i0 i1)⟩
section TA
variable {l : Launch} {σ : sg_} {K : Option Value → mx_H → Prop} {F : Int → Int} {n N : Int} {T : px_T} {j w : Int} {a : Nat}
theorem c_L_payloadOf' (hlt : lt_ σ N T) (htt : tt_ n N T) (j0 : 0 ≤ j) (j1 : j < N) (hK : K (some (.int (iI (st_ T j)))) (hp_ σ)) : ct_m l Y_L_payloadOf 0 0 [.ref 3, .int (iI j)] (hp_ σ) K := by
  have t1 := htt.1
  have t2 := htt.2.1
  have e0 : σ 5 j = T 0 j := hlt.2.1 0 j (by decide) j0 j1
  have e3 : σ 8 j = T 3 j := hlt.2.1 3 j (by decide) j0 j1
  refine c_L_payloadOf (by rw [hlt.1]; exact t1) (by rw [hlt.1]; exact t2) ⟨by omega, by omega⟩ ?_
  rw [hlt.1, at_in j0 j1, e0, e3]
  exact hK
theorem c_L_payloadSizeOf' (hlt : lt_ σ N T) (htt : tt_ n N T) (j0 : 0 ≤ j) (j1 : j < N) (hK : K (some (.int (iI (pl_ T j)))) (hp_ σ)) : ct_m l Y_L_payloadSizeOf 0 0 [.ref 3, .int (iI j)] (hp_ σ) K := by
  have t1 := htt.1
  have t2 := htt.2.1
  have e0 : σ 6 j = T 1 j := hlt.2.1 1 j (by decide) j0 j1
  have e3 : σ 8 j = T 3 j := hlt.2.1 3 j (by decide) j0 j1
  refine c_L_payloadSizeOf (by rw [hlt.1]; exact t1) (by rw [hlt.1]; exact t2) ⟨by omega, by omega⟩ ?_
  rw [hlt.1, at_in j0 j1, e0, e3]
  exact hK
theorem c_L_endOf' (hlt : lt_ σ N T) (htt : tt_ n N T) (j0 : 0 ≤ j) (j1 : j < N) (hK : K (some (.int (iI (T 0 j + T 1 j)))) (hp_ σ)) : ct_m l Y_L_endOf 0 0 [.ref 3, .int (iI j)] (hp_ σ) K := by
  have t1 := htt.1
  have t2 := htt.2.1
  have e0 : σ 5 j = T 0 j := hlt.2.1 0 j (by decide) j0 j1
  have e3 : σ 6 j = T 1 j := hlt.2.1 1 j (by decide) j0 j1
  refine c_L_endOf (by rw [hlt.1]; exact t1) (by rw [hlt.1]; exact t2) ⟨by omega, by omega⟩ ?_
  rw [hlt.1, at_in j0 j1, e0, e3]
  exact hK
/-- the byte of the file at a place in it -/
theorem c_B_at' {e : Int} (hlo : lo_ σ F n) (e0 : 0 ≤ e) (e1 : e < n) (hK : K (some (.int (iI (F e)))) (hp_ σ)) : ct_m l Y_B_at 0 0 [.ref 1, .int (iI e)] (hp_ σ) K := by
  obtain ⟨a1, a2, a3, a4, a5⟩ := hlo
  refine c_B_at by_1 (by omega) (by omega) ⟨by omega, by omega⟩ ?_
  rw [a3, at_in e0 e1, show σ (1 + 1) e = F e from a4 e e0 e1]
  exact hK
theorem c_T_bind (hT : tbo_ a) (ha : 12 ≤ a) (hlo : lo_ σ F n) (hlt : lt_ σ N T) (htt : tt_ n N T) (hj : j = -1 ∨ (0 ≤ j ∧ j < N)) (hK : ∀ σ', fr_ (fun b _ => b = a) σ σ' → tb_ σ' F T a j w → K none (hp_ σ')) : ct_m l Y_T_bind 0 0 [.ref a, .ref 3, .int (iI j), .int (iI w)] (hp_ σ) K := by
  have t2 := htt.2.1
  refine ct_of (L := [.ref a, .ref 3, .int (iI j), .int (iI w)]) (by decide +kernel) (Nat.le_of_ble_eq_true rfl) rfl ?_
  refine wp_aload_n dc_T_bind_0 rfl rfl (wp_iload_n dc_T_bind_1 rfl rfl (wi_iconst dc_T_bind_2 ?_))
  refine wi_ic_eq dc_T_bind_3 rfl (fun hd => ?_) (fun hd => ?_)
  · subst hd
    refine wi_iconst dc_T_bind_10 (wi_putI 1 dc_T_bind_11 lf_T_13 hT rfl rfl pv_0 (wp_aload_n dc_T_bind_14 rfl rfl (wp_aload_n dc_T_bind_15 rfl rfl (wi_getE 1 (0) dc_T_bind_16 lf_T_13 hT rfl rfl (up_s _ _ _ _) ?_))))
    refine wi_if_eq dc_T_bind_19 rfl (fun he => ?_) (fun he => ?_)
    rotate_left
    · omega
    refine wi_iconst dc_T_bind_30 (wi_putI 2 dc_T_bind_31 lf_T_17 hT rfl rfl pv_int (wp_aload_n dc_T_bind_34 rfl rfl (wp_aload_n dc_T_bind_35 rfl rfl (wi_getE 1 (0) dc_T_bind_36 lf_T_13 hT rfl rfl (by simp [up_]) ?_))))
    refine wi_if_eq dc_T_bind_39 rfl (fun he => ?_) (fun he => ?_)
    rotate_left
    · omega
    refine wi_iconst dc_T_bind_50 (wi_putI 3 dc_T_bind_51 lf_T_21 hT rfl rfl pv_int (wp_aload_n dc_T_bind_54 rfl rfl (wp_iload_n dc_T_bind_55 rfl rfl (wi_putI 4 dc_T_bind_56 lf_T_24 hT rfl rfl pv_int (wp_aload_n dc_T_bind_59 rfl rfl (wp_aload_n dc_T_bind_60 rfl rfl (wi_getE 3 (0) dc_T_bind_61 lf_T_21 hT rfl rfl (by simp [up_]) (wi_iconst dc_T_bind_64 ?_))))))))
    refine wi_ic_lt dc_T_bind_65 rfl (fun he => ?_) (fun he => ?_)
    rotate_left
    · omega
    refine wi_iconst dc_T_bind_82 (wi_putI 5 dc_T_bind_83 lf_T_27 hT rfl rfl pv_int ?_)
    refine wp_return dc_T_bind_86 rfl (hK _ (((((fr_.rf.up rfl).up rfl).up rfl).up rfl).up rfl) ⟨by simp [up_], by simp [up_], by simp [up_], by simp [up_], by simp [up_]⟩)
  · obtain ⟨j0, j1⟩ : 0 ≤ j ∧ j < N := by omega
    have b := htt.2.2.1 j j0 j1
    unfold bx_ at b
    have ep : pl_ T j = T 1 j - T 3 j := rfl
    have es : st_ T j = T 0 j + T 3 j := rfl
    have n2 := hlo.2.1
    have f1 : fr_ (fun b _ => b = a) σ (up_ σ a 1 1) := fr_.rf.up rfl
    have f2 : fr_ (fun b _ => b = a) σ (up_ (up_ σ a 1 1) a 2 (st_ T j)) := f1.up rfl
    have f4 : fr_ (fun b _ => b = a) σ (up_ (up_ (up_ (up_ σ a 1 1) a 2 (st_ T j)) a 3 (pl_ T j)) a 4 w) := (f2.up rfl).up rfl
    refine wi_iconst dc_T_bind_6 (wp_goto dc_T_bind_7 rfl (wi_putI 1 dc_T_bind_11 lf_T_13 hT rfl rfl pv_1 (wp_aload_n dc_T_bind_14 rfl rfl (wp_aload_n dc_T_bind_15 rfl rfl (wi_getE 1 (1) dc_T_bind_16 lf_T_13 hT rfl rfl (up_s _ _ _ _) ?_)))))
    refine wi_if_eq dc_T_bind_19 rfl (fun he => ?_) (fun he => ?_)
    · omega
    refine wp_aload_n dc_T_bind_22 rfl rfl (wp_iload_n dc_T_bind_23 rfl rfl ?_)
    refine wp_callV (As := [_]) dc_T_bind_24 lm_T_32 ls_L_payloadOf (by decide) rfl rfl (hp_at _ sh_3) rfl rfl (Nat.le_of_ble_eq_true rfl) (Nat.le_refl _) (Nat.le_refl _) ?_
    refine c_L_payloadOf' (lt_fr (f1.mono (fun b _ h => by omega)) hlt) htt j0 j1 ?_
    refine wp_goto dc_T_bind_27 rfl (wi_putI 2 dc_T_bind_31 lf_T_17 hT rfl rfl pv_int (wp_aload_n dc_T_bind_34 rfl rfl (wp_aload_n dc_T_bind_35 rfl rfl (wi_getE 1 (1) dc_T_bind_36 lf_T_13 hT rfl rfl (by simp [up_]) ?_))))
    refine wi_if_eq dc_T_bind_39 rfl (fun he => ?_) (fun he => ?_)
    · omega
    refine wp_aload_n dc_T_bind_42 rfl rfl (wp_iload_n dc_T_bind_43 rfl rfl ?_)
    refine wp_callV (As := [_]) dc_T_bind_44 lm_T_36 ls_L_payloadSizeOf (by decide) rfl rfl (hp_at _ sh_3) rfl rfl (Nat.le_of_ble_eq_true rfl) (Nat.le_refl _) (Nat.le_refl _) ?_
    refine c_L_payloadSizeOf' (lt_fr (f2.mono (fun b _ h => by omega)) hlt) htt j0 j1 ?_
    refine wp_goto dc_T_bind_47 rfl (wi_putI 3 dc_T_bind_51 lf_T_21 hT rfl rfl pv_int (wp_aload_n dc_T_bind_54 rfl rfl (wp_iload_n dc_T_bind_55 rfl rfl (wi_putI 4 dc_T_bind_56 lf_T_24 hT rfl rfl pv_int (wp_aload_n dc_T_bind_59 rfl rfl (wp_aload_n dc_T_bind_60 rfl rfl (wi_getE 3 ((pl_ T j)) dc_T_bind_61 lf_T_21 hT rfl rfl (by simp [up_]) (wi_iconst dc_T_bind_64 ?_))))))))
    refine wi_ic_lt dc_T_bind_65 rfl (fun hf => ?_) (fun hf => ?_)
    · refine wi_iconst dc_T_bind_82 (wi_putI 5 dc_T_bind_83 lf_T_27 hT rfl rfl pv_int ?_)
      refine wp_return dc_T_bind_86 rfl (hK _ (f4.up rfl) ⟨by simp [up_, hd], by simp [up_, hd], by simp [up_, hd], by simp [up_], by rw [up_s, if_neg hd, if_neg (by omega)]⟩)
    · refine wp_aload_n dc_T_bind_68 rfl rfl (wi_getR dc_T_bind_69 lf_T_7 hT rfl (wp_aload_n dc_T_bind_72 rfl rfl (wi_getE 2 ((st_ T j)) dc_T_bind_73 lf_T_17 hT rfl rfl (by simp [up_]) ?_)))
      refine wp_callV (As := [_]) dc_T_bind_76 lm_T_39 ls_B_at (by decide) rfl rfl (hp_at _ sh_1) rfl rfl (Nat.le_of_ble_eq_true rfl) (Nat.le_refl _) (Nat.le_refl _) ?_
      refine c_B_at' (lo_fr (f4.mono (fun b _ h => by omega)) hlo) (by omega) (by omega) ?_
      refine wp_goto dc_T_bind_79 rfl (wi_putI 5 dc_T_bind_83 lf_T_27 hT rfl rfl pv_int ?_)
      refine wp_return dc_T_bind_86 rfl (hK _ (f4.up rfl) ⟨by simp [up_, hd], by simp [up_, hd], by simp [up_, hd], by simp [up_], by rw [up_s, if_neg hd, if_pos (by omega)]⟩)
theorem c_T_isPresent (hT : tbo_ a) (h0 : σ a 1 = 0 → K (some (.int (iI 0))) (hp_ σ)) (h1 : σ a 1 = 1 → K (some (.int (iI 1))) (hp_ σ)) (hc : σ a 1 = 0 ∨ σ a 1 = 1) : ct_m l Y_T_isPresent 0 0 [.ref a] (hp_ σ) K := by
  refine ct_of (L := [.ref a]) (by decide +kernel) (Nat.le_of_ble_eq_true rfl) rfl ?_
  rcases hc with hc | hc
  · refine wp_aload_n dc_T_isPresent_0 rfl rfl (wi_getE 1 (0) dc_T_isPresent_1 lf_T_13 hT rfl rfl hc ?_)
    refine wp_ireturn dc_T_isPresent_4 rfl rfl (h0 hc)
  · refine wp_aload_n dc_T_isPresent_0 rfl rfl (wi_getE 1 (1) dc_T_isPresent_1 lf_T_13 hT rfl rfl hc ?_)
    refine wp_ireturn dc_T_isPresent_4 rfl rfl (h1 hc)
theorem c_T_rows (hT : tbo_ a) {r : Int} (hr : σ a 5 = r) (hK : K (some (.int (iI r))) (hp_ σ)) : ct_m l Y_T_rows 0 0 [.ref a] (hp_ σ) K := by
  refine ct_of (L := [.ref a]) (by decide +kernel) (Nat.le_of_ble_eq_true rfl) rfl ?_
  refine wp_aload_n dc_T_rows_0 rfl rfl (wi_getE 5 (r) dc_T_rows_1 lf_T_27 hT rfl rfl hr ?_)
  refine wp_ireturn dc_T_rows_4 rfl rfl hK
theorem c_T_lengthHolds (hT : tbo_ a) (hlo : lo_ σ F n) (htt : tt_ n N T) (htb : tb_ σ F T a j w) (hj : j = -1 ∨ (0 ≤ j ∧ j < N)) (hw : w = 1 ∨ w = 2 ∨ w = 3) (h1 : (j = -1 ∨ (1 ≤ pl_ T j ∧ pl_ T j = 1 + w * F (st_ T j))) → K (some (.int (iI 1))) (hp_ σ)) (h0 : ¬ (j = -1 ∨ (1 ≤ pl_ T j ∧ pl_ T j = 1 + w * F (st_ T j))) → K (some (.int (iI 0))) (hp_ σ)) : ct_m l Y_T_lengthHolds 0 0 [.ref a] (hp_ σ) K := by
  obtain ⟨b1, b2, b3, b4, b5⟩ := htb
  have bad : ¬ (j = -1 ∨ (1 ≤ pl_ T j ∧ pl_ T j = 1 + w * F (st_ T j))) → wp_m l Y_T_lengthHolds none 0 0 37 [.ref a] [] (hp_ σ) K := fun h => by
    refine wi_iconst dc_T_lengthHolds_37 ?_
    refine wp_ireturn dc_T_lengthHolds_38 rfl rfl (h0 h)
  have good : (j = -1 ∨ (1 ≤ pl_ T j ∧ pl_ T j = 1 + w * F (st_ T j))) → wp_m l Y_T_lengthHolds none 0 0 33 [.ref a] [] (hp_ σ) K := fun h => by
    refine wi_iconst dc_T_lengthHolds_33 (wp_goto dc_T_lengthHolds_34 rfl ?_)
    refine wp_ireturn dc_T_lengthHolds_38 rfl rfl (h1 h)
  refine ct_of (L := [.ref a]) (by decide +kernel) (Nat.le_of_ble_eq_true rfl) rfl ?_
  by_cases hd : j = -1
  · rw [if_pos hd] at b1
    refine wp_aload_n dc_T_lengthHolds_0 rfl rfl (wi_getE 1 (0) dc_T_lengthHolds_1 lf_T_13 hT rfl rfl b1 ?_)
    refine wi_if_eq dc_T_lengthHolds_4 rfl (fun he => ?_) (fun he => ?_)
    · exact good (Or.inl hd)
    · omega
  · rw [if_neg hd] at b1 b3 b5
    have n2 := hlo.2.1
    have b := htt.2.2.1 j (by omega) (by omega)
    unfold bx_ at b
    have ep : pl_ T j = T 1 j - T 3 j := rfl
    have hs := hlo.2.2.2.2 (st_ T j)
    refine wp_aload_n dc_T_lengthHolds_0 rfl rfl (wi_getE 1 (1) dc_T_lengthHolds_1 lf_T_13 hT rfl rfl b1 ?_)
    refine wi_if_eq dc_T_lengthHolds_4 rfl (fun he => ?_) (fun he => ?_)
    · omega
    refine wp_aload_n dc_T_lengthHolds_7 rfl rfl (wi_getE 3 ((pl_ T j)) dc_T_lengthHolds_8 lf_T_21 hT rfl rfl b3 (wi_iconst dc_T_lengthHolds_11 ?_))
    refine wi_ic_lt dc_T_lengthHolds_12 rfl (fun hf => ?_) (fun hf => ?_)
    · exact bad (by omega)
    rw [if_pos (by omega)] at b5
    have hm : F (st_ T j) * w = w * F (st_ T j) := Int.mul_comm _ _
    have hmr : 0 ≤ w * F (st_ T j) ∧ w * F (st_ T j) ≤ 1000 := by rcases hw with h | h | h <;> (rw [h]; omega)
    refine wp_aload_n dc_T_lengthHolds_15 rfl rfl (wi_getE 3 ((pl_ T j)) dc_T_lengthHolds_16 lf_T_21 hT rfl rfl b3 (wi_iconst dc_T_lengthHolds_19 (wp_aload_n dc_T_lengthHolds_20 rfl rfl (wi_getE 5 ((F (st_ T j))) dc_T_lengthHolds_21 lf_T_27 hT rfl rfl b5 (wp_aload_n dc_T_lengthHolds_24 rfl rfl (wi_getE 4 (w) dc_T_lengthHolds_25 lf_T_24 hT rfl rfl b4 (wi_imul dc_T_lengthHolds_28 (wi_iadd dc_T_lengthHolds_29 ?_))))))))
    rw [hm]
    refine wi_ic_ne dc_T_lengthHolds_30 rfl (fun hg => ?_) (fun hg => ?_)
    · exact bad (by omega)
    · exact good (by omega)
theorem c_T_value {s r c e : Int} (hT : tbo_ a) (hlo : lo_ σ F n) (b2 : σ a 2 = s) (b4 : σ a 4 = w) (he : s + 1 + r * w + c = e) (e0 : 0 ≤ e) (e1 : e < n) (hK : K (some (.int (iI (F e)))) (hp_ σ)) : ct_m l Y_T_value 0 0 [.ref a, .int (iI r), .int (iI c)] (hp_ σ) K := by
  refine ct_of (L := [.ref a, .int (iI r), .int (iI c)]) (by decide +kernel) (Nat.le_of_ble_eq_true rfl) rfl ?_
  refine wp_aload_n dc_T_value_0 rfl rfl (wi_getR dc_T_value_1 lf_T_7 hT rfl (wp_aload_n dc_T_value_4 rfl rfl (wi_getE 2 (s) dc_T_value_5 lf_T_17 hT rfl rfl b2 (wi_iconst dc_T_value_8 (wi_iadd dc_T_value_9 (wp_iload_n dc_T_value_10 rfl rfl (wp_aload_n dc_T_value_11 rfl rfl (wi_getE 4 (w) dc_T_value_12 lf_T_24 hT rfl rfl b4 (wi_imul dc_T_value_15 (wi_iadd dc_T_value_16 (wp_iload_n dc_T_value_17 rfl rfl (wi_iadd dc_T_value_18 ?_))))))))))))
  rw [he]
  refine wp_callV (As := [_]) dc_T_value_19 lm_T_39 ls_B_at (by decide) rfl rfl (hp_at _ sh_1) rfl rfl (Nat.le_of_ble_eq_true rfl) (Nat.le_refl _) (Nat.le_refl _) ?_
  refine c_B_at' hlo e0 e1 ?_
  refine wp_ireturn dc_T_value_22 rfl rfl hK
theorem lp_T_total {s R : Int} {e : Int → Int} (hT : tbo_ a) (hlo : lo_ σ F n) (b2 : σ a 2 = s) (b4 : σ a 4 = w) (b5 : σ a 5 = R) (hR : R ≤ 255) (he : ∀ r, 0 ≤ r → r < R → s + 1 + r * w + 0 = e r ∧ 0 ≤ e r ∧ e r < n) (hK : K (some (.int (iI (sm_ (fun r => F (e r)) R.toNat)))) (hp_ σ)) : ∀ (m : Nat) (i : Nat), (i : Int) + m = R → wp_m l Y_T_totalOfCounts none 0 0 4 [.ref a, .int (iI (sm_ (fun r => F (e r)) i)), .int (iI (i : Int))] [] (hp_ σ) K := by
  intro m
  induction m with
  | zero =>
    intro i hi
    refine wp_iload_n dc_T_totalOfCounts_4 rfl rfl (wp_aload_n dc_T_totalOfCounts_5 rfl rfl (wi_getE 5 (R) dc_T_totalOfCounts_6 lf_T_27 hT rfl rfl b5 ?_))
    refine wi_ic_ge dc_T_totalOfCounts_9 rfl (fun hd => ?_) (fun hd => ?_)
    · have ei : i = R.toNat := by omega
      subst ei
      refine wp_iload_n dc_T_totalOfCounts_27 rfl rfl ?_
      refine wp_ireturn dc_T_totalOfCounts_28 rfl rfl hK
    · omega
  | succ m ih =>
    intro i hi
    obtain ⟨q1, q2, q3⟩ := he i (by omega) (by omega)
    refine wp_iload_n dc_T_totalOfCounts_4 rfl rfl (wp_aload_n dc_T_totalOfCounts_5 rfl rfl (wi_getE 5 (R) dc_T_totalOfCounts_6 lf_T_27 hT rfl rfl b5 ?_))
    refine wi_ic_ge dc_T_totalOfCounts_9 rfl (fun hd => ?_) (fun hd => ?_)
    · omega
    refine wp_iload_n dc_T_totalOfCounts_12 rfl rfl (wp_aload_n dc_T_totalOfCounts_13 rfl rfl (wp_iload_n dc_T_totalOfCounts_14 rfl rfl (wi_iconst dc_T_totalOfCounts_15 ?_)))
    refine wp_callV (As := [_, _]) dc_T_totalOfCounts_16 lm_T_44 ls_T_value (by decide) rfl rfl (hp_at _ hT) rfl rfl (Nat.le_of_ble_eq_true rfl) (Nat.le_refl _) (Nat.le_refl _) ?_
    refine c_T_value hT hlo b2 b4 q1 q2 q3 ?_
    refine wi_iadd dc_T_totalOfCounts_19 (wp_is1 dc_T_totalOfCounts_20 (wp_ii2 dc_T_totalOfCounts_21 (wp_goto dc_T_totalOfCounts_24 rfl ?_)))
    exact ih (i + 1) (by omega)
theorem c_T_totalOfCounts {s R : Int} {e : Int → Int} (hT : tbo_ a) (hlo : lo_ σ F n) (b2 : σ a 2 = s) (b4 : σ a 4 = w) (b5 : σ a 5 = R) (hR0 : 0 ≤ R) (hR : R ≤ 255) (he : ∀ r, 0 ≤ r → r < R → s + 1 + r * w + 0 = e r ∧ 0 ≤ e r ∧ e r < n) (hK : K (some (.int (iI (sm_ (fun r => F (e r)) R.toNat)))) (hp_ σ)) : ct_m l Y_T_totalOfCounts 0 0 [.ref a] (hp_ σ) K := by
  refine ct_of (L := [.ref a, .retAddr 0, .retAddr 0]) (by decide +kernel) (Nat.le_of_ble_eq_true rfl) rfl ?_
  refine wi_iconst dc_T_totalOfCounts_0 (wp_is1 dc_T_totalOfCounts_1 (wi_iconst dc_T_totalOfCounts_2 (wp_is2 dc_T_totalOfCounts_3 ?_)))
  exact lp_T_total hT hlo b2 b4 b5 hR he hK R.toNat 0 (by omega)
theorem lp_T_grows {s R : Int} {e : Int → Int} (hT : tbo_ a) (hlo : lo_ σ F n) (b2 : σ a 2 = s) (b4 : σ a 4 = w) (b5 : σ a 5 = R) (hR0 : 0 ≤ R) (hR : R ≤ 255) (he : ∀ r, 0 ≤ r → r < R → s + 1 + r * w + 0 = e r ∧ 0 ≤ e r ∧ e r < n) (h1 : (∀ r, 1 ≤ r → r < R → F (e (r - 1)) < F (e r)) → K (some (.int (iI 1))) (hp_ σ)) (h0 : ¬ (∀ r, 1 ≤ r → r < R → F (e (r - 1)) < F (e r)) → K (some (.int (iI 0))) (hp_ σ)) : ∀ (m : Nat) (i : Int), R ≤ i + m → 1 ≤ i → i ≤ 256 → (∀ r, 1 ≤ r → r < i → r < R → F (e (r - 1)) < F (e r)) → wp_m l Y_T_grows none 0 0 2 [.ref a, .int (iI i)] [] (hp_ σ) K := by
  intro m
  induction m with
  | zero =>
    intro i hi i1 i2 hall
    refine wp_iload_n dc_T_grows_2 rfl rfl (wp_aload_n dc_T_grows_3 rfl rfl (wi_getE 5 (R) dc_T_grows_4 lf_T_27 hT rfl rfl b5 ?_))
    refine wi_ic_ge dc_T_grows_7 rfl (fun hd => ?_) (fun hd => ?_)
    · refine wi_iconst dc_T_grows_35 ?_
      refine wp_ireturn dc_T_grows_36 rfl rfl (h1 (fun r r1 r2 => hall r r1 (by omega) r2))
    · omega
  | succ m ih =>
    intro i hi i1 i2 hall
    have a5 := hlo.2.2.2.2
    refine wp_iload_n dc_T_grows_2 rfl rfl (wp_aload_n dc_T_grows_3 rfl rfl (wi_getE 5 (R) dc_T_grows_4 lf_T_27 hT rfl rfl b5 ?_))
    refine wi_ic_ge dc_T_grows_7 rfl (fun hd => ?_) (fun hd => ?_)
    · refine wi_iconst dc_T_grows_35 ?_
      refine wp_ireturn dc_T_grows_36 rfl rfl (h1 (fun r r1 r2 => hall r r1 (by omega) r2))
    obtain ⟨q1, q2, q3⟩ := he i (by omega) (by omega)
    obtain ⟨p1, p2, p3⟩ := he (i - 1) (by omega) (by omega)
    have g1 := a5 (e i)
    have g2 := a5 (e (i - 1))
    refine wp_aload_n dc_T_grows_10 rfl rfl (wp_iload_n dc_T_grows_11 rfl rfl (wi_iconst dc_T_grows_12 ?_))
    refine wp_callV (As := [_, _]) dc_T_grows_13 lm_T_44 ls_T_value (by decide) rfl rfl (hp_at _ hT) rfl rfl (Nat.le_of_ble_eq_true rfl) (Nat.le_refl _) (Nat.le_refl _) ?_
    refine c_T_value hT hlo b2 b4 q1 q2 q3 ?_
    refine wp_aload_n dc_T_grows_16 rfl rfl (wp_iload_n dc_T_grows_17 rfl rfl (wi_iconst dc_T_grows_18 (wi_isub dc_T_grows_19 (wi_iconst dc_T_grows_20 ?_))))
    refine wp_callV (As := [_, _]) dc_T_grows_21 lm_T_44 ls_T_value (by decide) rfl rfl (hp_at _ hT) rfl rfl (Nat.le_of_ble_eq_true rfl) (Nat.le_refl _) (Nat.le_refl _) ?_
    refine c_T_value hT hlo b2 b4 p1 p2 p3 ?_
    refine wi_ic_gt dc_T_grows_24 rfl (fun hf => ?_) (fun hf => ?_)
    · refine wp_ii1 dc_T_grows_29 (wp_goto dc_T_grows_32 rfl ?_)
      refine ih (i + 1) (by omega) (by omega) (by omega) (fun r r1 r2 r3 => ?_)
      by_cases hr : r = i
      · subst hr; exact hf
      · exact hall r r1 (by omega) r3
    · refine wi_iconst dc_T_grows_27 ?_
      refine wp_ireturn dc_T_grows_28 rfl rfl (h0 (fun h => hf (h i i1 (by omega))))
theorem c_T_grows {s R : Int} {e : Int → Int} (hT : tbo_ a) (hlo : lo_ σ F n) (b2 : σ a 2 = s) (b4 : σ a 4 = w) (b5 : σ a 5 = R) (hR0 : 0 ≤ R) (hR : R ≤ 255) (he : ∀ r, 0 ≤ r → r < R → s + 1 + r * w + 0 = e r ∧ 0 ≤ e r ∧ e r < n) (h1 : (∀ r, 1 ≤ r → r < R → F (e (r - 1)) < F (e r)) → K (some (.int (iI 1))) (hp_ σ)) (h0 : ¬ (∀ r, 1 ≤ r → r < R → F (e (r - 1)) < F (e r)) → K (some (.int (iI 0))) (hp_ σ)) : ct_m l Y_T_grows 0 0 [.ref a] (hp_ σ) K := by
  refine ct_of (L := [.ref a, .retAddr 0]) (by decide +kernel) (Nat.le_of_ble_eq_true rfl) rfl ?_
  refine wi_iconst dc_T_grows_0 (wp_is1 dc_T_grows_1 ?_)
  exact lp_T_grows hT hlo b2 b4 b5 hR0 hR he h1 h0 R.toNat 1 (by omega) (by omega) (by omega) (fun r r1 r2 r3 => by omega)
theorem c_T_number1 {s r e : Int} (hT : tbo_ a) (hlo : lo_ σ F n) (b2 : σ a 2 = s) (b4 : σ a 4 = 1) (he : s + 1 + r = e) (e0 : 0 ≤ e) (e1 : e < n) (hK : K (some (.int (iI (F e)))) (hp_ σ)) : ct_m l Y_T_number 0 0 [.ref a, .int (iI r)] (hp_ σ) K := by
  refine ct_of (L := [.ref a, .int (iI r)]) (by decide +kernel) (Nat.le_of_ble_eq_true rfl) rfl ?_
  refine wp_aload_n dc_T_number_0 rfl rfl (wi_getE 4 (1) dc_T_number_1 lf_T_24 hT rfl rfl b4 (wi_iconst dc_T_number_4 ?_))
  refine wi_ic_ne dc_T_number_5 rfl (fun hd => ?_) (fun hd => ?_)
  · omega
  refine wp_aload_n dc_T_number_8 rfl rfl (wp_iload_n dc_T_number_9 rfl rfl (wi_iconst dc_T_number_10 ?_))
  refine wp_callV (As := [_, _]) dc_T_number_11 lm_T_44 ls_T_value (by decide) rfl rfl (hp_at _ hT) rfl rfl (Nat.le_of_ble_eq_true rfl) (Nat.le_refl _) (Nat.le_refl _) ?_
  refine c_T_value hT hlo b2 b4 (show s + 1 + r * 1 + 0 = e by omega) e0 e1 ?_
  refine wp_goto dc_T_number_14 rfl ?_
  refine wp_ireturn dc_T_number_34 rfl rfl hK
theorem c_T_number2 {s r e : Int} (hT : tbo_ a) (hlo : lo_ σ F n) (b2 : σ a 2 = s) (b4 : σ a 4 = 2) (he : s + 1 + 2 * r = e) (e0 : 0 ≤ e) (e1 : e + 1 < n) (hK : K (some (.int (iI (F e * 256 + F (e + 1))))) (hp_ σ)) : ct_m l Y_T_number 0 0 [.ref a, .int (iI r)] (hp_ σ) K := by
  refine ct_of (L := [.ref a, .int (iI r)]) (by decide +kernel) (Nat.le_of_ble_eq_true rfl) rfl ?_
  refine wp_aload_n dc_T_number_0 rfl rfl (wi_getE 4 (2) dc_T_number_1 lf_T_24 hT rfl rfl b4 (wi_iconst dc_T_number_4 ?_))
  refine wi_ic_ne dc_T_number_5 rfl (fun hd => ?_) (fun hd => ?_)
  rotate_left
  · omega
  refine wp_aload_n dc_T_number_17 rfl rfl (wp_iload_n dc_T_number_18 rfl rfl (wi_iconst dc_T_number_19 ?_))
  refine wp_callV (As := [_, _]) dc_T_number_20 lm_T_44 ls_T_value (by decide) rfl rfl (hp_at _ hT) rfl rfl (Nat.le_of_ble_eq_true rfl) (Nat.le_refl _) (Nat.le_refl _) ?_
  refine c_T_value hT hlo b2 b4 (show s + 1 + r * 2 + 0 = e by omega) e0 (by omega) ?_
  refine wi_sipush dc_T_number_23 (wi_imul dc_T_number_26 (wp_aload_n dc_T_number_27 rfl rfl (wp_iload_n dc_T_number_28 rfl rfl (wi_iconst dc_T_number_29 ?_))))
  refine wp_callV (As := [_, _]) dc_T_number_30 lm_T_44 ls_T_value (by decide) rfl rfl (hp_at _ hT) rfl rfl (Nat.le_of_ble_eq_true rfl) (Nat.le_refl _) (Nat.le_refl _) ?_
  refine c_T_value hT hlo b2 b4 (show s + 1 + r * 2 + 1 = e + 1 by omega) (by omega) (by omega) ?_
  refine wi_iadd dc_T_number_33 ?_
  refine wp_ireturn dc_T_number_34 rfl rfl hK
theorem c_Z_bind (hZ : zbo_ a) (ha : 12 ≤ a) (hlo : lo_ σ F n) (hlt : lt_ σ N T) (htt : tt_ n N T) (j0 : 0 ≤ j) (j1 : j < N) (hK : ∀ σ', fr_ (fun b _ => b = a) σ σ' → zb_ σ' F T a j → K none (hp_ σ')) : ct_m l Y_Z_bind 0 0 [.ref a, .ref 3, .int (iI j)] (hp_ σ) K := by
  have t2 := htt.2.1
  have b := htt.2.2.1 j j0 j1
  unfold bx_ at b
  have ep : pl_ T j = T 1 j - T 3 j := rfl
  have es : st_ T j = T 0 j + T 3 j := rfl
  have n2 := hlo.2.1
  have f1 : fr_ (fun b _ => b = a) σ (up_ σ a 1 (st_ T j)) := fr_.rf.up rfl
  have f2 : fr_ (fun b _ => b = a) σ (up_ (up_ σ a 1 (st_ T j)) a 2 (pl_ T j)) := f1.up rfl
  refine ct_of (L := [.ref a, .ref 3, .int (iI j)]) (by decide +kernel) (Nat.le_of_ble_eq_true rfl) rfl ?_
  refine wp_aload_n dc_Z_bind_0 rfl rfl (wp_aload_n dc_Z_bind_1 rfl rfl (wp_iload_n dc_Z_bind_2 rfl rfl ?_))
  refine wp_callV (As := [_]) dc_Z_bind_3 lm_Z_26 ls_L_payloadOf (by decide) rfl rfl (hp_at _ sh_3) rfl rfl (Nat.le_of_ble_eq_true rfl) (Nat.le_refl _) (Nat.le_refl _) ?_
  refine c_L_payloadOf' hlt htt j0 j1 ?_
  refine wi_putI 1 dc_Z_bind_6 lf_Z_13 hZ rfl rfl pv_int (wp_aload_n dc_Z_bind_9 rfl rfl (wp_aload_n dc_Z_bind_10 rfl rfl (wp_iload_n dc_Z_bind_11 rfl rfl ?_)))
  refine wp_callV (As := [_]) dc_Z_bind_12 lm_Z_32 ls_L_payloadSizeOf (by decide) rfl rfl (hp_at _ sh_3) rfl rfl (Nat.le_of_ble_eq_true rfl) (Nat.le_refl _) (Nat.le_refl _) ?_
  refine c_L_payloadSizeOf' (lt_fr (f1.mono (fun b _ h => by omega)) hlt) htt j0 j1 ?_
  refine wi_putI 2 dc_Z_bind_15 lf_Z_17 hZ rfl rfl pv_int (wp_aload_n dc_Z_bind_18 rfl rfl (wp_aload_n dc_Z_bind_19 rfl rfl (wi_getE 2 ((pl_ T j)) dc_Z_bind_20 lf_Z_17 hZ rfl rfl (by simp [up_]) (wi_iconst dc_Z_bind_23 ?_))))
  refine wi_ic_lt dc_Z_bind_24 rfl (fun hd => ?_) (fun hd => ?_)
  · refine wi_iconst dc_Z_bind_41 (wi_putI 3 dc_Z_bind_42 lf_Z_20 hZ rfl rfl pv_int (wp_aload_n dc_Z_bind_45 rfl rfl (wp_aload_n dc_Z_bind_46 rfl rfl (wi_getE 2 ((pl_ T j)) dc_Z_bind_47 lf_Z_17 hZ rfl rfl (by simp [up_]) (wi_iconst dc_Z_bind_50 ?_)))))
    refine wi_ic_lt dc_Z_bind_51 rfl (fun he => ?_) (fun he => ?_)
    rotate_left
    · omega
    refine wi_iconst dc_Z_bind_70 (wi_putI 4 dc_Z_bind_71 lf_Z_23 hZ rfl rfl pv_int ?_)
    refine wp_return dc_Z_bind_74 rfl (hK _ ((f2.up rfl).up rfl) ⟨by simp [up_], by simp [up_], by rw [up_n _ _ (by omega), up_s, if_neg (by omega)], by rw [up_s, if_neg (by omega)]⟩)
  · refine wp_aload_n dc_Z_bind_27 rfl rfl (wi_getR dc_Z_bind_28 lf_Z_7 hZ rfl (wp_aload_n dc_Z_bind_31 rfl rfl (wi_getE 1 ((st_ T j)) dc_Z_bind_32 lf_Z_13 hZ rfl rfl (by simp [up_]) ?_)))
    refine wp_callV (As := [_]) dc_Z_bind_35 lm_Z_35 ls_B_at (by decide) rfl rfl (hp_at _ sh_1) rfl rfl (Nat.le_of_ble_eq_true rfl) (Nat.le_refl _) (Nat.le_refl _) ?_
    refine c_B_at' (lo_fr (f2.mono (fun b _ h => by omega)) hlo) (by omega) (by omega) ?_
    refine wp_goto dc_Z_bind_38 rfl (wi_putI 3 dc_Z_bind_42 lf_Z_20 hZ rfl rfl pv_int (wp_aload_n dc_Z_bind_45 rfl rfl (wp_aload_n dc_Z_bind_46 rfl rfl (wi_getE 2 ((pl_ T j)) dc_Z_bind_47 lf_Z_17 hZ rfl rfl (by simp [up_]) (wi_iconst dc_Z_bind_50 ?_)))))
    refine wi_ic_lt dc_Z_bind_51 rfl (fun he => ?_) (fun he => ?_)
    · omega
    have f3 : fr_ (fun b _ => b = a) σ (up_ (up_ (up_ σ a 1 (st_ T j)) a 2 (pl_ T j)) a 3 (F (st_ T j))) := f2.up rfl
    refine wp_aload_n dc_Z_bind_54 rfl rfl (wi_getR dc_Z_bind_55 lf_Z_7 hZ rfl (wp_aload_n dc_Z_bind_58 rfl rfl (wi_getE 1 ((st_ T j)) dc_Z_bind_59 lf_Z_13 hZ rfl rfl (by simp [up_]) (wi_iconst dc_Z_bind_62 (wi_iadd dc_Z_bind_63 ?_)))))
    refine wp_callV (As := [_]) dc_Z_bind_64 lm_Z_35 ls_B_at (by decide) rfl rfl (hp_at _ sh_1) rfl rfl (Nat.le_of_ble_eq_true rfl) (Nat.le_refl _) (Nat.le_refl _) ?_
    refine c_B_at' (lo_fr (f3.mono (fun b _ h => by omega)) hlo) (by omega) (by omega) ?_
    refine wp_goto dc_Z_bind_67 rfl (wi_putI 4 dc_Z_bind_71 lf_Z_23 hZ rfl rfl pv_int ?_)
    refine wp_return dc_Z_bind_74 rfl (hK _ (f3.up rfl) ⟨by simp [up_], by simp [up_], by rw [up_n _ _ (by omega), up_s, if_pos (by omega)], by rw [up_s, if_pos (by omega)]⟩)
theorem c_Z_count (hZ : zbo_ a) {r : Int} (hr : σ a 4 = r) (hK : K (some (.int (iI r))) (hp_ σ)) : ct_m l Y_Z_count 0 0 [.ref a] (hp_ σ) K := by
  refine ct_of (L := [.ref a]) (by decide +kernel) (Nat.le_of_ble_eq_true rfl) rfl ?_
  refine wp_aload_n dc_Z_count_0 rfl rfl (wi_getE 4 (r) dc_Z_count_1 lf_Z_23 hZ rfl rfl hr ?_)
  refine wp_ireturn dc_Z_count_4 rfl rfl hK
theorem c_Z_lengthHolds (hZ : zbo_ a) (hlo : lo_ σ F n) (htt : tt_ n N T) (hzb : zb_ σ F T a j) (j0 : 0 ≤ j) (j1 : j < N) (h1 : RO_ F (st_ T j) (pl_ T j) 3 → K (some (.int (iI 1))) (hp_ σ)) (h0 : ¬ RO_ F (st_ T j) (pl_ T j) 3 → K (some (.int (iI 0))) (hp_ σ)) : ct_m l Y_Z_lengthHolds 0 0 [.ref a] (hp_ σ) K := by
  obtain ⟨b1, b2, b3, b4⟩ := hzb
  have n2 := hlo.2.1
  have b := htt.2.2.1 j j0 j1
  unfold bx_ at b
  have ep : pl_ T j = T 1 j - T 3 j := rfl
  have hs := hlo.2.2.2.2 (st_ T j)
  have hs1 := hlo.2.2.2.2 (st_ T j + 1)
  have bad : ¬ RO_ F (st_ T j) (pl_ T j) 3 → wp_m l Y_Z_lengthHolds none 0 0 36 [.ref a] [] (hp_ σ) K := fun h => by
    refine wi_iconst dc_Z_lengthHolds_36 ?_
    refine wp_ireturn dc_Z_lengthHolds_37 rfl rfl (h0 h)
  have good : RO_ F (st_ T j) (pl_ T j) 3 → wp_m l Y_Z_lengthHolds none 0 0 32 [.ref a] [] (hp_ σ) K := fun h => by
    refine wi_iconst dc_Z_lengthHolds_32 (wp_goto dc_Z_lengthHolds_33 rfl ?_)
    refine wp_ireturn dc_Z_lengthHolds_37 rfl rfl (h1 h)
  refine ct_of (L := [.ref a]) (by decide +kernel) (Nat.le_of_ble_eq_true rfl) rfl ?_
  refine wp_aload_n dc_Z_lengthHolds_0 rfl rfl (wi_getE 2 ((pl_ T j)) dc_Z_lengthHolds_1 lf_Z_17 hZ rfl rfl b2 (wi_iconst dc_Z_lengthHolds_4 ?_))
  refine wi_ic_lt dc_Z_lengthHolds_5 rfl (fun hd => ?_) (fun hd => ?_)
  · exact bad (fun h => by have := (h.1 rfl).1; omega)
  rw [if_pos (by omega)] at b3 b4
  have key : RO_ F (st_ T j) (pl_ T j) 3 ↔ pl_ T j = 2 + (if F (st_ T j) = 0 then F (st_ T j + 1) else 0) := by
    constructor
    · intro h
      have h2 := (h.1 rfl).2
      rw [h2]
      split <;> omega
    · intro h
      refine ⟨fun _ => ⟨by omega, ?_⟩, fun h3 => absurd rfl h3⟩
      rw [h]
      split <;> omega
  rw [key] at bad good
  have hri : rg (2 + (if F (st_ T j) = 0 then F (st_ T j + 1) else 0)) := by split <;> (constructor <;> omega)
  suffices K28 : wp_m l Y_Z_lengthHolds none 0 0 28 [.ref a] [.int (iI (if F (st_ T j) = 0 then F (st_ T j + 1) else 0)), .int (iI 2), .int (iI (pl_ T j))] (hp_ σ) K by
    refine wp_aload_n dc_Z_lengthHolds_8 rfl rfl (wi_getE 2 ((pl_ T j)) dc_Z_lengthHolds_9 lf_Z_17 hZ rfl rfl b2 (wi_iconst dc_Z_lengthHolds_12 (wp_aload_n dc_Z_lengthHolds_13 rfl rfl (wi_getE 3 ((F (st_ T j))) dc_Z_lengthHolds_14 lf_Z_20 hZ rfl rfl b3 ?_))))
    refine wi_if_ne dc_Z_lengthHolds_17 rfl (fun he => ?_) (fun he => ?_)
    · rw [if_neg he] at K28
      refine wi_iconst dc_Z_lengthHolds_27 ?_
      exact K28
    · rw [if_pos he] at K28
      refine wp_aload_n dc_Z_lengthHolds_20 rfl rfl (wi_getE 4 ((F (st_ T j + 1))) dc_Z_lengthHolds_21 lf_Z_23 hZ rfl rfl b4 (wp_goto dc_Z_lengthHolds_24 rfl ?_))
      exact K28
  refine wi_iadd dc_Z_lengthHolds_28 ?_
  refine wi_ic_ne dc_Z_lengthHolds_29 rfl (fun he => ?_) (fun he => ?_)
  · exact bad he
  · exact good he
/-- the size of sample k as the table says it -/
def sz_ (F : Int → Int) (s k : Int) : Int := if F s = 0 then F (s + 2 + k) else F s
theorem c_Z_sizeOf {s k : Int} (hZ : zbo_ a) (hlo : lo_ σ F n) (b1 : σ a 1 = s) (b3 : σ a 3 = F s) (h : F s = 0 → 0 ≤ s + 2 + k ∧ s + 2 + k < n) (hK : K (some (.int (iI (sz_ F s k)))) (hp_ σ)) : ct_m l Y_Z_sizeOf 0 0 [.ref a, .int (iI k)] (hp_ σ) K := by
  have hs := hlo.2.2.2.2 s
  unfold sz_ at hK
  refine ct_of (L := [.ref a, .int (iI k)]) (by decide +kernel) (Nat.le_of_ble_eq_true rfl) rfl ?_
  refine wp_aload_n dc_Z_sizeOf_0 rfl rfl (wi_getE 3 ((F s)) dc_Z_sizeOf_1 lf_Z_20 hZ rfl rfl b3 ?_)
  refine wi_if_ne dc_Z_sizeOf_4 rfl (fun hd => ?_) (fun hd => ?_)
  · rw [if_neg hd] at hK
    refine wp_aload_n dc_Z_sizeOf_25 rfl rfl (wi_getE 3 ((F s)) dc_Z_sizeOf_26 lf_Z_20 hZ rfl rfl b3 ?_)
    refine wp_ireturn dc_Z_sizeOf_29 rfl rfl hK
  · rw [if_pos hd] at hK
    refine wp_aload_n dc_Z_sizeOf_7 rfl rfl (wi_getR dc_Z_sizeOf_8 lf_Z_7 hZ rfl (wp_aload_n dc_Z_sizeOf_11 rfl rfl (wi_getE 1 (s) dc_Z_sizeOf_12 lf_Z_13 hZ rfl rfl b1 (wi_iconst dc_Z_sizeOf_15 (wi_iadd dc_Z_sizeOf_16 (wp_iload_n dc_Z_sizeOf_17 rfl rfl (wi_iadd dc_Z_sizeOf_18 ?_)))))))
    refine wp_callV (As := [_]) dc_Z_sizeOf_19 lm_Z_35 ls_B_at (by decide) rfl rfl (hp_at _ sh_1) rfl rfl (Nat.le_of_ble_eq_true rfl) (Nat.le_refl _) (Nat.le_refl _) ?_
    refine c_B_at' hlo (h hd).1 (h hd).2 ?_
    refine wp_goto dc_Z_sizeOf_22 rfl ?_
    refine wp_ireturn dc_Z_sizeOf_29 rfl rfl hK
end TA
