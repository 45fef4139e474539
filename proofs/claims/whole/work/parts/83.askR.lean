/-! the reference's answers about a sample -/
theorem rv_rg {F : Int → Int} (hF : ∀ i, 0 ≤ F i ∧ F i < 256) (s k : Int) : 0 ≤ rv_ F s k ∧ rv_ F s k ≤ 255 := by
  have h : ∀ (m : Nat) (r c : Int), 0 ≤ rvf_ F s k m r c ∧ rvf_ F s k m r c ≤ 255 := by
    intro m
    induction m with
    | zero => intro r c; unfold rvf_; omega
    | succ m ih =>
      intro r c
      unfold rvf_
      have := hF (s + (2 + 2 * r))
      split
      · omega
      · exact ih _ _
  exact h _ _ _
theorem dt_rg {F : Int → Int} (hF : ∀ i, 0 ≤ F i ∧ F i < 256) (s : Int) (k : Nat) : 0 ≤ dt_ F s k ∧ dt_ F s k ≤ 255 * k := sm_rg (by omega) k (fun i _ => rv_rg hF s _)
theorem sb_rg {v : Int} (h0 : 0 ≤ v) (h1 : v ≤ 255) : -128 ≤ sb_ v ∧ sb_ v ≤ 127 := by
  unfold sb_
  split <;> omega
theorem sh_rg {F : Int → Int} (hF : ∀ i, 0 ≤ F i ∧ F i < 256) (T : px_T) (f : Int → Int) (k : Int) : -128 ≤ sh_ F T f k ∧ sh_ F T f k ≤ 127 := by
  unfold sh_
  have h := rv_rg hF (st_ T (f 1)) k
  split
  · omega
  · exact sb_rg h.1 h.2
/-- the time in the media of the time x, where there is a table of edits -/
def mtf_ (F : Int → Int) (s x : Int) : Nat → Int → Int → Int
  | 0, _, _ => -1000
  | m + 1, r, c => if x < c + F (s + (1 + 2 * r)) then (if F (s + (2 + 2 * r)) = 255 then -1000 else F (s + (2 + 2 * r)) + x - c) else mtf_ F s x m (r + 1) (c + F (s + (1 + 2 * r)))
def mt_ (F : Int → Int) (T : px_T) (f : Int → Int) (x : Int) : Int := if f 7 = -1 then x else mtf_ F (st_ T (f 7)) x (F (st_ T (f 7))).toNat 0 0
theorem mt_rg {F : Int → Int} (hF : ∀ i, 0 ≤ F i ∧ F i < 256) (T : px_T) (f : Int → Int) {x : Int} (x0 : 0 ≤ x) (x1 : x ≤ 2147483647) : -1000 ≤ mt_ F T f x ∧ mt_ F T f x ≤ 2147483647 := by
  have h : ∀ (m : Nat) (r c : Int), c ≤ x → -1000 ≤ mtf_ F (st_ T (f 7)) x m r c ∧ mtf_ F (st_ T (f 7)) x m r c ≤ 2147483647 := by
    intro m
    induction m with
    | zero => intro r c _; unfold mtf_; omega
    | succ m ih =>
      intro r c hc
      unfold mtf_
      have g1 := hF (st_ T (f 7) + (2 + 2 * r))
      have g2 := hF (st_ T (f 7) + (1 + 2 * r))
      split
      · split <;> omega
      · exact ih _ _ (by omega)
  unfold mt_
  split
  · omega
  · exact h _ _ _ x0
section AR
variable {l : Launch} {σ : sg_} {K : Option Value → mx_H → Prop} {F : Int → Int} {n N : Int} {T : px_T} {t b : Int} {f : Int → Int}
theorem lp_R_rv {j k : Int} (hk : 0 ≤ k ∧ k ≤ 255) (hro : ro_ σ F n) (hrt : rt_ σ N T) (htt : tt_ n N T) (j0 : 0 ≤ j) (j1 : j < N) (hp : pl_ T j = 1 + 2 * F (st_ T j)) :
    ∀ (m : Nat) (r c : Int), r + m = F (st_ T j) → 0 ≤ r → 0 ≤ c → c ≤ 255 * r → K (some (.int (iI (rvf_ F (st_ T j) k m r c)))) (hp_ σ) → wp_m l Y_R_runValue none 0 0 5 [.ref 51, .int (iI j), .int (iI k), .int (iI c), .int (iI r)] [] (hp_ σ) K := by
  have a5 := hro.2.2.2.2
  have hs := a5 (st_ T j)
  have z0 : st_ T j + 0 = st_ T j := by omega
  intro m
  induction m with
  | zero =>
    intro r c hi r0 c0 c1 hK
    refine wp_iload dc_R_runValue_5 rfl (wp_aload_n dc_R_runValue_7 rfl rfl (wp_iload_n dc_R_runValue_8 rfl rfl (wi_iconst dc_R_runValue_9 ?_)))
    refine wp_callV (As := [_, _]) dc_R_runValue_10 lm_R_106 ls_R_pay (by decide) rfl rfl (hp_at _ sh_51) rfl rfl (Nat.le_of_ble_eq_true rfl) (Nat.le_refl _) (Nat.le_refl _) ?_
    refine c_R_pay hro hrt htt j0 j1 (by omega) (by omega) ?_
    rw [z0]
    refine wi_ic_ge dc_R_runValue_13 rfl (fun hd => ?_) (fun hd => ?_)
    · refine wi_iconst dc_R_runValue_53 ?_
      refine wp_ireturn dc_R_runValue_54 rfl rfl hK
    · omega
  | succ m ih =>
    intro r c hi r0 c0 c1 hK
    have g1 := a5 (st_ T j + (1 + 2 * r))
    unfold rvf_ at hK
    refine wp_iload dc_R_runValue_5 rfl (wp_aload_n dc_R_runValue_7 rfl rfl (wp_iload_n dc_R_runValue_8 rfl rfl (wi_iconst dc_R_runValue_9 ?_)))
    refine wp_callV (As := [_, _]) dc_R_runValue_10 lm_R_106 ls_R_pay (by decide) rfl rfl (hp_at _ sh_51) rfl rfl (Nat.le_of_ble_eq_true rfl) (Nat.le_refl _) (Nat.le_refl _) ?_
    refine c_R_pay hro hrt htt j0 j1 (by omega) (by omega) ?_
    rw [z0]
    refine wi_ic_ge dc_R_runValue_13 rfl (fun hd => ?_) (fun hd => ?_)
    · omega
    refine wp_iload_n dc_R_runValue_16 rfl rfl (wp_aload_n dc_R_runValue_17 rfl rfl (wp_iload_n dc_R_runValue_18 rfl rfl (wi_iconst dc_R_runValue_19 (wi_iconst dc_R_runValue_20 (wp_iload dc_R_runValue_21 rfl (wi_imul dc_R_runValue_23 (wi_iadd dc_R_runValue_24 ?_)))))))
    refine wp_callV (As := [_, _]) dc_R_runValue_25 lm_R_106 ls_R_pay (by decide) rfl rfl (hp_at _ sh_51) rfl rfl (Nat.le_of_ble_eq_true rfl) (Nat.le_refl _) (Nat.le_refl _) ?_
    refine c_R_pay hro hrt htt j0 j1 (by omega) (by omega) ?_
    refine wi_iadd dc_R_runValue_28 (wp_is3 dc_R_runValue_29 (wp_iload_n dc_R_runValue_30 rfl rfl (wp_iload_n dc_R_runValue_31 rfl rfl ?_)))
    refine wi_ic_ge dc_R_runValue_32 rfl (fun he => ?_) (fun he => ?_)
    · rw [if_neg (by omega)] at hK
      refine wp_ii4 dc_R_runValue_47 (wp_goto dc_R_runValue_50 rfl ?_)
      exact ih (r + 1) _ (by omega) (by omega) (by omega) (by omega) hK
    · rw [if_pos (by omega)] at hK
      refine wp_aload_n dc_R_runValue_35 rfl rfl (wp_iload_n dc_R_runValue_36 rfl rfl (wi_iconst dc_R_runValue_37 (wi_iconst dc_R_runValue_38 (wp_iload dc_R_runValue_39 rfl (wi_imul dc_R_runValue_41 (wi_iadd dc_R_runValue_42 ?_))))))
      refine wp_callV (As := [_, _]) dc_R_runValue_43 lm_R_106 ls_R_pay (by decide) rfl rfl (hp_at _ sh_51) rfl rfl (Nat.le_of_ble_eq_true rfl) (Nat.le_refl _) (Nat.le_refl _) ?_
      refine c_R_pay hro hrt htt j0 j1 (by omega) (by omega) ?_
      refine wp_ireturn dc_R_runValue_46 rfl rfl hK
theorem c_R_runValue {j k : Int} (hk : 0 ≤ k ∧ k ≤ 255) (hro : ro_ σ F n) (hrt : rt_ σ N T) (htt : tt_ n N T) (j0 : 0 ≤ j) (j1 : j < N) (hp : pl_ T j = 1 + 2 * F (st_ T j)) (hK : K (some (.int (iI (rv_ F (st_ T j) k)))) (hp_ σ)) : ct_m l Y_R_runValue 0 0 [.ref 51, .int (iI j), .int (iI k)] (hp_ σ) K := by
  have hs := hro.2.2.2.2 (st_ T j)
  refine ct_of (L := [.ref 51, .int (iI j), .int (iI k), .retAddr 0, .retAddr 0]) (by decide +kernel) (Nat.le_of_ble_eq_true rfl) rfl ?_
  refine wi_iconst dc_R_runValue_0 (wp_is3 dc_R_runValue_1 (wi_iconst dc_R_runValue_2 (wp_is4 dc_R_runValue_3 ?_)))
  exact lp_R_rv hk hro hrt htt j0 j1 hp (F (st_ T j)).toNat 0 0 (by omega) (by omega) (by omega) (by omega) hK
theorem c_R_durationOf {k : Int} (hx : rx_ σ F n N T t b f) (hk : 0 ≤ k ∧ k ≤ 255) (hK : K (some (.int (iI (rv_ F (st_ T (f 0)) k)))) (hp_ σ)) : ct_m l Y_R_durationOf 0 0 [.ref 51, .int (iI t), .int (iI k)] (hp_ σ) K := by
  obtain ⟨hro, hrt, htt, ht, htab, hkt, hrh⟩ := hx
  obtain ⟨g1, g2, g3, -, g5⟩ := rh_q htt hkt hrh (q := 0) (by omega) (by omega) hkt.2.1
  have g5 := g5 (by omega)
  rw [show wd_ 0 = 2 from rfl] at g5
  refine ct_of (L := [.ref 51, .int (iI t), .int (iI k)]) (by decide +kernel) (Nat.le_of_ble_eq_true rfl) rfl ?_
  refine wp_aload_n dc_R_durationOf_0 rfl rfl (wp_aload_n dc_R_durationOf_1 rfl rfl (wi_getR dc_R_durationOf_2 lf_R_40 sh_51 rfl (wi_bipush dc_R_durationOf_5 (wp_iload_n dc_R_durationOf_7 rfl rfl (wi_imul dc_R_durationOf_8 (wi_iconst dc_R_durationOf_9 (wi_iadd dc_R_durationOf_10 (wi_aldE (f 0) dc_R_durationOf_11 sh_62 (by omega) (by omega) (by decide) (htab 0 (by omega) (by omega)) (wp_iload_n dc_R_durationOf_12 rfl rfl ?_)))))))))
  refine wp_callV (As := [_, _]) dc_R_durationOf_13 lm_R_143 ls_R_runValue (by decide) rfl rfl (hp_at _ sh_51) rfl rfl (Nat.le_of_ble_eq_true rfl) (Nat.le_refl _) (Nat.le_refl _) ?_
  refine c_R_runValue hk hro hrt htt hkt.2.1 g1 g5.2 ?_
  refine wp_ireturn dc_R_durationOf_16 rfl rfl hK
theorem lp_R_dt {k : Nat} (hx : rx_ σ F n N T t b f) (hk : k ≤ 255) (hK : K (some (.int (iI (dt_ F (st_ T (f 0)) k)))) (hp_ σ)) : ∀ (m i : Nat), i + m = k → wp_m l Y_R_decodeTime none 0 0 5 [.ref 51, .int (iI t), .int (iI (k : Int)), .int (iI (dt_ F (st_ T (f 0)) i)), .int (iI (i : Int))] [] (hp_ σ) K := by
  intro m
  induction m with
  | zero =>
    intro i hi
    obtain rfl : i = k := by omega
    refine wp_iload dc_R_decodeTime_5 rfl (wp_iload_n dc_R_decodeTime_7 rfl rfl ?_)
    refine wi_ic_ge dc_R_decodeTime_8 rfl (fun hd => ?_) (fun hd => ?_)
    · refine wp_iload_n dc_R_decodeTime_27 rfl rfl ?_
      refine wp_ireturn dc_R_decodeTime_28 rfl rfl hK
    · omega
  | succ m ih =>
    intro i hi
    refine wp_iload dc_R_decodeTime_5 rfl (wp_iload_n dc_R_decodeTime_7 rfl rfl ?_)
    refine wi_ic_ge dc_R_decodeTime_8 rfl (fun hd => ?_) (fun hd => ?_)
    · omega
    refine wp_iload_n dc_R_decodeTime_11 rfl rfl (wp_aload_n dc_R_decodeTime_12 rfl rfl (wp_iload_n dc_R_decodeTime_13 rfl rfl (wp_iload dc_R_decodeTime_14 rfl ?_)))
    refine wp_callV (As := [_, _]) dc_R_decodeTime_16 lm_R_146 ls_R_durationOf (by decide) rfl rfl (hp_at _ sh_51) rfl rfl (Nat.le_of_ble_eq_true rfl) (Nat.le_refl _) (Nat.le_refl _) ?_
    refine c_R_durationOf hx ⟨by omega, by omega⟩ ?_
    refine wi_iadd dc_R_decodeTime_19 (wp_is3 dc_R_decodeTime_20 (wp_ii4 dc_R_decodeTime_21 (wp_goto dc_R_decodeTime_24 rfl ?_)))
    exact ih (i + 1) (by omega)
theorem c_R_decodeTime {k : Nat} (hx : rx_ σ F n N T t b f) (hk : k ≤ 255) (hK : K (some (.int (iI (dt_ F (st_ T (f 0)) k)))) (hp_ σ)) : ct_m l Y_R_decodeTime 0 0 [.ref 51, .int (iI t), .int (iI (k : Int))] (hp_ σ) K := by
  refine ct_of (L := [.ref 51, .int (iI t), .int (iI (k : Int)), .retAddr 0, .retAddr 0]) (by decide +kernel) (Nat.le_of_ble_eq_true rfl) rfl ?_
  refine wi_iconst dc_R_decodeTime_0 (wp_is3 dc_R_decodeTime_1 (wi_iconst dc_R_decodeTime_2 (wp_is4 dc_R_decodeTime_3 ?_)))
  exact lp_R_dt hx hk hK k 0 (by omega)
theorem c_R_shiftOf {k : Int} (hx : rx_ σ F n N T t b f) (hk : 0 ≤ k ∧ k ≤ 255) (hK : K (some (.int (iI (sh_ F T f k)))) (hp_ σ)) : ct_m l Y_R_shiftOf 0 0 [.ref 51, .int (iI t), .int (iI k)] (hp_ σ) K := by
  obtain ⟨hro, hrt, htt, ht, htab, hkt, hrh⟩ := hx
  have t2 := htt.2.1
  have c1 := kt_cs hkt (q := 1) (by omega) (by omega)
  have rr := rv_rg hro.2.2.2.2 (st_ T (f 1)) k
  unfold sh_ at hK
  have fin : ∀ v : Int, 0 ≤ v → v ≤ 255 → K (some (.int (iI (sb_ v)))) (hp_ σ) → wp_m l Y_R_shiftOf none 0 0 26 [.ref 51, .int (iI t), .int (iI k), .int (iI (f 1)), .retAddr 0] [.int (iI v)] (hp_ σ) K := fun v v0 v1 hv => by
    unfold sb_ at hv
    refine wp_is4 dc_R_shiftOf_26 (wp_iload dc_R_shiftOf_28 rfl (wi_sipush dc_R_shiftOf_30 ?_))
    refine wi_ic_ge dc_R_shiftOf_33 rfl (fun hd => ?_) (fun hd => ?_)
    · rw [if_neg (by omega)] at hv
      refine wp_iload dc_R_shiftOf_41 rfl (wi_sipush dc_R_shiftOf_43 (wi_isub dc_R_shiftOf_46 ?_))
      refine wp_ireturn dc_R_shiftOf_47 rfl rfl hv
    · rw [if_pos (by omega)] at hv
      refine wp_iload dc_R_shiftOf_36 rfl (wp_goto dc_R_shiftOf_38 rfl ?_)
      refine wp_ireturn dc_R_shiftOf_47 rfl rfl hv
  refine ct_of (L := [.ref 51, .int (iI t), .int (iI k), .retAddr 0, .retAddr 0]) (by decide +kernel) (Nat.le_of_ble_eq_true rfl) rfl ?_
  refine wp_aload_n dc_R_shiftOf_0 rfl rfl (wi_getR dc_R_shiftOf_1 lf_R_40 sh_51 rfl (wi_bipush dc_R_shiftOf_4 (wp_iload_n dc_R_shiftOf_6 rfl rfl (wi_imul dc_R_shiftOf_7 (wi_iconst dc_R_shiftOf_8 (wi_iadd dc_R_shiftOf_9 (wi_aldE (f 1) dc_R_shiftOf_10 sh_62 (by omega) (by omega) (by decide) (htab 1 (by omega) (by omega)) (wp_is3 dc_R_shiftOf_11 (wp_iload_n dc_R_shiftOf_12 rfl rfl ?_)))))))))
  refine wi_if_ge dc_R_shiftOf_13 rfl (fun hd => ?_) (fun hd => ?_)
  · rw [if_neg (by omega)] at hK
    obtain ⟨g1, g2, g3, -, g5⟩ := rh_q htt hkt hrh (q := 1) (by omega) (by omega) hd
    have g5 := g5 (by omega)
    rw [show wd_ 1 = 2 from rfl] at g5
    refine wp_aload_n dc_R_shiftOf_20 rfl rfl (wp_iload_n dc_R_shiftOf_21 rfl rfl (wp_iload_n dc_R_shiftOf_22 rfl rfl ?_))
    refine wp_callV (As := [_, _]) dc_R_shiftOf_23 lm_R_143 ls_R_runValue (by decide) rfl rfl (hp_at _ sh_51) rfl rfl (Nat.le_of_ble_eq_true rfl) (Nat.le_refl _) (Nat.le_refl _) ?_
    refine c_R_runValue hk hro hrt htt hd g1 g5.2 ?_
    exact fin _ rr.1 rr.2 hK
  · rw [if_pos (by omega)] at hK
    refine wi_iconst dc_R_shiftOf_16 (wp_goto dc_R_shiftOf_17 rfl ?_)
    exact fin 0 (by omega) (by omega) hK
theorem lp_R_sy {k R : Int} (hx : rx_ σ F n N T t b f) (hk : 0 ≤ k ∧ k ≤ 255) (hR : R = (if f 6 = -1 then 0 else F (st_ T (f 6)))) (hK : ∀ v, sy_ F T f k v → K (some (.int (iI v))) (hp_ σ)) :
    ∀ (m : Nat) (i v : Int), i + m = R → 0 ≤ i → (v = 1 ∧ (f 6 = -1 ∨ ls_ F (st_ T (f 6)) k i)) ∨ (v = 0 ∧ ¬ (f 6 = -1 ∨ ls_ F (st_ T (f 6)) k i)) → wp_m l Y_R_isSync none 0 0 43 [.ref 51, .int (iI t), .int (iI k), .int (iI (f 6)), .int (iI v), .int (iI R), .int (iI i)] [] (hp_ σ) K := by
  obtain ⟨hro, hrt, htt, ht, htab, hkt, hrh⟩ := hx
  have a5 := hro.2.2.2.2
  have hs6 := a5 (st_ T (f 6))
  have c6 := kt_cs hkt (q := 6) (by omega) (by omega)
  have hRr : 0 ≤ R ∧ R ≤ 255 := by rw [hR]; split <;> omega
  intro m
  induction m with
  | zero =>
    intro i v hi i0 hv
    obtain rfl : i = R := by omega
    have hv' : sy_ F T f k v := by
      unfold sy_
      by_cases h6 : f 6 = -1
      · rcases hv with h | h
        · exact Or.inl ⟨h.1, Or.inl h6⟩
        · exact absurd (Or.inl h6) h.2
      · rw [if_neg h6] at hR
        rw [← hR]
        exact hv
    refine wp_iload dc_R_isSync_43 rfl (wp_iload dc_R_isSync_45 rfl ?_)
    refine wi_ic_ge dc_R_isSync_47 rfl (fun hd => ?_) (fun hd => ?_)
    · refine wp_iload dc_R_isSync_79 rfl ?_
      refine wp_ireturn dc_R_isSync_81 rfl rfl (hK v hv')
    · omega
  | succ m ih =>
    intro i v hi i0 hv
    have h6 : ¬ f 6 = -1 := fun h => by rw [if_pos h] at hR; omega
    rw [if_neg h6] at hR
    obtain ⟨g1, g2, g3, -, g5⟩ := rh_q htt hkt hrh (q := 6) (by omega) (by omega) (by omega)
    have g5 := g5 (by omega)
    rw [show wd_ 6 = 1 from rfl] at g5
    have e1 := a5 (st_ T (f 6) + (1 + i))
    have lsS : ls_ F (st_ T (f 6)) k (i + 1) ↔ (ls_ F (st_ T (f 6)) k i ∨ F (st_ T (f 6) + (1 + i)) = k + 1) := by
      constructor
      · rintro ⟨r, r0, r1, r2⟩
        by_cases e : r = i
        · subst e; exact Or.inr r2
        · exact Or.inl ⟨r, r0, by omega, r2⟩
      · rintro (⟨r, r0, r1, r2⟩ | h)
        · exact ⟨r, r0, by omega, r2⟩
        · exact ⟨i, i0, by omega, h⟩
    refine wp_iload dc_R_isSync_43 rfl (wp_iload dc_R_isSync_45 rfl ?_)
    refine wi_ic_ge dc_R_isSync_47 rfl (fun hd => ?_) (fun hd => ?_)
    · omega
    refine wp_aload_n dc_R_isSync_50 rfl rfl (wp_iload_n dc_R_isSync_51 rfl rfl (wi_iconst dc_R_isSync_52 (wp_iload dc_R_isSync_53 rfl (wi_iadd dc_R_isSync_55 ?_))))
    refine wp_callV (As := [_, _]) dc_R_isSync_56 lm_R_106 ls_R_pay (by decide) rfl rfl (hp_at _ sh_51) rfl rfl (Nat.le_of_ble_eq_true rfl) (Nat.le_refl _) (Nat.le_refl _) ?_
    refine c_R_pay hro hrt htt (by omega) g1 (by omega) (by omega) ?_
    refine wp_iload_n dc_R_isSync_59 rfl rfl (wi_iconst dc_R_isSync_60 (wi_iadd dc_R_isSync_61 ?_))
    refine wi_ic_ne dc_R_isSync_62 rfl (fun he => ?_) (fun he => ?_)
    · refine wp_iload dc_R_isSync_69 rfl (wp_is4 dc_R_isSync_71 (wp_ii6 dc_R_isSync_73 (wp_goto dc_R_isSync_76 rfl ?_)))
      refine ih (i + 1) v (by omega) (by omega) ?_
      rw [lsS]
      rcases hv with h | h
      · exact Or.inl ⟨h.1, h.2.imp id Or.inl⟩
      · refine Or.inr ⟨h.1, fun hh => h.2 (hh.imp id (fun g => g.resolve_right he))⟩
    · refine wi_iconst dc_R_isSync_65 (wp_goto dc_R_isSync_66 rfl (wp_is4 dc_R_isSync_71 (wp_ii6 dc_R_isSync_73 (wp_goto dc_R_isSync_76 rfl ?_))))
      refine ih (i + 1) 1 (by omega) (by omega) (Or.inl ⟨rfl, Or.inr (lsS.mpr (Or.inr he))⟩)
theorem c_R_isSync {k : Int} (hx : rx_ σ F n N T t b f) (hk : 0 ≤ k ∧ k ≤ 255) (hK : ∀ v, sy_ F T f k v → K (some (.int (iI v))) (hp_ σ)) : ct_m l Y_R_isSync 0 0 [.ref 51, .int (iI t), .int (iI k)] (hp_ σ) K := by
  obtain ⟨hro, hrt, htt, ht, htab, hkt, hrh⟩ := id hx
  have t2 := htt.2.1
  have c6 := kt_cs hkt (q := 6) (by omega) (by omega)
  have hs6 := hro.2.2.2.2 (st_ T (f 6))
  have z6 : st_ T (f 6) + 0 = st_ T (f 6) := by omega
  have nl : ¬ ls_ F (st_ T (f 6)) k 0 := fun ⟨r, r0, r1, _⟩ => by omega
  refine ct_of (L := [.ref 51, .int (iI t), .int (iI k), .retAddr 0, .retAddr 0, .retAddr 0, .retAddr 0]) (by decide +kernel) (Nat.le_of_ble_eq_true rfl) rfl ?_
  refine wp_aload_n dc_R_isSync_0 rfl rfl (wi_getR dc_R_isSync_1 lf_R_40 sh_51 rfl (wi_bipush dc_R_isSync_4 (wp_iload_n dc_R_isSync_6 rfl rfl (wi_imul dc_R_isSync_7 (wi_bipush dc_R_isSync_8 (wi_iadd dc_R_isSync_10 (wi_aldE (f 6) dc_R_isSync_11 sh_62 (by omega) (by omega) (by decide) (htab 6 (by omega) (by omega)) (wp_is3 dc_R_isSync_12 (wp_iload_n dc_R_isSync_13 rfl rfl ?_)))))))))
  refine wi_if_ge dc_R_isSync_14 rfl (fun hd => ?_) (fun hd => ?_)
  · obtain ⟨g1, g2, g3, -, g5⟩ := rh_q htt hkt hrh (q := 6) (by omega) (by omega) hd
    have g5 := g5 (by omega)
    refine wi_iconst dc_R_isSync_21 (wp_is4 dc_R_isSync_22 (wp_iload_n dc_R_isSync_24 rfl rfl ?_))
    refine wi_if_ge dc_R_isSync_25 rfl (fun he => ?_) (fun he => ?_)
    rotate_left
    · omega
    refine wp_aload_n dc_R_isSync_32 rfl rfl (wp_iload_n dc_R_isSync_33 rfl rfl (wi_iconst dc_R_isSync_34 ?_))
    refine wp_callV (As := [_, _]) dc_R_isSync_35 lm_R_106 ls_R_pay (by decide) rfl rfl (hp_at _ sh_51) rfl rfl (Nat.le_of_ble_eq_true rfl) (Nat.le_refl _) (Nat.le_refl _) ?_
    refine c_R_pay hro hrt htt hd g1 (by omega) (by omega) ?_
    rw [z6]
    refine wp_is5 dc_R_isSync_38 (wi_iconst dc_R_isSync_40 (wp_is6 dc_R_isSync_41 ?_))
    exact lp_R_sy hx hk (by rw [if_neg (by omega)]) hK (F (st_ T (f 6))).toNat 0 0 (by omega) (by omega) (Or.inr ⟨rfl, fun h => h.elim (by omega) nl⟩)
  · refine wi_iconst dc_R_isSync_17 (wp_goto dc_R_isSync_18 rfl (wp_is4 dc_R_isSync_22 (wp_iload_n dc_R_isSync_24 rfl rfl ?_)))
    refine wi_if_ge dc_R_isSync_25 rfl (fun he => ?_) (fun he => ?_)
    · omega
    refine wi_iconst dc_R_isSync_28 (wp_goto dc_R_isSync_29 rfl (wp_is5 dc_R_isSync_38 (wi_iconst dc_R_isSync_40 (wp_is6 dc_R_isSync_41 ?_))))
    exact lp_R_sy hx hk (by rw [if_pos (by omega)]) hK 0 0 1 (by omega) (by omega) (Or.inl ⟨rfl, Or.inl (by omega)⟩)
end AR
