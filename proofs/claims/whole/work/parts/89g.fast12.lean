/-! fastStart: the reference's new places and narrow tables -/
section FO
variable {l : Launch} {K : Option Value → mx_H → Prop} {F : Int → Int} {n N : Int} {T : px_T} {mi tc : Int} {b : Int → Int} {tab : Int → Int → Int} {me : Int} {σ : sg_}
theorem c_R_newPlace {t c L : Int} (hx : fx_ F n N T mi tc b tab me) (hy : ry_ σ F n N T mi tc b tab) (t0 : 0 ≤ t) (t1 : t < tc) (c0 : 1 ≤ c) (c1 : c ≤ CC_ F T (tab t)) (hL : 0 ≤ L ∧ L ≤ 2000000000) (hK : K (some (.int (iI (nz_ N T mi (pc_ F T (tab t) c) L)))) (hp_ σ)) : ct_m l Y_R_newPlace 0 0 [.ref 51, .int (iI t), .int (iI c), .int (iI L)] (hp_ σ) K := by
  have m := fx_mi hx
  have htt := hx.2.2.1
  have hn := hx.2.1
  have ecc : CC_ F T (tab t) = F (st_ T (pj_ (tab t))) := rfl
  have hF := hx.1 (st_ T (pj_ (tab t)))
  obtain ⟨g0, g1, g2⟩ := fx_hb hx t0 t1 c0 c1
  obtain ⟨z1, z2, z3, z4, z5⟩ := fx_nz hx t0 t1 c0 c1 hL.1
  have eh : σ 63 (256 * t + c) = hb_ N T (pc_ F T (tab t) c) := fx_hm hx t0 t1 c0 c1 (hy.2.2 t c t0 t1 c0 c1)
  have bx := htt.2.2.1 _ g0 g1
  have bm := htt.2.2.1 mi m.1 (by omega)
  unfold bx_ at bx bm
  have hrt := hy.2.1.1
  unfold nz_ nw_ at hK
  refine ct_of (L := [.ref 51, .int (iI t), .int (iI c), .int (iI L), .retAddr 0, .retAddr 0]) (by decide +kernel) (Nat.le_of_ble_eq_true rfl) rfl ?_
  refine wp_aload_n dc_R_newPlace_0 rfl rfl (wi_getR dc_R_newPlace_1 lf_R_43 sh_51 rfl (wi_sipush dc_R_newPlace_4 (wp_iload_n dc_R_newPlace_7 rfl rfl (wi_imul dc_R_newPlace_8 (wp_iload_n dc_R_newPlace_9 rfl rfl (wi_iadd dc_R_newPlace_10 (wi_aldE (hb_ N T (pc_ F T (tab t) c)) dc_R_newPlace_11 sh_63 (by omega) (by omega) (by decide) eh (wp_is4 dc_R_newPlace_12 (wp_aload_n dc_R_newPlace_14 rfl rfl (wp_iload_n dc_R_newPlace_15 rfl rfl (wp_iload_n dc_R_newPlace_16 rfl rfl ?_)))))))))))
  refine wp_callV (As := [_, _]) dc_R_newPlace_17 lm_R_131 ls_R_chunkPlace (by decide) rfl rfl (hp_at _ sh_51) rfl rfl (Nat.le_of_ble_eq_true rfl) (Nat.le_refl _) (Nat.le_refl _) ?_
  refine c_R_chunkPlace (ry_rx hx hy t0 t1) c0 c1 ?_
  refine wp_is5 dc_R_newPlace_20 (wp_aload_n dc_R_newPlace_22 rfl rfl (wi_getR dc_R_newPlace_23 lf_R_13 sh_51 rfl (wp_iload dc_R_newPlace_26 rfl (wi_aldE (T 0 (hb_ N T (pc_ F T (tab t) c))) dc_R_newPlace_28 sh_53 (by omega) (by omega) (by decide) (hrt.2 0 _ (by decide) g0 g1) (wp_aload_n dc_R_newPlace_29 rfl rfl (wi_getR dc_R_newPlace_30 lf_R_13 sh_51 rfl (wp_aload_n dc_R_newPlace_33 rfl rfl (wi_getE 11 (mi) dc_R_newPlace_34 lf_R_96 sh_51 rfl rfl hy.2.1.2.1 (wi_aldE (T 0 mi) dc_R_newPlace_37 sh_53 (by omega) (by omega) (by decide) (hrt.2 0 mi (by decide) m.1 (by omega)) ?_)))))))))
  refine wi_ic_ge dc_R_newPlace_38 rfl (fun hd => ?_) (fun hd => ?_)
  · rw [if_neg (fun q => by have := z5.mp q; omega)] at hK
    refine wp_iload dc_R_newPlace_48 rfl (wp_iload_n dc_R_newPlace_50 rfl rfl (wi_iadd dc_R_newPlace_51 (wp_aload_n dc_R_newPlace_52 rfl rfl (wi_getR dc_R_newPlace_53 lf_R_16 sh_51 rfl (wp_aload_n dc_R_newPlace_56 rfl rfl (wi_getE 11 (mi) dc_R_newPlace_57 lf_R_96 sh_51 rfl rfl hy.2.1.2.1 (wi_aldE (T 1 mi) dc_R_newPlace_60 sh_54 (by omega) (by omega) (by decide) (hrt.2 1 mi (by decide) m.1 (by omega)) (wi_isub dc_R_newPlace_61 ?_))))))))
    refine wp_ireturn dc_R_newPlace_62 rfl rfl hK
  · rw [if_pos (z5.mpr (by omega)), Int.sub_zero] at hK
    refine wp_iload dc_R_newPlace_41 rfl (wp_iload_n dc_R_newPlace_43 rfl rfl (wi_iadd dc_R_newPlace_44 (wp_goto dc_R_newPlace_45 rfl ?_)))
    refine wp_ireturn dc_R_newPlace_62 rfl rfl hK
/-- some new place up to the chunk c is too great for a byte -/
def bg_ (F : Int → Int) (N : Int) (T : px_T) (mi : Int) (f : Int → Int) (L c : Int) : Prop := ∃ x, 1 ≤ x ∧ x < c ∧ 255 < nz_ N T mi (pc_ F T f x) L
theorem lp_R_tn2 {t L x0 : Int} (hx : fx_ F n N T mi tc b tab me) (hy : ry_ σ F n N T mi tc b tab) (t0 : 0 ≤ t) (t1 : t < tc) (hL : 0 ≤ L ∧ L ≤ 2000000000) (h4 : 0 ≤ tab t 4)
    (hK : ∀ (x c : Int), (0 ≤ x ∧ x ≤ 3) → (∀ t', 0 ≤ t' → t' < 2 → (bi_ x t' = 1 ↔ bi_ x0 t' = 1 ∨ (t' = t ∧ og_ F N T mi (tab t) L))) → wp_m l Y_R_tooNarrow none 0 0 77 [.ref 51, .int (iI L), .int (iI x), .int (iI t), .int (iI (CC_ F T (tab t))), .int (iI c)] [] (hp_ σ) K) :
    ∀ (j : Nat) (c x : Int), c + j = CC_ F T (tab t) + 1 → 1 ≤ c → (0 ≤ x ∧ x ≤ 3) → (∀ t', 0 ≤ t' → t' < 2 → (bi_ x t' = 1 ↔ bi_ x0 t' = 1 ∨ (t' = t ∧ bg_ F N T mi (tab t) L c))) → wp_m l Y_R_tooNarrow none 0 0 40 [.ref 51, .int (iI L), .int (iI x), .int (iI t), .int (iI (CC_ F T (tab t))), .int (iI c)] [] (hp_ σ) K := by
  have m := fx_mi hx
  have hn := hx.2.1
  have ecc : CC_ F T (tab t) = F (st_ T (pj_ (tab t))) := rfl
  have hF := hx.1 (st_ T (pj_ (tab t)))
  intro j
  induction j with
  | zero =>
    intro c x hc c0 xr hb
    refine wp_iload dc_R_tooNarrow_40 rfl (wp_iload dc_R_tooNarrow_42 rfl ?_)
    refine wi_ic_gt dc_R_tooNarrow_44 rfl (fun hd => ?_) (fun hd => ?_)
    · refine hK x c xr (fun t' a1 a2 => (hb t' a1 a2).trans ?_)
      have e : bg_ F N T mi (tab t) L c ↔ og_ F N T mi (tab t) L := by
        constructor
        · rintro ⟨y, y0, y1, y2⟩
          exact ⟨h4, y, y0, by omega, y2⟩
        · rintro ⟨_, y, y0, y1, y2⟩
          exact ⟨y, y0, by omega, y2⟩
      rw [e]
    · omega
  | succ j ih =>
    intro c x hc c0 xr hb
    obtain ⟨z1, z2, z3, z4, z5⟩ := fx_nz hx (c := c) t0 t1 c0 (by omega) hL.1
    refine wp_iload dc_R_tooNarrow_40 rfl (wp_iload dc_R_tooNarrow_42 rfl ?_)
    refine wi_ic_gt dc_R_tooNarrow_44 rfl (fun hd => ?_) (fun hd => ?_)
    · omega
    refine wp_aload_n dc_R_tooNarrow_47 rfl rfl (wp_iload_n dc_R_tooNarrow_48 rfl rfl (wp_iload dc_R_tooNarrow_49 rfl (wp_iload_n dc_R_tooNarrow_51 rfl rfl ?_)))
    refine wp_callV (As := [_, _, _]) dc_R_tooNarrow_52 lm_R_165 ls_R_newPlace (by decide) rfl rfl (hp_at _ sh_51) rfl rfl (Nat.le_of_ble_eq_true rfl) (Nat.le_refl _) (Nat.le_refl _) ?_
    refine c_R_newPlace hx hy t0 t1 c0 (by omega) hL ?_
    refine wi_sipush dc_R_tooNarrow_55 ?_
    refine wi_ic_le dc_R_tooNarrow_58 rfl (fun he => ?_) (fun he => ?_)
    · refine wp_iload_n dc_R_tooNarrow_69 rfl rfl (wp_is2 dc_R_tooNarrow_70 (wp_ii5 dc_R_tooNarrow_71 (wp_goto dc_R_tooNarrow_74 rfl ?_)))
      refine ih (c + 1) x (by omega) (by omega) xr (fun t' a1 a2 => (hb t' a1 a2).trans ?_)
      have e : bg_ F N T mi (tab t) L c ↔ bg_ F N T mi (tab t) L (c + 1) := by
        constructor
        · rintro ⟨y, y0, y1, y2⟩
          exact ⟨y, y0, by omega, y2⟩
        · rintro ⟨y, y0, y1, y2⟩
          by_cases q : y = c
          · rw [q] at y2; omega
          · exact ⟨y, y0, by omega, y2⟩
      rw [e]
    · refine wp_iload_n dc_R_tooNarrow_61 rfl rfl (wi_iconst dc_R_tooNarrow_62 (wp_iload_n dc_R_tooNarrow_63 rfl rfl (wi_shl1 dc_R_tooNarrow_64 (wi_orb dc_R_tooNarrow_65 (wp_goto dc_R_tooNarrow_66 rfl (wp_is2 dc_R_tooNarrow_70 (wp_ii5 dc_R_tooNarrow_71 (wp_goto dc_R_tooNarrow_74 rfl ?_))))))))
      refine ih (c + 1) _ (by omega) (by omega) (ob_b (t' := 0) xr.1 xr.2 t0 (by omega) (by omega) (by omega)).1 (fun t' a1 a2 => ((ob_b xr.1 xr.2 t0 (by omega) a1 a2).2).trans ?_)
      rw [hb t' a1 a2]
      constructor
      · rintro ((q | q) | q)
        · exact Or.inl q
        · exact Or.inr ⟨q.1, c, c0, by omega, by omega⟩
        · exact Or.inr ⟨q, c, c0, by omega, by omega⟩
      · rintro (q | q)
        · exact Or.inl (Or.inl q)
        · exact Or.inr q.1
theorem bi_ext {x y : Int} (hx : 0 ≤ x ∧ x ≤ 3) (hy : 0 ≤ y ∧ y ≤ 3) (h : ∀ t, 0 ≤ t → t < 2 → (bi_ x t = 1 ↔ bi_ y t = 1)) : x = y := by
  have h0 := h 0 (by decide) (by decide)
  have h1 := h 1 (by decide) (by decide)
  unfold bi_ at h0 h1
  rw [if_pos rfl, if_pos rfl] at h0
  rw [if_neg (by decide), if_neg (by decide)] at h1
  omega
theorem lp_R_tn {L : Int} (hx : fx_ F n N T mi tc b tab me) (hy : ry_ σ F n N T mi tc b tab) (hL : 0 ≤ L ∧ L ≤ 2000000000) (hK : K (some (.int (iI (ph_ F N T mi tc tab L)))) (hp_ σ)) :
    ∀ (j : Nat) (t x : Int) (u4 u5 : Value), t + j = tc → 0 ≤ t → (0 ≤ x ∧ x ≤ 3) → (∀ t', 0 ≤ t' → t' < 2 → (bi_ x t' = 1 ↔ t' < t ∧ og_ F N T mi (tab t') L)) → wp_m l Y_R_tooNarrow none 0 0 4 [.ref 51, .int (iI L), .int (iI x), .int (iI t), u4, u5] [] (hp_ σ) K := by
  have m := fx_mi hx
  intro j
  induction j with
  | zero =>
    intro t x u4 u5 ht t0 xr hb
    refine wp_iload_n dc_R_tooNarrow_4 rfl rfl (wp_aload_n dc_R_tooNarrow_5 rfl rfl (wi_getE 12 (tc) dc_R_tooNarrow_6 lf_R_83 sh_51 rfl rfl hy.2.1.2.2.1 ?_))
    refine wi_ic_ge dc_R_tooNarrow_9 rfl (fun hd => ?_) (fun hd => ?_)
    · have e : ph_ F N T mi tc tab L = x := bi_ext (ph_bit L).1 xr (fun t' a1 a2 => by
        rw [hb t' a1 a2]
        by_cases q : t' < tc
        · rw [ph_b L a1 q m.2.2.2.2.2.2.2.2]
          exact ⟨fun z => ⟨by omega, z⟩, fun z => z.2⟩
        · have pb := ph_bit (F := F) (N := N) (T := T) (mi := mi) (tc := tc) (tab := tab) L
          unfold bi_
          rw [if_neg (by omega), pb.2.2]
          exact ⟨fun z => by omega, fun z => by omega⟩)
      rw [e] at hK
      refine wp_iload_n dc_R_tooNarrow_83 rfl rfl ?_
      refine wp_ireturn dc_R_tooNarrow_84 rfl rfl hK
    · omega
  | succ j ih =>
    intro t x u4 u5 ht t0 xr hb
    have e62 := hy.2.1.2.2.2.2 t 4 t0 (by omega) (by decide) (by decide)
    have tbr : -1 ≤ tab t 4 ∧ tab t 4 < 20 := by
      rcases hx.2.2.2.1.2.2.1 t 4 t0 (by omega) (by decide) (by decide) with g | g <;> omega
    have nx : ∀ (y c : Int) (u4 : Value), (0 ≤ y ∧ y ≤ 3) → (∀ t', 0 ≤ t' → t' < 2 → (bi_ y t' = 1 ↔ bi_ x t' = 1 ∨ (t' = t ∧ og_ F N T mi (tab t) L))) → wp_m l Y_R_tooNarrow none 0 0 77 [.ref 51, .int (iI L), .int (iI y), .int (iI t), u4, .int (iI c)] [] (hp_ σ) K := fun y c u4 yr hy' => by
      refine wp_ii3 dc_R_tooNarrow_77 (wp_goto dc_R_tooNarrow_80 rfl ?_)
      refine ih (t + 1) y _ _ (by omega) (by omega) yr (fun t' a1 a2 => ?_)
      rw [hy' t' a1 a2, hb t' a1 a2]
      constructor
      · rintro (q | q)
        · exact ⟨by omega, q.2⟩
        · exact ⟨by omega, by rw [q.1]; exact q.2⟩
      · rintro ⟨q1, q2⟩
        by_cases q : t' = t
        · exact Or.inr ⟨q, by rw [← q]; exact q2⟩
        · exact Or.inl ⟨by omega, q2⟩
    refine wp_iload_n dc_R_tooNarrow_4 rfl rfl (wp_aload_n dc_R_tooNarrow_5 rfl rfl (wi_getE 12 (tc) dc_R_tooNarrow_6 lf_R_83 sh_51 rfl rfl hy.2.1.2.2.1 ?_))
    refine wi_ic_ge dc_R_tooNarrow_9 rfl (fun hd => ?_) (fun hd => ?_)
    · omega
    refine wp_aload_n dc_R_tooNarrow_12 rfl rfl (wi_getR dc_R_tooNarrow_13 lf_R_40 sh_51 rfl (wi_bipush dc_R_tooNarrow_16 (wp_iload_n dc_R_tooNarrow_18 rfl rfl (wi_imul dc_R_tooNarrow_19 (wi_iconst dc_R_tooNarrow_20 (wi_iadd dc_R_tooNarrow_21 (wi_aldE (tab t 4) dc_R_tooNarrow_22 sh_62 (by omega) (by omega) (by decide) e62 ?_)))))))
    refine wi_if_lt dc_R_tooNarrow_23 rfl (fun he => ?_) (fun he => ?_)
    · refine wi_iconst dc_R_tooNarrow_34 (wp_is4 dc_R_tooNarrow_35 (wi_iconst dc_R_tooNarrow_37 (wp_is5 dc_R_tooNarrow_38 ?_)))
      refine wp_iload dc_R_tooNarrow_40 rfl (wp_iload dc_R_tooNarrow_42 rfl ?_)
      refine wi_ic_gt dc_R_tooNarrow_44 rfl (fun hf => ?_) (fun hf => ?_)
      · refine nx x 1 _ xr (fun t' a1 a2 => ⟨fun q => Or.inl q, fun q => ?_⟩)
        rcases q with q | q
        · exact q
        · exact absurd q.2.1 (by omega)
      · omega
    · refine wp_aload_n dc_R_tooNarrow_26 rfl rfl (wp_iload_n dc_R_tooNarrow_27 rfl rfl ?_)
      refine wp_callV (As := [_]) dc_R_tooNarrow_28 lm_R_116 ls_R_chunkCount (by decide) rfl rfl (hp_at _ sh_51) rfl rfl (Nat.le_of_ble_eq_true rfl) (Nat.le_refl _) (Nat.le_refl _) ?_
      refine c_R_chunkCount (ry_rx hx hy t0 (by omega)) ?_
      refine wp_goto dc_R_tooNarrow_31 rfl (wp_is4 dc_R_tooNarrow_35 (wi_iconst dc_R_tooNarrow_37 (wp_is5 dc_R_tooNarrow_38 ?_)))
      have ecc : CC_ F T (tab t) = F (st_ T (pj_ (tab t))) := rfl
      have hF := hx.1 (st_ T (pj_ (tab t)))
      refine lp_R_tn2 (x0 := x) hx hy t0 (by omega) hL (by omega) (fun y c yr hy' => nx y c _ yr hy') (CC_ F T (tab t)).toNat 1 x (by omega) (by omega) xr (fun t' a1 a2 => ⟨fun q => Or.inl q, fun q => ?_⟩)
      rcases q with q | ⟨_, y, y0, y1, y2⟩
      · exact q
      · omega
theorem c_R_tooNarrow {L : Int} (hx : fx_ F n N T mi tc b tab me) (hy : ry_ σ F n N T mi tc b tab) (hL : 0 ≤ L ∧ L ≤ 2000000000) (hK : K (some (.int (iI (ph_ F N T mi tc tab L)))) (hp_ σ)) : ct_m l Y_R_tooNarrow 0 0 [.ref 51, .int (iI L)] (hp_ σ) K := by
  have m := fx_mi hx
  refine ct_of (L := [.ref 51, .int (iI L), .retAddr 0, .retAddr 0, .retAddr 0, .retAddr 0]) (by decide +kernel) (Nat.le_of_ble_eq_true rfl) rfl ?_
  refine wi_iconst dc_R_tooNarrow_0 (wp_is2 dc_R_tooNarrow_1 (wi_iconst dc_R_tooNarrow_2 (wp_is3 dc_R_tooNarrow_3 ?_)))
  refine lp_R_tn hx hy hL hK tc.toNat 0 0 _ _ (by omega) (by omega) (by omega) (fun t' a1 a2 => ⟨fun q => ?_, fun q => by omega⟩)
  unfold bi_ at q
  split at q <;> omega
end FO
