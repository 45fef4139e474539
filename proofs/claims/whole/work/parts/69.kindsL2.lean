/-! the class's kindsHold, on; what find says then -/
section KM
variable {l : Launch} {σ : sg_} {K : Option Value → mx_H → Prop} {n N k : Int} {T : px_T}
theorem ks_of {mi tc : Int} {b : Int → Int} {tab : Int → Int → Int} (h : KS_ N T mi tc b tab) {t : Int} (t0 : 0 ≤ t) (t1 : t < tc) : KT_ N T (b t) (tab t) := by
  obtain ⟨-, -, h3, h4⟩ := h
  obtain ⟨c1, c2, c3, c4⟩ := h4 t t0 t1
  exact ⟨fun q q0 q1 => h3 t q t0 t1 q0 q1, c1, c2, c3, c4⟩
theorem lp_L_kh {x : Value} (hx : x.category = 1) (hlt : lt_ σ N T) (htt : tt_ n N T) (h1 : (∀ j, 0 ≤ j → j < N → TK_ T j → ∃ f, KT_ N T j f) → K (some (.int (iI 1))) (hp_ σ)) (h0 : (∃ j, 0 ≤ j ∧ j < N ∧ TK_ T j ∧ ¬ ∃ f, KT_ N T j f) → K (some (.int (iI 0))) (hp_ σ)) : ∀ (j : Nat) (k : Int), k = N - j → 0 ≤ k → (∀ i, 0 ≤ i → i < k → TK_ T i → ∃ f, KT_ N T i f) → wp_m l Y_L_kindsHold none 0 0 41 [.ref 3, x, .int (iI k)] [] (hp_ σ) K := by
  obtain ⟨t1, t2, t3, t4, t5⟩ := id htt
  intro j
  induction j with
  | zero =>
    intro k hk k0 hn
    refine wp_iload_n dc_L_kindsHold_41 rfl rfl (wp_aload_n dc_L_kindsHold_42 rfl rfl (wi_getE 2 (N) dc_L_kindsHold_43 lf_L_20 sh_3 rfl rfl hlt.1 ?_))
    refine wi_ic_ge dc_L_kindsHold_46 rfl (fun he => ?_) (fun he => ?_)
    · have e : k = N := by omega
      subst e
      refine wi_iconst dc_L_kindsHold_79 ?_
      refine wp_ireturn dc_L_kindsHold_80 rfl rfl (h1 hn)
    · omega
  | succ j ih =>
    intro k hk k0 hn
    obtain ⟨e10, e11⟩ := lt_cols hlt k0 (show k < N by omega)
    have b1 := t3 k k0 (by omega)
    have hr := kd_rg b1
    have htk := kd_tk b1
    have nx : (TK_ T k → ∃ f, KT_ N T k f) → wp_m l Y_L_kindsHold none 0 0 73 [.ref 3, x, .int (iI k)] [] (hp_ σ) K := fun hc => by
      refine wp_ii2 dc_L_kindsHold_73 ?_ hx
      refine wp_goto dc_L_kindsHold_76 rfl ?_
      refine ih (k + 1) (by omega) (by omega) (fun i i0 i1 => ?_)
      by_cases hi : i = k
      · subst hi; exact hc
      · exact hn i i0 (by omega)
    refine wp_iload_n dc_L_kindsHold_41 rfl rfl (wp_aload_n dc_L_kindsHold_42 rfl rfl (wi_getE 2 (N) dc_L_kindsHold_43 lf_L_20 sh_3 rfl rfl hlt.1 ?_))
    refine wi_ic_ge dc_L_kindsHold_46 rfl (fun he => ?_) (fun he => ?_)
    · omega
    · refine wp_aload_n dc_L_kindsHold_49 rfl rfl (wi_getR dc_L_kindsHold_50 lf_L_17 sh_3 rfl (wi_bipush dc_L_kindsHold_53 (wi_aald dc_L_kindsHold_55 sh_4 rfl rfl (by decide) (by decide) (by decide) rfl (wp_iload_n dc_L_kindsHold_56 rfl rfl (wi_aldE (px_kind (T 2 k) (T 4 k)) dc_L_kindsHold_57 sh_11 (by omega) (by omega) (by decide) e11 (wi_bipush dc_L_kindsHold_58 ?_))))))
      refine wi_ic_ne dc_L_kindsHold_60 rfl (fun hf => ?_) (fun hf => ?_)
      · exact nx (fun q => absurd (htk.mpr q) hf)
      · refine wp_aload_n dc_L_kindsHold_63 rfl rfl (wp_iload_n dc_L_kindsHold_64 rfl rfl ?_)
        refine wp_callV (As := [_]) dc_L_kindsHold_65 lm_L_74 ls_L_trackKindsHold (by decide) rfl rfl (hp_at _ sh_3) rfl rfl (Nat.le_of_ble_eq_true rfl) (Nat.le_refl _) (Nat.le_refl _) ?_
        refine c_L_trackKindsHold hlt htt ⟨by omega, by omega⟩ (fun h => ?_) (fun h => ?_)
        · refine wi_if_ne dc_L_kindsHold_68 rfl (fun hg => ?_) (fun hg => ?_)
          · exact nx (fun _ => h)
          · omega
        · refine wi_if_ne dc_L_kindsHold_68 rfl (fun hg => ?_) (fun hg => ?_)
          · omega
          · refine wi_iconst dc_L_kindsHold_71 ?_
            refine wp_ireturn dc_L_kindsHold_72 rfl rfl (h0 ⟨k, k0, by omega, htk.mp hf, h⟩)
theorem c_L_kindsHold (hlt : lt_ σ N T) (htt : tt_ n N T) (h1 : KO_ N T → K (some (.int (iI 1))) (hp_ σ)) (h0 : ¬ KO_ N T → K (some (.int (iI 0))) (hp_ σ)) : ct_m l Y_L_kindsHold 0 0 [.ref 3] (hp_ σ) K := by
  obtain ⟨t1, t2, t3, t4, t5⟩ := id htt
  have trm : ∀ j, 0 ≤ j → j < N → (ck_ T (-1) 77 j ↔ MV_ T j) := fun j j0 j1 => ck_mv (t3 j j0 j1) (t4 j j0 j1)
  refine ct_of (L := [.ref 3, .retAddr 0, .retAddr 0]) (by decide +kernel) (Nat.le_of_ble_eq_true rfl) rfl ?_
  refine wp_aload_n dc_L_kindsHold_0 rfl rfl (wi_iconst dc_L_kindsHold_1 (wi_bipush dc_L_kindsHold_2 ?_))
  refine wp_callV (As := [_, _]) dc_L_kindsHold_4 lm_L_68 ls_L_countIn (by decide) rfl rfl (hp_at _ sh_3) rfl rfl (Nat.le_of_ble_eq_true rfl) (Nat.le_refl _) (Nat.le_refl _) ?_
  refine c_L_countIn hlt htt ⟨by omega, by omega⟩ ⟨by omega, by omega⟩ (fun c hc => ?_)
  obtain ⟨r1, r2, hc⟩ := hc
  refine wi_iconst dc_L_kindsHold_7 ?_
  refine wi_ic_eq dc_L_kindsHold_8 rfl (fun he => ?_) (fun he => ?_)
  rotate_left
  · refine wi_iconst dc_L_kindsHold_11 ?_
    refine wp_ireturn dc_L_kindsHold_12 rfl rfl (h0 ?_)
    rintro ⟨mi, tc, b, tab, ⟨y1, y2, y3, y4⟩, -⟩
    rcases hc with ⟨a1, a2⟩ | ⟨a1, a2⟩ | ⟨a1, a, b', a2, a3, a4, a5, a6, a7⟩ | ⟨a1, x, y, z, a2, a3, a4, a5, a6, a7, a8⟩
    · exact a2 mi y1 y2 ((trm mi y1 y2).mpr y3)
    · omega
    · have e1 := y4 a a2 (by omega) ((trm a a2 (by omega)).mp a5)
      have e2 := y4 b' (by omega) a4 ((trm b' (by omega) a4).mp a6)
      omega
    · have e1 := y4 x a2 (by omega) ((trm x a2 (by omega)).mp a6)
      have e2 := y4 y (by omega) (by omega) ((trm y (by omega) (by omega)).mp a7)
      omega
  have hone : ∃ a, 0 ≤ a ∧ a < N ∧ MV_ T a ∧ ∀ j, 0 ≤ j → j < N → MV_ T j → j = a := by
    rcases hc with ⟨a1, a2⟩ | ⟨a1, a, a2, a3, a4, a5⟩ | ⟨a1, a2⟩ | ⟨a1, a2⟩
    · omega
    · exact ⟨a, a2, a3, (trm a a2 a3).mp a4, fun j j0 j1 j2 => a5 j j0 j1 ((trm j j0 j1).mpr j2)⟩
    · omega
    · omega
  obtain ⟨mi, m1, m2, m3, m4⟩ := hone
  refine wp_aload_n dc_L_kindsHold_13 rfl rfl (wp_aload_n dc_L_kindsHold_14 rfl rfl (wi_iconst dc_L_kindsHold_15 (wi_bipush dc_L_kindsHold_16 ?_)))
  refine wp_callV (As := [_, _]) dc_L_kindsHold_18 lm_L_71 ls_L_find (by decide) rfl rfl (hp_at _ sh_3) rfl rfl (Nat.le_of_ble_eq_true rfl) (Nat.le_refl _) (Nat.le_refl _) ?_
  refine c_L_find hlt htt ⟨by omega, by omega⟩ ⟨by omega, by omega⟩ (fun r hr => ?_)
  have er : r = mi := by
    rcases hr with ⟨g1, g2⟩ | ⟨g1, g2, g3, g4⟩
    · exact absurd ((trm mi m1 m2).mpr m3) (g2 mi m1 m2)
    · exact m4 r g1 g2 ((trm r g1 g2).mp g3)
  subst er
  have trt : ∀ j, 0 ≤ j → j < N → (ck_ T r 84 j ↔ TK_ T j) := fun j j0 j1 => by
    unfold ck_
    rw [kd_tk (t3 j j0 j1)]
    refine ⟨fun h => h.2, fun h => ⟨?_, h⟩⟩
    obtain ⟨l1, l2, l3, l4⟩ := (t4 j j0 j1).2.1 h.1
    exact m4 _ l1 (by omega) l3
  refine wi_bipush dc_L_kindsHold_21 ?_
  refine wp_callV (As := [_, _]) dc_L_kindsHold_23 lm_L_68 ls_L_countIn (by decide) rfl rfl (hp_at _ sh_3) rfl rfl (Nat.le_of_ble_eq_true rfl) (Nat.le_refl _) (Nat.le_refl _) ?_
  refine c_L_countIn hlt htt ⟨by omega, by omega⟩ ⟨by omega, by omega⟩ (fun c2 hc2 => ?_)
  obtain ⟨r3, r4, hc2⟩ := hc2
  have no : ¬ KO_ N T → wp_m l Y_L_kindsHold none 0 0 37 [.ref 3, .int (iI c2), .retAddr 0] [] (hp_ σ) K := fun hn => by
    refine wi_iconst dc_L_kindsHold_37 ?_
    refine wp_ireturn dc_L_kindsHold_38 rfl rfl (h0 hn)
  -- the tracks, as the reference counts them
  have hkt : ∃ b : Int → Int, kt2_ T N c2 b := by
    rcases hc2 with ⟨a1, a2⟩ | ⟨a1, a, a2, a3, a4, a5⟩ | ⟨a1, a, b', a2, a3, a4, a5, a6, a7⟩ | ⟨a1, x, y, z, a2, a3, a4, a5, a6, a7, a8⟩
    · exact ⟨fun _ => 0, r3, r4, Or.inl ⟨a1, fun j j0 j1 j2 => a2 j j0 j1 ((trt j j0 j1).mpr j2)⟩⟩
    · exact ⟨fun _ => a, r3, r4, Or.inr (Or.inl ⟨a1, a2, a3, (trt a a2 a3).mp a4, fun j j0 j1 j2 => a5 j j0 j1 ((trt j j0 j1).mpr j2)⟩)⟩
    · exact ⟨fun t => if t = 0 then a else b', r3, r4, Or.inr (Or.inr (Or.inl ⟨a1, a2, a3, a4, (trt a a2 (by omega)).mp a5, (trt b' (by omega) a4).mp a6, fun j j0 j1 j2 => a7 j j0 j1 ((trt j j0 j1).mpr j2)⟩))⟩
    · exact ⟨fun _ => 0, r3, r4, Or.inr (Or.inr (Or.inr ⟨a1, x, y, z, a2, a3, a4, a5, (trt x a2 (by omega)).mp a6, (trt y (by omega) (by omega)).mp a7, (trt z (by omega) a5).mp a8⟩))⟩
  obtain ⟨b, hb⟩ := hkt
  have hno2 : ¬ (1 ≤ c2 ∧ c2 ≤ 2) → ¬ KO_ N T := fun hn => by
    rintro ⟨mi', tc, b', tab, hks⟩
    have := (ks_tr hks hb).1
    have := hks.2.1.1
    omega
  refine wp_is1 dc_L_kindsHold_26 (wp_iload_n dc_L_kindsHold_27 rfl rfl (wi_iconst dc_L_kindsHold_28 ?_))
  refine wi_ic_lt dc_L_kindsHold_29 rfl (fun hf => ?_) (fun hf => ?_)
  · exact no (hno2 (by omega))
  refine wp_iload_n dc_L_kindsHold_32 rfl rfl (wi_iconst dc_L_kindsHold_33 ?_)
  refine wi_ic_le dc_L_kindsHold_34 rfl (fun hg => ?_) (fun hg => ?_)
  rotate_left
  · exact no (hno2 (by omega))
  refine wi_iconst dc_L_kindsHold_39 (wp_is2 dc_L_kindsHold_40 ?_)
  refine lp_L_kh rfl hlt htt (fun hall => h1 ?_) (fun hex => h0 ?_) N.toNat 0 (by omega) (by omega) (fun i i0 i1 => by omega)
  · have htr : (c2 = 1 ∨ c2 = 2) ∧ (∀ t, 0 ≤ t → t < c2 → 0 ≤ b t ∧ b t < N ∧ TK_ T (b t)) ∧ (c2 = 2 → b 0 < b 1) ∧ ∀ j, 0 ≤ j → j < N → TK_ T j → ∃ t, 0 ≤ t ∧ t < c2 ∧ j = b t := by
      rcases hb.2.2 with ⟨a1, a2⟩ | ⟨a1, a2, a3, a4, a5⟩ | ⟨a1, a2, a3, a4, a5, a6, a7⟩ | ⟨a1, a2⟩
      · omega
      · refine ⟨Or.inl a1, fun t t0 t1 => ?_, fun h => by omega, fun j j0 j1 j2 => ⟨0, by omega, by omega, a5 j j0 j1 j2⟩⟩
        have ht : t = 0 := by omega
        subst ht
        exact ⟨a2, a3, a4⟩
      · refine ⟨Or.inr a1, fun t t0 t1 => ?_, fun _ => a3, fun j j0 j1 j2 => ?_⟩
        · have ht : t = 0 ∨ t = 1 := by omega
          rcases ht with rfl | rfl
          · exact ⟨a2, by omega, a5⟩
          · exact ⟨by omega, a4, a6⟩
        · rcases a7 j j0 j1 j2 with h | h
          · exact ⟨0, by omega, by omega, h⟩
          · exact ⟨1, by omega, by omega, h⟩
      · omega
    have hf0 : ∀ t, ∃ f, 0 ≤ t → t < c2 → KT_ N T (b t) f := fun t => by
      by_cases ht : 0 ≤ t ∧ t < c2
      · obtain ⟨q1, q2, q3⟩ := htr.2.1 t ht.1 ht.2
        obtain ⟨f, hf⟩ := hall _ q1 q2 q3
        exact ⟨f, fun _ _ => hf⟩
      · exact ⟨fun _ => 0, fun a1 a2 => absurd ⟨a1, a2⟩ ht⟩
    obtain ⟨tab, htab⟩ := Classical.axiomOfChoice hf0
    exact ⟨r, c2, b, tab, ⟨m1, m2, m3, m4⟩, htr, fun t q t0 t1 q0 q1 => (htab t t0 t1).1 q q0 q1, fun t t0 t1 => (htab t t0 t1).2⟩
  · rintro ⟨mi', tc, b', tab, hks⟩
    obtain ⟨j, j0, j1, j2, j3⟩ := hex
    obtain ⟨t, t0, t1, e⟩ := hks.2.1.2.2.2 j j0 j1 j2
    exact j3 ⟨tab t, e ▸ ks_of hks t0 t1⟩
/-- find of a kind in a track -/
theorem ff_tb {mi tc : Int} {b : Int → Int} {tab : Int → Int → Int} (htt : tt_ n N T) (h : KS_ N T mi tc b tab) {t q r : Int} (t0 : 0 ≤ t) (t1 : t < tc) (q0 : 0 ≤ q) (q1 : q < 8) (hr : ff_ (ck_ T (b t) (tq_ q)) N r) : r = tab t q := by
  have tr : ∀ j, 0 ≤ j → j < N → (ck_ T (b t) (tq_ q) j ↔ TB_ T (b t) q j) := fun j j0 j1 => ck_tb (htt.2.2.1 j j0 j1) q0 q1
  rcases hr with ⟨g1, g2⟩ | ⟨g1, g2, g3, g4⟩
  · rcases h.2.2.1 t q t0 t1 q0 q1 with k | k
    · omega
    · exact absurd ((tr _ k.1 k.2.1).mpr k.2.2.1) (g2 _ k.1 k.2.1)
  · rcases h.2.2.1 t q t0 t1 q0 q1 with k | k
    · exact absurd ((tr _ g1 g2).mp g3) (k.2 _ g1 g2)
    · exact k.2.2.2 r g1 g2 ((tr _ g1 g2).mp g3)
theorem ff_mv {mi tc r : Int} {b : Int → Int} {tab : Int → Int → Int} (htt : tt_ n N T) (h : KS_ N T mi tc b tab) (hr : ff_ (ck_ T (-1) 77) N r) : r = mi := by
  obtain ⟨t1, t2, t3, t4, t5⟩ := htt
  obtain ⟨⟨m1, m2, m3, m4⟩, -⟩ := h
  have trm : ∀ j, 0 ≤ j → j < N → (ck_ T (-1) 77 j ↔ MV_ T j) := fun j j0 j1 => ck_mv (t3 j j0 j1) (t4 j j0 j1)
  rcases hr with ⟨g1, g2⟩ | ⟨g1, g2, g3, g4⟩
  · exact absurd ((trm mi m1 m2).mpr m3) (g2 mi m1 m2)
  · exact m4 r g1 g2 ((trm r g1 g2).mp g3)
theorem ks_uniq {mi tc mi' tc' : Int} {b b' : Int → Int} {tab tab' : Int → Int → Int} (h : KS_ N T mi tc b tab) (h' : KS_ N T mi' tc' b' tab') : mi = mi' ∧ tc = tc' ∧ (∀ t, 0 ≤ t → t < tc → b t = b' t) ∧ ∀ t q, 0 ≤ t → t < tc → 0 ≤ q → q < 8 → tab t q = tab' t q := by
  have hN : tc' ≤ N := by
    obtain ⟨-, ⟨a1, a2, a3, a4⟩, -⟩ := h'
    have b0 := a2 0 (by omega) (by omega)
    rcases a1 with a1 | a1
    · omega
    · have b1 := a2 1 (by omega) (by omega)
      have := a3 a1
      omega
  have hkt : kt2_ T N tc' b' := by
    obtain ⟨-, ⟨a1, a2, a3, a4⟩, -⟩ := h'
    have b0 := a2 0 (by omega) (by omega)
    refine ⟨by omega, hN, ?_⟩
    rcases a1 with a1 | a1
    · refine Or.inr (Or.inl ⟨a1, b0.1, b0.2.1, b0.2.2, fun j j0 j1 j2 => ?_⟩)
      obtain ⟨t, t0, t1, e⟩ := a4 j j0 j1 j2
      have ht : t = 0 := by omega
      subst ht
      exact e
    · have b1 := a2 1 (by omega) (by omega)
      refine Or.inr (Or.inr (Or.inl ⟨a1, b0.1, a3 a1, b1.2.1, b0.2.2, b1.2.2, fun j j0 j1 j2 => ?_⟩))
      obtain ⟨t, t0, t1, e⟩ := a4 j j0 j1 j2
      have ht : t = 0 ∨ t = 1 := by omega
      rcases ht with rfl | rfl
      · exact Or.inl e
      · exact Or.inr e
  obtain ⟨e1, e2⟩ := ks_tr h hkt
  refine ⟨h'.1.2.2.2 mi h.1.1 h.1.2.1 h.1.2.2.1, e1, e2, fun t q t0 t1 q0 q1 => ?_⟩
  have m1 := h.2.2.1 t q t0 t1 q0 q1
  have m2 := h'.2.2.1 t q t0 (by omega) q0 q1
  rw [← e2 t t0 t1] at m2
  rcases m1 with g | g
  · rcases m2 with k | k
    · omega
    · exact absurd k.2.2.1 (g.2 _ k.1 k.2.1)
  · rcases m2 with k | k
    · exact absurd g.2.2.1 (k.2 _ g.1 g.2.1)
    · exact k.2.2.2 _ g.1 g.2.1 g.2.2.1
end KM
