/-! the reference's kindsWrong -/
theorem tk_last {T : px_T} {k tc o : Int} {b : Int → Int} (h : kt2_ T k tc b) (h2 : tc ≤ 2) (hl : l2_ T k o) : 1 ≤ tc ∧ o = b (tc - 1) := by
  obtain ⟨h0, h1, h3⟩ := h
  obtain ⟨l1, l2, l3, l4⟩ := hl
  rcases h3 with ⟨a1, a2⟩ | ⟨a1, a2, a3, a4, a5⟩ | ⟨a1, a2, a3, a4, a5, a6, a7⟩ | ⟨a1, a2⟩
  · exact absurd l3 (a2 o l1 l2)
  · subst a1
    exact ⟨by omega, a5 o l1 l2 l3⟩
  · subst a1
    rcases a7 o l1 l2 l3 with e | e
    · have h5 := l4 (b 1) (by omega) a4
      have h6 := a6.1
      omega
    · exact ⟨by omega, e⟩
  · omega
theorem kb_T {T : px_T} {n k tc wr : Int} {b tab : Int → Int} (hk : 0 ≤ k) (hb : ∀ i, 0 ≤ i → i ≤ k → T 5 i < i) (h0 : 0 ≤ tc) (h : kb_ T k tc wr b tab) (hm : TK_ T k) : kb_ T (k + 1) (tc + 1) wr (fun t => if t = tc then k else b t) tab := by
  intro h2
  obtain ⟨h3, h4⟩ := h (by omega)
  have hnt : ∀ x q, ¬ TB_ T x q k := fun x q hq => by have := hq.1; have := hm.1; omega
  refine ⟨fun t q t0 t1 q0 q1 => ?_, fun hw => ?_⟩
  · dsimp only
    by_cases ht : t = tc
    · rw [if_pos ht]
      rcases h3 t q t0 t1 q0 q1 with ⟨a1, a2⟩ | ⟨a1, a2⟩
      · refine Or.inl ⟨a1, fun _ j j0 j1 hj => ?_⟩
        have h5 := hb j j0 (by omega)
        have h6 := hj.2.2
        omega
      · omega
    · rw [if_neg ht]
      rcases h3 t q t0 t1 q0 q1 with ⟨a1, a2⟩ | ⟨a1, a2, a3, a4, a5⟩
      · refine Or.inl ⟨a1, fun ht2 j j0 j1 hj => ?_⟩
        by_cases hjk : j = k
        · subst hjk; exact hnt _ _ hj
        · exact a2 (by omega) j j0 (by omega) hj
      · refine Or.inr ⟨by omega, a2, by omega, a4, fun hw j j0 j1 hj => ?_⟩
        by_cases hjk : j = k
        · subst hjk; exact absurd hj (hnt _ _)
        · exact a5 hw j j0 (by omega) hj
  · obtain ⟨t, q, x, y, b1, b2, b3, b4, b5, b6, b7, b8, b9⟩ := h4 hw
    refine ⟨t, q, x, y, b1, by omega, b3, b4, b5, b6, by omega, ?_, ?_⟩
    · dsimp only; rw [if_neg (by omega)]; exact b8
    · dsimp only; rw [if_neg (by omega)]; exact b9
theorem kb_N {T : px_T} {k tc wr : Int} {b tab : Int → Int} (h : kb_ T k tc wr b tab) (hnt : ∀ x q, 0 ≤ q → q < 8 → ¬ TB_ T x q k) : kb_ T (k + 1) tc wr b tab := by
  intro h2
  obtain ⟨h3, h4⟩ := h h2
  refine ⟨fun t q t0 t1 q0 q1 => ?_, fun hw => ?_⟩
  · rcases h3 t q t0 t1 q0 q1 with ⟨a1, a2⟩ | ⟨a1, a2, a3, a4, a5⟩
    · refine Or.inl ⟨a1, fun ht2 j j0 j1 hj => ?_⟩
      by_cases hjk : j = k
      · subst hjk; exact hnt _ _ q0 q1 hj
      · exact a2 ht2 j j0 (by omega) hj
    · refine Or.inr ⟨a1, a2, by omega, a4, fun hw j j0 j1 hj => ?_⟩
      by_cases hjk : j = k
      · subst hjk; exact absurd hj (hnt _ _ q0 q1)
      · exact a5 hw j j0 (by omega) hj
  · obtain ⟨t, q, x, y, b1, b2, b3, b4, b5, b6, b7, b8, b9⟩ := h4 hw
    exact ⟨t, q, x, y, b1, b2, b3, b4, b5, b6, by omega, b8, b9⟩
theorem kb_B {T : px_T} {k tc wr q0 : Int} {b tab : Int → Int} (hk : 0 ≤ k) (hwr : wr = 0 ∨ wr = 1) (h1 : 1 ≤ tc) (hb01 : tc = 2 → b 0 < b 1) (h : kb_ T k tc wr b tab) (hq0 : 0 ≤ q0) (hq1 : q0 < 8) (ht : TB_ T (b (tc - 1)) q0 k) : kb_ T (k + 1) tc (if ¬ wr = 0 ∨ ¬ tab (8 * (tc - 1) + q0) < 0 then 1 else 0) b (fun i => if i = 8 * (tc - 1) + q0 then k else tab i) := by
  intro h2
  obtain ⟨h3, h4⟩ := h h2
  have hself := h3 (tc - 1) q0 (by omega) (by omega) hq0 hq1
  refine ⟨fun t q t0 t1 q2 q3 => ?_, fun hw => ?_⟩
  · dsimp only
    by_cases hi : 8 * t + q = 8 * (tc - 1) + q0
    · rw [if_pos hi]
      have e1 : t = tc - 1 := by omega
      have e2 : q = q0 := by omega
      subst e2; subst e1
      refine Or.inr ⟨by omega, hk, by omega, ht, fun hw j j0 j1 hj => ?_⟩
      by_cases hjk : j = k
      · exact hjk
      · exfalso
        have hnw : ¬ (¬ wr = 0 ∨ ¬ tab (8 * (tc - 1) + q) < 0) := fun hc => by rw [if_pos hc] at hw; omega
        rcases hself with ⟨a1, a2⟩ | ⟨a1, a2, a3⟩
        · exact a2 (by omega) j j0 (by omega) hj
        · omega
    · rw [if_neg hi]
      have hnt : t < tc → ¬ TB_ T (b t) q k := fun htc hj => by
        have e := tq_inj hq0 hq1 q2 q3 (ht.2.1.symm.trans hj.2.1)
        subst e
        have e2 : b t = b (tc - 1) := hj.2.2.symm.trans ht.2.2
        have e3 : t = 0 ∧ tc = 2 := by omega
        obtain ⟨rfl, rfl⟩ := e3
        have := hb01 rfl
        rw [show (2 : Int) - 1 = 1 by omega] at e2
        omega
      rcases h3 t q t0 t1 q2 q3 with ⟨a1, a2⟩ | ⟨a1, a2, a3, a4, a5⟩
      · refine Or.inl ⟨a1, fun ht2 j j0 j1 hj => ?_⟩
        by_cases hjk : j = k
        · subst hjk; exact hnt ht2 hj
        · exact a2 ht2 j j0 (by omega) hj
      · refine Or.inr ⟨a1, a2, by omega, a4, fun hw j j0 j1 hj => ?_⟩
        by_cases hjk : j = k
        · subst hjk; exact absurd hj (hnt a1)
        · refine a5 ?_ j j0 (by omega) hj
          by_cases hw0 : wr = 0
          · exact hw0
          · rw [if_pos (Or.inl hw0)] at hw; omega
  · by_cases hw0 : wr = 1
    · obtain ⟨t, q, x, y, b1, b2, b3, b4, b5, b6, b7, b8, b9⟩ := h4 hw0
      exact ⟨t, q, x, y, b1, b2, b3, b4, b5, b6, by omega, b8, b9⟩
    · have hw1 : wr = 0 := by
        rcases hwr with e | e
        · exact e
        · exact absurd e hw0
      by_cases hc : ¬ wr = 0 ∨ ¬ tab (8 * (tc - 1) + q0) < 0
      · rcases hself with ⟨a1, a2⟩ | ⟨a1, a2, a3, a4, a5⟩
        · omega
        · exact ⟨tc - 1, q0, tab (8 * (tc - 1) + q0), k, by omega, by omega, hq0, hq1, a2, a3, by omega, a4, ht⟩
      · rw [if_neg hc] at hw; omega
section KR
variable {l : Launch} {σ : sg_} {K : Option Value → mx_H → Prop} {n N k : Int} {T : px_T}
/-- what is known of the reference's heap at box k -/
def kx_ (σ0 σ : sg_) (N : Int) (T : px_T) (k mv wr : Int) : Prop := fr_ kwW σ0 σ ∧ km_ T k mv (σ 51 11) ∧ kt2_ T k (σ 51 12) (σ 61) ∧ kb_ T k (σ 51 12) wr (σ 61) (σ 62) ∧ (wr = 0 ∨ wr = 1)
theorem lp_R_kw {σ0 : sg_} (hrt : rt_ σ0 N T) (htt : tt_ n N T) : ∀ (j : Nat) (k mv wr : Int) (σ : sg_) (u4 u5 : Value), k = N - j → 0 ≤ k → u4.category = 1 → kx_ σ0 σ N T k mv wr → (∀ (σ' : sg_) (mv' wr' : Int) (u4' u5' : Value), u4'.category = 1 → kx_ σ0 σ' N T N mv' wr' → wp_m l Y_R_kindsWrong none 0 0 203 [.ref 51, .int (iI mv'), .int (iI wr'), .int (iI N), u4', u5'] [] (hp_ σ') K) → wp_m l Y_R_kindsWrong none 0 0 32 [.ref 51, .int (iI mv), .int (iI wr), .int (iI k), u4, u5] [] (hp_ σ) K := by
  obtain ⟨t1, t2, t3, t4, t5⟩ := htt
  intro j
  induction j with
  | zero =>
    intro k mv wr σ u4 u5 hk hk0 hu hx hK
    have hc : σ 51 2 = N := by rw [hx.1 51 2 (by unfold kwW; omega)]; exact hrt.1
    refine wp_iload_n dc_R_kindsWrong_32 rfl rfl (wp_aload_n dc_R_kindsWrong_33 rfl rfl (wi_getE 2 (N) dc_R_kindsWrong_34 lf_R_64 sh_51 rfl rfl hc ?_))
    refine wi_ic_ge dc_R_kindsWrong_37 rfl (fun hd => ?_) (fun hd => ?_)
    · have e : k = N := by omega
      subst e
      exact hK σ mv wr u4 u5 hu hx
    · omega
  | succ j ih =>
    intro k mv wr σ u4 u5 hk hk0 hu hx hK
    obtain ⟨x1, x2, x3, x4, x5⟩ := hx
    have hc : σ 51 2 = N := by rw [x1 51 2 (by unfold kwW; omega)]; exact hrt.1
    have b1 := t3 k hk0 (by omega)
    unfold bx_ at b1
    have s1 := t4 k hk0 (by omega)
    have frT : ∀ σ', fr_ kwW σ0 σ' → σ' 57 k = T 4 k ∧ σ' 55 k = T 2 k := fun σ' hf => by
      rw [hf 57 k (by unfold kwW; omega), hf 55 k (by unfold kwW; omega)]
      exact ⟨hrt.2 4 k (by decide) hk0 (by omega), hrt.2 2 k (by decide) hk0 (by omega)⟩
    obtain ⟨e57, e55⟩ := frT σ x1
    have hwr : rg wr := by rcases x5 with e | e <;> (rw [e]; decide)
    have hmv : rg mv := ⟨by have := x2.1; omega, by have := x2.2.1; omega⟩
    refine wp_iload_n dc_R_kindsWrong_32 rfl rfl (wp_aload_n dc_R_kindsWrong_33 rfl rfl (wi_getE 2 (N) dc_R_kindsWrong_34 lf_R_64 sh_51 rfl rfl hc ?_))
    refine wi_ic_ge dc_R_kindsWrong_37 rfl (fun hd => ?_) (fun hd => ?_)
    · omega
    -- behind the movie
    suffices K68 : ∀ (σ : sg_) (mv : Int), fr_ kwW σ0 σ → km_ T (k + 1) mv (σ 51 11) → kt2_ T k (σ 51 12) (σ 61) → kb_ T k (σ 51 12) wr (σ 61) (σ 62) → wp_m l Y_R_kindsWrong none 0 0 68 [.ref 51, .int (iI mv), .int (iI wr), .int (iI k), u4, u5] [] (hp_ σ) K by
      refine wp_aload_n dc_R_kindsWrong_40 rfl rfl (wi_getR dc_R_kindsWrong_41 lf_R_25 sh_51 rfl (wp_iload_n dc_R_kindsWrong_44 rfl rfl (wi_aldE (T 4 k) dc_R_kindsWrong_45 sh_57 (by omega) (by omega) (by decide) e57 ?_)))
      refine wi_if_ne dc_R_kindsWrong_46 rfl (fun he => ?_) (fun he => ?_)
      · exact K68 σ mv x1 (km_N x2 (fun q => he q.1)) x3 x4
      · refine wp_aload_n dc_R_kindsWrong_49 rfl rfl (wi_getR dc_R_kindsWrong_50 lf_R_19 sh_51 rfl (wp_iload_n dc_R_kindsWrong_53 rfl rfl (wi_aldE (T 2 k) dc_R_kindsWrong_54 sh_55 (by omega) (by omega) (by decide) e55 (wi_bipush dc_R_kindsWrong_55 ?_))))
        refine wi_ic_ne dc_R_kindsWrong_57 rfl (fun hf => ?_) (fun hf => ?_)
        · exact K68 σ mv x1 (km_N x2 (fun q => hf q.2)) x3 x4
        · refine wp_ii1 dc_R_kindsWrong_60 (wp_aload_n dc_R_kindsWrong_63 rfl rfl (wp_iload_n dc_R_kindsWrong_64 rfl rfl (wi_putI 11 dc_R_kindsWrong_65 lf_R_96 sh_51 rfl rfl pv_int ?_)))
          refine K68 _ _ (x1.up (by unfold kwW; omega)) ?_ ?_ ?_
          · rw [up_s]; exact km_S hk0 x2 ⟨he, hf⟩
          · rw [up_n _ _ (fun q => absurd q.2 (by decide)), up_o _ _ _ (by decide)]; exact x3
          · rw [up_n _ _ (fun q => absurd q.2 (by decide)), up_o _ _ _ (by decide), up_o _ _ _ (by decide)]; exact x4
    clear x1 x2 x3 x4 e57 e55 hmv hc
    intro σ mv x1 x2 x3 x4
    obtain ⟨e57, e55⟩ := frT σ x1
    -- behind the track
    suffices K117 : ∀ (σ : sg_), fr_ kwW σ0 σ → km_ T (k + 1) mv (σ 51 11) → kt2_ T (k + 1) (σ 51 12) (σ 61) → (TK_ T k → kb_ T (k + 1) (σ 51 12) wr (σ 61) (σ 62)) → (¬ TK_ T k → kt2_ T k (σ 51 12) (σ 61) ∧ kb_ T k (σ 51 12) wr (σ 61) (σ 62)) → wp_m l Y_R_kindsWrong none 0 0 117 [.ref 51, .int (iI mv), .int (iI wr), .int (iI k), u4, u5] [] (hp_ σ) K by
      refine wp_aload_n dc_R_kindsWrong_68 rfl rfl (wi_getR dc_R_kindsWrong_69 lf_R_25 sh_51 rfl (wp_iload_n dc_R_kindsWrong_72 rfl rfl (wi_aldE (T 4 k) dc_R_kindsWrong_73 sh_57 (by omega) (by omega) (by decide) e57 (wi_iconst dc_R_kindsWrong_74 ?_))))
      refine wi_ic_ne dc_R_kindsWrong_75 rfl (fun he => ?_) (fun he => ?_)
      · exact K117 σ x1 x2 (kt2_N x3 (fun q => he q.1)) (fun q => absurd q.1 he) (fun _ => ⟨x3, x4⟩)
      · refine wp_aload_n dc_R_kindsWrong_78 rfl rfl (wi_getR dc_R_kindsWrong_79 lf_R_19 sh_51 rfl (wp_iload_n dc_R_kindsWrong_82 rfl rfl (wi_aldE (T 2 k) dc_R_kindsWrong_83 sh_55 (by omega) (by omega) (by decide) e55 (wi_bipush dc_R_kindsWrong_84 ?_))))
        refine wi_ic_ne dc_R_kindsWrong_86 rfl (fun hf => ?_) (fun hf => ?_)
        · exact K117 σ x1 x2 (kt2_N x3 (fun q => hf q.2)) (fun q => absurd q.2 hf) (fun _ => ⟨x3, x4⟩)
        · have hT := x3.1
          have hT2 := x3.2.1
          have hTK : TK_ T k := ⟨he, hf⟩
          have hkb := kb_T (n := n) hk0 (fun i i0 i1 => (t3 i i0 (by omega)).2.2.2.2.2.2.2.2.2) hT x4 hTK
          have hkt := kt2_S hk0 x3 hTK
          refine wp_aload_n dc_R_kindsWrong_89 rfl rfl (wi_getI 12 dc_R_kindsWrong_90 lf_R_83 sh_51 rfl rfl (wi_iconst dc_R_kindsWrong_93 ?_))
          refine wi_ic_ge dc_R_kindsWrong_94 rfl (fun hg => ?_) (fun hg => ?_)
          · refine wp_aload_n dc_R_kindsWrong_107 rfl rfl (wp_dup dc_R_kindsWrong_108 (wi_getI 12 dc_R_kindsWrong_109 lf_R_83 sh_51 rfl rfl (wi_iconst dc_R_kindsWrong_112 (wi_iadd dc_R_kindsWrong_113 (wi_putI 12 dc_R_kindsWrong_114 lf_R_83 sh_51 rfl rfl pv_int ?_)))))
            have e : ∀ t, (if t = σ 51 12 then k else σ 61 t) = (if t = σ 51 12 then k else σ 61 t) := fun _ => rfl
            refine K117 _ (x1.up (by unfold kwW; omega)) ?_ ?_ (fun _ => ?_) (fun q => absurd hTK q)
            · rw [up_n _ _ (fun q => absurd q.2 (by decide))]; exact x2
            · rw [up_s, up_o _ _ _ (by decide)]
              obtain ⟨y1, y2, y3⟩ := hkt
              refine ⟨y1, y2, ?_⟩
              rcases y3 with y | y | y | y
              · omega
              · omega
              · omega
              · exact Or.inr (Or.inr (Or.inr y))
            · rw [up_s, up_o _ _ _ (by decide), up_o _ _ _ (by decide)]
              intro h2; omega
          · refine wp_aload_n dc_R_kindsWrong_97 rfl rfl (wi_getR dc_R_kindsWrong_98 lf_R_37 sh_51 rfl (wp_aload_n dc_R_kindsWrong_101 rfl rfl (wi_getI 12 dc_R_kindsWrong_102 lf_R_83 sh_51 rfl rfl (wp_iload_n dc_R_kindsWrong_105 rfl rfl (wi_ast dc_R_kindsWrong_106 sh_61 (by omega) (by omega) (by decide) (wp_aload_n dc_R_kindsWrong_107 rfl rfl (wp_dup dc_R_kindsWrong_108 (wi_getE 12 (σ 51 12) dc_R_kindsWrong_109 lf_R_83 sh_51 rfl rfl (by rw [up_n _ _ (fun q => absurd q.1 (by decide))]) (wi_iconst dc_R_kindsWrong_112 (wi_iadd dc_R_kindsWrong_113 (wi_putI 12 dc_R_kindsWrong_114 lf_R_83 sh_51 rfl rfl pv_int ?_)))))))))))
            have e61 : (up_ (up_ σ 61 (σ 51 12) k) 51 12 (σ 51 12 + 1)) 61 = fun t => if t = σ 51 12 then k else σ 61 t := by
              funext t
              rw [up_n _ _ (fun q => absurd q.1 (by decide))]
              simp [up_]
            refine K117 _ ((x1.up (by unfold kwW; omega)).up (by unfold kwW; omega)) ?_ ?_ (fun _ => ?_) (fun q => absurd hTK q)
            · rw [up_n _ _ (fun q => absurd q.2 (by decide)), up_n _ _ (fun q => absurd q.1 (by decide))]; exact x2
            · rw [up_s, e61]; exact hkt
            · rw [up_s, e61, up_o _ _ _ (by decide), up_o _ _ _ (by decide)]; exact hkb
    clear x1 x2 x3 x4 e57 e55
    intro σ x1 x2 x3 x4 x6
    obtain ⟨e57, e55⟩ := frT σ x1
    have hT := x3.1
    have hT2 := x3.2.1
    have hnx : ∀ (σ : sg_) (wr' : Int) (u4 u5 : Value), u4.category = 1 → kx_ σ0 σ N T (k + 1) mv wr' → wp_m l Y_R_kindsWrong none 0 0 197 [.ref 51, .int (iI mv), .int (iI wr'), .int (iI k), u4, u5] [] (hp_ σ) K := fun σ wr' u4 u5 hu h => by
      refine wp_ii3 dc_R_kindsWrong_197 (wp_goto dc_R_kindsWrong_200 rfl ?_)
      exact ih (k + 1) mv wr' σ u4 u5 (by omega) (by omega) hu h hK
    suffices K140 : ∀ q : Int, (q = -1 ∧ (¬ T 4 k = 2 ∨ kq_ (T 2 k) = -1)) ∨ (q = kq_ (T 2 k) ∧ T 4 k = 2) → wp_m l Y_R_kindsWrong none 0 0 140 [.ref 51, .int (iI mv), .int (iI wr), .int (iI k), u4, u5] [.int (iI q)] (hp_ σ) K by
      refine wp_aload_n dc_R_kindsWrong_117 rfl rfl (wi_getR dc_R_kindsWrong_118 lf_R_25 sh_51 rfl (wp_iload_n dc_R_kindsWrong_121 rfl rfl (wi_aldE (T 4 k) dc_R_kindsWrong_122 sh_57 (by omega) (by omega) (by decide) e57 (wi_iconst dc_R_kindsWrong_123 ?_))))
      refine wi_ic_ne dc_R_kindsWrong_124 rfl (fun he => ?_) (fun he => ?_)
      · refine wi_iconst dc_R_kindsWrong_139 ?_
        exact K140 (-1) (Or.inl ⟨rfl, Or.inl he⟩)
      · refine wp_aload_n dc_R_kindsWrong_127 rfl rfl (wi_getR dc_R_kindsWrong_128 lf_R_19 sh_51 rfl (wp_iload_n dc_R_kindsWrong_131 rfl rfl (wi_aldE (T 2 k) dc_R_kindsWrong_132 sh_55 (by omega) (by omega) (by decide) e55 ?_)))
        refine wp_callS (As := [_]) dc_R_kindsWrong_133 lm_R_99 ls_R_kindOf (by decide) rfl rfl (Nat.le_of_ble_eq_true rfl) (Nat.le_refl _) (Nat.le_refl _) ?_
        refine c_R_kindOf ⟨by omega, by omega⟩ ?_
        refine wp_goto dc_R_kindsWrong_136 rfl ?_
        exact K140 _ (Or.inr ⟨rfl, he⟩)
    intro q hq
    have hkq := kq_spec (T 2 k)
    have hqr : -1 ≤ q ∧ q < 8 := by rcases hkq with h | h <;> omega
    -- no table here
    have hno : q < 0 → kx_ σ0 σ N T (k + 1) mv wr := fun hq0 => by
      refine ⟨x1, x2, x3, ?_, x5⟩
      by_cases hTK : TK_ T k
      · exact x4 hTK
      · refine kb_N (x6 hTK).2 (fun x y y0 y1 hb => ?_)
        have h1 := hb.1
        rcases hkq with h | h
        · exact h.2 y y0 y1 hb.2.1
        · omega
    refine wp_is4 dc_R_kindsWrong_140 (wp_iload dc_R_kindsWrong_142 rfl ?_)
    refine wi_if_lt dc_R_kindsWrong_144 rfl (fun he => ?_) (fun he => ?_)
    · exact hnx σ wr _ u5 rfl (hno he)
    · have h42 : T 4 k = 2 := by omega
      have hnTK : ¬ TK_ T k := fun q => by have := q.1; omega
      obtain ⟨x7, x8⟩ := x6 hnTK
      have hq8 : q = kq_ (T 2 k) := by omega
      have htq : T 2 k = tq_ q := by
        rcases hkq with h | h
        · omega
        · rw [hq8]; exact h.2.2
      refine wp_aload_n dc_R_kindsWrong_147 rfl rfl (wi_getI 12 dc_R_kindsWrong_148 lf_R_83 sh_51 rfl rfl (wi_iconst dc_R_kindsWrong_151 ?_))
      refine wi_ic_gt dc_R_kindsWrong_152 rfl (fun hf => ?_) (fun hf => ?_)
      · refine hnx σ wr _ u5 rfl ⟨x1, x2, x3, fun h2 => by omega, x5⟩
      · obtain ⟨y1, y2⟩ := tk_last x7 (by omega) (s1.2.2 h42)
        have hTB : TB_ T (σ 61 (σ 51 12 - 1)) q k := ⟨h42, htq, y2⟩
        have hb01 : σ 51 12 = 2 → σ 61 0 < σ 61 1 := fun h2 => by
          rcases x7.2.2 with h | h | h | h
          · omega
          · omega
          · exact h.2.2.1
          · omega
        have hkb := kb_B hk0 x5 y1 hb01 x8 (by omega) hqr.2 hTB
        have hself := (x8 (by omega)).1 (σ 51 12 - 1) q (by omega) (by omega) (by omega) hqr.2
        have htr : rg (σ 62 (8 * (σ 51 12 - 1) + q)) := by
          rcases hself with h | h
          · rw [h.1]; decide
          · constructor <;> omega
        suffices K188 : ∀ w : Int, w = (if ¬ wr = 0 ∨ ¬ σ 62 (8 * (σ 51 12 - 1) + q) < 0 then 1 else 0) → wp_m l Y_R_kindsWrong none 0 0 188 [.ref 51, .int (iI mv), .int (iI wr), .int (iI k), .int (iI q), .int (iI (8 * (σ 51 12 - 1) + q))] [.int (iI w)] (hp_ σ) K by
          refine wi_bipush dc_R_kindsWrong_155 (wp_aload_n dc_R_kindsWrong_157 rfl rfl (wi_getI 12 dc_R_kindsWrong_158 lf_R_83 sh_51 rfl rfl (wi_iconst dc_R_kindsWrong_161 (wi_isub dc_R_kindsWrong_162 (wi_imul dc_R_kindsWrong_163 (wp_iload dc_R_kindsWrong_164 rfl (wi_iadd dc_R_kindsWrong_166 (wp_is5 dc_R_kindsWrong_167 (wp_iload_n dc_R_kindsWrong_169 rfl rfl ?_)))))))))
          refine wi_if_ne dc_R_kindsWrong_170 rfl (fun hg => ?_) (fun hg => ?_)
          · refine wi_iconst dc_R_kindsWrong_183 (wp_goto dc_R_kindsWrong_184 rfl ?_)
            exact K188 1 (by rw [if_pos (Or.inl hg)])
          · refine wp_aload_n dc_R_kindsWrong_173 rfl rfl (wi_getR dc_R_kindsWrong_174 lf_R_40 sh_51 rfl (wp_iload dc_R_kindsWrong_177 rfl (wi_ald dc_R_kindsWrong_179 sh_62 (by omega) (by omega) (by decide) ?_)))
            refine wi_if_lt dc_R_kindsWrong_180 rfl (fun hh => ?_) (fun hh => ?_)
            · refine wi_iconst dc_R_kindsWrong_187 ?_
              exact K188 0 (by rw [if_neg (by omega)])
            · refine wi_iconst dc_R_kindsWrong_183 (wp_goto dc_R_kindsWrong_184 rfl ?_)
              exact K188 1 (by rw [if_pos (Or.inr hh)])
        intro w hw
        refine wp_is2 dc_R_kindsWrong_188 (wp_aload_n dc_R_kindsWrong_189 rfl rfl (wi_getR dc_R_kindsWrong_190 lf_R_40 sh_51 rfl (wp_iload dc_R_kindsWrong_193 rfl (wp_iload_n dc_R_kindsWrong_195 rfl rfl (wi_ast dc_R_kindsWrong_196 sh_62 (by omega) (by omega) (by decide) ?_)))))
        refine hnx _ w _ _ rfl ⟨x1.up (by unfold kwW; omega), ?_, ?_, ?_, ?_⟩
        · rw [up_n _ _ (fun q => absurd q.1 (by decide))]; exact x2
        · rw [up_n _ _ (fun q => absurd q.1 (by decide)), up_o _ _ _ (by decide)]; exact x3
        · have e62 : (up_ σ 62 (8 * (σ 51 12 - 1) + q) k) 62 = fun i => if i = 8 * (σ 51 12 - 1) + q then k else σ 62 i := by
            funext i
            simp [up_]
          rw [up_n _ _ (fun q => absurd q.1 (by decide)), up_o _ _ _ (by decide), e62, hw]
          exact hkb
        · rw [hw]
          split
          · exact Or.inr rfl
          · exact Or.inl rfl
end KR
