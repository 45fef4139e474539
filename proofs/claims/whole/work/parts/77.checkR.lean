/-! the answer of check; the reference's check -/
def AR_ (F : Int → Int) (T : px_T) (tc : Int) (tab : Int → Int → Int) : Prop := ∀ t, 0 ≤ t → t < tc → RH_ F T (tab t)
def AC_ (F : Int → Int) (T : px_T) (tc : Int) (tab : Int → Int → Int) : Prop := ∀ t, 0 ≤ t → t < tc → CN_ F T (tab t)
def AD_ (F : Int → Int) (N : Int) (T : px_T) (tc : Int) (tab : Int → Int → Int) : Prop := ∀ t, 0 ≤ t → t < tc → DA_ F N T (tab t)
/-- the fault of the tables -/
def vt_ (F : Int → Int) (N : Int) (T : px_T) (tc : Int) (tab : Int → Int → Int) (v : Int) : Prop := (v = 4 ∧ ¬ AR_ F T tc tab) ∨ (v = 5 ∧ AR_ F T tc tab ∧ ¬ AC_ F T tc tab) ∨ (v = 6 ∧ AR_ F T tc tab ∧ AC_ F T tc tab ∧ ¬ AD_ F N T tc tab) ∨ (v = 0 ∧ AR_ F T tc tab ∧ AC_ F T tc tab ∧ AD_ F N T tc tab)
theorem vt_un {F : Int → Int} {N : Int} {T : px_T} {tc : Int} {tab : Int → Int → Int} {v v' : Int} (h : vt_ F N T tc tab v) (h' : vt_ F N T tc tab v') : v = v' := by
  rcases h with ⟨e, h⟩ | ⟨e, h1, h⟩ | ⟨e, h1, h2, h⟩ | ⟨e, h1, h2, h⟩ <;> rcases h' with ⟨e', k⟩ | ⟨e', k1, k⟩ | ⟨e', k1, k2, k⟩ | ⟨e', k1, k2, k⟩ <;> first | (rw [e, e']; done) | (exfalso; first | exact h k1 | exact k h1 | exact h k2 | exact k h2 | exact h k | exact k h)
theorem iI_rem8 {j : Int} (h0 : 0 ≤ j) (h1 : j < 16) : iI j - iI j / iI 8 * iI 8 = iI (j % 8) := by
  have h : j = 0 ∨ j = 1 ∨ j = 2 ∨ j = 3 ∨ j = 4 ∨ j = 5 ∨ j = 6 ∨ j = 7 ∨ j = 8 ∨ j = 9 ∨ j = 10 ∨ j = 11 ∨ j = 12 ∨ j = 13 ∨ j = 14 ∨ j = 15 := by omega
  rcases h with rfl | rfl | rfl | rfl | rfl | rfl | rfl | rfl | rfl | rfl | rfl | rfl | rfl | rfl | rfl | rfl <;> decide
/-- what the reference writes in a check; the tables as it keeps them -/
def ckW (b : Nat) (j : Int) : Prop := rdW b j ∨ kwW b j ∨ b = 63
def rs_ (σ : sg_) (N : Int) (T : px_T) (mi tc : Int) (b : Int → Int) (tab : Int → Int → Int) : Prop := rt_ σ N T ∧ σ 51 11 = mi ∧ σ 51 12 = tc ∧ (∀ t, 0 ≤ t → t < tc → σ 61 t = b t) ∧ ∀ t q, 0 ≤ t → t < tc → 0 ≤ q → q < 8 → σ 62 (8 * t + q) = tab t q
def hm_ (σ : sg_) (F : Int → Int) (N : Int) (T : px_T) (tc : Int) (tab : Int → Int → Int) : Prop := ∀ t c, 0 ≤ t → t < tc → 1 ≤ c → c ≤ CC_ F T (tab t) → ff_ (DBX_ T (pc_ F T (tab t) c) (cb_ F T (tab t) c)) N (σ 63 (256 * t + c))
section CH
variable {l : Launch} {σ : sg_} {K : Option Value → mx_H → Prop} {F : Int → Int} {n N : Int} {T : px_T} {mi tc : Int} {b : Int → Int} {tab : Int → Int → Int}
theorem rs_fr {σ' : sg_} (h : rs_ σ N T mi tc b tab) (hf : fr_ (fun b _ => b = 63) σ σ') : rs_ σ' N T mi tc b tab := by
  obtain ⟨h1, h2, h3, h4, h5⟩ := h
  exact ⟨⟨(hf 51 2 (by omega)).trans h1.1, fun c i c0 i0 i1 => (hf (53 + c) i (by omega)).trans (h1.2 c i c0 i0 i1)⟩, (hf 51 11 (by omega)).trans h2, (hf 51 12 (by omega)).trans h3, fun t t0 t1 => (hf 61 t (by omega)).trans (h4 t t0 t1), fun t q t0 t1 q0 q1 => (hf 62 _ (by omega)).trans (h5 t q t0 t1 q0 q1)⟩
theorem rs_rx (hro : ro_ σ F n) (htt : tt_ n N T) (hks : KS_ N T mi tc b tab) (h : rs_ σ N T mi tc b tab) {t : Int} (t0 : 0 ≤ t) (t1 : t < tc) (hrh : RH_ F T (tab t)) : rx_ σ F n N T t (b t) (tab t) := by
  have htc := hks.2.1.1
  exact ⟨hro, h.1, htt, ⟨t0, by omega⟩, fun q q0 q1 => h.2.2.2.2 t q t0 t1 q0 q1, ks_of hks t0 t1, hrh⟩
def P1_ (F : Int → Int) (T : px_T) (tc : Int) (tab : Int → Int → Int) (i : Int) : Prop := ∀ t q, 0 ≤ t → t < tc → 0 ≤ q → q < 8 → 8 * t + q < i → 0 ≤ tab t q → RO_ F (st_ T (tab t q)) (pl_ T (tab t q)) q
theorem lp_R_ck1 {x1 : Int} {x4 x5 x6 : Value} (hro : ro_ σ F n) (htt : tt_ n N T) (hks : KS_ N T mi tc b tab) (hrs : rs_ σ N T mi tc b tab) (hK : ∀ w i : Int, (w = 0 ∧ AR_ F T tc tab) ∨ (w = 1 ∧ ¬ AR_ F T tc tab) → wp_m l Y_R_check none 0 0 83 [.ref 51, .int (iI x1), .int (iI w), .int (iI i), x4, x5, x6] [] (hp_ σ) K) :
    ∀ (m : Nat) (i w : Int), i + m = 16 → 0 ≤ i → (w = 0 ∧ P1_ F T tc tab i) ∨ (w = 1 ∧ ¬ P1_ F T tc tab i) → wp_m l Y_R_check none 0 0 24 [.ref 51, .int (iI x1), .int (iI w), .int (iI i), x4, x5, x6] [] (hp_ σ) K := by
  have htc := hks.2.1.1
  have t2 := htt.2.1
  intro m
  induction m with
  | zero =>
    intro i w hi i0 hw
    refine wp_iload_n dc_R_check_24 rfl rfl (wi_bipush dc_R_check_25 ?_)
    refine wi_ic_ge dc_R_check_27 rfl (fun hd => ?_) (fun hd => ?_)
    rotate_left
    · omega
    have key : P1_ F T tc tab i ↔ AR_ F T tc tab := ⟨fun h t t0 t1 q q0 q1 => h t q t0 t1 q0 q1 (by omega), fun h t q t0 t1 q0 q1 _ => h t t0 t1 q q0 q1⟩
    rw [key] at hw
    exact hK w i hw
  | succ m ih =>
    intro i w hi i0 hw
    have hw01 : w = 0 ∨ w = 1 := by rcases hw with h | h <;> omega
    have step : P1_ F T tc tab (i + 1) ↔ (P1_ F T tc tab i ∧ (i < 8 * tc → 0 ≤ tab (i / 8) (i % 8) → RO_ F (st_ T (tab (i / 8) (i % 8))) (pl_ T (tab (i / 8) (i % 8))) (i % 8))) := by
      constructor
      · intro h
        exact ⟨fun t q t0 t1 q0 q1 ht => h t q t0 t1 q0 q1 (by omega), fun g1 g2 => h (i / 8) (i % 8) (by omega) (by omega) (by omega) (by omega) (by omega) g2⟩
      · rintro ⟨h1, h2⟩ t q t0 t1 q0 q1 ht hq
        by_cases e : 8 * t + q < i
        · exact h1 t q t0 t1 q0 q1 e hq
        · obtain rfl : t = i / 8 := by omega
          obtain rfl : q = i % 8 := by omega
          exact h2 (by omega) hq
    have nx : ∀ w' : Int, (w' = 0 ∧ w = 0 ∧ (i < 8 * tc → 0 ≤ tab (i / 8) (i % 8) → RO_ F (st_ T (tab (i / 8) (i % 8))) (pl_ T (tab (i / 8) (i % 8))) (i % 8))) ∨ (w' = 1 ∧ ¬ (w = 0 ∧ (i < 8 * tc → 0 ≤ tab (i / 8) (i % 8) → RO_ F (st_ T (tab (i / 8) (i % 8))) (pl_ T (tab (i / 8) (i % 8))) (i % 8)))) → wp_m l Y_R_check none 0 0 76 [.ref 51, .int (iI x1), .int (iI w), .int (iI i), x4, x5, x6] [.int (iI w')] (hp_ σ) K := fun w' h => by
      refine wp_is2 dc_R_check_76 (wp_ii3 dc_R_check_77 (wp_goto dc_R_check_80 rfl ?_))
      refine ih (i + 1) w' (by omega) (by omega) ?_
      rw [step]
      rcases h with ⟨e1, e2, e3⟩ | ⟨e1, e2⟩
      · rcases hw with g | g
        · exact Or.inl ⟨e1, g.2, e3⟩
        · omega
      · refine Or.inr ⟨e1, fun hh => ?_⟩
        rcases hw with g | g
        · exact e2 ⟨g.1, hh.2⟩
        · exact g.2 hh.1
    refine wp_iload_n dc_R_check_24 rfl rfl (wi_bipush dc_R_check_25 ?_)
    refine wi_ic_ge dc_R_check_27 rfl (fun hd => ?_) (fun hd => ?_)
    · omega
    refine wp_iload_n dc_R_check_30 rfl rfl ?_
    refine wi_if_ne dc_R_check_31 rfl (fun he => ?_) (fun he => ?_)
    · refine wi_iconst dc_R_check_71 (wp_goto dc_R_check_72 rfl ?_)
      exact nx 1 (Or.inr ⟨rfl, fun h => he h.1⟩)
    refine wp_iload_n dc_R_check_34 rfl rfl (wi_bipush dc_R_check_35 (wp_aload_n dc_R_check_37 rfl rfl (wi_getE 12 (tc) dc_R_check_38 lf_R_83 sh_51 rfl rfl hrs.2.2.1 (wi_imul dc_R_check_41 ?_))))
    refine wi_ic_ge dc_R_check_42 rfl (fun hf => ?_) (fun hf => ?_)
    · refine wi_iconst dc_R_check_75 ?_
      exact nx 0 (Or.inl ⟨rfl, he, fun g => by omega⟩)
    have e62 : σ 62 i = tab (i / 8) (i % 8) := by
      have := hrs.2.2.2.2 (i / 8) (i % 8) (by omega) (by omega) (by omega) (by omega)
      rwa [show 8 * (i / 8) + i % 8 = i by omega] at this
    have cs := kt_cs (ks_of hks (t := i / 8) (by omega) (by omega)) (q := i % 8) (by omega) (by omega)
    refine wp_aload_n dc_R_check_45 rfl rfl (wi_getR dc_R_check_46 lf_R_40 sh_51 rfl (wp_iload_n dc_R_check_49 rfl rfl (wi_aldE (tab (i / 8) (i % 8)) dc_R_check_50 sh_62 (by omega) (by omega) (by decide) e62 ?_)))
    refine wi_if_lt dc_R_check_51 rfl (fun hg => ?_) (fun hg => ?_)
    · refine wi_iconst dc_R_check_75 ?_
      exact nx 0 (Or.inl ⟨rfl, he, fun _ g => by omega⟩)
    refine wp_aload_n dc_R_check_54 rfl rfl (wp_aload_n dc_R_check_55 rfl rfl (wi_getR dc_R_check_56 lf_R_40 sh_51 rfl (wp_iload_n dc_R_check_59 rfl rfl (wi_aldE (tab (i / 8) (i % 8)) dc_R_check_60 sh_62 (by omega) (by omega) (by decide) e62 (wp_iload_n dc_R_check_61 rfl rfl (wi_bipush dc_R_check_62 ?_))))))
    refine wp_irem dc_R_check_64 (by decide) ?_
    rw [iI_rem8 i0 (by omega)]
    refine wp_callV (As := [_, _]) dc_R_check_65 lm_R_86 ls_R_rowsWrong (by decide) rfl rfl (hp_at _ sh_51) rfl rfl (Nat.le_of_ble_eq_true rfl) (Nat.le_refl _) (Nat.le_refl _) ?_
    refine c_R_rowsWrong hro hrs.1 htt (by omega) (by omega) (by omega) (by omega) (fun h => ?_) (fun h => ?_)
    · refine wi_if_eq dc_R_check_68 rfl (fun hh => ?_) (fun hh => ?_)
      · refine wi_iconst dc_R_check_75 ?_
        exact nx 0 (Or.inl ⟨rfl, he, fun _ _ => h⟩)
      · omega
    · refine wi_if_eq dc_R_check_68 rfl (fun hh => ?_) (fun hh => ?_)
      · omega
      · refine wi_iconst dc_R_check_71 (wp_goto dc_R_check_72 rfl ?_)
        exact nx 1 (Or.inr ⟨rfl, fun g => h (g.2 (by omega) (by omega))⟩)
theorem lp_R_ck2 {x1 x2 : Int} {x5 x6 : Value} (hro : ro_ σ F n) (htt : tt_ n N T) (hks : KS_ N T mi tc b tab) (hrs : rs_ σ N T mi tc b tab) (har : AR_ F T tc tab) (hK : ∀ w i : Int, (w = 0 ∧ AC_ F T tc tab) ∨ (w = 1 ∧ ¬ AC_ F T tc tab) → wp_m l Y_R_check none 0 0 128 [.ref 51, .int (iI x1), .int (iI x2), .int (iI w), .int (iI i), x5, x6] [] (hp_ σ) K) :
    ∀ (m : Nat) (i w : Int), i + m = tc → 0 ≤ i → (w = 0 ∧ AC_ F T i tab) ∨ (w = 1 ∧ ¬ AC_ F T i tab) → wp_m l Y_R_check none 0 0 94 [.ref 51, .int (iI x1), .int (iI x2), .int (iI w), .int (iI i), x5, x6] [] (hp_ σ) K := by
  have htc := hks.2.1.1
  intro m
  induction m with
  | zero =>
    intro i w hi i0 hw
    obtain rfl : i = tc := by omega
    refine wp_iload dc_R_check_94 rfl (wp_aload_n dc_R_check_96 rfl rfl (wi_getE 12 (i) dc_R_check_97 lf_R_83 sh_51 rfl rfl hrs.2.2.1 ?_))
    refine wi_ic_ge dc_R_check_100 rfl (fun hd => ?_) (fun hd => ?_)
    rotate_left
    · omega
    exact hK w i hw
  | succ m ih =>
    intro i w hi i0 hw
    have hw01 : w = 0 ∨ w = 1 := by rcases hw with h | h <;> omega
    have nx : ∀ w' : Int, (w' = 0 ∧ w = 0 ∧ CN_ F T (tab i)) ∨ (w' = 1 ∧ ¬ (w = 0 ∧ CN_ F T (tab i))) → wp_m l Y_R_check none 0 0 121 [.ref 51, .int (iI x1), .int (iI x2), .int (iI w), .int (iI i), x5, x6] [.int (iI w')] (hp_ σ) K := fun w' h => by
      refine wp_is3 dc_R_check_121 (wp_ii4 dc_R_check_122 (wp_goto dc_R_check_125 rfl ?_))
      refine ih (i + 1) w' (by omega) (by omega) ?_
      rcases h with ⟨e1, e2, e3⟩ | ⟨e1, e2⟩
      · rcases hw with g | g
        · refine Or.inl ⟨e1, fun t t0 t1 => ?_⟩
          by_cases e : t = i
          · subst e; exact e3
          · exact g.2 t t0 (by omega)
        · omega
      · refine Or.inr ⟨e1, fun hh => ?_⟩
        rcases hw with g | g
        · exact e2 ⟨g.1, hh i i0 (by omega)⟩
        · exact g.2 (fun t t0 t1 => hh t t0 (by omega))
    refine wp_iload dc_R_check_94 rfl (wp_aload_n dc_R_check_96 rfl rfl (wi_getE 12 (tc) dc_R_check_97 lf_R_83 sh_51 rfl rfl hrs.2.2.1 ?_))
    refine wi_ic_ge dc_R_check_100 rfl (fun hd => ?_) (fun hd => ?_)
    · omega
    refine wp_iload_n dc_R_check_103 rfl rfl ?_
    refine wi_if_ne dc_R_check_104 rfl (fun he => ?_) (fun he => ?_)
    · refine wi_iconst dc_R_check_116 (wp_goto dc_R_check_117 rfl ?_)
      exact nx 1 (Or.inr ⟨rfl, fun h => he h.1⟩)
    refine wp_aload_n dc_R_check_107 rfl rfl (wp_iload dc_R_check_108 rfl ?_)
    refine wp_callV (As := [_]) dc_R_check_110 lm_R_90 ls_R_countsWrong (by decide) rfl rfl (hp_at _ sh_51) rfl rfl (Nat.le_of_ble_eq_true rfl) (Nat.le_refl _) (Nat.le_refl _) ?_
    refine c_R_countsWrong (rs_rx hro htt hks hrs i0 (by omega) (har i i0 (by omega))) (fun h => ?_) (fun h => ?_)
    · refine wi_if_eq dc_R_check_113 rfl (fun hf => ?_) (fun hf => ?_)
      · refine wi_iconst dc_R_check_120 ?_
        exact nx 0 (Or.inl ⟨rfl, he, h⟩)
      · omega
    · refine wi_if_eq dc_R_check_113 rfl (fun hf => ?_) (fun hf => ?_)
      · omega
      · refine wi_iconst dc_R_check_116 (wp_goto dc_R_check_117 rfl ?_)
        exact nx 1 (Or.inr ⟨rfl, fun g => h g.2⟩)
theorem lp_R_ck3 {x1 x2 x3 : Int} {σ0 : sg_} (hro0 : ro_ σ0 F n) (htt : tt_ n N T) (hks : KS_ N T mi tc b tab) (hrs0 : rs_ σ0 N T mi tc b tab) (har : AR_ F T tc tab) (hac : AC_ F T tc tab) (hK : ∀ σ' v, fr_ (fun b _ => b = 63) σ0 σ' → hm_ σ' F N T tc tab → (v = 0 ∧ AD_ F N T tc tab) ∨ (v = 6 ∧ ¬ AD_ F N T tc tab) → K (some (.int (iI v))) (hp_ σ')) :
    ∀ (m : Nat) (i w : Int) (σ : sg_) (u6 : Value), i + m = tc → 0 ≤ i → fr_ (fun b _ => b = 63) σ0 σ → hm_ σ F N T i tab → (w = 0 ∧ AD_ F N T i tab) ∨ (w = 1 ∧ ¬ AD_ F N T i tab) → wp_m l Y_R_check none 0 0 140 [.ref 51, .int (iI x1), .int (iI x2), .int (iI x3), .int (iI w), .int (iI i), u6] [] (hp_ σ) K := by
  have htc := hks.2.1.1
  intro m
  induction m with
  | zero =>
    intro i w σ u6 hi i0 hfr hh hw
    obtain rfl : i = tc := by omega
    have hrs := rs_fr hrs0 hfr
    have hw01 : w = 0 ∨ w = 1 := by rcases hw with h | h <;> omega
    refine wp_iload dc_R_check_140 rfl (wp_aload_n dc_R_check_142 rfl rfl (wi_getE 12 (i) dc_R_check_143 lf_R_83 sh_51 rfl rfl hrs.2.2.1 ?_))
    refine wi_ic_ge dc_R_check_146 rfl (fun hd => ?_) (fun hd => ?_)
    rotate_left
    · omega
    refine wp_iload dc_R_check_188 rfl ?_
    refine wi_if_eq dc_R_check_190 rfl (fun he => ?_) (fun he => ?_)
    · refine wi_iconst dc_R_check_198 ?_
      refine wp_ireturn dc_R_check_199 rfl rfl (hK σ 0 hfr hh (Or.inl ⟨rfl, ?_⟩))
      rcases hw with g | g
      · exact g.2
      · omega
    · refine wi_bipush dc_R_check_193 (wp_goto dc_R_check_195 rfl ?_)
      refine wp_ireturn dc_R_check_199 rfl rfl (hK σ 6 hfr hh (Or.inr ⟨rfl, ?_⟩))
      rcases hw with g | g
      · omega
      · exact g.2
  | succ m ih =>
    intro i w σ u6 hi i0 hfr hh hw
    have hrs := rs_fr hrs0 hfr
    have hro : ro_ σ F n := hro0.fr hfr (by omega) (fun j => by omega)
    have hw01 : w = 0 ∨ w = 1 := by rcases hw with h | h <;> omega
    refine wp_iload dc_R_check_140 rfl (wp_aload_n dc_R_check_142 rfl rfl (wi_getE 12 (tc) dc_R_check_143 lf_R_83 sh_51 rfl rfl hrs.2.2.1 ?_))
    refine wi_ic_ge dc_R_check_146 rfl (fun hd => ?_) (fun hd => ?_)
    · omega
    refine wp_aload_n dc_R_check_149 rfl rfl (wp_iload dc_R_check_150 rfl ?_)
    refine wp_callV (As := [_]) dc_R_check_152 lm_R_93 ls_R_settle (by decide) rfl rfl (hp_at _ sh_51) rfl rfl (Nat.le_of_ble_eq_true rfl) (Nat.le_refl _) (Nat.le_refl _) ?_
    refine c_R_settle (hac i i0 (by omega)) (rs_rx hro htt hks hrs i0 (by omega) (har i i0 (by omega))) (fun σ' z hf hz hr => ?_)
    have fr' : fr_ (fun b _ => b = 63) σ0 σ' := hfr.tr (hf.mono (fun b j h => h.1))
    have hh' : hm_ σ' F N T (i + 1) tab := fun t c t0 t1 c0 c1 => by
      by_cases e : t = i
      · subst e; exact hz c c0 c1
      · have hsp := hro0.2.2.2.2 (st_ T (pj_ (tab t)))
        have ecc : CC_ F T (tab t) = F (st_ T (pj_ (tab t))) := rfl
        rw [hf 63 (256 * t + c) (fun h => by have := h.2; omega)]
        exact hh t c t0 (by omega) c0 c1
    have hz01 : z = 0 ∨ z = 1 := by rcases hr with h | h <;> omega
    have nx : ∀ (w' x6 : Int), (w' = 0 ∧ w = 0 ∧ DA_ F N T (tab i)) ∨ (w' = 1 ∧ ¬ (w = 0 ∧ DA_ F N T (tab i))) → wp_m l Y_R_check none 0 0 180 [.ref 51, .int (iI x1), .int (iI x2), .int (iI x3), .int (iI w), .int (iI i), .int (iI x6)] [.int (iI w')] (hp_ σ') K := fun w' x6 h => by
      refine wp_is4 dc_R_check_180 (wp_ii5 dc_R_check_182 (wp_goto dc_R_check_185 rfl ?_))
      refine ih (i + 1) w' σ' _ (by omega) (by omega) fr' hh' ?_
      rcases h with ⟨e1, e2, e3⟩ | ⟨e1, e2⟩
      · rcases hw with g | g
        · refine Or.inl ⟨e1, fun t t0 t1 => ?_⟩
          by_cases e : t = i
          · subst e; exact e3
          · exact g.2 t t0 (by omega)
        · omega
      · refine Or.inr ⟨e1, fun hh => ?_⟩
        rcases hw with g | g
        · exact e2 ⟨g.1, hh i i0 (by omega)⟩
        · exact g.2 (fun t t0 t1 => hh t t0 (by omega))
    have K163 : ∀ o : Int, (o = 0 ∧ DA_ F N T (tab i)) ∨ (o = 1 ∧ ¬ DA_ F N T (tab i)) → wp_m l Y_R_check none 0 0 163 [.ref 51, .int (iI x1), .int (iI x2), .int (iI x3), .int (iI w), .int (iI i), u6] [.int (iI o)] (hp_ σ') K := fun o ho => by
      have ho01 : o = 0 ∨ o = 1 := by rcases ho with h | h <;> omega
      refine wp_is6 dc_R_check_163 (wp_iload dc_R_check_165 rfl ?_)
      refine wi_if_ne dc_R_check_167 rfl (fun he => ?_) (fun he => ?_)
      · refine wi_iconst dc_R_check_175 (wp_goto dc_R_check_176 rfl ?_)
        exact nx 1 o (Or.inr ⟨rfl, fun h => he h.1⟩)
      refine wp_iload dc_R_check_170 rfl ?_
      refine wi_if_eq dc_R_check_172 rfl (fun hf => ?_) (fun hf => ?_)
      · refine wi_iconst dc_R_check_179 ?_
        refine nx 0 o (Or.inl ⟨rfl, he, ?_⟩)
        rcases ho with h | h
        · exact h.2
        · omega
      · refine wi_iconst dc_R_check_175 (wp_goto dc_R_check_176 rfl ?_)
        refine nx 1 o (Or.inr ⟨rfl, fun g => ?_⟩)
        rcases ho with h | h
        · exact hf h.1
        · exact h.2 g.2
    refine wi_if_ne dc_R_check_155 rfl (fun he => ?_) (fun he => ?_)
    · refine wi_iconst dc_R_check_162 ?_
      refine K163 0 (Or.inl ⟨rfl, ?_⟩)
      rcases hr with h | h
      · exact h.2
      · omega
    · refine wi_iconst dc_R_check_158 (wp_goto dc_R_check_159 rfl ?_)
      refine K163 1 (Or.inr ⟨rfl, ?_⟩)
      rcases hr with h | h
      · omega
      · exact h.2
theorem px_f {F : Int → Int} {n : Int} (hF : ∀ i, 0 ≤ F i ∧ F i < 256) (hn : 0 ≤ n) : (px_ F n).1 = 0 ∨ (px_ F n).1 = 1 ∨ (px_ F n).1 = 2 := by
  have := (px_good hF hn).2.2.1
  omega
theorem c_R_checkA (hro : ro_ σ F n) (h : ¬ (px_ F n).1 = 0) (hK : ∀ σ', fr_ ckW σ σ' → rt_ σ' (px_ F n).2.1 (px_ F n).2.2 → K (some (.int (iI (px_ F n).1))) (hp_ σ')) : ct_m l Y_R_check 0 0 [.ref 51] (hp_ σ) K := by
  have hp := px_f hro.2.2.2.2 hro.1
  refine ct_of (L := [.ref 51, .retAddr 0, .retAddr 0, .retAddr 0, .retAddr 0, .retAddr 0, .retAddr 0]) (by decide +kernel) (Nat.le_of_ble_eq_true rfl) rfl ?_
  refine wp_aload_n dc_R_check_0 rfl rfl ?_
  refine wp_callV (As := []) dc_R_check_1 lm_R_75 ls_R_read (by decide) rfl rfl (hp_at _ sh_51) rfl rfl (Nat.le_of_ble_eq_true rfl) (Nat.le_refl _) (Nat.le_refl _) ?_
  refine c_R_read hro (fun σ' hf hr => ?_)
  refine wp_is1 dc_R_check_4 (wp_iload_n dc_R_check_5 rfl rfl ?_)
  refine wi_if_le dc_R_check_6 rfl (fun hd => ?_) (fun hd => ?_)
  · omega
  · refine wp_iload_n dc_R_check_9 rfl rfl ?_
    refine wp_ireturn dc_R_check_10 rfl rfl (hK σ' (hf.mono (fun b j h => Or.inl h)) hr)
theorem c_R_checkB (hro : ro_ σ F n) (h : (px_ F n).1 = 0) (hn : ¬ KO_ (px_ F n).2.1 (px_ F n).2.2) (hK : ∀ σ', fr_ ckW σ σ' → rt_ σ' (px_ F n).2.1 (px_ F n).2.2 → K (some (.int (iI 3))) (hp_ σ')) : ct_m l Y_R_check 0 0 [.ref 51] (hp_ σ) K := by
  have htt := px_tt hro.2.2.2.2 hro.1
  refine ct_of (L := [.ref 51, .retAddr 0, .retAddr 0, .retAddr 0, .retAddr 0, .retAddr 0, .retAddr 0]) (by decide +kernel) (Nat.le_of_ble_eq_true rfl) rfl ?_
  refine wp_aload_n dc_R_check_0 rfl rfl ?_
  refine wp_callV (As := []) dc_R_check_1 lm_R_75 ls_R_read (by decide) rfl rfl (hp_at _ sh_51) rfl rfl (Nat.le_of_ble_eq_true rfl) (Nat.le_refl _) (Nat.le_refl _) ?_
  refine c_R_read hro (fun σ' hf hr => ?_)
  rw [h]
  refine wp_is1 dc_R_check_4 (wp_iload_n dc_R_check_5 rfl rfl ?_)
  refine wi_if_le dc_R_check_6 rfl (fun hd => ?_) (fun hd => ?_)
  rotate_left
  · omega
  refine wp_aload_n dc_R_check_11 rfl rfl ?_
  refine wp_callV (As := []) dc_R_check_12 lm_R_79 ls_R_kindsWrong (by decide) rfl rfl (hp_at _ sh_51) rfl rfl (Nat.le_of_ble_eq_true rfl) (Nat.le_refl _) (Nat.le_refl _) ?_
  refine c_R_kindsWrong hr htt (fun _ σ2 hf2 => ?_) (fun σ2 hf2 hks => absurd ⟨_, _, _, _, hks⟩ hn)
  refine wi_if_eq dc_R_check_15 rfl (fun he => ?_) (fun he => ?_)
  · omega
  refine wi_iconst dc_R_check_18 ?_
  have hr2 : rt_ σ2 (px_ F n).2.1 (px_ F n).2.2 := ⟨(hf2 51 2 (by unfold kwW; omega)).trans hr.1, fun c i c0 i0 i1 => (hf2 (53 + c) i (by unfold kwW; omega)).trans (hr.2 c i c0 i0 i1)⟩
  refine wp_ireturn dc_R_check_19 rfl rfl (hK σ2 ((hf.mono (fun b j h => Or.inl h)).tr (hf2.mono (fun b j h => Or.inr (Or.inl h)))) hr2)
theorem c_R_checkC (hro : ro_ σ F n) (hN : N = (px_ F n).2.1) (hT : T = (px_ F n).2.2) (h : (px_ F n).1 = 0) (hks : KS_ N T mi tc b tab) (hK : ∀ σ' v, fr_ ckW σ σ' → rs_ σ' N T mi tc b tab → vt_ F N T tc tab v → (v = 0 → hm_ σ' F N T tc tab) → K (some (.int (iI v))) (hp_ σ')) : ct_m l Y_R_check 0 0 [.ref 51] (hp_ σ) K := by
  have htt : tt_ n N T := by rw [hN, hT]; exact px_tt hro.2.2.2.2 hro.1
  have htc := hks.2.1.1
  refine ct_of (L := [.ref 51, .retAddr 0, .retAddr 0, .retAddr 0, .retAddr 0, .retAddr 0, .retAddr 0]) (by decide +kernel) (Nat.le_of_ble_eq_true rfl) rfl ?_
  refine wp_aload_n dc_R_check_0 rfl rfl ?_
  refine wp_callV (As := []) dc_R_check_1 lm_R_75 ls_R_read (by decide) rfl rfl (hp_at _ sh_51) rfl rfl (Nat.le_of_ble_eq_true rfl) (Nat.le_refl _) (Nat.le_refl _) ?_
  refine c_R_read hro (fun σ1 hf hr => ?_)
  rw [← hN, ← hT] at hr
  rw [h]
  refine wp_is1 dc_R_check_4 (wp_iload_n dc_R_check_5 rfl rfl ?_)
  refine wi_if_le dc_R_check_6 rfl (fun hd => ?_) (fun hd => ?_)
  rotate_left
  · omega
  refine wp_aload_n dc_R_check_11 rfl rfl ?_
  refine wp_callV (As := []) dc_R_check_12 lm_R_79 ls_R_kindsWrong (by decide) rfl rfl (hp_at _ sh_51) rfl rfl (Nat.le_of_ble_eq_true rfl) (Nat.le_refl _) (Nat.le_refl _) ?_
  refine c_R_kindsWrong hr htt (fun hn σ2 hf2 => absurd ⟨_, _, _, _, hks⟩ hn) (fun σ2 hf2 hks2 => ?_)
  refine wi_if_eq dc_R_check_15 rfl (fun he => ?_) (fun he => ?_)
  rotate_left
  · omega
  have hro2 : ro_ σ2 F n := (hro.fr hf (by unfold rdW; omega) (fun j => by unfold rdW; omega)).fr hf2 (by unfold kwW; omega) (fun j => by unfold kwW; omega)
  have hr2 : rt_ σ2 N T := ⟨(hf2 51 2 (by unfold kwW; omega)).trans hr.1, fun c i c0 i0 i1 => (hf2 (53 + c) i (by unfold kwW; omega)).trans (hr.2 c i c0 i0 i1)⟩
  obtain ⟨u1, u2, u3, u4⟩ := ks_uniq hks hks2
  have hrs : rs_ σ2 N T mi tc b tab := ⟨hr2, u1.symm, u2.symm, fun t t0 t1 => (u3 t t0 t1).symm, fun t q t0 t1 q0 q1 => (u4 t q t0 t1 q0 q1).symm⟩
  have fr2 : fr_ ckW σ σ2 := (hf.mono (fun b j h => Or.inl h)).tr (hf2.mono (fun b j h => Or.inr (Or.inl h)))
  refine wi_iconst dc_R_check_20 (wp_is2 dc_R_check_21 (wi_iconst dc_R_check_22 (wp_is3 dc_R_check_23 ?_)))
  refine lp_R_ck1 hro2 htt hks hrs (fun w i hw => ?_) 16 0 0 (by omega) (by omega) (Or.inl ⟨rfl, fun t q t0 t1 q0 q1 ht => by omega⟩)
  have hw01 : w = 0 ∨ w = 1 := by rcases hw with h | h <;> omega
  refine wp_iload_n dc_R_check_83 rfl rfl ?_
  refine wi_if_eq dc_R_check_84 rfl (fun hf1 => ?_) (fun hf1 => ?_)
  rotate_left
  · refine wi_iconst dc_R_check_87 ?_
    refine wp_ireturn dc_R_check_88 rfl rfl (hK σ2 4 fr2 hrs (Or.inl ⟨rfl, ?_⟩) (fun h => by omega))
    rcases hw with g | g
    · omega
    · exact g.2
  have har : AR_ F T tc tab := by
    rcases hw with g | g
    · exact g.2
    · omega
  refine wi_iconst dc_R_check_89 (wp_is3 dc_R_check_90 (wi_iconst dc_R_check_91 (wp_is4 dc_R_check_92 ?_)))
  refine lp_R_ck2 hro2 htt hks hrs har (fun w i hw => ?_) tc.toNat 0 0 (by omega) (by omega) (Or.inl ⟨rfl, fun t t0 t1 => by omega⟩)
  have hw01 : w = 0 ∨ w = 1 := by rcases hw with h | h <;> omega
  refine wp_iload_n dc_R_check_128 rfl rfl ?_
  refine wi_if_eq dc_R_check_129 rfl (fun hf1 => ?_) (fun hf1 => ?_)
  rotate_left
  · refine wi_iconst dc_R_check_132 ?_
    refine wp_ireturn dc_R_check_133 rfl rfl (hK σ2 5 fr2 hrs (Or.inr (Or.inl ⟨rfl, har, ?_⟩)) (fun h => by omega))
    rcases hw with g | g
    · omega
    · exact g.2
  have hac : AC_ F T tc tab := by
    rcases hw with g | g
    · exact g.2
    · omega
  refine wi_iconst dc_R_check_134 (wp_is4 dc_R_check_135 (wi_iconst dc_R_check_137 (wp_is5 dc_R_check_138 ?_)))
  refine lp_R_ck3 hro2 htt hks hrs har hac (fun σ' v hf3 hh hv => hK σ' v (fr2.tr (hf3.mono (fun b j h => Or.inr (Or.inr h)))) (rs_fr hrs hf3) ?_ (fun _ => hh)) tc.toNat 0 0 σ2 _ (by omega) (by omega) fr_.rf (fun t c t0 t1 => by omega) (Or.inl ⟨rfl, fun t t0 t1 => by omega⟩)
  rcases hv with g | g
  · exact Or.inr (Or.inr (Or.inr ⟨g.1, har, hac, g.2⟩))
  · exact Or.inr (Or.inr (Or.inl ⟨g.1, har, hac, g.2⟩))
end CH
