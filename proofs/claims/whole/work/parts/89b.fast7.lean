/-! fastStart: what the boxes of the movie are; the widths, as numbers -/
def fx_ (F : Int → Int) (n N : Int) (T : px_T) (mi tc : Int) (b : Int → Int) (tab : Int → Int → Int) (me : Int) : Prop := (∀ i, 0 ≤ F i ∧ F i < 256) ∧ n ≤ 1000 ∧ tt_ n N T ∧ KS_ N T mi tc b tab ∧ AR_ F T tc tab ∧ AD_ F N T tc tab ∧ ME_ N T mi me
abbrev ho_ (T : px_T) (k : Int) : Prop := (T 4 k = 0 ∧ T 2 k = 77) ∨ (T 4 k = 1 ∧ T 2 k = 84)
/-- the data box around the place p -/
noncomputable def hb_ (N : Int) (T : px_T) (p : Int) : Int := Classical.epsilon (fun r => ff_ (DBX_ T p 0) N r)
/-- the new place of p -/
noncomputable def nz_ (N : Int) (T : px_T) (mi p L : Int) : Int := nw_ T mi (hb_ N T p) p L
/-- some new place of the narrow table does not fit a byte -/
def og_ (F : Int → Int) (N : Int) (T : px_T) (mi : Int) (f : Int → Int) (L : Int) : Prop := 0 ≤ f 4 ∧ ∃ c, 1 ≤ c ∧ c ≤ CC_ F T f ∧ 255 < nz_ N T mi (pc_ F T f c) L
noncomputable def ph_ (F : Int → Int) (N : Int) (T : px_T) (mi tc : Int) (tab : Int → Int → Int) (L : Int) : Int := by
  classical
  exact (if og_ F N T mi (tab 0) L then 1 else 0) + (if tc = 2 ∧ og_ F N T mi (tab 1) L then 2 else 0)
/-- which boxes become wide, when w says it of the tracks -/
def wk_ (tc : Int) (tab : Int → Int → Int) (w k : Int) : Int := if (0 ≤ tab 0 4 ∧ tab 0 4 = k ∧ w % 2 = 1) ∨ (tc = 2 ∧ 0 ≤ tab 1 4 ∧ tab 1 4 = k ∧ w / 2 = 1) then 1 else 0
/-- the movie's new length -/
def nL_ (F : Int → Int) (T : px_T) (mi tc : Int) (tab : Int → Int → Int) (me w : Int) : Int := nl_ F T (wk_ tc tab w) mi me mi
noncomputable def fp_ (F : Int → Int) (N : Int) (T : px_T) (mi tc : Int) (tab : Int → Int → Int) (me w : Int) : Int := ph_ F N T mi tc tab (nL_ F T mi tc tab me w)
def sbw_ (v w : Int) : Prop := v % 2 ≤ w % 2 ∧ v / 2 ≤ w / 2
def LF_ (F : Int → Int) (N : Int) (T : px_T) (mi tc : Int) (tab : Int → Int → Int) (me u : Int) : Prop := (0 ≤ u ∧ u ≤ 3) ∧ fp_ F N T mi tc tab me u = u ∧ ∀ v, 0 ≤ v → v ≤ 3 → fp_ F N T mi tc tab me v = v → sbw_ u v
section FH
variable {F : Int → Int} {n N : Int} {T : px_T} {mi tc : Int} {b : Int → Int} {tab : Int → Int → Int} {me : Int}
theorem fx_mi (h : fx_ F n N T mi tc b tab me) : 0 ≤ mi ∧ mi < me ∧ me ≤ N ∧ N ≤ 20 ∧ mi < N ∧ T 4 mi = 0 ∧ T 2 mi = 77 ∧ T 5 mi = -1 ∧ (tc = 1 ∨ tc = 2) := by
  obtain ⟨hF, hn, htt, hks, har, had, h1, h2, h3, h4⟩ := h
  have a := hks.1
  have s := htt.2.2.2.1 mi a.1 a.2.1
  exact ⟨a.1, h1, h2, htt.2.1, a.2.1, a.2.2.1.1, a.2.2.1.2, s.1 a.2.2.1.1, hks.2.1.1⟩
theorem fx_hh (h : fx_ F n N T mi tc b tab me) {k : Int} (k0 : mi < k) (k1 : k < me) : mi ≤ T 5 k ∧ T 5 k < k ∧ ho_ T (T 5 k) ∧ 1 ≤ T 4 k := by
  have m := fx_mi h
  obtain ⟨hF, hn, htt, hks, har, had, hme⟩ := h
  have hl := (me_iff htt hks hme (i := k) (by omega) (by omega)).mpr ⟨k0, k1⟩
  have bx := htt.2.2.1 k (by omega) (by omega)
  unfold bx_ at bx
  by_cases e : T 4 k = 1
  · obtain ⟨o0, o1, o2, o3⟩ := (htt.2.2.2.1 k (by omega) (by omega)).2.1 e
    have e2 := hks.1.2.2.2 _ o0 (by omega) o2
    exact ⟨by omega, o1, Or.inl o2, hl⟩
  · obtain ⟨o0, o1, o2, o3⟩ := (htt.2.2.2.1 k (by omega) (by omega)).2.2 (by omega)
    have q := (me_iff htt hks hme (i := T 5 k) o0 (by omega)).mp (by rw [o2.1]; omega)
    exact ⟨by omega, o1, Or.inr o2, hl⟩
theorem fx_lv (h : fx_ F n N T mi tc b tab me) {k : Int} (k0 : 0 ≤ k) (k1 : k < N) : 1 ≤ T 4 k ↔ (mi < k ∧ k < me) := me_iff h.2.2.1 h.2.2.2.1 h.2.2.2.2.2.2 k0 k1
theorem fx_tab (h : fx_ F n N T mi tc b tab me) {t q : Int} (t0 : 0 ≤ t) (t1 : t < tc) (q0 : 0 ≤ q) (q1 : q < 8) (hp : 0 ≤ tab t q) : mi < tab t q ∧ tab t q < me ∧ T 4 (tab t q) = 2 ∧ T 2 (tab t q) = tq_ q ∧ T 5 (tab t q) = b t := by
  obtain ⟨hF, hn, htt, hks, har, had, hme⟩ := h
  rcases hks.2.2.1 t q t0 t1 q0 q1 with g | ⟨g0, g1, g2, g3⟩
  · omega
  have q := (me_iff htt hks hme g0 g1).mp (by rw [g2.1]; omega)
  exact ⟨q.1, q.2, g2.1, g2.2.1, g2.2.2⟩
/-- a box of the movie whose kind is that of table q is some track's table q -/
theorem fx_kd (h : fx_ F n N T mi tc b tab me) {k q : Int} (k0 : mi ≤ k) (k1 : k < me) (q0 : 0 ≤ q) (q1 : q < 8) : px_kind (T 2 k) (T 4 k) = tq_ q ↔ ∃ t, 0 ≤ t ∧ t < tc ∧ tab t q = k := by
  have m := fx_mi h
  have h' := h
  obtain ⟨hF, hn, htt, hks, har, had, hme⟩ := h
  have bx := htt.2.2.1 k (by omega) (by omega)
  constructor
  · intro e
    have tb : TB_ T (T 5 k) q k := (ck_tb bx q0 q1).mp ⟨rfl, e⟩
    obtain ⟨o0, o1, o2, o3⟩ := (htt.2.2.2.1 k (by omega) (by omega)).2.2 tb.1
    obtain ⟨t, t0, t1, e2⟩ := hks.2.1.2.2.2 (T 5 k) o0 (by omega) o2
    refine ⟨t, t0, t1, ?_⟩
    rw [e2] at tb
    rcases hks.2.2.1 t q t0 t1 q0 q1 with g | ⟨g0, g1, g2, g3⟩
    · exact absurd tb (g.2 k (by omega) (by omega))
    · exact (g3 k (by omega) (by omega) tb).symm
  · rintro ⟨t, t0, t1, e⟩
    have g := fx_tab h' t0 t1 q0 q1 (by omega)
    rw [e] at g
    exact ((ck_tb (b := b t) bx q0 q1).mpr ⟨g.2.2.1, g.2.2.2.1, g.2.2.2.2⟩).2
theorem fx_pl (h : fx_ F n N T mi tc b tab me) {t : Int} (t0 : 0 ≤ t) (t1 : t < tc) : (0 ≤ tab t 4 ∧ tab t 5 = -1 ∧ pj_ (tab t) = tab t 4 ∧ pl_ T (tab t 4) = 1 + F (st_ T (tab t 4))) ∨ (tab t 4 = -1 ∧ 0 ≤ tab t 5 ∧ pj_ (tab t) = tab t 5 ∧ pl_ T (tab t 5) = 1 + 2 * F (st_ T (tab t 5))) := by
  obtain ⟨hF, hn, htt, hks, har, had, hme⟩ := h
  have q := (hks.2.2.2 t t0 t1).2.2.2
  unfold pj_
  rcases q with ⟨q1, q2⟩ | ⟨q1, q2⟩
  · have r := ((har t t0 t1 4 (by decide) (by decide) q1).2 (by decide)).2.1
    rw [show wd_ 4 = 1 from rfl] at r
    exact Or.inl ⟨q1, q2, if_neg (by omega), by omega⟩
  · have r := ((har t t0 t1 5 (by decide) (by decide) q2).2 (by decide)).2.1
    rw [show wd_ 5 = 2 from rfl] at r
    exact Or.inr ⟨q1, q2, if_pos q1, by omega⟩
theorem hb_eq {p r : Int} (h : ff_ (DBX_ T p 0) N r) : hb_ N T p = r := ff_un (Classical.epsilon_spec (p := fun r => ff_ (DBX_ T p 0) N r) ⟨r, h⟩) h
theorem fx_hb (h : fx_ F n N T mi tc b tab me) {t c : Int} (t0 : 0 ≤ t) (t1 : t < tc) (c0 : 1 ≤ c) (c1 : c ≤ CC_ F T (tab t)) : 0 ≤ hb_ N T (pc_ F T (tab t) c) ∧ hb_ N T (pc_ F T (tab t) c) < N ∧ DBX_ T (pc_ F T (tab t) c) 0 (hb_ N T (pc_ F T (tab t) c)) := by
  obtain ⟨hF, hn, htt, hks, har, had, hme⟩ := h
  obtain ⟨k, k0, k1, k2⟩ := had t t0 t1 c c0 c1
  have cb : 0 ≤ cb_ F T (tab t) c := (bt_rg hF (st_ T (tab t 3)) (ks_ F T (tab t) c) (mn_ F (st_ T (tab t 2)) c).toNat).1
  have kz : DBX_ T (pc_ F T (tab t) c) 0 k := ⟨k2.1, k2.2.1, k2.2.2.1, by have := k2.2.2.2; omega⟩
  have e : hb_ N T (pc_ F T (tab t) c) = k := hb_eq (Or.inr ⟨k0, k1, kz, fun j j0 j1 q => by have := dbx_un htt j0 (by omega) k0 k1 q kz; omega⟩)
  rw [e]
  exact ⟨k0, k1, kz⟩
/-- the reference's home is that box -/
theorem fx_hm (h : fx_ F n N T mi tc b tab me) {t c x : Int} (t0 : 0 ≤ t) (t1 : t < tc) (c0 : 1 ≤ c) (c1 : c ≤ CC_ F T (tab t)) (hx : ff_ (DBX_ T (pc_ F T (tab t) c) (cb_ F T (tab t) c)) N x) : x = hb_ N T (pc_ F T (tab t) c) := by
  obtain ⟨g0, g1, g2⟩ := fx_hb h t0 t1 c0 c1
  obtain ⟨hF, hn, htt, hks, har, had, hme⟩ := h
  have cb : 0 ≤ cb_ F T (tab t) c := (bt_rg hF (st_ T (tab t 3)) (ks_ F T (tab t) c) (mn_ F (st_ T (tab t 2)) c).toNat).1
  rcases hx with ⟨x1, x2⟩ | ⟨x1, x2, x3, x4⟩
  · obtain ⟨k, k0, k1, k2⟩ := had t t0 t1 c c0 c1
    exact absurd k2 (x2 k k0 k1)
  · exact dbx_un htt x1 x2 g0 g1 ⟨x3.1, x3.2.1, x3.2.2.1, by have := x3.2.2.2; omega⟩ g2
theorem fx_nz (h : fx_ F n N T mi tc b tab me) {t c L : Int} (t0 : 0 ≤ t) (t1 : t < tc) (c0 : 1 ≤ c) (c1 : c ≤ CC_ F T (tab t)) (hL : 0 ≤ L) : 0 ≤ pc_ F T (tab t) c ∧ pc_ F T (tab t) c ≤ n ∧ 0 ≤ nz_ N T mi (pc_ F T (tab t) c) L ∧ nz_ N T mi (pc_ F T (tab t) c) L ≤ pc_ F T (tab t) c + L ∧ (hb_ N T (pc_ F T (tab t) c) < mi ↔ T 0 (hb_ N T (pc_ F T (tab t) c)) < T 0 mi) := by
  obtain ⟨g0, g1, g2⟩ := fx_hb h t0 t1 c0 c1
  have m := fx_mi h
  obtain ⟨hF, hn, htt, hks, har, had, hme⟩ := h
  obtain ⟨d1, d2, d3, d4⟩ := g2
  have bx := htt.2.2.1 _ g0 g1
  have bm := htt.2.2.1 mi m.1 (by omega)
  unfold bx_ at bx bm
  unfold nz_ nw_
  by_cases e : hb_ N T (pc_ F T (tab t) c) < mi
  · have o := htt.2.2.2.2 _ mi g0 e (by omega) d1 m.2.2.2.2.2.1
    rw [if_pos e]
    refine ⟨by omega, by omega, by omega, by omega, ?_⟩
    constructor <;> intro _ <;> omega
  · have ne : hb_ N T (pc_ F T (tab t) c) ≠ mi := fun q => by rw [q] at d2; omega
    have o := htt.2.2.2.2 mi _ m.1 (by omega) g1 m.2.2.2.2.2.1 d1
    rw [if_neg e]
    refine ⟨by omega, by omega, by omega, by omega, ?_⟩
    constructor <;> intro _ <;> omega
theorem nz_mono {p L L' : Int} (h : L ≤ L') : nz_ N T mi p L ≤ nz_ N T mi p L' := by
  unfold nz_ nw_
  omega
theorem og_mono {f : Int → Int} {L L' : Int} (h : L ≤ L') : og_ F N T mi f L → og_ F N T mi f L' := by
  rintro ⟨a, c, c0, c1, c2⟩
  exact ⟨a, c, c0, c1, by have := nz_mono (N := N) (T := T) (mi := mi) (p := pc_ F T f c) h; omega⟩
theorem ph_bit (L : Int) : (0 ≤ ph_ F N T mi tc tab L ∧ ph_ F N T mi tc tab L ≤ 3) ∧ (ph_ F N T mi tc tab L % 2 = 1 ↔ og_ F N T mi (tab 0) L) ∧ (ph_ F N T mi tc tab L / 2 = 1 ↔ tc = 2 ∧ og_ F N T mi (tab 1) L) := by
  unfold ph_
  by_cases a : og_ F N T mi (tab 0) L <;> by_cases c : tc = 2 ∧ og_ F N T mi (tab 1) L
  · rw [if_pos a, if_pos c]; exact ⟨by decide, ⟨fun _ => a, fun _ => by decide⟩, ⟨fun _ => c, fun _ => by decide⟩⟩
  · rw [if_pos a, if_neg c]; exact ⟨by decide, ⟨fun _ => a, fun _ => by decide⟩, ⟨fun q => absurd q (by decide), fun q => absurd q c⟩⟩
  · rw [if_neg a, if_pos c]; exact ⟨by decide, ⟨fun q => absurd q (by decide), fun q => absurd q a⟩, ⟨fun _ => c, fun _ => by decide⟩⟩
  · rw [if_neg a, if_neg c]; exact ⟨by decide, ⟨fun q => absurd q (by decide), fun q => absurd q a⟩, ⟨fun q => absurd q (by decide), fun q => absurd q c⟩⟩
theorem ph_mono {L L' : Int} (h : L ≤ L') : sbw_ (ph_ F N T mi tc tab L) (ph_ F N T mi tc tab L') := by
  have a := ph_bit (F := F) (N := N) (T := T) (mi := mi) (tc := tc) (tab := tab) L
  have c := ph_bit (F := F) (N := N) (T := T) (mi := mi) (tc := tc) (tab := tab) L'
  unfold sbw_
  constructor
  · by_cases e : ph_ F N T mi tc tab L % 2 = 1
    · have := c.2.1.mpr (og_mono h (a.2.1.mp e)); omega
    · omega
  · by_cases e : ph_ F N T mi tc tab L / 2 = 1
    · have q := a.2.2.mp e
      have := c.2.2.mpr ⟨q.1, og_mono h q.2⟩; omega
    · omega
theorem wk_01 (w k : Int) : wk_ tc tab w k = 0 ∨ wk_ tc tab w k = 1 := by
  unfold wk_
  split <;> omega
theorem wk_mono {v w : Int} (h : sbw_ v w) (w0 : 0 ≤ w) (w1 : w ≤ 3) (k : Int) : wk_ tc tab v k = 1 → wk_ tc tab w k = 1 := by
  unfold wk_ sbw_ at *
  intro q
  by_cases e : (0 ≤ tab 0 4 ∧ tab 0 4 = k ∧ v % 2 = 1) ∨ (tc = 2 ∧ 0 ≤ tab 1 4 ∧ tab 1 4 = k ∧ v / 2 = 1)
  · rw [if_pos (by omega)]
  · rw [if_neg e] at q; omega
theorem nL_mono {v w : Int} (hF : ∀ i, 0 ≤ F i ∧ F i < 256) (h : sbw_ v w) (w0 : 0 ≤ w) (w1 : w ≤ 3) : nL_ F T mi tc tab me v ≤ nL_ F T mi tc tab me w := nl_mono hF (wk_mono h w0 w1) mi
theorem fp_mono {v w : Int} (hF : ∀ i, 0 ≤ F i ∧ F i < 256) (h : sbw_ v w) (w0 : 0 ≤ w) (w1 : w ≤ 3) : sbw_ (fp_ F N T mi tc tab me v) (fp_ F N T mi tc tab me w) := ph_mono (nL_mono hF h w0 w1)
theorem fp_rg (w : Int) : 0 ≤ fp_ F N T mi tc tab me w ∧ fp_ F N T mi tc tab me w ≤ 3 := (ph_bit _).1
theorem lf_ex (hF : ∀ i, 0 ≤ F i ∧ F i < 256) : ∃ u, LF_ F N T mi tc tab me u := by
  have r0 := fp_rg (F := F) (N := N) (T := T) (mi := mi) (tc := tc) (tab := tab) (me := me) 0
  have r1 := fp_rg (F := F) (N := N) (T := T) (mi := mi) (tc := tc) (tab := tab) (me := me) (fp_ F N T mi tc tab me 0)
  have r2 := fp_rg (F := F) (N := N) (T := T) (mi := mi) (tc := tc) (tab := tab) (me := me) (fp_ F N T mi tc tab me (fp_ F N T mi tc tab me 0))
  have m1 := fp_mono (N := N) (T := T) (mi := mi) (tc := tc) (tab := tab) (me := me) hF (v := 0) (w := fp_ F N T mi tc tab me 0) (by unfold sbw_; omega) r0.1 r0.2
  have m2 := fp_mono (N := N) (T := T) (mi := mi) (tc := tc) (tab := tab) (me := me) hF m1 r1.1 r1.2
  have e : fp_ F N T mi tc tab me (fp_ F N T mi tc tab me (fp_ F N T mi tc tab me 0)) = fp_ F N T mi tc tab me (fp_ F N T mi tc tab me 0) := by
    by_cases e1 : fp_ F N T mi tc tab me 0 = 0
    · rw [e1, e1, e1]
    by_cases e2 : fp_ F N T mi tc tab me (fp_ F N T mi tc tab me 0) = fp_ F N T mi tc tab me 0
    · rw [e2, e2]
    unfold sbw_ at m1 m2
    omega
  refine ⟨fp_ F N T mi tc tab me (fp_ F N T mi tc tab me 0), r1, e, fun v v0 v1 hv => ?_⟩
  have a := fp_mono (N := N) (T := T) (mi := mi) (tc := tc) (tab := tab) (me := me) hF (v := 0) (w := v) (by unfold sbw_; omega) v0 v1
  rw [hv] at a
  have c := fp_mono (N := N) (T := T) (mi := mi) (tc := tc) (tab := tab) (me := me) hF a v0 v1
  rw [hv] at c
  exact c
theorem fx_wk (h : fx_ F n N T mi tc b tab me) {w k : Int} (e : wk_ tc tab w k = 1) : 0 ≤ k ∧ mi < k ∧ k < me ∧ T 4 k = 2 ∧ T 2 k = 111 ∧ pl_ T k = 1 + F (st_ T k) := by
  have m := fx_mi h
  unfold wk_ at e
  by_cases q : (0 ≤ tab 0 4 ∧ tab 0 4 = k ∧ w % 2 = 1) ∨ (tc = 2 ∧ 0 ≤ tab 1 4 ∧ tab 1 4 = k ∧ w / 2 = 1)
  · rcases q with ⟨a, rfl, -⟩ | ⟨c, a, rfl, -⟩
    · have g := fx_tab h (t := 0) (q := 4) (by omega) (by omega) (by omega) (by omega) a
      have p := fx_pl h (t := 0) (by omega) (by omega)
      have e : tq_ 4 = 111 := rfl
      exact ⟨a, g.1, g.2.1, g.2.2.1, by omega, by omega⟩
    · have g := fx_tab h (t := 1) (q := 4) (by omega) (by omega) (by omega) (by omega) a
      have p := fx_pl h (t := 1) (by omega) (by omega)
      have e : tq_ 4 = 111 := rfl
      exact ⟨a, g.1, g.2.1, g.2.2.1, by omega, by omega⟩
  · rw [if_neg q] at e; omega
end FH
