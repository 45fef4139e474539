/-! the class's tracks: binding, rowsHold -/
abbrev kbo_ (a : Nat) : Prop := SH[a]? = some (.inr (5, [.ref 3, .ref (a + 1), .ref (a + 2), .ref (a + 3), .ref (a + 4), .ref (a + 5), .ref (a + 6), .ref (a + 7), .ref (a + 8), .int 0])) ∧ tbo_ (a + 1) ∧ tbo_ (a + 2) ∧ tbo_ (a + 3) ∧ tbo_ (a + 4) ∧ tbo_ (a + 5) ∧ tbo_ (a + 6) ∧ zbo_ (a + 7)
theorem kbo_13 : kbo_ 13 := ⟨rfl, rfl, rfl, rfl, rfl, rfl, rfl, rfl⟩
theorem kbo_29 : kbo_ 29 := ⟨rfl, rfl, rfl, rfl, rfl, rfl, rfl, rfl⟩
def pj_ (f : Int → Int) : Int := if f 4 = -1 then f 5 else f 4
def pw_ (f : Int → Int) : Int := if f 4 = -1 then 2 else 1
def bdk_ (σ : sg_) (F : Int → Int) (T : px_T) (a : Nat) (f : Int → Int) : Prop := tb_ σ F T (a + 1) (f 0) 2 ∧ tb_ σ F T (a + 2) (f 1) 2 ∧ tb_ σ F T (a + 3) (f 2) 3 ∧ tb_ σ F T (a + 4) (pj_ f) (pw_ f) ∧ tb_ σ F T (a + 5) (f 6) 1 ∧ tb_ σ F T (a + 6) (f 7) 2 ∧ zb_ σ F T (a + 7) (f 3)
theorem tb_fr {σ σ' : sg_} {F : Int → Int} {T : px_T} {a : Nat} {j w : Int} {P : Nat → Int → Prop} (h : fr_ P σ σ') (ha : ∀ k, ¬ P a k) (hb : tb_ σ F T a j w) : tb_ σ' F T a j w := by
  unfold tb_ at *
  rw [h a _ (ha _), h a _ (ha _), h a _ (ha _), h a _ (ha _), h a _ (ha _)]
  exact hb
theorem zb_fr {σ σ' : sg_} {F : Int → Int} {T : px_T} {a : Nat} {j : Int} {P : Nat → Int → Prop} (h : fr_ P σ σ') (ha : ∀ k, ¬ P a k) (hb : zb_ σ F T a j) : zb_ σ' F T a j := by
  unfold zb_ at *
  rw [h a _ (ha _), h a _ (ha _), h a _ (ha _), h a _ (ha _)]
  exact hb
theorem bdk_fr {σ σ' : sg_} {F : Int → Int} {T : px_T} {a : Nat} {f : Int → Int} {P : Nat → Int → Prop} (h : fr_ P σ σ') (ha : ∀ b k, a < b → b < a + 8 → ¬ P b k) (hb : bdk_ σ F T a f) : bdk_ σ' F T a f := by
  obtain ⟨h1, h2, h3, h4, h5, h6, h7⟩ := hb
  exact ⟨tb_fr h (fun k => ha _ k (by omega) (by omega)) h1, tb_fr h (fun k => ha _ k (by omega) (by omega)) h2, tb_fr h (fun k => ha _ k (by omega) (by omega)) h3, tb_fr h (fun k => ha _ k (by omega) (by omega)) h4, tb_fr h (fun k => ha _ k (by omega) (by omega)) h5, tb_fr h (fun k => ha _ k (by omega) (by omega)) h6, zb_fr h (fun k => ha _ k (by omega) (by omega)) h7⟩
theorem ff_kt {n N : Int} {T : px_T} {b : Int} {f : Int → Int} (htt : tt_ n N T) (h : KT_ N T b f) {q r : Int} (q0 : 0 ≤ q) (q1 : q < 8) (hr : ff_ (ck_ T b (tq_ q)) N r) : r = f q := by
  have tr : ∀ j, 0 ≤ j → j < N → (ck_ T b (tq_ q) j ↔ TB_ T b q j) := fun j j0 j1 => ck_tb (htt.2.2.1 j j0 j1) q0 q1
  rcases hr with ⟨g1, g2⟩ | ⟨g1, g2, g3, g4⟩
  · rcases h.1 q q0 q1 with k | k
    · omega
    · exact absurd ((tr _ k.1 k.2.1).mpr k.2.2.1) (g2 _ k.1 k.2.1)
  · rcases h.1 q q0 q1 with k | k
    · exact absurd ((tr _ g1 g2).mp g3) (k.2 _ g1 g2)
    · exact k.2.2.2 r g1 g2 ((tr _ g1 g2).mp g3)
def LN_ (F : Int → Int) (T : px_T) (j w : Int) : Prop := j = -1 ∨ (1 ≤ pl_ T j ∧ pl_ T j = 1 + w * F (st_ T j))
/-- all the tables of a track are as they must be -/
def RH_ (F : Int → Int) (T : px_T) (f : Int → Int) : Prop := ∀ q, 0 ≤ q → q < 8 → 0 ≤ f q → RO_ F (st_ T (f q)) (pl_ T (f q)) q
theorem ro_len {F : Int → Int} {s p q w : Int} (h : q = 0 ∨ q = 1 ∨ q = 4 ∨ q = 5 ∨ q = 7) (hw : wd_ q = w) : RO_ F s p q ↔ (1 ≤ p ∧ p = 1 + w * F s) := by
  subst hw
  constructor
  · intro hr
    have := hr.2 (by omega)
    exact ⟨this.1, this.2.1⟩
  · intro hl
    exact ⟨fun h3 => by omega, fun _ => ⟨hl.1, hl.2, fun r _ _ => ⟨fun h2 => by omega, fun h6 => by omega⟩⟩⟩
def CK_ (F : Int → Int) (s : Int) : Prop := (F s = 0 ∨ F (s + (1 + 3 * 0)) = 1) ∧ (∀ r, 1 ≤ r → r < F s → F (s + (1 + 3 * (r - 1))) < F (s + (1 + 3 * r))) ∧ ∀ r, 0 ≤ r → r < F s → ¬ F (s + (2 + 3 * r)) = 0
theorem ro_chk {F : Int → Int} {s p : Int} (hF : ∀ i, 0 ≤ F i) : RO_ F s p 2 ↔ (1 ≤ p ∧ p = 1 + 3 * F s) ∧ CK_ F s := by
  have hwd : wd_ 2 = 3 := rfl
  constructor
  · intro hr
    obtain ⟨h1, h2, h3⟩ := hr.2 (by omega)
    rw [hwd] at h2
    refine ⟨⟨h1, h2⟩, ?_, fun r r1 r2 => ?_, fun r r0 r1 => ((h3 r r0 r1).1 rfl).2⟩
    · have := hF s
      by_cases h0 : F s = 0
      · exact Or.inl h0
      · have := ((h3 0 (by omega) (by omega)).1 rfl).1
        rw [if_pos rfl] at this
        exact Or.inr this
    · have := ((h3 r (by omega) r2).1 rfl).1
      rw [if_neg (by omega)] at this
      rw [show 1 + 3 * (r - 1) = 3 * r - 2 by omega]
      exact this
  · rintro ⟨⟨h1, h2⟩, h3, h4, h5⟩
    refine ⟨fun h3 => by omega, fun _ => ⟨h1, by rw [hwd]; exact h2, fun r r0 r1 => ⟨fun _ => ⟨?_, h5 r r0 r1⟩, fun h6 => by omega⟩⟩⟩
    by_cases hr : r = 0
    · subst hr
      rw [if_pos rfl]
      rcases h3 with h | h
      · omega
      · exact h
    · rw [if_neg hr]
      have := h4 r (by omega) r1
      rwa [show 1 + 3 * (r - 1) = 3 * r - 2 by omega] at this
def SY_ (F : Int → Int) (s : Int) : Prop := (F s = 0 ∨ ¬ F (s + (1 + 0)) = 0) ∧ ∀ r, 1 ≤ r → r < F s → F (s + (1 + (r - 1))) < F (s + (1 + r))
theorem ro_syn {F : Int → Int} {s p : Int} (hF : ∀ i, 0 ≤ F i) : RO_ F s p 6 ↔ (1 ≤ p ∧ p = 1 + 1 * F s) ∧ SY_ F s := by
  have hwd : wd_ 6 = 1 := rfl
  constructor
  · intro hr
    obtain ⟨h1, h2, h3⟩ := hr.2 (by omega)
    rw [hwd] at h2
    refine ⟨⟨h1, h2⟩, ?_, fun r r1 r2 => ?_⟩
    · have := hF s
      by_cases h0 : F s = 0
      · exact Or.inl h0
      · have := (h3 0 (by omega) (by omega)).2 rfl
        rw [if_pos rfl] at this
        exact Or.inr (by omega)
    · have := (h3 r (by omega) r2).2 rfl
      rw [if_neg (by omega)] at this
      rw [show 1 + (r - 1) = r by omega]
      exact this
  · rintro ⟨⟨h1, h2⟩, h3, h4⟩
    refine ⟨fun h3 => by omega, fun _ => ⟨h1, by rw [hwd]; exact h2, fun r r0 r1 => ⟨fun h6 => by omega, fun _ => ?_⟩⟩⟩
    by_cases hr : r = 0
    · subst hr
      rw [if_pos rfl]
      have := hF (s + (1 + 0))
      rcases h3 with h | h
      · omega
      · omega
    · rw [if_neg hr]
      have := h4 r (by omega) r1
      rwa [show 1 + (r - 1) = r by omega] at this
theorem RH_iff {F : Int → Int} {N : Int} {T : px_T} {b : Int} {f : Int → Int} (hF : ∀ i, 0 ≤ F i) (hk : KT_ N T b f) : RH_ F T f ↔ (RO_ F (st_ T (f 3)) (pl_ T (f 3)) 3 ∧ LN_ F T (f 0) 2 ∧ LN_ F T (f 1) 2 ∧ LN_ F T (f 2) 3 ∧ LN_ F T (pj_ f) (pw_ f) ∧ LN_ F T (f 6) 1 ∧ LN_ F T (f 7) 2 ∧ CK_ F (st_ T (f 2)) ∧ (f 6 = -1 ∨ SY_ F (st_ T (f 6)))) := by
  obtain ⟨k1, k2, k3, k4, k5⟩ := hk
  have c : ∀ q, 0 ≤ q → q < 8 → f q = -1 ∨ 0 ≤ f q := fun q q0 q1 => by rcases k1 q q0 q1 with h | h <;> omega
  have ln : ∀ q w, (q = 0 ∨ q = 1 ∨ q = 4 ∨ q = 5 ∨ q = 7) → wd_ q = w → ((0 ≤ f q → RO_ F (st_ T (f q)) (pl_ T (f q)) q) ↔ LN_ F T (f q) w) := fun q w hq hw => by
    constructor
    · intro h
      rcases c q (by omega) (by omega) with g | g
      · exact Or.inl g
      · exact Or.inr ((ro_len hq hw).mp (h g))
    · intro h g
      rcases h with h | h
      · omega
      · exact (ro_len hq hw).mpr h
  have pl : LN_ F T (pj_ f) (pw_ f) ↔ (LN_ F T (f 4) 1 ∧ LN_ F T (f 5) 2) := by
    unfold pj_ pw_
    rcases k5 with ⟨g1, g2⟩ | ⟨g1, g2⟩
    · rw [if_neg (by omega), if_neg (by omega)]
      exact ⟨fun h => ⟨h, Or.inl g2⟩, fun h => h.1⟩
    · rw [if_pos g1, if_pos g1]
      exact ⟨fun h => ⟨Or.inl g1, h⟩, fun h => h.2⟩
  constructor
  · intro h
    have h2 := (ro_chk hF).mp (h 2 (by omega) (by omega) k3)
    refine ⟨h 3 (by omega) (by omega) k4, (ln 0 2 (by omega) rfl).mp (h 0 (by omega) (by omega)), (ln 1 2 (by omega) rfl).mp (h 1 (by omega) (by omega)), Or.inr h2.1, pl.mpr ⟨(ln 4 1 (by omega) rfl).mp (h 4 (by omega) (by omega)), (ln 5 2 (by omega) rfl).mp (h 5 (by omega) (by omega))⟩, ?_, (ln 7 2 (by omega) rfl).mp (h 7 (by omega) (by omega)), h2.2, ?_⟩
    · rcases c 6 (by omega) (by omega) with g | g
      · exact Or.inl g
      · exact Or.inr ((ro_syn hF).mp (h 6 (by omega) (by omega) g)).1
    · rcases c 6 (by omega) (by omega) with g | g
      · exact Or.inl g
      · exact Or.inr ((ro_syn hF).mp (h 6 (by omega) (by omega) g)).2
  · rintro ⟨h3, h0, h1, h2, h45, h6, h7, hc, hs⟩ q q0 q1 hq
    obtain ⟨h4, h5⟩ := pl.mp h45
    have hh : q = 0 ∨ q = 1 ∨ q = 2 ∨ q = 3 ∨ q = 4 ∨ q = 5 ∨ q = 6 ∨ q = 7 := by omega
    rcases hh with rfl | rfl | rfl | rfl | rfl | rfl | rfl | rfl
    · exact (ln 0 2 (by omega) rfl).mpr h0 hq
    · exact (ln 1 2 (by omega) rfl).mpr h1 hq
    · refine (ro_chk hF).mpr ⟨?_, hc⟩
      rcases h2 with h | h
      · omega
      · exact h
    · exact h3
    · exact (ln 4 1 (by omega) rfl).mpr h4 hq
    · exact (ln 5 2 (by omega) rfl).mpr h5 hq
    · refine (ro_syn hF).mpr ⟨?_, ?_⟩
      · rcases h6 with h | h
        · omega
        · exact h
      · rcases hs with h | h
        · omega
        · exact h
    · exact (ln 7 2 (by omega) rfl).mpr h7 hq
section TK
variable {l : Launch} {σ : sg_} {K : Option Value → mx_H → Prop} {F : Int → Int} {n N : Int} {T : px_T} {b : Int} {f : Int → Int} {a : Nat}
theorem kt_cs (hk : KT_ N T b f) {q : Int} (q0 : 0 ≤ q) (q1 : q < 8) : f q = -1 ∨ (0 ≤ f q ∧ f q < N) := by
  rcases hk.1 q q0 q1 with h | h
  · exact Or.inl h.1
  · exact Or.inr ⟨h.1, h.2.1⟩
theorem c_K_bind (hk : kbo_ a) (ha : 12 ≤ a) (hlo : lo_ σ F n) (hlt : lt_ σ N T) (htt : tt_ n N T) (b0 : 0 ≤ b) (b1 : b < N) (hkt : KT_ N T b f) (hK : ∀ σ', fr_ (fun b _ => a ≤ b ∧ b < a + 8) σ σ' → bdk_ σ' F T a f → σ' a 9 = 0 → K none (hp_ σ')) : ct_m l Y_K_bind 0 0 [.ref a, .int (iI b)] (hp_ σ) K := by
  obtain ⟨hKo, o1, o2, o3, o4, o5, o6, o7⟩ := hk
  have t2 := htt.2.1
  have brg : rg b := ⟨by omega, by omega⟩
  have mo : ∀ {σ' : sg_}, fr_ (fun b _ => a ≤ b ∧ b < a + 8) σ σ' → fr_ (fun b _ => 12 ≤ b) σ σ' := fun h => h.mono (fun b _ h => by omega)
  refine ct_of (L := [.ref a, .int (iI b), .retAddr 0]) (by decide +kernel) (Nat.le_of_ble_eq_true rfl) rfl ?_
  refine wp_aload_n dc_K_bind_0 rfl rfl (wi_getR dc_K_bind_1 lf_K_20 hKo rfl (wp_aload_n dc_K_bind_4 rfl rfl (wi_getR dc_K_bind_5 lf_K_9 hKo rfl (wp_aload_n dc_K_bind_8 rfl rfl (wi_getR dc_K_bind_9 lf_K_9 hKo rfl (wp_iload_n dc_K_bind_12 rfl rfl (wi_bipush dc_K_bind_13 ?_)))))))
  refine wp_callV (As := [_, _]) dc_K_bind_15 lm_K_55 ls_L_find (by decide) rfl rfl (hp_at _ sh_3) rfl rfl (Nat.le_of_ble_eq_true rfl) (Nat.le_refl _) (Nat.le_refl _) ?_
  refine c_L_find hlt htt brg ⟨by omega, by omega⟩ (fun r hr => ?_)
  obtain rfl : r = f 0 := ff_kt (q := 0) htt hkt (by omega) (by omega) hr
  refine wi_iconst dc_K_bind_18 ?_
  refine wp_callV (As := [_, _, _]) dc_K_bind_19 lm_K_61 ls_T_bind (by decide) rfl rfl (hp_at _ o1) rfl rfl (Nat.le_of_ble_eq_true rfl) (Nat.le_refl _) (Nat.le_refl _) ?_
  refine c_T_bind o1 (by omega) hlo hlt htt (kt_cs hkt (by omega) (by omega)) (fun σ1 f1 r1 => ?_)
  have f1 : fr_ (fun b _ => a ≤ b ∧ b < a + 8) σ σ1 := f1.mono (fun b _ h => by omega)
  refine wp_aload_n dc_K_bind_22 rfl rfl (wi_getR dc_K_bind_23 lf_K_24 hKo rfl (wp_aload_n dc_K_bind_26 rfl rfl (wi_getR dc_K_bind_27 lf_K_9 hKo rfl (wp_aload_n dc_K_bind_30 rfl rfl (wi_getR dc_K_bind_31 lf_K_9 hKo rfl (wp_iload_n dc_K_bind_34 rfl rfl (wi_bipush dc_K_bind_35 ?_)))))))
  refine wp_callV (As := [_, _]) dc_K_bind_37 lm_K_55 ls_L_find (by decide) rfl rfl (hp_at _ sh_3) rfl rfl (Nat.le_of_ble_eq_true rfl) (Nat.le_refl _) (Nat.le_refl _) ?_
  refine c_L_find (lt_fr (mo f1) hlt) htt brg ⟨by omega, by omega⟩ (fun r hr => ?_)
  obtain rfl : r = f 1 := ff_kt (q := 1) htt hkt (by omega) (by omega) hr
  refine wi_iconst dc_K_bind_40 ?_
  refine wp_callV (As := [_, _, _]) dc_K_bind_41 lm_K_61 ls_T_bind (by decide) rfl rfl (hp_at _ o2) rfl rfl (Nat.le_of_ble_eq_true rfl) (Nat.le_refl _) (Nat.le_refl _) ?_
  refine c_T_bind o2 (by omega) (lo_fr (mo f1) hlo) (lt_fr (mo f1) hlt) htt (kt_cs hkt (by omega) (by omega)) (fun σ2 g2 r2 => ?_)
  have f2 := f1.tr (g2.mono (fun b _ h => by omega))
  have r1 := tb_fr g2 (fun k => by omega) r1
  refine wp_aload_n dc_K_bind_44 rfl rfl (wi_getR dc_K_bind_45 lf_K_27 hKo rfl (wp_aload_n dc_K_bind_48 rfl rfl (wi_getR dc_K_bind_49 lf_K_9 hKo rfl (wp_aload_n dc_K_bind_52 rfl rfl (wi_getR dc_K_bind_53 lf_K_9 hKo rfl (wp_iload_n dc_K_bind_56 rfl rfl (wi_bipush dc_K_bind_57 ?_)))))))
  refine wp_callV (As := [_, _]) dc_K_bind_59 lm_K_55 ls_L_find (by decide) rfl rfl (hp_at _ sh_3) rfl rfl (Nat.le_of_ble_eq_true rfl) (Nat.le_refl _) (Nat.le_refl _) ?_
  refine c_L_find (lt_fr (mo f2) hlt) htt brg ⟨by omega, by omega⟩ (fun r hr => ?_)
  obtain rfl : r = f 2 := ff_kt (q := 2) htt hkt (by omega) (by omega) hr
  refine wi_iconst dc_K_bind_62 ?_
  refine wp_callV (As := [_, _, _]) dc_K_bind_63 lm_K_61 ls_T_bind (by decide) rfl rfl (hp_at _ o3) rfl rfl (Nat.le_of_ble_eq_true rfl) (Nat.le_refl _) (Nat.le_refl _) ?_
  refine c_T_bind o3 (by omega) (lo_fr (mo f2) hlo) (lt_fr (mo f2) hlt) htt (kt_cs hkt (by omega) (by omega)) (fun σ3 g3 r3 => ?_)
  have f3 := f2.tr (g3.mono (fun b _ h => by omega))
  have r1 := tb_fr g3 (fun k => by omega) r1
  have r2 := tb_fr g3 (fun k => by omega) r2
  refine wp_aload_n dc_K_bind_66 rfl rfl (wi_getR dc_K_bind_67 lf_K_33 hKo rfl (wp_aload_n dc_K_bind_70 rfl rfl (wi_getR dc_K_bind_71 lf_K_9 hKo rfl (wp_aload_n dc_K_bind_74 rfl rfl (wi_getR dc_K_bind_75 lf_K_9 hKo rfl (wp_iload_n dc_K_bind_78 rfl rfl (wi_bipush dc_K_bind_79 ?_)))))))
  refine wp_callV (As := [_, _]) dc_K_bind_81 lm_K_55 ls_L_find (by decide) rfl rfl (hp_at _ sh_3) rfl rfl (Nat.le_of_ble_eq_true rfl) (Nat.le_refl _) (Nat.le_refl _) ?_
  refine c_L_find (lt_fr (mo f3) hlt) htt brg ⟨by omega, by omega⟩ (fun r hr => ?_)
  obtain rfl : r = f 6 := ff_kt (q := 6) htt hkt (by omega) (by omega) hr
  refine wi_iconst dc_K_bind_84 ?_
  refine wp_callV (As := [_, _, _]) dc_K_bind_85 lm_K_61 ls_T_bind (by decide) rfl rfl (hp_at _ o5) rfl rfl (Nat.le_of_ble_eq_true rfl) (Nat.le_refl _) (Nat.le_refl _) ?_
  refine c_T_bind o5 (by omega) (lo_fr (mo f3) hlo) (lt_fr (mo f3) hlt) htt (kt_cs hkt (by omega) (by omega)) (fun σ5 g5 r5 => ?_)
  have f5 := f3.tr (g5.mono (fun b _ h => by omega))
  have r1 := tb_fr g5 (fun k => by omega) r1
  have r2 := tb_fr g5 (fun k => by omega) r2
  have r3 := tb_fr g5 (fun k => by omega) r3
  refine wp_aload_n dc_K_bind_88 rfl rfl (wi_getR dc_K_bind_89 lf_K_36 hKo rfl (wp_aload_n dc_K_bind_92 rfl rfl (wi_getR dc_K_bind_93 lf_K_9 hKo rfl (wp_aload_n dc_K_bind_96 rfl rfl (wi_getR dc_K_bind_97 lf_K_9 hKo rfl (wp_iload_n dc_K_bind_100 rfl rfl (wi_bipush dc_K_bind_101 ?_)))))))
  refine wp_callV (As := [_, _]) dc_K_bind_103 lm_K_55 ls_L_find (by decide) rfl rfl (hp_at _ sh_3) rfl rfl (Nat.le_of_ble_eq_true rfl) (Nat.le_refl _) (Nat.le_refl _) ?_
  refine c_L_find (lt_fr (mo f5) hlt) htt brg ⟨by omega, by omega⟩ (fun r hr => ?_)
  obtain rfl : r = f 7 := ff_kt (q := 7) htt hkt (by omega) (by omega) hr
  refine wi_iconst dc_K_bind_106 ?_
  refine wp_callV (As := [_, _, _]) dc_K_bind_107 lm_K_61 ls_T_bind (by decide) rfl rfl (hp_at _ o6) rfl rfl (Nat.le_of_ble_eq_true rfl) (Nat.le_refl _) (Nat.le_refl _) ?_
  refine c_T_bind o6 (by omega) (lo_fr (mo f5) hlo) (lt_fr (mo f5) hlt) htt (kt_cs hkt (by omega) (by omega)) (fun σ6 g6 r6 => ?_)
  have f6 := f5.tr (g6.mono (fun b _ h => by omega))
  have r1 := tb_fr g6 (fun k => by omega) r1
  have r2 := tb_fr g6 (fun k => by omega) r2
  have r3 := tb_fr g6 (fun k => by omega) r3
  have r5 := tb_fr g6 (fun k => by omega) r5
  refine wp_aload_n dc_K_bind_110 rfl rfl (wi_getR dc_K_bind_111 lf_K_42 hKo rfl (wp_aload_n dc_K_bind_114 rfl rfl (wi_getR dc_K_bind_115 lf_K_9 hKo rfl (wp_aload_n dc_K_bind_118 rfl rfl (wi_getR dc_K_bind_119 lf_K_9 hKo rfl (wp_iload_n dc_K_bind_122 rfl rfl (wi_bipush dc_K_bind_123 ?_)))))))
  refine wp_callV (As := [_, _]) dc_K_bind_125 lm_K_55 ls_L_find (by decide) rfl rfl (hp_at _ sh_3) rfl rfl (Nat.le_of_ble_eq_true rfl) (Nat.le_refl _) (Nat.le_refl _) ?_
  refine c_L_find (lt_fr (mo f6) hlt) htt brg ⟨by omega, by omega⟩ (fun r hr => ?_)
  obtain rfl : r = f 3 := ff_kt (q := 3) htt hkt (by omega) (by omega) hr
  have j3 := kt_cs hkt (q := 3) (by omega) (by omega)
  have j30 := hkt.2.2.2.1
  refine wp_callV (As := [_, _]) dc_K_bind_128 lm_K_65 ls_Z_bind (by decide) rfl rfl (hp_at _ o7) rfl rfl (Nat.le_of_ble_eq_true rfl) (Nat.le_refl _) (Nat.le_refl _) ?_
  refine c_Z_bind o7 (by omega) (lo_fr (mo f6) hlo) (lt_fr (mo f6) hlt) htt j30 (by omega) (fun σ7 g7 r7 => ?_)
  have f7 := f6.tr (g7.mono (fun b _ h => by omega))
  have r1 := tb_fr g7 (fun k => by omega) r1
  have r2 := tb_fr g7 (fun k => by omega) r2
  have r3 := tb_fr g7 (fun k => by omega) r3
  have r5 := tb_fr g7 (fun k => by omega) r5
  have r6 := tb_fr g7 (fun k => by omega) r6
  have fin : ∀ (x : Int) (σ' : sg_), fr_ (fun b _ => b = a + 4) σ7 σ' → tb_ σ' F T (a + 4) (pj_ f) (pw_ f) → wp_m l Y_K_bind none 0 0 185 [.ref a, .int (iI b), .int (iI x)] [] (hp_ σ') K := fun x σ' g4 r4 => by
    refine wp_aload_n dc_K_bind_185 rfl rfl (wi_iconst dc_K_bind_186 (wi_putI 9 dc_K_bind_187 lf_K_51 hKo rfl rfl pv_int ?_))
    refine wp_return dc_K_bind_190 rfl (hK _ ((f7.tr (g4.mono (fun b _ h => by omega))).up (by omega)) ?_ (up_s _ _ _ _))
    refine bdk_fr (P := fun b _ => b = a) (fr_.rf.up rfl) (fun b k h1 h2 => by omega) ⟨tb_fr g4 (fun k => by omega) r1, tb_fr g4 (fun k => by omega) r2, tb_fr g4 (fun k => by omega) r3, r4, tb_fr g4 (fun k => by omega) r5, tb_fr g4 (fun k => by omega) r6, zb_fr g4 (fun k => by omega) r7⟩
  refine wp_aload_n dc_K_bind_131 rfl rfl (wi_getR dc_K_bind_132 lf_K_9 hKo rfl (wp_iload_n dc_K_bind_135 rfl rfl (wi_bipush dc_K_bind_136 ?_)))
  refine wp_callV (As := [_, _]) dc_K_bind_138 lm_K_55 ls_L_find (by decide) rfl rfl (hp_at _ sh_3) rfl rfl (Nat.le_of_ble_eq_true rfl) (Nat.le_refl _) (Nat.le_refl _) ?_
  refine c_L_find (lt_fr (mo f7) hlt) htt brg ⟨by omega, by omega⟩ (fun r hr => ?_)
  obtain rfl : r = f 4 := ff_kt (q := 4) htt hkt (by omega) (by omega) hr
  have j4 := kt_cs hkt (q := 4) (by omega) (by omega)
  refine wp_is2 dc_K_bind_141 (wp_iload_n dc_K_bind_142 rfl rfl (wi_iconst dc_K_bind_143 ?_))
  refine wi_ic_eq dc_K_bind_144 rfl (fun hd => ?_) (fun hd => ?_)
  · refine wp_aload_n dc_K_bind_163 rfl rfl (wi_getR dc_K_bind_164 lf_K_30 hKo rfl (wp_aload_n dc_K_bind_167 rfl rfl (wi_getR dc_K_bind_168 lf_K_9 hKo rfl (wp_aload_n dc_K_bind_171 rfl rfl (wi_getR dc_K_bind_172 lf_K_9 hKo rfl (wp_iload_n dc_K_bind_175 rfl rfl (wi_bipush dc_K_bind_176 ?_)))))))
    refine wp_callV (As := [_, _]) dc_K_bind_178 lm_K_55 ls_L_find (by decide) rfl rfl (hp_at _ sh_3) rfl rfl (Nat.le_of_ble_eq_true rfl) (Nat.le_refl _) (Nat.le_refl _) ?_
    refine c_L_find (lt_fr (mo f7) hlt) htt brg ⟨by omega, by omega⟩ (fun r hr => ?_)
    obtain rfl : r = f 5 := ff_kt (q := 5) htt hkt (by omega) (by omega) hr
    refine wi_iconst dc_K_bind_181 ?_
    refine wp_callV (As := [_, _, _]) dc_K_bind_182 lm_K_61 ls_T_bind (by decide) rfl rfl (hp_at _ o4) rfl rfl (Nat.le_of_ble_eq_true rfl) (Nat.le_refl _) (Nat.le_refl _) ?_
    refine c_T_bind o4 (by omega) (lo_fr (mo f7) hlo) (lt_fr (mo f7) hlt) htt (kt_cs hkt (by omega) (by omega)) (fun σ8 g8 r8 => ?_)
    exact fin (f 4) σ8 g8 (by unfold pj_ pw_; rw [if_pos hd, if_pos hd]; exact r8)
  · refine wp_aload_n dc_K_bind_147 rfl rfl (wi_getR dc_K_bind_148 lf_K_30 hKo rfl (wp_aload_n dc_K_bind_151 rfl rfl (wi_getR dc_K_bind_152 lf_K_9 hKo rfl (wp_iload_n dc_K_bind_155 rfl rfl (wi_iconst dc_K_bind_156 ?_)))))
    refine wp_callV (As := [_, _, _]) dc_K_bind_157 lm_K_61 ls_T_bind (by decide) rfl rfl (hp_at _ o4) rfl rfl (Nat.le_of_ble_eq_true rfl) (Nat.le_refl _) (Nat.le_refl _) ?_
    refine c_T_bind o4 (by omega) (lo_fr (mo f7) hlo) (lt_fr (mo f7) hlt) htt j4 (fun σ8 g8 r8 => ?_)
    refine wp_goto dc_K_bind_160 rfl ?_
    exact fin (f 4) σ8 g8 (by unfold pj_ pw_; rw [if_neg hd, if_neg hd]; exact r8)
theorem lp_K_ev {s R : Int} (hKo : SH[a]? = some (.inr (5, [.ref 3, .ref (a + 1), .ref (a + 2), .ref (a + 3), .ref (a + 4), .ref (a + 5), .ref (a + 6), .ref (a + 7), .ref (a + 8), .int 0]))) (o3 : tbo_ (a + 3)) (hlo : lo_ σ F n) (b2 : σ (a + 3) 2 = s) (b4 : σ (a + 3) 4 = 3) (b5 : σ (a + 3) 5 = R) (s0 : 0 ≤ s) (hR : R ≤ 255) (he : s + 1 + 3 * R ≤ n) (h1 : (∀ r, 0 ≤ r → r < R → ¬ F (s + (2 + 3 * r)) = 0) → K (some (.int (iI 1))) (hp_ σ)) (h0 : ¬ (∀ r, 0 ≤ r → r < R → ¬ F (s + (2 + 3 * r)) = 0) → K (some (.int (iI 0))) (hp_ σ)) : ∀ (m : Nat) (i : Int), i + m = R → 0 ≤ i → (∀ r, 0 ≤ r → r < i → ¬ F (s + (2 + 3 * r)) = 0) → wp_m l Y_K_everyChunkRowHasSamples none 0 0 2 [.ref a, .int (iI i)] [] (hp_ σ) K := by
  have a5 := hlo.2.2.2.2
  intro m
  induction m with
  | zero =>
    intro i hi i0 hall
    have ei : i = R := by omega
    subst ei
    refine wp_iload_n dc_K_everyChunkRowHasSamples_2 rfl rfl (wp_aload_n dc_K_everyChunkRowHasSamples_3 rfl rfl (wi_getR dc_K_everyChunkRowHasSamples_4 lf_K_27 hKo rfl ?_))
    refine wp_callV (As := []) dc_K_everyChunkRowHasSamples_7 lm_K_73 ls_T_rows (by decide) rfl rfl (hp_at _ o3) rfl rfl (Nat.le_of_ble_eq_true rfl) (Nat.le_refl _) (Nat.le_refl _) ?_
    refine c_T_rows o3 b5 ?_
    refine wi_ic_ge dc_K_everyChunkRowHasSamples_10 rfl (fun hd => ?_) (fun hd => ?_)
    · refine wi_iconst dc_K_everyChunkRowHasSamples_33 ?_
      refine wp_ireturn dc_K_everyChunkRowHasSamples_34 rfl rfl (h1 hall)
    · omega
  | succ m ih =>
    intro i hi i0 hall
    have g := a5 (s + (2 + 3 * i))
    refine wp_iload_n dc_K_everyChunkRowHasSamples_2 rfl rfl (wp_aload_n dc_K_everyChunkRowHasSamples_3 rfl rfl (wi_getR dc_K_everyChunkRowHasSamples_4 lf_K_27 hKo rfl ?_))
    refine wp_callV (As := []) dc_K_everyChunkRowHasSamples_7 lm_K_73 ls_T_rows (by decide) rfl rfl (hp_at _ o3) rfl rfl (Nat.le_of_ble_eq_true rfl) (Nat.le_refl _) (Nat.le_refl _) ?_
    refine c_T_rows o3 b5 ?_
    refine wi_ic_ge dc_K_everyChunkRowHasSamples_10 rfl (fun hd => ?_) (fun hd => ?_)
    · omega
    refine wp_aload_n dc_K_everyChunkRowHasSamples_13 rfl rfl (wi_getR dc_K_everyChunkRowHasSamples_14 lf_K_27 hKo rfl (wp_iload_n dc_K_everyChunkRowHasSamples_17 rfl rfl (wi_iconst dc_K_everyChunkRowHasSamples_18 ?_)))
    refine wp_callV (As := [_, _]) dc_K_everyChunkRowHasSamples_19 lm_K_77 ls_T_value (by decide) rfl rfl (hp_at _ o3) rfl rfl (Nat.le_of_ble_eq_true rfl) (Nat.le_refl _) (Nat.le_refl _) ?_
    refine c_T_value o3 hlo b2 b4 (show s + 1 + i * 3 + 1 = s + (2 + 3 * i) by omega) (by omega) (by omega) ?_
    refine wi_if_ne dc_K_everyChunkRowHasSamples_22 rfl (fun hf => ?_) (fun hf => ?_)
    · refine wp_ii1 dc_K_everyChunkRowHasSamples_27 (wp_goto dc_K_everyChunkRowHasSamples_30 rfl ?_)
      refine ih (i + 1) (by omega) (by omega) (fun r r0 r1 => ?_)
      by_cases hr : r = i
      · subst hr; exact hf
      · exact hall r r0 (by omega)
    · refine wi_iconst dc_K_everyChunkRowHasSamples_25 ?_
      refine wp_ireturn dc_K_everyChunkRowHasSamples_26 rfl rfl (h0 (fun h => h i i0 (by omega) hf))
theorem c_K_rowsHold (hk : kbo_ a) (hlo : lo_ σ F n) (htt : tt_ n N T) (hkt : KT_ N T b f) (hkb : bdk_ σ F T a f) (h1 : RH_ F T f → K (some (.int (iI 1))) (hp_ σ)) (h0 : ¬ RH_ F T f → K (some (.int (iI 0))) (hp_ σ)) : ct_m l Y_K_rowsHold 0 0 [.ref a] (hp_ σ) K := by
  obtain ⟨hKo, o1, o2, o3, o4, o5, o6, o7⟩ := hk
  obtain ⟨r1, r2, r3, r4, r5, r6, r7⟩ := hkb
  have a2 := hlo.2.1
  have a5 := hlo.2.2.2.2
  have iff := RH_iff (fun i => (a5 i).1) hkt
  have bad : ¬ RH_ F T f → wp_m l Y_K_rowsHold none 0 0 146 [.ref a] [] (hp_ σ) K := fun h => by
    refine wi_iconst dc_K_rowsHold_146 ?_
    refine wp_ireturn dc_K_rowsHold_147 rfl rfl (h0 h)
  have c : ∀ q, 0 ≤ q → q < 8 → f q = -1 ∨ (0 ≤ f q ∧ f q < N) := fun q q0 q1 => kt_cs hkt q0 q1
  have cp : pj_ f = -1 ∨ (0 ≤ pj_ f ∧ pj_ f < N) := by
    unfold pj_
    split
    · exact c 5 (by omega) (by omega)
    · exact c 4 (by omega) (by omega)
  have cw : pw_ f = 1 ∨ pw_ f = 2 ∨ pw_ f = 3 := by unfold pw_; split <;> omega
  have k2 : 0 ≤ f 2 := hkt.2.2.1
  have k3 : 0 ≤ f 3 := hkt.2.2.2.1
  have z3 := c 3 (by omega) (by omega)
  have z2 := c 2 (by omega) (by omega)
  refine ct_of (L := [.ref a]) (by decide +kernel) (Nat.le_of_ble_eq_true rfl) rfl ?_
  refine wp_aload_n dc_K_rowsHold_0 rfl rfl (wi_getR dc_K_rowsHold_1 lf_K_42 hKo rfl ?_)
  refine wp_callV (As := []) dc_K_rowsHold_4 lm_K_68 ls_Z_lengthHolds (by decide) rfl rfl (hp_at _ o7) rfl rfl (Nat.le_of_ble_eq_true rfl) (Nat.le_refl _) (Nat.le_refl _) ?_
  refine c_Z_lengthHolds o7 hlo htt r7 k3 (by omega) (fun q => ?_) (fun q => ?_)
  rotate_left
  · refine wi_if_eq dc_K_rowsHold_7 rfl (fun hd => ?_) (fun hd => ?_)
    · exact bad (fun h => q (iff.mp h).1)
    · omega
  refine wi_if_eq dc_K_rowsHold_7 rfl (fun hd => ?_) (fun hd => ?_)
  · omega
  have q3 := q
  refine wp_aload_n dc_K_rowsHold_10 rfl rfl (wi_getR dc_K_rowsHold_11 lf_K_20 hKo rfl ?_)
  refine wp_callV (As := []) dc_K_rowsHold_14 lm_K_72 ls_T_lengthHolds (by decide) rfl rfl (hp_at _ o1) rfl rfl (Nat.le_of_ble_eq_true rfl) (Nat.le_refl _) (Nat.le_refl _) ?_
  refine c_T_lengthHolds o1 hlo htt r1 (c 0 (by omega) (by omega)) (by omega) (fun q => ?_) (fun q => ?_)
  rotate_left
  · refine wi_if_eq dc_K_rowsHold_17 rfl (fun hd => ?_) (fun hd => ?_)
    · exact bad (fun h => q (iff.mp h).2.1)
    · omega
  refine wi_if_eq dc_K_rowsHold_17 rfl (fun hd => ?_) (fun hd => ?_)
  · omega
  have q0 : LN_ F T (f 0) 2 := q
  refine wp_aload_n dc_K_rowsHold_20 rfl rfl (wi_getR dc_K_rowsHold_21 lf_K_24 hKo rfl ?_)
  refine wp_callV (As := []) dc_K_rowsHold_24 lm_K_72 ls_T_lengthHolds (by decide) rfl rfl (hp_at _ o2) rfl rfl (Nat.le_of_ble_eq_true rfl) (Nat.le_refl _) (Nat.le_refl _) ?_
  refine c_T_lengthHolds o2 hlo htt r2 (c 1 (by omega) (by omega)) (by omega) (fun q => ?_) (fun q => ?_)
  rotate_left
  · refine wi_if_eq dc_K_rowsHold_27 rfl (fun hd => ?_) (fun hd => ?_)
    · exact bad (fun h => q (iff.mp h).2.2.1)
    · omega
  refine wi_if_eq dc_K_rowsHold_27 rfl (fun hd => ?_) (fun hd => ?_)
  · omega
  have q1 : LN_ F T (f 1) 2 := q
  refine wp_aload_n dc_K_rowsHold_30 rfl rfl (wi_getR dc_K_rowsHold_31 lf_K_27 hKo rfl ?_)
  refine wp_callV (As := []) dc_K_rowsHold_34 lm_K_72 ls_T_lengthHolds (by decide) rfl rfl (hp_at _ o3) rfl rfl (Nat.le_of_ble_eq_true rfl) (Nat.le_refl _) (Nat.le_refl _) ?_
  refine c_T_lengthHolds o3 hlo htt r3 (c 2 (by omega) (by omega)) (by omega) (fun q => ?_) (fun q => ?_)
  rotate_left
  · refine wi_if_eq dc_K_rowsHold_37 rfl (fun hd => ?_) (fun hd => ?_)
    · exact bad (fun h => q (iff.mp h).2.2.2.1)
    · omega
  refine wi_if_eq dc_K_rowsHold_37 rfl (fun hd => ?_) (fun hd => ?_)
  · omega
  have q2 : LN_ F T (f 2) 3 := q
  refine wp_aload_n dc_K_rowsHold_40 rfl rfl (wi_getR dc_K_rowsHold_41 lf_K_30 hKo rfl ?_)
  refine wp_callV (As := []) dc_K_rowsHold_44 lm_K_72 ls_T_lengthHolds (by decide) rfl rfl (hp_at _ o4) rfl rfl (Nat.le_of_ble_eq_true rfl) (Nat.le_refl _) (Nat.le_refl _) ?_
  refine c_T_lengthHolds o4 hlo htt r4 cp cw (fun q => ?_) (fun q => ?_)
  rotate_left
  · refine wi_if_eq dc_K_rowsHold_47 rfl (fun hd => ?_) (fun hd => ?_)
    · exact bad (fun h => q (iff.mp h).2.2.2.2.1)
    · omega
  refine wi_if_eq dc_K_rowsHold_47 rfl (fun hd => ?_) (fun hd => ?_)
  · omega
  have q4 : LN_ F T (pj_ f) (pw_ f) := q
  refine wp_aload_n dc_K_rowsHold_50 rfl rfl (wi_getR dc_K_rowsHold_51 lf_K_33 hKo rfl ?_)
  refine wp_callV (As := []) dc_K_rowsHold_54 lm_K_72 ls_T_lengthHolds (by decide) rfl rfl (hp_at _ o5) rfl rfl (Nat.le_of_ble_eq_true rfl) (Nat.le_refl _) (Nat.le_refl _) ?_
  refine c_T_lengthHolds o5 hlo htt r5 (c 6 (by omega) (by omega)) (by omega) (fun q => ?_) (fun q => ?_)
  rotate_left
  · refine wi_if_eq dc_K_rowsHold_57 rfl (fun hd => ?_) (fun hd => ?_)
    · exact bad (fun h => q (iff.mp h).2.2.2.2.2.1)
    · omega
  refine wi_if_eq dc_K_rowsHold_57 rfl (fun hd => ?_) (fun hd => ?_)
  · omega
  have q6 : LN_ F T (f 6) 1 := q
  refine wp_aload_n dc_K_rowsHold_60 rfl rfl (wi_getR dc_K_rowsHold_61 lf_K_36 hKo rfl ?_)
  refine wp_callV (As := []) dc_K_rowsHold_64 lm_K_72 ls_T_lengthHolds (by decide) rfl rfl (hp_at _ o6) rfl rfl (Nat.le_of_ble_eq_true rfl) (Nat.le_refl _) (Nat.le_refl _) ?_
  refine c_T_lengthHolds o6 hlo htt r6 (c 7 (by omega) (by omega)) (by omega) (fun q => ?_) (fun q => ?_)
  rotate_left
  · refine wi_if_eq dc_K_rowsHold_67 rfl (fun hd => ?_) (fun hd => ?_)
    · exact bad (fun h => q (iff.mp h).2.2.2.2.2.2.1)
    · omega
  refine wi_if_eq dc_K_rowsHold_67 rfl (fun hd => ?_) (fun hd => ?_)
  · omega
  have q7 : LN_ F T (f 7) 2 := q
  -- the chunks
  obtain ⟨p1, p2⟩ : 1 ≤ pl_ T (f 2) ∧ pl_ T (f 2) = 1 + 3 * F (st_ T (f 2)) := by
    rcases q2 with h | h
    · omega
    · exact h
  have bx := htt.2.2.1 (f 2) k2 (by omega)
  unfold bx_ at bx
  have ep : pl_ T (f 2) = T 1 (f 2) - T 3 (f 2) := rfl
  have es : st_ T (f 2) = T 0 (f 2) + T 3 (f 2) := rfl
  have fs := a5 (st_ T (f 2))
  have x2 : σ (a + 3) 2 = st_ T (f 2) := r3.2.1.trans (if_neg (by omega))
  have x4 : σ (a + 3) 4 = 3 := r3.2.2.2.1
  have x5 : σ (a + 3) 5 = F (st_ T (f 2)) := by rw [r3.2.2.2.2, if_neg (by omega), if_pos p1]
  have fin : CK_ F (st_ T (f 2)) → (f 6 = -1 ∨ SY_ F (st_ T (f 6))) → wp_m l Y_K_rowsHold none 0 0 142 [.ref a] [] (hp_ σ) K := fun hc hs => by
    refine wi_iconst dc_K_rowsHold_142 (wp_goto dc_K_rowsHold_143 rfl ?_)
    refine wp_ireturn dc_K_rowsHold_147 rfl rfl (h1 (iff.mpr ⟨q3, q0, q1, q2, q4, q6, q7, hc, hs⟩))
  -- the syncs
  have K110 : CK_ F (st_ T (f 2)) → wp_m l Y_K_rowsHold none 0 0 110 [.ref a] [] (hp_ σ) K := fun hc => by
    by_cases h6 : f 6 = -1
    · have y5 : σ (a + 5) 5 = 0 := r5.2.2.2.2.trans (if_pos h6)
      refine wp_aload_n dc_K_rowsHold_110 rfl rfl (wi_getR dc_K_rowsHold_111 lf_K_33 hKo rfl ?_)
      refine wp_callV (As := []) dc_K_rowsHold_114 lm_K_73 ls_T_rows (by decide) rfl rfl (hp_at _ o5) rfl rfl (Nat.le_of_ble_eq_true rfl) (Nat.le_refl _) (Nat.le_refl _) ?_
      refine c_T_rows o5 y5 ?_
      refine wi_if_eq dc_K_rowsHold_117 rfl (fun hd => ?_) (fun hd => ?_)
      rotate_left
      · omega
      refine wp_aload_n dc_K_rowsHold_132 rfl rfl (wi_getR dc_K_rowsHold_133 lf_K_33 hKo rfl ?_)
      refine wp_callV (As := []) dc_K_rowsHold_136 lm_K_80 ls_T_grows (by decide) rfl rfl (hp_at _ o5) rfl rfl (Nat.le_of_ble_eq_true rfl) (Nat.le_refl _) (Nat.le_refl _) ?_
      refine c_T_grows (e := fun r => r) o5 hlo rfl rfl y5 (by omega) (by omega) (fun r r0 r1 => by omega) (fun hg => ?_) (fun hg => absurd (fun r r0 r1 => by omega) hg)
      refine wi_if_eq dc_K_rowsHold_139 rfl (fun he => ?_) (fun he => ?_)
      · omega
      exact fin hc (Or.inl h6)
    · have z6 := c 6 (by omega) (by omega)
      obtain ⟨u1, u2⟩ : 1 ≤ pl_ T (f 6) ∧ pl_ T (f 6) = 1 + 1 * F (st_ T (f 6)) := by
        rcases q6 with h | h
        · omega
        · exact h
      have bx := htt.2.2.1 (f 6) (by omega) (by omega)
      unfold bx_ at bx
      have ep : pl_ T (f 6) = T 1 (f 6) - T 3 (f 6) := rfl
      have es : st_ T (f 6) = T 0 (f 6) + T 3 (f 6) := rfl
      have fs := a5 (st_ T (f 6))
      have fs1 := a5 (st_ T (f 6) + (1 + 0))
      have y2 : σ (a + 5) 2 = st_ T (f 6) := r5.2.1.trans (if_neg h6)
      have y4 : σ (a + 5) 4 = 1 := r5.2.2.2.1
      have y5 : σ (a + 5) 5 = F (st_ T (f 6)) := by rw [r5.2.2.2.2, if_neg h6, if_pos u1]
      have K132 : (F (st_ T (f 6)) = 0 ∨ ¬ F (st_ T (f 6) + (1 + 0)) = 0) → wp_m l Y_K_rowsHold none 0 0 132 [.ref a] [] (hp_ σ) K := fun hz => by
        refine wp_aload_n dc_K_rowsHold_132 rfl rfl (wi_getR dc_K_rowsHold_133 lf_K_33 hKo rfl ?_)
        refine wp_callV (As := []) dc_K_rowsHold_136 lm_K_80 ls_T_grows (by decide) rfl rfl (hp_at _ o5) rfl rfl (Nat.le_of_ble_eq_true rfl) (Nat.le_refl _) (Nat.le_refl _) ?_
        refine c_T_grows (e := fun r => st_ T (f 6) + (1 + r)) o5 hlo y2 y4 y5 (by omega) (by omega) (fun r r0 r1 => by omega) (fun hg => ?_) (fun hg => ?_)
        · refine wi_if_eq dc_K_rowsHold_139 rfl (fun he => ?_) (fun he => ?_)
          · omega
          exact fin hc (Or.inr ⟨hz, hg⟩)
        · refine wi_if_eq dc_K_rowsHold_139 rfl (fun he => ?_) (fun he => ?_)
          · refine bad (fun h => ?_)
            rcases (iff.mp h).2.2.2.2.2.2.2.2 with g | g
            · exact h6 g
            · exact hg g.2
          · omega
      refine wp_aload_n dc_K_rowsHold_110 rfl rfl (wi_getR dc_K_rowsHold_111 lf_K_33 hKo rfl ?_)
      refine wp_callV (As := []) dc_K_rowsHold_114 lm_K_73 ls_T_rows (by decide) rfl rfl (hp_at _ o5) rfl rfl (Nat.le_of_ble_eq_true rfl) (Nat.le_refl _) (Nat.le_refl _) ?_
      refine c_T_rows o5 y5 ?_
      refine wi_if_eq dc_K_rowsHold_117 rfl (fun hd => ?_) (fun hd => ?_)
      · exact K132 (Or.inl hd)
      refine wp_aload_n dc_K_rowsHold_120 rfl rfl (wi_getR dc_K_rowsHold_121 lf_K_33 hKo rfl (wi_iconst dc_K_rowsHold_124 (wi_iconst dc_K_rowsHold_125 ?_)))
      refine wp_callV (As := [_, _]) dc_K_rowsHold_126 lm_K_77 ls_T_value (by decide) rfl rfl (hp_at _ o5) rfl rfl (Nat.le_of_ble_eq_true rfl) (Nat.le_refl _) (Nat.le_refl _) ?_
      refine c_T_value o5 hlo y2 y4 (show st_ T (f 6) + 1 + 0 * 1 + 0 = st_ T (f 6) + (1 + 0) by omega) (by omega) (by omega) ?_
      refine wi_if_eq dc_K_rowsHold_129 rfl (fun he => ?_) (fun he => ?_)
      · refine bad (fun h => ?_)
        rcases (iff.mp h).2.2.2.2.2.2.2.2 with g | g
        · exact h6 g
        · rcases g.1 with g | g
          · exact hd g
          · exact g he
      · exact K132 (Or.inr he)
  have nck : ¬ CK_ F (st_ T (f 2)) → wp_m l Y_K_rowsHold none 0 0 146 [.ref a] [] (hp_ σ) K := fun hn => bad (fun h => hn (iff.mp h).2.2.2.2.2.2.2.1)
  have fs1 := a5 (st_ T (f 2) + (1 + 3 * 0))
  have K93 : (F (st_ T (f 2)) = 0 ∨ F (st_ T (f 2) + (1 + 3 * 0)) = 1) → wp_m l Y_K_rowsHold none 0 0 93 [.ref a] [] (hp_ σ) K := fun hz => by
    refine wp_aload_n dc_K_rowsHold_93 rfl rfl (wi_getR dc_K_rowsHold_94 lf_K_27 hKo rfl ?_)
    refine wp_callV (As := []) dc_K_rowsHold_97 lm_K_80 ls_T_grows (by decide) rfl rfl (hp_at _ o3) rfl rfl (Nat.le_of_ble_eq_true rfl) (Nat.le_refl _) (Nat.le_refl _) ?_
    refine c_T_grows (e := fun r => st_ T (f 2) + (1 + 3 * r)) o3 hlo x2 x4 x5 (by omega) (by omega) (fun r r0 r1 => by omega) (fun hg => ?_) (fun hg => ?_)
    rotate_left
    · refine wi_if_eq dc_K_rowsHold_100 rfl (fun he => ?_) (fun he => ?_)
      · exact nck (fun h => hg h.2.1)
      · omega
    refine wi_if_eq dc_K_rowsHold_100 rfl (fun he => ?_) (fun he => ?_)
    · omega
    refine wp_aload_n dc_K_rowsHold_103 rfl rfl ?_
    refine wp_callV (As := []) dc_K_rowsHold_104 lm_K_83 ls_K_everyChunkRowHasSamples (by decide) rfl rfl (hp_at _ hKo) rfl rfl (Nat.le_of_ble_eq_true rfl) (Nat.le_refl _) (Nat.le_refl _) ?_
    refine ct_of (L := [.ref a, .retAddr 0]) (by decide +kernel) (Nat.le_of_ble_eq_true rfl) rfl ?_
    refine wi_iconst dc_K_everyChunkRowHasSamples_0 (wp_is1 dc_K_everyChunkRowHasSamples_1 ?_)
    refine lp_K_ev hKo o3 hlo x2 x4 x5 (by omega) (by omega) (by omega) (fun hh => ?_) (fun hh => ?_) (F (st_ T (f 2))).toNat 0 (by omega) (by omega) (fun r r0 r1 => by omega)
    · refine wi_if_eq dc_K_rowsHold_107 rfl (fun hf => ?_) (fun hf => ?_)
      · omega
      exact K110 ⟨hz, hg, hh⟩
    · refine wi_if_eq dc_K_rowsHold_107 rfl (fun hf => ?_) (fun hf => ?_)
      · exact nck (fun h => hh h.2.2)
      · omega
  refine wp_aload_n dc_K_rowsHold_70 rfl rfl (wi_getR dc_K_rowsHold_71 lf_K_27 hKo rfl ?_)
  refine wp_callV (As := []) dc_K_rowsHold_74 lm_K_73 ls_T_rows (by decide) rfl rfl (hp_at _ o3) rfl rfl (Nat.le_of_ble_eq_true rfl) (Nat.le_refl _) (Nat.le_refl _) ?_
  refine c_T_rows o3 x5 ?_
  refine wi_if_eq dc_K_rowsHold_77 rfl (fun hd => ?_) (fun hd => ?_)
  · exact K93 (Or.inl hd)
  refine wp_aload_n dc_K_rowsHold_80 rfl rfl (wi_getR dc_K_rowsHold_81 lf_K_27 hKo rfl (wi_iconst dc_K_rowsHold_84 (wi_iconst dc_K_rowsHold_85 ?_)))
  refine wp_callV (As := [_, _]) dc_K_rowsHold_86 lm_K_77 ls_T_value (by decide) rfl rfl (hp_at _ o3) rfl rfl (Nat.le_of_ble_eq_true rfl) (Nat.le_refl _) (Nat.le_refl _) ?_
  refine c_T_value o3 hlo x2 x4 (show st_ T (f 2) + 1 + 0 * 3 + 0 = st_ T (f 2) + (1 + 3 * 0) by omega) (by omega) (by omega) ?_
  refine wi_iconst dc_K_rowsHold_89 ?_
  refine wi_ic_ne dc_K_rowsHold_90 rfl (fun he => ?_) (fun he => ?_)
  · refine nck (fun h => ?_)
    rcases h.1 with g | g
    · exact hd g
    · exact he g
  · exact K93 (Or.inr he)
end TK
