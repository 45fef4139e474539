/-! the class's look; what it keeps between calls -/
theorem cx_fr {σ σ' : sg_} {F : Int → Int} {T : px_T} {f : Int → Int} {a : Nat} {P : Nat → Int → Prop} (h : fr_ P σ σ') (ha : ∀ b j, a ≤ b → b < a + 16 → ¬ P b j) (hc : cx_ σ F T f a) : cx_ σ' F T f a := by
  obtain ⟨h1, h2, h3, h4, h5⟩ := hc
  refine ⟨(h a 9 (ha _ _ (by omega) (by omega))).trans h1, fun i hi => absurd hi (Nat.not_lt_zero _), fun i hi => ?_, fun i i0 i1 => ?_, fun i i0 i1 => ?_⟩
  · rw [h (a + 15) i (ha _ _ (by omega) (by omega)), h (a + 11) i (ha _ _ (by omega) (by omega)), h (a + 12) i (ha _ _ (by omega) (by omega))]
    exact h3 i hi
  · rw [h (a + 13) i (ha _ _ (by omega) (by omega))]
    exact h4 i i0 i1
  · rw [h (a + 9) i (ha _ _ (by omega) (by omega)), h (a + 14) i (ha _ _ (by omega) (by omega)), h (a + 10) i (ha _ _ (by omega) (by omega))]
    exact h5 i i0 i1
/-- the class's tracks, written out -/
def ct2_ (σ : sg_) (F : Int → Int) (T : px_T) (tc : Int) (tab : Int → Int → Int) : Prop := ∀ t, 0 ≤ t → t < tc → bdk_ σ F T (ta_ t) (tab t) ∧ cx_ σ F T (tab t) (ta_ t)
/-- the movie, the tracks and the tables of a reading whose kinds hold -/
noncomputable def can_ (N : Int) (T : px_T) : Int × Int × (Int → Int) × (Int → Int → Int) := by
  classical
  exact if h : KO_ N T then ⟨Classical.choose h, Classical.choose (Classical.choose_spec h), Classical.choose (Classical.choose_spec (Classical.choose_spec h)), Classical.choose (Classical.choose_spec (Classical.choose_spec (Classical.choose_spec h)))⟩ else ⟨0, 0, fun _ => 0, fun _ _ => 0⟩
noncomputable abbrev mi_ (N : Int) (T : px_T) : Int := (can_ N T).1
noncomputable abbrev tc_ (N : Int) (T : px_T) : Int := (can_ N T).2.1
noncomputable abbrev b_ (N : Int) (T : px_T) : Int → Int := (can_ N T).2.2.1
noncomputable abbrev tab_ (N : Int) (T : px_T) : Int → Int → Int := (can_ N T).2.2.2
theorem ks_can {N : Int} {T : px_T} (h : KO_ N T) : KS_ N T (mi_ N T) (tc_ N T) (b_ N T) (tab_ N T) := by
  have e : can_ N T = ⟨Classical.choose h, Classical.choose (Classical.choose_spec h), Classical.choose (Classical.choose_spec (Classical.choose_spec h)), Classical.choose (Classical.choose_spec (Classical.choose_spec (Classical.choose_spec h)))⟩ := by
    unfold can_
    exact dif_pos h
  unfold mi_ tc_ b_ tab_
  rw [e]
  exact Classical.choose_spec (Classical.choose_spec (Classical.choose_spec (Classical.choose_spec h)))
/-- the answer of check -/
noncomputable def cv_ (F : Int → Int) (n : Int) : Int := by
  classical
  exact if ¬ (px_ F n).1 = 0 then (px_ F n).1 else if ¬ KO_ (px_ F n).2.1 (px_ F n).2.2 then 3 else if ¬ AR_ F (px_ F n).2.2 (tc_ (px_ F n).2.1 (px_ F n).2.2) (tab_ (px_ F n).2.1 (px_ F n).2.2) then 4 else if ¬ AC_ F (px_ F n).2.2 (tc_ (px_ F n).2.1 (px_ F n).2.2) (tab_ (px_ F n).2.1 (px_ F n).2.2) then 5 else if ¬ AD_ F (px_ F n).2.1 (px_ F n).2.2 (tc_ (px_ F n).2.1 (px_ F n).2.2) (tab_ (px_ F n).2.1 (px_ F n).2.2) then 6 else 0
theorem cv_A {F : Int → Int} {n : Int} (h : ¬ (px_ F n).1 = 0) : cv_ F n = (px_ F n).1 := by
  unfold cv_
  rw [if_pos h]
theorem cv_B {F : Int → Int} {n : Int} (h : (px_ F n).1 = 0) (h2 : ¬ KO_ (px_ F n).2.1 (px_ F n).2.2) : cv_ F n = 3 := by
  unfold cv_
  rw [if_neg (fun q => q h), if_pos h2]
theorem cv_C {F : Int → Int} {n v : Int} (h : (px_ F n).1 = 0) (h2 : KO_ (px_ F n).2.1 (px_ F n).2.2) (hv : vt_ F (px_ F n).2.1 (px_ F n).2.2 (tc_ (px_ F n).2.1 (px_ F n).2.2) (tab_ (px_ F n).2.1 (px_ F n).2.2) v) : cv_ F n = v := by
  unfold cv_
  rw [if_neg (fun q => q h), if_neg (fun q => q h2)]
  rcases hv with ⟨e, g⟩ | ⟨e, g1, g⟩ | ⟨e, g1, g2, g⟩ | ⟨e, g1, g2, g⟩
  · rw [if_pos g, e]
  · rw [if_neg (fun q => q g1), if_pos g, e]
  · rw [if_neg (fun q => q g1), if_neg (fun q => q g2), if_pos g, e]
  · rw [if_neg (fun q => q g1), if_neg (fun q => q g2), if_neg (fun q => q g), e]
def ca_ (σ : sg_) (F : Int → Int) (n : Int) : Prop := lt_ σ (px_ F n).2.1 (px_ F n).2.2 ∧ ((¬ (px_ F n).1 = 0 ∧ σ 0 5 = (px_ F n).1 ∧ σ 0 4 = 0) ∨ ((px_ F n).1 = 0 ∧ ¬ KO_ (px_ F n).2.1 (px_ F n).2.2 ∧ σ 0 5 = 3 ∧ σ 0 4 = 0) ∨ ((px_ F n).1 = 0 ∧ KO_ (px_ F n).2.1 (px_ F n).2.2 ∧ σ 0 4 = tc_ (px_ F n).2.1 (px_ F n).2.2 ∧ vt_ F (px_ F n).2.1 (px_ F n).2.2 (tc_ (px_ F n).2.1 (px_ F n).2.2) (tab_ (px_ F n).2.1 (px_ F n).2.2) (σ 0 5) ∧ (σ 0 5 = 0 → ct2_ σ F (px_ F n).2.2 (tc_ (px_ F n).2.1 (px_ F n).2.2) (tab_ (px_ F n).2.1 (px_ F n).2.2))))
def lkW (b : Nat) (j : Int) : Prop := (b = 0 ∧ (j = 4 ∨ j = 5 ∨ j = 6)) ∨ rdL b j ∨ (13 ≤ b ∧ b < 45)
theorem vt_rg {F : Int → Int} {N : Int} {T : px_T} {tc : Int} {tab : Int → Int → Int} {v : Int} (h : vt_ F N T tc tab v) : 0 ≤ v ∧ v ≤ 6 := by
  rcases h with h | h | h | h <;> omega
theorem ta_g {t : Int} (t0 : 0 ≤ t) (t1 : t < 2) : kgo_ (ta_ t) := by
  rcases ta_c t0 t1 with ⟨-, e⟩ | ⟨-, e⟩ <;> rw [e]
  · exact kgo_13
  · exact kgo_29
section LK
variable {l : Launch} {σ : sg_} {K : Option Value → mx_H → Prop} {F : Int → Int} {n N : Int} {T : px_T} {mi tc : Int} {b : Int → Int} {tab : Int → Int → Int}
def trW (b : Nat) (_ : Int) : Prop := 13 ≤ b ∧ b < 45
theorem lp_M_sp {σ0 : sg_} (hlo0 : lo_ σ0 F n) (hlt0 : lt_ σ0 N T) (htt : tt_ n N T) (hks : KS_ N T mi tc b tab) (h4 : σ0 0 4 = tc) (h5 : σ0 0 5 = 0) (hb0 : ∀ t, 0 ≤ t → t < tc → bdk_ σ0 F T (ta_ t) (tab t)) (har : AR_ F T tc tab) (hac : AC_ F T tc tab) (hK : ∀ σ', fr_ trW σ0 σ' → ct2_ σ' F T tc tab → K none (hp_ σ')) :
    ∀ (m : Nat) (i : Int) (σ : sg_), i + m = tc → 0 ≤ i → fr_ trW σ0 σ → (∀ t, 0 ≤ t → t < tc → bdk_ σ F T (ta_ t) (tab t)) → (∀ t, 0 ≤ t → t < i → cx_ σ F T (tab t) (ta_ t)) → wp_m l Y_M_look none 0 0 72 [.ref 0, .int (iI i)] [] (hp_ σ) K := by
  have htc := hks.2.1.1
  intro m
  induction m with
  | zero =>
    intro i σ hi i0 hfr hb hc
    obtain rfl : i = tc := by omega
    refine wp_iload_n dc_M_look_72 rfl rfl (wp_aload_n dc_M_look_73 rfl rfl (wi_getE 4 (i) dc_M_look_74 lf_M_41 sh_0 rfl rfl ((hfr 0 4 (by unfold trW; omega)).trans h4) ?_))
    refine wi_ic_ge dc_M_look_77 rfl (fun hd => ?_) (fun hd => ?_)
    · refine wp_return dc_M_look_102 rfl (hK σ hfr (fun t t0 t1 => ⟨hb t t0 t1, hc t t0 t1⟩))
    · omega
  | succ m ih =>
    intro i σ hi i0 hfr hb hc
    have f12 : fr_ (fun b _ => 12 ≤ b) σ0 σ := hfr.mono (fun b _ h => by unfold trW at h; omega)
    have hta := ta_c i0 (show i < 2 by omega)
    refine wp_iload_n dc_M_look_72 rfl rfl (wp_aload_n dc_M_look_73 rfl rfl (wi_getE 4 (tc) dc_M_look_74 lf_M_41 sh_0 rfl rfl ((hfr 0 4 (by unfold trW; omega)).trans h4) ?_))
    refine wi_ic_ge dc_M_look_77 rfl (fun hd => ?_) (fun hd => ?_)
    · omega
    refine wp_aload_n dc_M_look_80 rfl rfl (wi_getE 5 (0) dc_M_look_81 lf_M_45 sh_0 rfl rfl ((hfr 0 5 (by unfold trW; omega)).trans h5) ?_)
    refine wi_if_ne dc_M_look_84 rfl (fun he => ?_) (fun he => ?_)
    · omega
    refine wp_aload_n dc_M_look_87 rfl rfl (wi_getR dc_M_look_88 lf_M_27 sh_0 rfl (wp_iload_n dc_M_look_91 rfl rfl (wi_aald dc_M_look_92 sh_12 rfl rfl (by omega) (by omega) (by decide) (ta_r (by omega) (by omega)) ?_)))
    refine wp_callV (As := []) dc_M_look_93 lm_M_116 ls_K_spread (by decide) rfl rfl (hp_at _ (ta_k i0 (show i < 2 by omega)).1) rfl rfl (Nat.le_of_ble_eq_true rfl) (Nat.le_refl _) (Nat.le_refl _) ?_
    refine c_K_spread (by omega) (ta_g i0 (by omega)) ⟨lo_fr f12 hlo0, lt_fr f12 hlt0, htt, ta_k i0 (by omega), ks_of hks i0 (by omega), har i i0 (by omega), hb i i0 (by omega)⟩ (hac i i0 (by omega)) (fun σ' hf' hc' => ?_)
    refine wp_ii1 dc_M_look_96 (wp_goto dc_M_look_99 rfl ?_)
    refine ih (i + 1) σ' (by omega) (by omega) (hfr.tr (hf'.mono (fun b j h => by unfold spW at h; unfold trW; omega))) (fun t t0 t1 => ?_) (fun t t0 t1 => ?_)
    · have htt' := ta_c t0 (show t < 2 by omega)
      refine bdk_fr hf' (fun b k q1 q2 q => ?_) (hb t t0 t1)
      unfold spW at q
      omega
    · by_cases e : t = i
      · subst e; exact hc'
      · have htt' := ta_c t0 (show t < 2 by omega)
        refine cx_fr hf' (fun b j q1 q2 q => ?_) (hc t t0 (by omega))
        unfold spW at q
        omega
theorem lp_M_nsp {x : Int} (hx : rg x) (hn : ¬ x = 0) (h5 : σ 0 5 = x) (h4 : 0 ≤ σ 0 4 ∧ σ 0 4 ≤ 2) (hK : K none (hp_ σ)) : wp_m l Y_M_look none 0 0 70 [.ref 0, .retAddr 0] [] (hp_ σ) K := by
  refine wi_iconst dc_M_look_70 (wp_is1 dc_M_look_71 (wp_iload_n dc_M_look_72 rfl rfl (wp_aload_n dc_M_look_73 rfl rfl (wi_getI 4 dc_M_look_74 lf_M_41 sh_0 rfl rfl ?_))))
  refine wi_ic_ge dc_M_look_77 rfl (fun hd => ?_) (fun hd => ?_)
  · refine wp_return dc_M_look_102 rfl hK
  refine wp_aload_n dc_M_look_80 rfl rfl (wi_getE 5 (x) dc_M_look_81 lf_M_45 sh_0 rfl rfl h5 ?_)
  refine wi_if_ne dc_M_look_84 rfl (fun he => ?_) (fun he => ?_)
  · refine wp_return dc_M_look_102 rfl hK
  · omega
theorem c_M_look (hlo : lo_ σ F n) (hst : σ 0 6 = 1 ∨ (σ 0 6 = 0 ∧ ca_ σ F n)) (hK : ∀ σ', fr_ lkW σ σ' → σ' 0 6 = 0 → ca_ σ' F n → K none (hp_ σ')) : ct_m l Y_M_look 0 0 [.ref 0] (hp_ σ) K := by
  have pf := px_f hlo.2.2.2.2 hlo.1
  have htt := px_tt hlo.2.2.2.2 hlo.1
  refine ct_of (L := [.ref 0, .retAddr 0]) (by decide +kernel) (Nat.le_of_ble_eq_true rfl) rfl ?_
  rcases hst with hst | ⟨hst, hca⟩
  rotate_left
  · refine wp_aload_n dc_M_look_0 rfl rfl (wi_getE 6 (0) dc_M_look_1 lf_M_48 sh_0 rfl rfl hst ?_)
    refine wi_if_ne dc_M_look_4 rfl (fun hd => ?_) (fun hd => ?_)
    · omega
    · refine wp_return dc_M_look_7 rfl (hK σ fr_.rf hst hca)
  refine wp_aload_n dc_M_look_0 rfl rfl (wi_getE 6 (1) dc_M_look_1 lf_M_48 sh_0 rfl rfl hst ?_)
  refine wi_if_ne dc_M_look_4 rfl (fun hd => ?_) (fun hd => ?_)
  rotate_left
  · omega
  refine wp_aload_n dc_M_look_8 rfl rfl (wi_iconst dc_M_look_9 (wi_putI 6 dc_M_look_10 lf_M_48 sh_0 rfl rfl pv_0 (wp_aload_n dc_M_look_13 rfl rfl (wi_iconst dc_M_look_14 (wi_putI 4 dc_M_look_15 lf_M_41 sh_0 rfl rfl pv_int (wp_aload_n dc_M_look_18 rfl rfl (wp_aload_n dc_M_look_19 rfl rfl (wi_getR dc_M_look_20 lf_M_21 sh_0 rfl ?_))))))))
  have f0 : fr_ lkW σ (up_ (up_ σ 0 6 0) 0 4 0) := (fr_.rf.up (Or.inl ⟨rfl, by omega⟩)).up (Or.inl ⟨rfl, by omega⟩)
  have lo0 : lo_ (up_ (up_ σ 0 6 0) 0 4 0) F n := hlo.fr f0 (by unfold lkW rdL; omega) (fun j => by unfold lkW rdL; omega)
  refine wp_callV (As := []) dc_M_look_23 lm_M_104 ls_L_read (by decide) rfl rfl (hp_at _ sh_3) rfl rfl (Nat.le_of_ble_eq_true rfl) (Nat.le_refl _) (Nat.le_refl _) ?_
  refine c_L_read lo0 (fun σ1 f1 hl1 => ?_)
  have fr1 : fr_ lkW σ σ1 := f0.tr (f1.mono (fun b j h => Or.inr (Or.inl h)))
  have s6 : σ1 0 6 = 0 := by rw [f1 0 6 (by unfold rdL; omega), up_n _ _ (by omega), up_s]
  have s4 : σ1 0 4 = 0 := by rw [f1 0 4 (by unfold rdL; omega), up_s]
  refine wi_putI 5 dc_M_look_26 lf_M_45 sh_0 rfl rfl pv_int (wp_aload_n dc_M_look_29 rfl rfl (wi_getE 5 ((px_ F n).1) dc_M_look_30 lf_M_45 sh_0 rfl rfl (up_s _ _ _ _) ?_))
  have fr2 : fr_ lkW σ (up_ σ1 0 5 (px_ F n).1) := fr1.up (Or.inl ⟨rfl, by omega⟩)
  have fru : ∀ x, fr_ (fun b j => b = 0 ∧ j = 5) σ1 (up_ σ1 0 5 x) := fun x => fr_.rf.up ⟨rfl, rfl⟩
  have hl2 : ∀ x, lt_ (up_ σ1 0 5 x) (px_ F n).2.1 (px_ F n).2.2 := fun x => ⟨(fru x 3 2 (by omega)).trans hl1.1, fun c i c0 i0 i1 => (fru x (5 + c) i (by omega)).trans (hl1.2.1 c i c0 i0 i1), fun i i0 i1 => (fru x 11 i (by omega)).trans (hl1.2.2 i i0 i1)⟩
  have u6 : ∀ x, up_ σ1 0 5 x 0 6 = 0 := fun x => (up_n _ _ (by omega)).trans s6
  have u4 : ∀ x, up_ σ1 0 5 x 0 4 = 0 := fun x => (up_n _ _ (by omega)).trans s4
  refine wi_if_ne dc_M_look_33 rfl (fun he => ?_) (fun he => ?_)
  · refine wp_aload_n dc_M_look_51 rfl rfl (wi_getE 5 ((px_ F n).1) dc_M_look_52 lf_M_45 sh_0 rfl rfl (up_s _ _ _ _) ?_)
    refine wi_if_ne dc_M_look_55 rfl (fun hf => ?_) (fun hf => ?_)
    rotate_left
    · omega
    exact lp_M_nsp (x := (px_ F n).1) ⟨by omega, by omega⟩ he (up_s _ _ _ _) (by rw [u4]; omega) (hK _ fr2 (u6 _) ⟨hl2 _, Or.inl ⟨he, up_s _ _ _ _, u4 _⟩⟩)
  have ez : up_ σ1 0 5 (px_ F n).1 = up_ σ1 0 5 0 := by rw [he]
  rw [ez] at fr2 ⊢
  refine wp_aload_n dc_M_look_36 rfl rfl (wi_getR dc_M_look_37 lf_M_21 sh_0 rfl ?_)
  refine wp_callV (As := []) dc_M_look_40 lm_M_107 ls_L_kindsHold (by decide) rfl rfl (hp_at _ sh_3) rfl rfl (Nat.le_of_ble_eq_true rfl) (Nat.le_refl _) (Nat.le_refl _) ?_
  refine c_L_kindsHold (hl2 _) htt (fun hko => ?_) (fun hko => ?_)
  rotate_left
  · refine wi_if_ne dc_M_look_43 rfl (fun hf => ?_) (fun hf => ?_)
    · omega
    refine wp_aload_n dc_M_look_46 rfl rfl (wi_iconst dc_M_look_47 (wi_putI 5 dc_M_look_48 lf_M_45 sh_0 rfl rfl pv_int (wp_aload_n dc_M_look_51 rfl rfl (wi_getE 5 (3) dc_M_look_52 lf_M_45 sh_0 rfl rfl (up_s _ _ _ _) ?_))))
    refine wi_if_ne dc_M_look_55 rfl (fun hg => ?_) (fun hg => ?_)
    rotate_left
    · omega
    have fr3 : fr_ (fun b j => b = 0 ∧ j = 5) (up_ σ1 0 5 0) (up_ (up_ σ1 0 5 0) 0 5 3) := fr_.rf.up ⟨rfl, rfl⟩
    have e4 : up_ (up_ σ1 0 5 0) 0 5 3 0 4 = 0 := (fr3 0 4 (by omega)).trans (u4 _)
    refine lp_M_nsp (x := 3) ⟨by omega, by omega⟩ (by omega) (up_s _ _ _ _) (by rw [e4]; omega) (hK _ (fr2.up (Or.inl ⟨rfl, by omega⟩)) ((fr3 0 6 (by omega)).trans (u6 _)) ⟨⟨(fr3 3 2 (by omega)).trans (hl2 0).1, fun c i c0 i0 i1 => (fr3 (5 + c) i (by omega)).trans ((hl2 0).2.1 c i c0 i0 i1), fun i i0 i1 => (fr3 11 i (by omega)).trans ((hl2 0).2.2 i i0 i1)⟩, Or.inr (Or.inl ⟨he, hko, up_s _ _ _ _, e4⟩)⟩)
  refine wi_if_ne dc_M_look_43 rfl (fun hf => ?_) (fun hf => ?_)
  rotate_left
  · omega
  refine wp_aload_n dc_M_look_51 rfl rfl (wi_getE 5 (0) dc_M_look_52 lf_M_45 sh_0 rfl rfl (up_s _ _ _ _) ?_)
  refine wi_if_ne dc_M_look_55 rfl (fun hg => ?_) (fun hg => ?_)
  · omega
  obtain ⟨mi, tc, b, tab, etc, etab, hks⟩ : ∃ mi tc b tab, tc = tc_ (px_ F n).2.1 (px_ F n).2.2 ∧ tab = tab_ (px_ F n).2.1 (px_ F n).2.2 ∧ KS_ (px_ F n).2.1 (px_ F n).2.2 mi tc b tab := ⟨_, _, _, _, rfl, rfl, ks_can hko⟩
  have htc := hks.2.1.1
  have lo2 : lo_ (up_ σ1 0 5 0) F n := hlo.fr fr2 (by unfold lkW rdL; omega) (fun j => by unfold lkW rdL; omega)
  refine wp_aload_n dc_M_look_58 rfl rfl ?_
  refine wp_callV (As := []) dc_M_look_59 lm_M_110 ls_M_bindTracks (by decide) rfl rfl (hp_at _ sh_0) rfl rfl (Nat.le_of_ble_eq_true rfl) (Nat.le_refl _) (Nat.le_refl _) ?_
  refine c_M_bindTracks lo2 (hl2 0) htt hks (u4 0) (fun σ3 f3 hbo => ?_)
  obtain ⟨lo3, lt3⟩ := btW_12 f3 lo2 (hl2 0)
  have fr3 : fr_ lkW σ σ3 := fr2.tr (f3.mono (fun b j h => by unfold btW at h; unfold lkW; omega))
  refine wp_aload_n dc_M_look_62 rfl rfl (wp_aload_n dc_M_look_63 rfl rfl ?_)
  refine wp_callV (As := []) dc_M_look_64 lm_M_113 ls_M_tableFault (by decide) rfl rfl (hp_at _ sh_0) rfl rfl (Nat.le_of_ble_eq_true rfl) (Nat.le_refl _) (Nat.le_refl _) ?_
  refine c_M_tableFault lo3 lt3 htt hks hbo (fun v hv => ?_)
  have vr := vt_rg hv
  refine wi_putI 5 dc_M_look_67 lf_M_45 sh_0 rfl rfl pv_int ?_
  have f5 : fr_ (fun b j => b = 0 ∧ j = 5) σ3 (up_ σ3 0 5 v) := fr_.rf.up ⟨rfl, rfl⟩
  have fr4 : fr_ lkW σ (up_ σ3 0 5 v) := fr3.up (Or.inl ⟨rfl, by omega⟩)
  have e4 : up_ σ3 0 5 v 0 4 = tc := (f5 0 4 (by omega)).trans hbo.1
  have e5 : up_ σ3 0 5 v 0 5 = v := up_s _ _ _ _
  have e6 : up_ σ3 0 5 v 0 6 = 0 := (f5 0 6 (by omega)).trans ((f3 0 6 (by unfold btW; omega)).trans (u6 0))
  have lt4 : lt_ (up_ σ3 0 5 v) (px_ F n).2.1 (px_ F n).2.2 := ⟨(f5 3 2 (by omega)).trans lt3.1, fun c i c0 i0 i1 => (f5 (5 + c) i (by omega)).trans (lt3.2.1 c i c0 i0 i1), fun i i0 i1 => (f5 11 i (by omega)).trans (lt3.2.2 i i0 i1)⟩
  by_cases hv0 : v = 0
  · subst hv0
    obtain ⟨har, hac, had⟩ : AR_ F (px_ F n).2.2 tc tab ∧ AC_ F (px_ F n).2.2 tc tab ∧ AD_ F (px_ F n).2.1 (px_ F n).2.2 tc tab := by
      rcases hv with h | h | h | h
      · omega
      · omega
      · omega
      · exact h.2
    refine wi_iconst dc_M_look_70 (wp_is1 dc_M_look_71 ?_)
    refine lp_M_sp (σ0 := up_ σ3 0 5 0) (lo3.fr f5 (by omega) (fun j => by omega)) lt4 htt hks e4 e5 (fun t t0 t1 => ?_) har hac (fun σ' hf' hc' => ?_) tc.toNat 0 (up_ σ3 0 5 0) (by omega) (by omega) fr_.rf (fun t t0 t1 => ?_) (fun t t0 t1 => by omega)
    · have hta := ta_c t0 (show t < 2 by omega)
      exact bdk_fr f5 (fun b k q1 q2 q => by omega) (hbo.2 t t0 t1).1
    · have g12 : fr_ (fun b _ => 12 ≤ b) (up_ σ3 0 5 0) σ' := hf'.mono (fun b _ h => by unfold trW at h; omega)
      have e5' : σ' 0 5 = 0 := (hf' 0 5 (by unfold trW; omega)).trans e5
      refine hK σ' (fr4.tr (hf'.mono (fun b j h => Or.inr (Or.inr h)))) ((hf' 0 6 (by unfold trW; omega)).trans e6) ⟨lt_fr g12 lt4, Or.inr (Or.inr ⟨he, hko, ?_⟩)⟩
      rw [← etc, ← etab]
      exact ⟨(hf' 0 4 (by unfold trW; omega)).trans e4, by rw [e5']; exact hv, fun _ => hc'⟩
    · have hta := ta_c t0 (show t < 2 by omega)
      exact bdk_fr f5 (fun b k q1 q2 q => by omega) (hbo.2 t t0 t1).1
  · refine lp_M_nsp (x := v) ⟨by omega, by omega⟩ hv0 e5 (by rw [e4]; omega) (hK _ fr4 e6 ⟨lt4, Or.inr (Or.inr ⟨he, hko, ?_⟩)⟩)
    rw [← etc, ← etab]
    exact ⟨e4, by rw [e5]; exact hv, fun h => absurd (e5.symm.trans h) hv0⟩
end LK
