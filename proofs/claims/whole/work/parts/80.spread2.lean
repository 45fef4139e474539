/-! the class's spread: shifts, syncs, chunks -/
section SQ
variable {l : Launch} {σ : sg_} {K : Option Value → mx_H → Prop} {F : Int → Int} {n N : Int} {T : px_T} {b : Int} {f : Int → Int} {a : Nat}
def e1_ (σ : sg_) (F : Int → Int) (T : px_T) (f : Int → Int) (a : Nat) (k : Nat) : Prop := (∀ i : Nat, i < k → σ (a + 12) i = dt_ F (st_ T (f 0)) i + sh_ F T f i) ∧ ∀ i : Nat, k ≤ i → (i : Int) < SC_ F T f → σ (a + 12) i = dt_ F (st_ T (f 0)) i
def w12 (a : Nat) (b : Nat) (_ : Int) : Prop := b = a + 12
theorem lp_K_ss1 (ha : 12 ≤ a) (hg : kgo_ a) (hf1 : ¬ f 1 = -1) {σ0 : sg_} (hx0 : kk_ σ0 F n N T a b f) (h9 : σ0 a 9 = SC_ F T f) (hct : tot_ F (st_ T (f 1)) = SC_ F T f) (r : Nat) (hr : (r : Int) < F (st_ T (f 1)))
    (hK : ∀ (σ' : sg_) (u4 : Value), fr_ (w12 a) σ0 σ' → e1_ σ' F T f a (ct_ F (st_ T (f 1)) (r + 1)).toNat → wp_m l Y_K_spreadShifts none 0 0 72 [.ref a, .int (iI (ct_ F (st_ T (f 1)) (r + 1))), .int (iI (r : Int)), .int (iI (sb_ (F (st_ T (f 1) + (2 + 2 * (r : Int)))))), u4] [] (hp_ σ') K) :
    ∀ (m k : Nat) (i : Int) (σ : sg_), i + m = F (st_ T (f 1) + (1 + 2 * (r : Int))) → 0 ≤ i → (k : Int) = ct_ F (st_ T (f 1)) r + i → fr_ (w12 a) σ0 σ → e1_ σ F T f a k → wp_m l Y_K_spreadShifts none 0 0 29 [.ref a, .int (iI (k : Int)), .int (iI (r : Int)), .int (iI (sb_ (F (st_ T (f 1) + (2 + 2 * (r : Int)))))), .int (iI i)] [] (hp_ σ) K := by
  have a5 := hx0.1.2.2.2.2
  have hs0 := a5 (st_ T (f 1))
  have hs3 := a5 (st_ T (f 3) + 1)
  have hsr := a5 (st_ T (f 1) + (1 + 2 * (r : Int)))
  have esc : SC_ F T f = F (st_ T (f 3) + 1) := rfl
  have ect : ct_ F (st_ T (f 1)) (r + 1) = ct_ F (st_ T (f 1)) r + F (st_ T (f 1) + (1 + 2 * (r : Int))) := rfl
  have mono : ct_ F (st_ T (f 1)) (r + 1) ≤ SC_ F T f := by
    have := sm_mono (g := fun r => F (st_ T (f 1) + (1 + 2 * r))) (fun i => (a5 _).1) (r + 1) ((F (st_ T (f 1))).toNat - (r + 1))
    rw [show r + 1 + ((F (st_ T (f 1))).toNat - (r + 1)) = (F (st_ T (f 1))).toNat by omega] at this
    rw [← hct]
    exact this
  have pos : 0 ≤ ct_ F (st_ T (f 1)) r := (sm_rg (c := 255) (by omega) r (fun i _ => by have := a5 (st_ T (f 1) + (1 + 2 * (i : Int))); constructor <;> omega)).1
  obtain ⟨hG, g0, g1, g2, g3, g4, g5, g6⟩ := hg
  intro m
  induction m with
  | zero =>
    intro k i σ hi i0 hk hfr hd
    have hx := kk_fr ha hx0 hfr (fun b j h => by unfold w12 at h; omega)
    obtain ⟨v0, v1, v2, v3, v4, v5⟩ := kk_1 hx hf1
    obtain ⟨hlo, hlt, htt, ⟨hKo, o1, o2, o3, o4, o5, o6, o7⟩, hkt, hrh, hkb⟩ := id hx
    have ek : (k : Int) = ct_ F (st_ T (f 1)) (r + 1) := by omega
    have ek2 : k = (ct_ F (st_ T (f 1)) (r + 1)).toNat := by omega
    have hh := hK σ (.int (iI i)) hfr (ek2 ▸ hd)
    rw [← ek] at hh
    refine wp_iload dc_K_spreadShifts_29 rfl (wp_aload_n dc_K_spreadShifts_31 rfl rfl (wi_getR dc_K_spreadShifts_32 lf_K_24 hKo rfl (wp_iload_n dc_K_spreadShifts_35 rfl rfl (wi_iconst dc_K_spreadShifts_36 ?_))))
    refine wp_callV (As := [_, _]) dc_K_spreadShifts_37 lm_K_77 ls_T_value (by decide) rfl rfl (hp_at _ o2) rfl rfl (Nat.le_of_ble_eq_true rfl) (Nat.le_refl _) (Nat.le_refl _) ?_
    refine c_T_value o2 hlo v3 v4 (show st_ T (f 1) + 1 + (r : Int) * 2 + 0 = st_ T (f 1) + (1 + 2 * (r : Int)) by omega) (by omega) (by omega) ?_
    refine wi_ic_ge dc_K_spreadShifts_40 rfl (fun hd1 => ?_) (fun hd1 => ?_)
    · exact hh
    · omega
  | succ m ih =>
    intro k i σ hi i0 hk hfr hd
    have hx := kk_fr ha hx0 hfr (fun b j h => by unfold w12 at h; omega)
    obtain ⟨v0, v1, v2, v3, v4, v5⟩ := kk_1 hx hf1
    obtain ⟨hlo, hlt, htt, ⟨hKo, o1, o2, o3, o4, o5, o6, o7⟩, hkt, hrh, hkb⟩ := id hx
    have h9' : σ a 9 = SC_ F T f := (hfr a 9 (by unfold w12; omega)).trans h9
    have erv : sh_ F T f k = sb_ (F (st_ T (f 1) + (2 + 2 * (r : Int)))) := by
      unfold sh_
      rw [if_neg hf1, rv_at (fun i => (a5 i).1) hr (by omega) (by omega)]
    refine wp_iload dc_K_spreadShifts_29 rfl (wp_aload_n dc_K_spreadShifts_31 rfl rfl (wi_getR dc_K_spreadShifts_32 lf_K_24 hKo rfl (wp_iload_n dc_K_spreadShifts_35 rfl rfl (wi_iconst dc_K_spreadShifts_36 ?_))))
    refine wp_callV (As := [_, _]) dc_K_spreadShifts_37 lm_K_77 ls_T_value (by decide) rfl rfl (hp_at _ o2) rfl rfl (Nat.le_of_ble_eq_true rfl) (Nat.le_refl _) (Nat.le_refl _) ?_
    refine c_T_value o2 hlo v3 v4 (show st_ T (f 1) + 1 + (r : Int) * 2 + 0 = st_ T (f 1) + (1 + 2 * (r : Int)) by omega) (by omega) (by omega) ?_
    refine wi_ic_ge dc_K_spreadShifts_40 rfl (fun hd1 => ?_) (fun hd1 => ?_)
    · omega
    refine wp_iload_n dc_K_spreadShifts_43 rfl rfl (wp_aload_n dc_K_spreadShifts_44 rfl rfl (wi_getE 9 ((SC_ F T f)) dc_K_spreadShifts_45 lf_K_51 hKo rfl rfl h9' ?_))
    refine wi_ic_ge dc_K_spreadShifts_48 rfl (fun hd2 => ?_) (fun hd2 => ?_)
    · omega
    have e12 := hd.2 k (Nat.le_refl _) (by omega)
    refine wp_aload_n dc_K_spreadShifts_51 rfl rfl (wi_getR dc_K_spreadShifts_52 lf_K_48 hKo rfl (wi_iconst dc_K_spreadShifts_55 (wi_aald dc_K_spreadShifts_56 hG rfl rfl (by decide) (by decide) (by decide) (show _ = some (a + 12) from rfl) (wp_iload_n dc_K_spreadShifts_57 rfl rfl (wp_dup2 dc_K_spreadShifts_58 (wi_aldE (dt_ F (st_ T (f 0)) k) dc_K_spreadShifts_59 g3 (by omega) (by omega) (by decide) e12 (wp_iload_n dc_K_spreadShifts_60 rfl rfl (wi_iadd dc_K_spreadShifts_61 (wi_ast dc_K_spreadShifts_62 g3 (by omega) (by omega) (by decide) (wp_ii1 dc_K_spreadShifts_63 (wp_ii4 dc_K_spreadShifts_66 (wp_goto dc_K_spreadShifts_69 rfl ?_))))))))))))
    have nx := ih (k + 1) (i + 1) _ (by omega) (by omega) (by omega) ((hfr.up rfl : fr_ (w12 a) σ0 (up_ σ (a + 12) k (dt_ F (st_ T (f 0)) k + sh_ F T f k)))) ⟨fun j hj => by
      by_cases e : j = k
      · subst e; rw [up_s]
      · rw [up_n _ _ (by omega)]; exact hd.1 j (by omega), fun j hj hj2 => by rw [up_n _ _ (by omega)]; exact hd.2 j (by omega) hj2⟩
    rw [erv] at nx
    exact nx
theorem lp_K_ss (ha : 12 ≤ a) (hg : kgo_ a) (hf1 : ¬ f 1 = -1) {σ0 : sg_} (hx0 : kk_ σ0 F n N T a b f) (h9 : σ0 a 9 = SC_ F T f) (hct : tot_ F (st_ T (f 1)) = SC_ F T f) (hK : ∀ σ', fr_ (w12 a) σ0 σ' → e1_ σ' F T f a (SC_ F T f).toNat → K none (hp_ σ')) :
    ∀ (m r : Nat) (σ : sg_) (u4 u5 : Value), (r : Int) + m = F (st_ T (f 1)) → fr_ (w12 a) σ0 σ → e1_ σ F T f a (ct_ F (st_ T (f 1)) r).toNat → wp_m l Y_K_spreadShifts none 0 0 4 [.ref a, .int (iI (ct_ F (st_ T (f 1)) r)), .int (iI (r : Int)), u4, u5] [] (hp_ σ) K := by
  have a5 := hx0.1.2.2.2.2
  have hs0 := a5 (st_ T (f 1))
  intro m
  induction m with
  | zero =>
    intro r σ u4 u5 hi hfr hd
    have hx := kk_fr ha hx0 hfr (fun b j h => by unfold w12 at h; omega)
    obtain ⟨v0, v1, v2, v3, v4, v5⟩ := kk_1 hx hf1
    obtain ⟨hlo, hlt, htt, ⟨hKo, o1, o2, o3, o4, o5, o6, o7⟩, hkt, hrh, hkb⟩ := id hx
    have er : r = (F (st_ T (f 1))).toNat := by omega
    have e : ct_ F (st_ T (f 1)) r = SC_ F T f := by rw [er]; exact hct
    refine wp_iload_n dc_K_spreadShifts_4 rfl rfl (wp_aload_n dc_K_spreadShifts_5 rfl rfl (wi_getR dc_K_spreadShifts_6 lf_K_24 hKo rfl ?_))
    refine wp_callV (As := []) dc_K_spreadShifts_9 lm_K_73 ls_T_rows (by decide) rfl rfl (hp_at _ o2) rfl rfl (Nat.le_of_ble_eq_true rfl) (Nat.le_refl _) (Nat.le_refl _) ?_
    refine c_T_rows o2 v5 ?_
    refine wi_ic_ge dc_K_spreadShifts_12 rfl (fun hd1 => ?_) (fun hd1 => ?_)
    · refine wp_return dc_K_spreadShifts_78 rfl (hK σ hfr (e ▸ hd))
    · omega
  | succ m ih =>
    intro r σ u4 u5 hi hfr hd
    have hx := kk_fr ha hx0 hfr (fun b j h => by unfold w12 at h; omega)
    obtain ⟨v0, v1, v2, v3, v4, v5⟩ := kk_1 hx hf1
    obtain ⟨hlo, hlt, htt, ⟨hKo, o1, o2, o3, o4, o5, o6, o7⟩, hkt, hrh, hkb⟩ := id hx
    have hsr := a5 (st_ T (f 1) + (1 + 2 * (r : Int)))
    have hsv := a5 (st_ T (f 1) + (2 + 2 * (r : Int)))
    have pos : 0 ≤ ct_ F (st_ T (f 1)) r := (sm_rg (c := 255) (by omega) r (fun i _ => by have := a5 (st_ T (f 1) + (1 + 2 * (i : Int))); constructor <;> omega)).1
    refine wp_iload_n dc_K_spreadShifts_4 rfl rfl (wp_aload_n dc_K_spreadShifts_5 rfl rfl (wi_getR dc_K_spreadShifts_6 lf_K_24 hKo rfl ?_))
    refine wp_callV (As := []) dc_K_spreadShifts_9 lm_K_73 ls_T_rows (by decide) rfl rfl (hp_at _ o2) rfl rfl (Nat.le_of_ble_eq_true rfl) (Nat.le_refl _) (Nat.le_refl _) ?_
    refine c_T_rows o2 v5 ?_
    refine wi_ic_ge dc_K_spreadShifts_12 rfl (fun hd1 => ?_) (fun hd1 => ?_)
    · omega
    refine wp_aload_n dc_K_spreadShifts_15 rfl rfl (wi_getR dc_K_spreadShifts_16 lf_K_24 hKo rfl (wp_iload_n dc_K_spreadShifts_19 rfl rfl (wi_iconst dc_K_spreadShifts_20 ?_)))
    refine wp_callV (As := [_, _]) dc_K_spreadShifts_21 lm_K_77 ls_T_value (by decide) rfl rfl (hp_at _ o2) rfl rfl (Nat.le_of_ble_eq_true rfl) (Nat.le_refl _) (Nat.le_refl _) ?_
    refine c_T_value o2 hlo v3 v4 (show st_ T (f 1) + 1 + (r : Int) * 2 + 1 = st_ T (f 1) + (2 + 2 * (r : Int)) by omega) (by omega) (by omega) ?_
    refine wp_i2b dc_K_spreadShifts_24 ?_
    rw [i2b_ hsv.1 hsv.2]
    refine wp_is3 dc_K_spreadShifts_25 (wi_iconst dc_K_spreadShifts_26 (wp_is4 dc_K_spreadShifts_27 ?_))
    have h := lp_K_ss1 (l := l) (K := K) ha hg hf1 hx0 h9 hct r (by omega) (fun σ' u4 fr' hd' => by
      refine wp_ii2 dc_K_spreadShifts_72 (wp_goto dc_K_spreadShifts_75 rfl ?_)
      exact ih (r + 1) σ' _ u4 (by omega) fr' hd') (F (st_ T (f 1) + (1 + 2 * (r : Int)))).toNat (ct_ F (st_ T (f 1)) r).toNat 0 σ (by omega) (by omega) (by omega) hfr hd
    rw [show (((ct_ F (st_ T (f 1)) r).toNat : Nat) : Int) = ct_ F (st_ T (f 1)) r by omega] at h
    exact h
theorem c_K_spreadShifts (ha : 12 ≤ a) (hg : kgo_ a) (hx : kk_ σ F n N T a b f) (h9 : σ a 9 = SC_ F T f) (hcn : CN_ F T f) (h12 : ∀ i : Nat, (i : Int) < SC_ F T f → σ (a + 12) i = dt_ F (st_ T (f 0)) i) (hK : ∀ σ', fr_ (w12 a) σ σ' → (∀ i : Nat, (i : Int) < SC_ F T f → σ' (a + 12) i = dt_ F (st_ T (f 0)) i + sh_ F T f i) → K none (hp_ σ')) : ct_m l Y_K_spreadShifts 0 0 [.ref a] (hp_ σ) K := by
  have hs0 := hx.1.2.2.2.2 (st_ T (f 1))
  refine ct_of (L := [.ref a, .retAddr 0, .retAddr 0, .retAddr 0, .retAddr 0]) (by decide +kernel) (Nat.le_of_ble_eq_true rfl) rfl ?_
  refine wi_iconst dc_K_spreadShifts_0 (wp_is1 dc_K_spreadShifts_1 (wi_iconst dc_K_spreadShifts_2 (wp_is2 dc_K_spreadShifts_3 ?_)))
  by_cases hf1 : f 1 = -1
  · obtain ⟨hlo, hlt, htt, ⟨hKo, o1, o2, o3, o4, o5, o6, o7⟩, hkt, hrh, hkb⟩ := id hx
    refine wp_iload_n dc_K_spreadShifts_4 rfl rfl (wp_aload_n dc_K_spreadShifts_5 rfl rfl (wi_getR dc_K_spreadShifts_6 lf_K_24 hKo rfl ?_))
    refine wp_callV (As := []) dc_K_spreadShifts_9 lm_K_73 ls_T_rows (by decide) rfl rfl (hp_at _ o2) rfl rfl (Nat.le_of_ble_eq_true rfl) (Nat.le_refl _) (Nat.le_refl _) ?_
    refine c_T_rows o2 (kk_o hkb.2.1 hf1).2 ?_
    refine wi_ic_ge dc_K_spreadShifts_12 rfl (fun hd1 => ?_) (fun hd1 => ?_)
    · refine wp_return dc_K_spreadShifts_78 rfl (hK σ fr_.rf (fun i hi => ?_))
      unfold sh_
      rw [if_pos hf1, h12 i hi]
      omega
    · omega
  · exact lp_K_ss ha hg hf1 hx h9 (hcn.2.1.resolve_left hf1) (fun σ' fr' he => hK σ' fr' (fun i hi => he.1 i (by omega))) (F (st_ T (f 1))).toNat 0 σ _ _ (by omega) fr_.rf ⟨fun i hi => absurd hi (Nat.not_lt_zero _), fun i _ hi => h12 i hi⟩
/-- whether sample k is listed among the syncs up to row R -/
def ls_ (F : Int → Int) (s k R : Int) : Prop := ∃ r, 0 ≤ r ∧ r < R ∧ F (s + (1 + r)) = k + 1
def sy_ (F : Int → Int) (T : px_T) (f : Int → Int) (k v : Int) : Prop := (v = 1 ∧ (f 6 = -1 ∨ ls_ F (st_ T (f 6)) k (F (st_ T (f 6))))) ∨ (v = 0 ∧ ¬ (f 6 = -1 ∨ ls_ F (st_ T (f 6)) k (F (st_ T (f 6)))))
def w13 (a : Nat) (b : Nat) (_ : Int) : Prop := b = a + 13
theorem lp_K_sy1 (ha : 12 ≤ a) (hg : kgo_ a) {u : Int} {x3 : Value} {σ0 : sg_} (hx0 : kk_ σ0 F n N T a b f) (h9 : σ0 a 9 = SC_ F T f)
    (hK : ∀ (σ' : sg_) (u2 : Value), fr_ (w13 a) σ0 σ' → (∀ i, 0 ≤ i → i < SC_ F T f → σ' (a + 13) i = u) → wp_m l Y_K_spreadSyncs none 0 0 41 [.ref a, .int (iI u), u2, x3] [] (hp_ σ') K) :
    ∀ (m : Nat) (i : Int) (σ : sg_), i + m = SC_ F T f → 0 ≤ i → fr_ (w13 a) σ0 σ → (∀ j, 0 ≤ j → j < i → σ (a + 13) j = u) → wp_m l Y_K_spreadSyncs none 0 0 18 [.ref a, .int (iI u), .int (iI i), x3] [] (hp_ σ) K := by
  have a5 := hx0.1.2.2.2.2
  have hs3 := a5 (st_ T (f 3) + 1)
  have esc : SC_ F T f = F (st_ T (f 3) + 1) := rfl
  obtain ⟨hG, g0, g1, g2, g3, g4, g5, g6⟩ := hg
  have hKo := hx0.2.2.2.1.1
  intro m
  induction m with
  | zero =>
    intro i σ hi i0 hfr hd
    have h9' : σ a 9 = SC_ F T f := (hfr a 9 (by unfold w13; omega)).trans h9
    refine wp_iload_n dc_K_spreadSyncs_18 rfl rfl (wp_aload_n dc_K_spreadSyncs_19 rfl rfl (wi_getE 9 ((SC_ F T f)) dc_K_spreadSyncs_20 lf_K_51 hKo rfl rfl h9' ?_))
    refine wi_ic_ge dc_K_spreadSyncs_23 rfl (fun hd1 => ?_) (fun hd1 => ?_)
    · exact hK σ _ hfr (fun j j0 j1 => hd j j0 (by omega))
    · omega
  | succ m ih =>
    intro i σ hi i0 hfr hd
    have h9' : σ a 9 = SC_ F T f := (hfr a 9 (by unfold w13; omega)).trans h9
    refine wp_iload_n dc_K_spreadSyncs_18 rfl rfl (wp_aload_n dc_K_spreadSyncs_19 rfl rfl (wi_getE 9 ((SC_ F T f)) dc_K_spreadSyncs_20 lf_K_51 hKo rfl rfl h9' ?_))
    refine wi_ic_ge dc_K_spreadSyncs_23 rfl (fun hd1 => ?_) (fun hd1 => ?_)
    · omega
    refine wp_aload_n dc_K_spreadSyncs_26 rfl rfl (wi_getR dc_K_spreadSyncs_27 lf_K_48 hKo rfl (wi_iconst dc_K_spreadSyncs_30 (wi_aald dc_K_spreadSyncs_31 hG rfl rfl (by decide) (by decide) (by decide) (show _ = some (a + 13) from rfl) (wp_iload_n dc_K_spreadSyncs_32 rfl rfl (wp_iload_n dc_K_spreadSyncs_33 rfl rfl (wi_ast dc_K_spreadSyncs_34 g4 (by omega) (by omega) (by decide) (wp_ii2 dc_K_spreadSyncs_35 (wp_goto dc_K_spreadSyncs_38 rfl ?_))))))))
    refine ih (i + 1) _ (by omega) (by omega) (hfr.up rfl) (fun j j0 j1 => ?_)
    by_cases e : j = i
    · subst e; rw [up_s]
    · rw [up_n _ _ (by omega)]; exact hd j j0 (by omega)
theorem lp_K_sy2 (ha : 12 ≤ a) (hg : kgo_ a) {u R : Int} {σ0 : sg_} (hx0 : kk_ σ0 F n N T a b f) (h9 : σ0 a 9 = SC_ F T f) (hR : σ0 (a + 5) 5 = R) (hRr : 0 ≤ R ∧ R ≤ 255) (hb : 0 < R → σ0 (a + 5) 2 = st_ T (f 6) ∧ σ0 (a + 5) 4 = 1 ∧ 0 ≤ st_ T (f 6) ∧ st_ T (f 6) + 1 + R ≤ n)
    (hK : ∀ (σ' : sg_), fr_ (w13 a) σ0 σ' → (∀ i, 0 ≤ i → i < SC_ F T f → (σ' (a + 13) i = 1 ∧ ls_ F (st_ T (f 6)) i R) ∨ (σ' (a + 13) i = u ∧ ¬ ls_ F (st_ T (f 6)) i R)) → K none (hp_ σ')) :
    ∀ (m : Nat) (i : Int) (σ : sg_) (u3 : Value), i + m = R → 0 ≤ i → fr_ (w13 a) σ0 σ → (∀ j, 0 ≤ j → j < SC_ F T f → (σ (a + 13) j = 1 ∧ ls_ F (st_ T (f 6)) j i) ∨ (σ (a + 13) j = u ∧ ¬ ls_ F (st_ T (f 6)) j i)) → wp_m l Y_K_spreadSyncs none 0 0 43 [.ref a, .int (iI u), .int (iI i), u3] [] (hp_ σ) K := by
  have a5 := hx0.1.2.2.2.2
  have hs3 := a5 (st_ T (f 3) + 1)
  have esc : SC_ F T f = F (st_ T (f 3) + 1) := rfl
  obtain ⟨hG, g0, g1, g2, g3, g4, g5, g6⟩ := hg
  intro m
  induction m with
  | zero =>
    intro i σ u3 hi i0 hfr hd
    have hx := kk_fr ha hx0 hfr (fun b j h => by unfold w13 at h; omega)
    obtain ⟨hlo, hlt, htt, ⟨hKo, o1, o2, o3, o4, o5, o6, o7⟩, hkt, hrh, hkb⟩ := id hx
    obtain rfl : i = R := by omega
    refine wp_iload_n dc_K_spreadSyncs_43 rfl rfl (wp_aload_n dc_K_spreadSyncs_44 rfl rfl (wi_getR dc_K_spreadSyncs_45 lf_K_33 hKo rfl ?_))
    refine wp_callV (As := []) dc_K_spreadSyncs_48 lm_K_73 ls_T_rows (by decide) rfl rfl (hp_at _ o5) rfl rfl (Nat.le_of_ble_eq_true rfl) (Nat.le_refl _) (Nat.le_refl _) ?_
    refine c_T_rows o5 ((hfr _ _ (by unfold w13; omega)).trans hR) ?_
    refine wi_ic_ge dc_K_spreadSyncs_51 rfl (fun hd1 => ?_) (fun hd1 => ?_)
    · refine wp_return dc_K_spreadSyncs_93 rfl (hK σ hfr hd)
    · omega
  | succ m ih =>
    intro i σ u3 hi i0 hfr hd
    have hx := kk_fr ha hx0 hfr (fun b j h => by unfold w13 at h; omega)
    obtain ⟨hlo, hlt, htt, ⟨hKo, o1, o2, o3, o4, o5, o6, o7⟩, hkt, hrh, hkb⟩ := id hx
    have h9' : σ a 9 = SC_ F T f := (hfr a 9 (by unfold w13; omega)).trans h9
    obtain ⟨b2, b4, b6, b7⟩ := hb (by omega)
    have b2' := (hfr (a + 5) 2 (by unfold w13; omega)).trans b2
    have b4' := (hfr (a + 5) 4 (by unfold w13; omega)).trans b4
    have e1 := a5 (st_ T (f 6) + (1 + i))
    have lsS : ∀ j, ls_ F (st_ T (f 6)) j (i + 1) ↔ (ls_ F (st_ T (f 6)) j i ∨ F (st_ T (f 6) + (1 + i)) = j + 1) := fun j => by
      constructor
      · rintro ⟨r, r0, r1, r2⟩
        by_cases e : r = i
        · subst e; exact Or.inr r2
        · exact Or.inl ⟨r, r0, by omega, r2⟩
      · rintro (⟨r, r0, r1, r2⟩ | h)
        · exact ⟨r, r0, by omega, r2⟩
        · exact ⟨i, i0, by omega, h⟩
    refine wp_iload_n dc_K_spreadSyncs_43 rfl rfl (wp_aload_n dc_K_spreadSyncs_44 rfl rfl (wi_getR dc_K_spreadSyncs_45 lf_K_33 hKo rfl ?_))
    refine wp_callV (As := []) dc_K_spreadSyncs_48 lm_K_73 ls_T_rows (by decide) rfl rfl (hp_at _ o5) rfl rfl (Nat.le_of_ble_eq_true rfl) (Nat.le_refl _) (Nat.le_refl _) ?_
    refine c_T_rows o5 ((hfr _ _ (by unfold w13; omega)).trans hR) ?_
    refine wi_ic_ge dc_K_spreadSyncs_51 rfl (fun hd1 => ?_) (fun hd1 => ?_)
    · omega
    refine wp_aload_n dc_K_spreadSyncs_54 rfl rfl (wi_getR dc_K_spreadSyncs_55 lf_K_33 hKo rfl (wp_iload_n dc_K_spreadSyncs_58 rfl rfl (wi_iconst dc_K_spreadSyncs_59 ?_)))
    refine wp_callV (As := [_, _]) dc_K_spreadSyncs_60 lm_K_77 ls_T_value (by decide) rfl rfl (hp_at _ o5) rfl rfl (Nat.le_of_ble_eq_true rfl) (Nat.le_refl _) (Nat.le_refl _) ?_
    refine c_T_value o5 hlo b2' b4' (show st_ T (f 6) + 1 + i * 1 + 0 = st_ T (f 6) + (1 + i) by omega) (by omega) (by omega) ?_
    have nx : ∀ (σ' : sg_), fr_ (w13 a) σ0 σ' → (∀ j, 0 ≤ j → j < SC_ F T f → (σ' (a + 13) j = 1 ∧ ls_ F (st_ T (f 6)) j (i + 1)) ∨ (σ' (a + 13) j = u ∧ ¬ ls_ F (st_ T (f 6)) j (i + 1))) → wp_m l Y_K_spreadSyncs none 0 0 87 [.ref a, .int (iI u), .int (iI i), .int (iI (F (st_ T (f 6) + (1 + i)) - 1))] [] (hp_ σ') K := fun σ' hf' hd' => by
      refine wp_ii2 dc_K_spreadSyncs_87 (wp_goto dc_K_spreadSyncs_90 rfl ?_)
      exact ih (i + 1) σ' _ (by omega) (by omega) hf' hd'
    have same : ¬ (0 ≤ F (st_ T (f 6) + (1 + i)) - 1 ∧ F (st_ T (f 6) + (1 + i)) - 1 < SC_ F T f) → wp_m l Y_K_spreadSyncs none 0 0 87 [.ref a, .int (iI u), .int (iI i), .int (iI (F (st_ T (f 6) + (1 + i)) - 1))] [] (hp_ σ) K := fun hn => nx σ hfr (fun j j0 j1 => by
      have e : ls_ F (st_ T (f 6)) j (i + 1) ↔ ls_ F (st_ T (f 6)) j i := by
        rw [lsS j]
        exact ⟨fun h => h.resolve_right (by omega), Or.inl⟩
      rw [e]
      exact hd j j0 j1)
    refine wi_iconst dc_K_spreadSyncs_63 (wi_isub dc_K_spreadSyncs_64 (wp_is3 dc_K_spreadSyncs_65 (wp_iload_n dc_K_spreadSyncs_66 rfl rfl ?_)))
    refine wi_if_lt dc_K_spreadSyncs_67 rfl (fun hd2 => ?_) (fun hd2 => ?_)
    · exact same (by omega)
    refine wp_iload_n dc_K_spreadSyncs_70 rfl rfl (wp_aload_n dc_K_spreadSyncs_71 rfl rfl (wi_getE 9 ((SC_ F T f)) dc_K_spreadSyncs_72 lf_K_51 hKo rfl rfl h9' ?_))
    refine wi_ic_ge dc_K_spreadSyncs_75 rfl (fun hd3 => ?_) (fun hd3 => ?_)
    · exact same (by omega)
    refine wp_aload_n dc_K_spreadSyncs_78 rfl rfl (wi_getR dc_K_spreadSyncs_79 lf_K_48 hKo rfl (wi_iconst dc_K_spreadSyncs_82 (wi_aald dc_K_spreadSyncs_83 hG rfl rfl (by decide) (by decide) (by decide) (show _ = some (a + 13) from rfl) (wp_iload_n dc_K_spreadSyncs_84 rfl rfl (wi_iconst dc_K_spreadSyncs_85 (wi_ast dc_K_spreadSyncs_86 g4 (by omega) (by omega) (by decide) ?_))))))
    refine nx _ (hfr.up rfl) (fun j j0 j1 => ?_)
    rw [lsS j]
    by_cases e : j = F (st_ T (f 6) + (1 + i)) - 1
    · refine Or.inl ⟨?_, Or.inr (by omega)⟩
      rw [e, up_s]
    · rw [up_n _ _ (by omega)]
      rcases hd j j0 j1 with h | h
      · exact Or.inl ⟨h.1, Or.inl h.2⟩
      · exact Or.inr ⟨h.1, fun hh => hh.elim h.2 (by omega)⟩
theorem c_K_spreadSyncs (ha : 12 ≤ a) (hg : kgo_ a) (hx : kk_ σ F n N T a b f) (h9 : σ a 9 = SC_ F T f) (hK : ∀ σ', fr_ (w13 a) σ σ' → (∀ i, 0 ≤ i → i < SC_ F T f → sy_ F T f i (σ' (a + 13) i)) → K none (hp_ σ')) : ct_m l Y_K_spreadSyncs 0 0 [.ref a] (hp_ σ) K := by
  obtain ⟨hlo, hlt, htt, ⟨hKo, o1, o2, o3, o4, o5, o6, o7⟩, hkt, hrh, hkb⟩ := id hx
  have a5 := hlo.2.2.2.2
  have hs3 := a5 (st_ T (f 3) + 1)
  have hs6 := a5 (st_ T (f 6))
  have esc : SC_ F T f = F (st_ T (f 3) + 1) := rfl
  refine ct_of (L := [.ref a, .retAddr 0, .retAddr 0, .retAddr 0]) (by decide +kernel) (Nat.le_of_ble_eq_true rfl) rfl ?_
  refine wp_aload_n dc_K_spreadSyncs_0 rfl rfl (wi_getR dc_K_spreadSyncs_1 lf_K_33 hKo rfl ?_)
  refine wp_callV (As := []) dc_K_spreadSyncs_4 lm_K_91 ls_T_isPresent (by decide) rfl rfl (hp_at _ o5) rfl rfl (Nat.le_of_ble_eq_true rfl) (Nat.le_refl _) (Nat.le_refl _) ?_
  by_cases hf6 : f 6 = -1
  · have k6 := kk_o hkb.2.2.2.2.1 hf6
    refine c_T_isPresent o5 (fun _ => ?_) (fun h => by omega) (Or.inl k6.1)
    refine wi_if_eq dc_K_spreadSyncs_7 rfl (fun hd => ?_) (fun hd => ?_)
    rotate_left
    · omega
    refine wi_iconst dc_K_spreadSyncs_14 (wp_is1 dc_K_spreadSyncs_15 (wi_iconst dc_K_spreadSyncs_16 (wp_is2 dc_K_spreadSyncs_17 ?_)))
    refine lp_K_sy1 ha hg hx h9 (fun σ1 u2 f1 h1 => ?_) (SC_ F T f).toNat 0 σ (by omega) (by omega) fr_.rf (fun j j0 j1 => by omega)
    refine wi_iconst dc_K_spreadSyncs_41 (wp_is2 dc_K_spreadSyncs_42 ?_)
    refine lp_K_sy2 (u := 1) (R := 0) ha hg (kk_fr ha hx f1 (fun b j h => by unfold w13 at h; omega)) ((f1 a 9 (by unfold w13; omega)).trans h9) ((f1 (a + 5) 5 (by unfold w13; omega)).trans k6.2) (by omega) (fun h => by omega) (fun σ' f2 h2 => hK σ' (f1.tr f2) (fun i i0 i1 => ?_)) 0 0 σ1 _ (by omega) (by omega) fr_.rf (fun j j0 j1 => Or.inr ⟨h1 j j0 j1, fun h => by obtain ⟨r, r0, r1, -⟩ := h; omega⟩)
    refine Or.inl ⟨?_, Or.inl hf6⟩
    rcases h2 i i0 i1 with h | h <;> exact h.1
  · obtain ⟨v1, v2, v3, v4, v5, v6, v7, v8, v9⟩ := kk_6 hx hf6
    refine c_T_isPresent o5 (fun h => by omega) (fun _ => ?_) (Or.inr v5)
    refine wi_if_eq dc_K_spreadSyncs_7 rfl (fun hd => ?_) (fun hd => ?_)
    · omega
    refine wi_iconst dc_K_spreadSyncs_10 (wp_goto dc_K_spreadSyncs_11 rfl (wp_is1 dc_K_spreadSyncs_15 (wi_iconst dc_K_spreadSyncs_16 (wp_is2 dc_K_spreadSyncs_17 ?_))))
    refine lp_K_sy1 ha hg hx h9 (fun σ1 u2 f1 h1 => ?_) (SC_ F T f).toNat 0 σ (by omega) (by omega) fr_.rf (fun j j0 j1 => by omega)
    refine wi_iconst dc_K_spreadSyncs_41 (wp_is2 dc_K_spreadSyncs_42 ?_)
    refine lp_K_sy2 (u := 0) (R := F (st_ T (f 6))) ha hg (kk_fr ha hx f1 (fun b j h => by unfold w13 at h; omega)) ((f1 a 9 (by unfold w13; omega)).trans h9) ((f1 (a + 5) 5 (by unfold w13; omega)).trans v8) (by omega) (fun h => ⟨(f1 (a + 5) 2 (by unfold w13; omega)).trans v6, (f1 (a + 5) 4 (by unfold w13; omega)).trans v7, v3, v4⟩) (fun σ' f2 h2 => hK σ' (f1.tr f2) (fun i i0 i1 => ?_)) (F (st_ T (f 6))).toNat 0 σ1 _ (by omega) (by omega) fr_.rf (fun j j0 j1 => Or.inr ⟨h1 j j0 j1, fun h => by obtain ⟨r, r0, r1, -⟩ := h; omega⟩)
    rcases h2 i i0 i1 with h | h
    · exact Or.inl ⟨h.1, Or.inr h.2⟩
    · exact Or.inr ⟨h.1, fun hh => hh.elim hf6 h.2⟩
end SQ
