/-! the class's spread: durations and shifts -/
abbrev kgo_ (a : Nat) : Prop := SH[a + 8]? = some (.inl (3, 7, .inr (.inr (.inr (.inr (fun j => if j < 7 then some (a + 8 + 1 + j) else none)))))) ∧ SH[a + 9]? = some (.inl (0, 255, .inl (fun _ => 0))) ∧ SH[a + 10]? = some (.inl (0, 255, .inl (fun _ => 0))) ∧ SH[a + 11]? = some (.inl (0, 255, .inl (fun _ => 0))) ∧ SH[a + 12]? = some (.inl (0, 255, .inl (fun _ => 0))) ∧ SH[a + 13]? = some (.inl (0, 255, .inl (fun _ => 0))) ∧ SH[a + 14]? = some (.inl (0, 255, .inl (fun _ => 0))) ∧ SH[a + 15]? = some (.inl (0, 255, .inl (fun _ => 0)))
theorem kgo_13 : kgo_ 13 := ⟨rfl, rfl, rfl, rfl, rfl, rfl, rfl, rfl⟩
theorem kgo_29 : kgo_ 29 := ⟨rfl, rfl, rfl, rfl, rfl, rfl, rfl, rfl⟩
/-- the value of the run in which k lies -/
def rvf_ (F : Int → Int) (s k : Int) : Nat → Int → Int → Int
  | 0, _, _ => 0
  | m + 1, r, c => if k < c + F (s + (1 + 2 * r)) then F (s + (2 + 2 * r)) else rvf_ F s k m (r + 1) (c + F (s + (1 + 2 * r)))
def rv_ (F : Int → Int) (s k : Int) : Int := rvf_ F s k (F s).toNat 0 0
abbrev ct_ (F : Int → Int) (s : Int) (r : Nat) : Int := sm_ (fun r => F (s + (1 + 2 * r))) r
theorem rvf_at {F : Int → Int} {s k : Int} (hF : ∀ i, 0 ≤ F i) (r : Nat) (h1 : ct_ F s r ≤ k) (h2 : k < ct_ F s (r + 1)) : ∀ (d m i : Nat), i + d = r → r < i + m → rvf_ F s k m i (ct_ F s i) = F (s + (2 + 2 * (r : Int))) := by
  intro d
  induction d with
  | zero =>
    intro m i hi hm
    obtain rfl : i = r := by omega
    obtain ⟨m', rfl⟩ : ∃ m', m = m' + 1 := ⟨m - 1, by omega⟩
    unfold rvf_
    rw [if_pos (show k < ct_ F s i + F (s + (1 + 2 * (i : Int))) from h2)]
  | succ d ih =>
    intro m i hi hm
    obtain ⟨m', rfl⟩ : ∃ m', m = m' + 1 := ⟨m - 1, by omega⟩
    unfold rvf_
    have mono : ct_ F s (i + 1) ≤ ct_ F s (i + 1 + (r - (i + 1))) := sm_mono (g := fun r => F (s + (1 + 2 * r))) (fun i => hF _) (i + 1) (r - (i + 1))
    rw [show i + 1 + (r - (i + 1)) = r by omega] at mono
    have e : ct_ F s (i + 1) = ct_ F s i + F (s + (1 + 2 * (i : Int))) := rfl
    rw [if_neg (by omega)]
    exact ih m' (i + 1) (by omega) (by omega)
theorem rv_at {F : Int → Int} {s k : Int} (hF : ∀ i, 0 ≤ F i) {r : Nat} (hr : (r : Int) < F s) (h1 : ct_ F s r ≤ k) (h2 : k < ct_ F s (r + 1)) : rv_ F s k = F (s + (2 + 2 * (r : Int))) := rvf_at hF r h1 h2 r (F s).toNat 0 (by omega) (by omega)
/-- the decode time of sample k -/
abbrev dt_ (F : Int → Int) (s : Int) (k : Nat) : Int := sm_ (fun i => rv_ F s i) k
def sb_ (v : Int) : Int := if v < 128 then v else v - 256
theorem i2b_ {v : Int} (h0 : 0 ≤ v) (h1 : v < 256) : (iI v).toInt8.toInt32 = iI (sb_ v) := by
  have h : ∀ w : Fin 256, (iI (w.val : Int)).toInt8.toInt32 = iI (sb_ (w.val : Int)) := by decide +kernel
  have := h ⟨v.toNat, by omega⟩
  rwa [show ((⟨v.toNat, by omega⟩ : Fin 256).val : Int) = v by show (v.toNat : Int) = v; omega] at this
/-- the shift of sample k -/
def sh_ (F : Int → Int) (T : px_T) (f : Int → Int) (k : Int) : Int := if f 1 = -1 then 0 else sb_ (rv_ F (st_ T (f 1)) k)
section SP
variable {l : Launch} {σ : sg_} {K : Option Value → mx_H → Prop} {F : Int → Int} {n N : Int} {T : px_T} {b : Int} {f : Int → Int} {a : Nat}
theorem kk_fr {σ' : sg_} (ha : 12 ≤ a) (hx : kk_ σ F n N T a b f) {P : Nat → Int → Prop} (h : fr_ P σ σ') (hP : ∀ b j, P b j → a + 8 ≤ b ∨ (b = a ∧ j = 9)) : kk_ σ' F n N T a b f := by
  obtain ⟨hlo, hlt, htt, hk, hkt, hrh, hkb⟩ := hx
  have h2 : fr_ (fun b _ => 12 ≤ b) σ σ' := h.mono (fun b j q => by have := hP b j q; omega)
  exact ⟨lo_fr h2 hlo, lt_fr h2 hlt, htt, hk, hkt, hrh, bdk_fr h (fun b k q1 q2 q => by have := hP b k q; omega) hkb⟩
def sdW (a : Nat) (b : Nat) (_ : Int) : Prop := b = a + 11 ∨ b = a + 12 ∨ b = a + 15
def d1_ (σ : sg_) (F : Int → Int) (s : Int) (a : Nat) (k : Nat) : Prop := ∀ i : Nat, i < k → σ (a + 15) i = rv_ F s i ∧ σ (a + 11) i = dt_ F s i ∧ σ (a + 12) i = dt_ F s i
theorem lp_K_sd1 (ha : 12 ≤ a) (hg : kgo_ a) {σ0 : sg_} (hx0 : kk_ σ0 F n N T a b f) (h9 : σ0 a 9 = SC_ F T f) (hcn : CN_ F T f) (r : Nat) (hr : (r : Int) < F (st_ T (f 0)))
    (hK : ∀ (σ' : sg_) (u5 : Value), fr_ (sdW a) σ0 σ' → d1_ σ' F (st_ T (f 0)) a (ct_ F (st_ T (f 0)) (r + 1)).toNat → wp_m l Y_K_spreadDurations none 0 0 96 [.ref a, .int (iI (ct_ F (st_ T (f 0)) (r + 1))), .int (iI (dt_ F (st_ T (f 0)) (ct_ F (st_ T (f 0)) (r + 1)).toNat)), .int (iI (r : Int)), .int (iI (F (st_ T (f 0) + (2 + 2 * (r : Int))))), u5] [] (hp_ σ') K) :
    ∀ (m k : Nat) (i : Int) (σ : sg_), i + m = F (st_ T (f 0) + (1 + 2 * (r : Int))) → 0 ≤ i → (k : Int) = ct_ F (st_ T (f 0)) r + i → fr_ (sdW a) σ0 σ → d1_ σ F (st_ T (f 0)) a k → wp_m l Y_K_spreadDurations none 0 0 31 [.ref a, .int (iI (k : Int)), .int (iI (dt_ F (st_ T (f 0)) k)), .int (iI (r : Int)), .int (iI (F (st_ T (f 0) + (2 + 2 * (r : Int))))), .int (iI i)] [] (hp_ σ) K := by
  have a5 := hx0.1.2.2.2.2
  have hs0 := a5 (st_ T (f 0))
  have hs3 := a5 (st_ T (f 3) + 1)
  have hsr := a5 (st_ T (f 0) + (1 + 2 * (r : Int)))
  have esc : SC_ F T f = F (st_ T (f 3) + 1) := rfl
  have ect : ct_ F (st_ T (f 0)) (r + 1) = ct_ F (st_ T (f 0)) r + F (st_ T (f 0) + (1 + 2 * (r : Int))) := rfl
  have mono : ct_ F (st_ T (f 0)) (r + 1) ≤ SC_ F T f := by
    have := sm_mono (g := fun r => F (st_ T (f 0) + (1 + 2 * r))) (fun i => (a5 _).1) (r + 1) ((F (st_ T (f 0))).toNat - (r + 1))
    rw [show r + 1 + ((F (st_ T (f 0))).toNat - (r + 1)) = (F (st_ T (f 0))).toNat by omega] at this
    rw [← hcn.1]
    exact this
  have pos : 0 ≤ ct_ F (st_ T (f 0)) r := (sm_rg (c := 255) (by omega) r (fun i _ => by have := a5 (st_ T (f 0) + (1 + 2 * (i : Int))); constructor <;> omega)).1
  obtain ⟨hG, g0, g1, g2, g3, g4, g5, g6⟩ := hg
  intro m
  induction m with
  | zero =>
    intro k i σ hi i0 hk hfr hd
    have hx := kk_fr ha hx0 hfr (fun b j h => by unfold sdW at h; omega)
    obtain ⟨v0, v1, v2, v3, v4, v5⟩ := kk_0 hx
    obtain ⟨hlo, hlt, htt, ⟨hKo, o1, o2, o3, o4, o5, o6, o7⟩, hkt, hrh, hkb⟩ := id hx
    have ek : (k : Int) = ct_ F (st_ T (f 0)) (r + 1) := by omega
    have ek2 : k = (ct_ F (st_ T (f 0)) (r + 1)).toNat := by omega
    have hh := hK σ (.int (iI i)) hfr (ek2 ▸ hd)
    rw [← ek2, ← ek] at hh
    refine wp_iload dc_K_spreadDurations_31 rfl (wp_aload_n dc_K_spreadDurations_33 rfl rfl (wi_getR dc_K_spreadDurations_34 lf_K_20 hKo rfl (wp_iload_n dc_K_spreadDurations_37 rfl rfl (wi_iconst dc_K_spreadDurations_38 ?_))))
    refine wp_callV (As := [_, _]) dc_K_spreadDurations_39 lm_K_77 ls_T_value (by decide) rfl rfl (hp_at _ o1) rfl rfl (Nat.le_of_ble_eq_true rfl) (Nat.le_refl _) (Nat.le_refl _) ?_
    refine c_T_value o1 hlo v3 v4 (show st_ T (f 0) + 1 + (r : Int) * 2 + 0 = st_ T (f 0) + (1 + 2 * (r : Int)) by omega) (by omega) (by omega) ?_
    refine wi_ic_ge dc_K_spreadDurations_42 rfl (fun hd1 => ?_) (fun hd1 => ?_)
    · exact hh
    · omega
  | succ m ih =>
    intro k i σ hi i0 hk hfr hd
    have hx := kk_fr ha hx0 hfr (fun b j h => by unfold sdW at h; omega)
    obtain ⟨v0, v1, v2, v3, v4, v5⟩ := kk_0 hx
    obtain ⟨hlo, hlt, htt, ⟨hKo, o1, o2, o3, o4, o5, o6, o7⟩, hkt, hrh, hkb⟩ := id hx
    have h9' : σ a 9 = SC_ F T f := (hfr a 9 (by unfold sdW; omega)).trans h9
    have erv : rv_ F (st_ T (f 0)) k = F (st_ T (f 0) + (2 + 2 * (r : Int))) := rv_at (fun i => (a5 i).1) hr (by omega) (by omega)
    refine wp_iload dc_K_spreadDurations_31 rfl (wp_aload_n dc_K_spreadDurations_33 rfl rfl (wi_getR dc_K_spreadDurations_34 lf_K_20 hKo rfl (wp_iload_n dc_K_spreadDurations_37 rfl rfl (wi_iconst dc_K_spreadDurations_38 ?_))))
    refine wp_callV (As := [_, _]) dc_K_spreadDurations_39 lm_K_77 ls_T_value (by decide) rfl rfl (hp_at _ o1) rfl rfl (Nat.le_of_ble_eq_true rfl) (Nat.le_refl _) (Nat.le_refl _) ?_
    refine c_T_value o1 hlo v3 v4 (show st_ T (f 0) + 1 + (r : Int) * 2 + 0 = st_ T (f 0) + (1 + 2 * (r : Int)) by omega) (by omega) (by omega) ?_
    refine wi_ic_ge dc_K_spreadDurations_42 rfl (fun hd1 => ?_) (fun hd1 => ?_)
    · omega
    refine wp_iload_n dc_K_spreadDurations_45 rfl rfl (wp_aload_n dc_K_spreadDurations_46 rfl rfl (wi_getE 9 ((SC_ F T f)) dc_K_spreadDurations_47 lf_K_51 hKo rfl rfl h9' ?_))
    refine wi_ic_ge dc_K_spreadDurations_50 rfl (fun hd2 => ?_) (fun hd2 => ?_)
    · omega
    refine wp_aload_n dc_K_spreadDurations_53 rfl rfl (wi_getR dc_K_spreadDurations_54 lf_K_48 hKo rfl (wi_bipush dc_K_spreadDurations_57 (wi_aald dc_K_spreadDurations_59 hG rfl rfl (by decide) (by decide) (by decide) (show _ = some (a + 15) from rfl) (wp_iload_n dc_K_spreadDurations_60 rfl rfl (wp_iload dc_K_spreadDurations_61 rfl (wi_ast dc_K_spreadDurations_63 g6 (by omega) (by omega) (by decide) (wp_aload_n dc_K_spreadDurations_64 rfl rfl (wi_getR dc_K_spreadDurations_65 lf_K_48 hKo rfl (wi_iconst dc_K_spreadDurations_68 (wi_aald dc_K_spreadDurations_69 hG rfl rfl (by decide) (by decide) (by decide) (show _ = some (a + 11) from rfl) (wp_iload_n dc_K_spreadDurations_70 rfl rfl (wp_iload_n dc_K_spreadDurations_71 rfl rfl (wi_ast dc_K_spreadDurations_72 g2 (by omega) (by omega) (by decide) ?_)))))))))))))
    refine wp_aload_n dc_K_spreadDurations_73 rfl rfl (wi_getR dc_K_spreadDurations_74 lf_K_48 hKo rfl (wi_iconst dc_K_spreadDurations_77 (wi_aald dc_K_spreadDurations_78 hG rfl rfl (by decide) (by decide) (by decide) (show _ = some (a + 12) from rfl) (wp_iload_n dc_K_spreadDurations_79 rfl rfl (wp_iload_n dc_K_spreadDurations_80 rfl rfl (wi_ast dc_K_spreadDurations_81 g3 (by omega) (by omega) (by decide) (wp_iload_n dc_K_spreadDurations_82 rfl rfl (wp_iload dc_K_spreadDurations_83 rfl ?_))))))))
    refine wi_iadd dc_K_spreadDurations_85 ?_
    rw [← erv]
    refine wp_is2 dc_K_spreadDurations_86 (wp_ii1 dc_K_spreadDurations_87 (wp_ii5 dc_K_spreadDurations_90 (wp_goto dc_K_spreadDurations_93 rfl ?_)))
    have nx := ih (k + 1) (i + 1) _ (by omega) (by omega) (by omega) (((hfr.up (Or.inr (Or.inr rfl))).up (Or.inl rfl)).up (Or.inr (Or.inl rfl)) : fr_ (sdW a) σ0 (up_ (up_ (up_ σ (a + 15) k (rv_ F (st_ T (f 0)) k)) (a + 11) k (dt_ F (st_ T (f 0)) k)) (a + 12) k (dt_ F (st_ T (f 0)) k))) (fun j hj => by
      by_cases e : j = k
      · subst e
        refine ⟨?_, ?_, ?_⟩
        · rw [up_n _ _ (by omega), up_n _ _ (by omega), up_s]
        · rw [up_n _ _ (by omega), up_s]
        · rw [up_s]
      · have := hd j (by omega)
        refine ⟨?_, ?_, ?_⟩
        · rw [up_n _ _ (by omega), up_n _ _ (by omega), up_n _ _ (by omega)]; exact this.1
        · rw [up_n _ _ (by omega), up_n _ _ (by omega), up_n _ _ (by omega)]; exact this.2.1
        · rw [up_n _ _ (by omega), up_n _ _ (by omega), up_n _ _ (by omega)]; exact this.2.2)
    rw [← erv] at nx
    exact nx
theorem lp_K_sd (ha : 12 ≤ a) (hg : kgo_ a) {σ0 : sg_} (hx0 : kk_ σ0 F n N T a b f) (h9 : σ0 a 9 = SC_ F T f) (hcn : CN_ F T f) (hK : ∀ σ', fr_ (sdW a) σ0 σ' → d1_ σ' F (st_ T (f 0)) a (SC_ F T f).toNat → K none (hp_ σ')) :
    ∀ (m r : Nat) (σ : sg_) (u4 u5 : Value), (r : Int) + m = F (st_ T (f 0)) → fr_ (sdW a) σ0 σ → d1_ σ F (st_ T (f 0)) a (ct_ F (st_ T (f 0)) r).toNat → wp_m l Y_K_spreadDurations none 0 0 6 [.ref a, .int (iI (ct_ F (st_ T (f 0)) r)), .int (iI (dt_ F (st_ T (f 0)) (ct_ F (st_ T (f 0)) r).toNat)), .int (iI (r : Int)), u4, u5] [] (hp_ σ) K := by
  have a5 := hx0.1.2.2.2.2
  have hs0 := a5 (st_ T (f 0))
  intro m
  induction m with
  | zero =>
    intro r σ u4 u5 hi hfr hd
    have hx := kk_fr ha hx0 hfr (fun b j h => by unfold sdW at h; omega)
    obtain ⟨v0, v1, v2, v3, v4, v5⟩ := kk_0 hx
    obtain ⟨hlo, hlt, htt, ⟨hKo, o1, o2, o3, o4, o5, o6, o7⟩, hkt, hrh, hkb⟩ := id hx
    have er : r = (F (st_ T (f 0))).toNat := by omega
    have e : ct_ F (st_ T (f 0)) r = SC_ F T f := by rw [er]; exact hcn.1
    refine wp_iload_n dc_K_spreadDurations_6 rfl rfl (wp_aload_n dc_K_spreadDurations_7 rfl rfl (wi_getR dc_K_spreadDurations_8 lf_K_20 hKo rfl ?_))
    refine wp_callV (As := []) dc_K_spreadDurations_11 lm_K_73 ls_T_rows (by decide) rfl rfl (hp_at _ o1) rfl rfl (Nat.le_of_ble_eq_true rfl) (Nat.le_refl _) (Nat.le_refl _) ?_
    refine c_T_rows o1 v5 ?_
    refine wi_ic_ge dc_K_spreadDurations_14 rfl (fun hd1 => ?_) (fun hd1 => ?_)
    · refine wp_return dc_K_spreadDurations_102 rfl (hK σ hfr (e ▸ hd))
    · omega
  | succ m ih =>
    intro r σ u4 u5 hi hfr hd
    have hx := kk_fr ha hx0 hfr (fun b j h => by unfold sdW at h; omega)
    obtain ⟨v0, v1, v2, v3, v4, v5⟩ := kk_0 hx
    obtain ⟨hlo, hlt, htt, ⟨hKo, o1, o2, o3, o4, o5, o6, o7⟩, hkt, hrh, hkb⟩ := id hx
    have hsr := a5 (st_ T (f 0) + (1 + 2 * (r : Int)))
    have pos : 0 ≤ ct_ F (st_ T (f 0)) r := (sm_rg (c := 255) (by omega) r (fun i _ => by have := a5 (st_ T (f 0) + (1 + 2 * (i : Int))); constructor <;> omega)).1
    refine wp_iload_n dc_K_spreadDurations_6 rfl rfl (wp_aload_n dc_K_spreadDurations_7 rfl rfl (wi_getR dc_K_spreadDurations_8 lf_K_20 hKo rfl ?_))
    refine wp_callV (As := []) dc_K_spreadDurations_11 lm_K_73 ls_T_rows (by decide) rfl rfl (hp_at _ o1) rfl rfl (Nat.le_of_ble_eq_true rfl) (Nat.le_refl _) (Nat.le_refl _) ?_
    refine c_T_rows o1 v5 ?_
    refine wi_ic_ge dc_K_spreadDurations_14 rfl (fun hd1 => ?_) (fun hd1 => ?_)
    · omega
    refine wp_aload_n dc_K_spreadDurations_17 rfl rfl (wi_getR dc_K_spreadDurations_18 lf_K_20 hKo rfl (wp_iload_n dc_K_spreadDurations_21 rfl rfl (wi_iconst dc_K_spreadDurations_22 ?_)))
    refine wp_callV (As := [_, _]) dc_K_spreadDurations_23 lm_K_77 ls_T_value (by decide) rfl rfl (hp_at _ o1) rfl rfl (Nat.le_of_ble_eq_true rfl) (Nat.le_refl _) (Nat.le_refl _) ?_
    refine c_T_value o1 hlo v3 v4 (show st_ T (f 0) + 1 + (r : Int) * 2 + 1 = st_ T (f 0) + (2 + 2 * (r : Int)) by omega) (by omega) (by omega) ?_
    refine wp_is4 dc_K_spreadDurations_26 (wi_iconst dc_K_spreadDurations_28 (wp_is5 dc_K_spreadDurations_29 ?_))
    have h := lp_K_sd1 (l := l) (K := K) ha hg hx0 h9 hcn r (by omega) (fun σ' u5 fr' hd' => by
      refine wp_ii3 dc_K_spreadDurations_96 (wp_goto dc_K_spreadDurations_99 rfl ?_)
      exact ih (r + 1) σ' _ u5 (by omega) fr' hd') (F (st_ T (f 0) + (1 + 2 * (r : Int)))).toNat (ct_ F (st_ T (f 0)) r).toNat 0 σ (by omega) (by omega) (by omega) hfr hd
    rw [show (((ct_ F (st_ T (f 0)) r).toNat : Nat) : Int) = ct_ F (st_ T (f 0)) r by omega] at h
    exact h
theorem c_K_spreadDurations (ha : 12 ≤ a) (hg : kgo_ a) (hx : kk_ σ F n N T a b f) (h9 : σ a 9 = SC_ F T f) (hcn : CN_ F T f) (hK : ∀ σ', fr_ (sdW a) σ σ' → d1_ σ' F (st_ T (f 0)) a (SC_ F T f).toNat → K none (hp_ σ')) : ct_m l Y_K_spreadDurations 0 0 [.ref a] (hp_ σ) K := by
  have hs0 := hx.1.2.2.2.2 (st_ T (f 0))
  refine ct_of (L := [.ref a, .retAddr 0, .retAddr 0, .retAddr 0, .retAddr 0, .retAddr 0]) (by decide +kernel) (Nat.le_of_ble_eq_true rfl) rfl ?_
  refine wi_iconst dc_K_spreadDurations_0 (wp_is1 dc_K_spreadDurations_1 (wi_iconst dc_K_spreadDurations_2 (wp_is2 dc_K_spreadDurations_3 (wi_iconst dc_K_spreadDurations_4 (wp_is3 dc_K_spreadDurations_5 ?_)))))
  exact lp_K_sd ha hg hx h9 hcn hK (F (st_ T (f 0))).toNat 0 σ _ _ (by omega) fr_.rf (fun i hi => absurd hi (Nat.not_lt_zero _))
end SP
