/-! fastStart: the class's measure, whole -/
section FE
variable {l : Launch} {K : Option Value → mx_H → Prop} {F W : Int → Int} {n N : Int} {T : px_T} {mi me : Int} {σ0 : sg_}
theorem lp_V_me1 (hlo0 : lo_ σ0 F n) (hlt0 : lt_ σ0 N T) (htt : tt_ n N T) (m0 : 0 ≤ mi) (hm : mi < me) (hme : me ≤ N) (h6 : σ0 45 6 = mi) (h7 : σ0 45 7 = me) (h48 : ∀ k, mi ≤ k → k < me → σ0 48 k = W k ∧ (W k = 0 ∨ W k = 1) ∧ (W k = 1 → 1 ≤ pl_ T k)) (hh : ∀ k, mi < k → k < me → mi ≤ T 5 k) (hmm : T 5 mi = -1) (hK : ∀ σ', fr_ msW σ0 σ' → (∀ k, mi ≤ k → k < me → σ' 49 k = np_ F T W mi me k ∧ σ' 50 k = hd_ T k (np_ F T W mi me k)) → K none (hp_ σ')) :
    ∀ (j : Nat) (i : Int) (σ : sg_), i + j = me → mi ≤ i → fr_ msW σ0 σ → (∀ k, mi ≤ k → k < i → σ 49 k = ow_ F T W k) → wp_m l Y_V_measure none 0 0 5 [.ref 45, .int (iI i), .retAddr 0] [] (hp_ σ) K := by
  have t2 := htt.2.1
  intro j
  induction j with
  | zero =>
    intro i σ hi i0 hfr h49
    have e7 := (hfr 45 7 (by unfold msW; omega)).trans h7
    refine wp_iload_n dc_V_measure_5 rfl rfl (wp_aload_n dc_V_measure_6 rfl rfl (wi_getE 7 (me) dc_V_measure_7 lf_V_40 sh_45 rfl rfl e7 ?_))
    refine wi_ic_ge dc_V_measure_10 rfl (fun hd => ?_) (fun hd => ?_)
    · refine wp_aload_n dc_V_measure_30 rfl rfl (wi_getE 7 (me) dc_V_measure_31 lf_V_40 sh_45 rfl rfl e7 (wi_iconst dc_V_measure_34 (wi_isub dc_V_measure_35 (wp_is1 dc_V_measure_36 ?_))))
      have h := lp_V_me2 (l := l) (K := K) (W := W) hlo0 hlt0 htt m0 hm hme h6 hh hmm hK (me - mi).toNat 0 σ (.retAddr 0) (by omega) hfr (fun k k0 k1 => h49 k k0 (by omega)) (fun k k0 k1 => by omega)
      rw [show me - 1 - ((0 : Nat) : Int) = me - 1 by omega] at h
      exact h
    · omega
  | succ j ih =>
    intro i σ hi i0 hfr h49
    have f12 : fr_ (fun b _ => 12 ≤ b) σ0 σ := hfr.mono (fun b _ h => by unfold msW at h; omega)
    obtain ⟨w1, w2, w3⟩ := h48 i i0 (by omega)
    refine wp_iload_n dc_V_measure_5 rfl rfl (wp_aload_n dc_V_measure_6 rfl rfl (wi_getE 7 (me) dc_V_measure_7 lf_V_40 sh_45 rfl rfl ((hfr 45 7 (by unfold msW; omega)).trans h7) ?_))
    refine wi_ic_ge dc_V_measure_10 rfl (fun hd => ?_) (fun hd => ?_)
    · omega
    refine wp_aload_n dc_V_measure_13 rfl rfl (wi_getR dc_V_measure_14 lf_V_29 sh_45 rfl (wp_iload_n dc_V_measure_17 rfl rfl (wp_aload_n dc_V_measure_18 rfl rfl (wp_iload_n dc_V_measure_19 rfl rfl ?_))))
    refine wp_callV (As := [_]) dc_V_measure_20 lm_V_89 ls_V_ownPayload (by decide) rfl rfl (hp_at _ sh_45) rfl rfl (Nat.le_of_ble_eq_true rfl) (Nat.le_refl _) (Nat.le_refl _) ?_
    refine c_V_ownPayload (lo_fr f12 hlo0) (lt_fr f12 hlt0) htt (by omega) (by omega) ((hfr 48 i (by unfold msW; omega)).trans w1) w2 w3 ?_
    refine wi_ast dc_V_measure_23 sh_49 (by omega) (by omega) (by decide) (wp_ii1 dc_V_measure_24 (wp_goto dc_V_measure_27 rfl ?_))
    refine ih (i + 1) _ (by omega) (by omega) (hfr.up (Or.inl rfl)) (fun k k0 k1 => ?_)
    by_cases e : k = i
    · rw [e, up_s]
    · rw [up_n _ _ (by omega)]; exact h49 k k0 (by omega)
theorem c_V_measure (hlo0 : lo_ σ0 F n) (hlt0 : lt_ σ0 N T) (htt : tt_ n N T) (m0 : 0 ≤ mi) (hm : mi < me) (hme : me ≤ N) (h6 : σ0 45 6 = mi) (h7 : σ0 45 7 = me) (h48 : ∀ k, mi ≤ k → k < me → σ0 48 k = W k ∧ (W k = 0 ∨ W k = 1) ∧ (W k = 1 → 1 ≤ pl_ T k)) (hh : ∀ k, mi < k → k < me → mi ≤ T 5 k) (hmm : T 5 mi = -1) (hK : ∀ σ', fr_ msW σ0 σ' → (∀ k, mi ≤ k → k < me → σ' 49 k = np_ F T W mi me k ∧ σ' 50 k = hd_ T k (np_ F T W mi me k)) → K none (hp_ σ')) : ct_m l Y_V_measure 0 0 [.ref 45] (hp_ σ0) K := by
  refine ct_of (L := [.ref 45, .retAddr 0, .retAddr 0]) (by decide +kernel) (Nat.le_of_ble_eq_true rfl) rfl ?_
  refine wp_aload_n dc_V_measure_0 rfl rfl (wi_getE 6 (mi) dc_V_measure_1 lf_V_36 sh_45 rfl rfl h6 (wp_is1 dc_V_measure_4 ?_))
  exact lp_V_me1 hlo0 hlt0 htt m0 hm hme h6 h7 h48 hh hmm hK (me - mi).toNat mi σ0 (by omega) (by omega) fr_.rf (fun k k0 k1 => by omega)
end FE
