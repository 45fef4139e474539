/-! fastStart -/
section FV
variable {l : Launch} {σ : sg_} {F : Int → Int} {n : Int}
theorem cv_0 (hF : ∀ i, 0 ≤ F i ∧ F i < 256) (hn : 0 ≤ n) (hz : cv_ F n = 0) : (px_ F n).1 = 0 ∧ KO_ (px_ F n).2.1 (px_ F n).2.2 ∧ AR_ F (px_ F n).2.2 (tc_ (px_ F n).2.1 (px_ F n).2.2) (tab_ (px_ F n).2.1 (px_ F n).2.2) ∧ AD_ F (px_ F n).2.1 (px_ F n).2.2 (tc_ (px_ F n).2.1 (px_ F n).2.2) (tab_ (px_ F n).2.1 (px_ F n).2.2) := by
  have cr := cv_rg hF hn
  have h : (px_ F n).1 = 0 := by
    by_cases h : (px_ F n).1 = 0
    · exact h
    · have := cr.2.2.mpr h; omega
  have h2 : KO_ (px_ F n).2.1 (px_ F n).2.2 := by
    by_cases h2 : KO_ (px_ F n).2.1 (px_ F n).2.2
    · exact h2
    · have := cv_B h h2; omega
  refine ⟨h, h2, ?_⟩
  by_cases a1 : AR_ F (px_ F n).2.2 (tc_ (px_ F n).2.1 (px_ F n).2.2) (tab_ (px_ F n).2.1 (px_ F n).2.2)
  · by_cases a2 : AC_ F (px_ F n).2.2 (tc_ (px_ F n).2.1 (px_ F n).2.2) (tab_ (px_ F n).2.1 (px_ F n).2.2)
    · by_cases a3 : AD_ F (px_ F n).2.1 (px_ F n).2.2 (tc_ (px_ F n).2.1 (px_ F n).2.2) (tab_ (px_ F n).2.1 (px_ F n).2.2)
      · exact ⟨a1, a3⟩
      · have := cv_C (v := 6) h h2 (Or.inr (Or.inr (Or.inl ⟨rfl, a1, a2, a3⟩))); omega
    · have := cv_C (v := 5) h h2 (Or.inr (Or.inl ⟨rfl, a1, a2⟩)); omega
  · have := cv_C (v := 4) h h2 (Or.inl ⟨rfl, a1⟩); omega
theorem op_fastStart (h : Inv_ σ) : op_ok l Inv_ Y_M_fastStart Y_R_fastStart [] σ := by
  obtain ⟨F, n, hf, h46, hs⟩ := id h
  have hF := fo_F hf
  have hn := hf.1
  have hn1 := hf.2.1
  have cr := cv_rg hF hn
  by_cases hz : cv_ F n = 0
  rotate_left
  · refine ⟨iI (-1), fun s => md_ s F n, fun K hK => ?_, fun s hs K hK => ?_⟩
    · refine ct_of (L := [.ref 0, .retAddr 0, .retAddr 0, .retAddr 0]) (by decide +kernel) (Nat.le_of_ble_eq_true rfl) rfl ?_
      refine wp_aload_n dc_M_fastStart_0 rfl rfl ?_
      refine wp_callV (As := []) dc_M_fastStart_1 lm_M_75 ls_M_look (by decide) rfl rfl (hp_at _ sh_0) rfl rfl (Nat.le_of_ble_eq_true rfl) (Nat.le_refl _) (Nat.le_refl _) ?_
      refine c_M_look (fo_lo hf) hs (fun σ' f1 h6 hc => ?_)
      refine wp_aload_n dc_M_fastStart_4 rfl rfl (wi_getE 5 ((cv_ F n)) dc_M_fastStart_5 lf_M_45 sh_0 rfl rfl (ca_5 hc) ?_)
      refine wi_if_eq dc_M_fastStart_8 rfl (fun hd => ?_) (fun hd => ?_)
      · omega
      refine wi_iconst dc_M_fastStart_11 ?_
      refine wp_ireturn dc_M_fastStart_12 rfl rfl (hK σ' (md_lk hf h46 f1 h6 hc))
    · refine ct_of (L := [.ref 51, .retAddr 0, .retAddr 0, .retAddr 0, .retAddr 0, .retAddr 0]) (by decide +kernel) (Nat.le_of_ble_eq_true rfl) rfl ?_
      refine wp_aload_n dc_R_fastStart_0 rfl rfl ?_
      refine wp_callV (As := []) dc_R_fastStart_1 lm_R_137 ls_R_check (by decide) rfl rfl (hp_at _ sh_51) rfl rfl (Nat.le_of_ble_eq_true rfl) (Nat.le_refl _) (Nat.le_refl _) ?_
      refine c_R_check (fo_ro hs.1) (fun σ' f1 _ _ => ?_)
      refine wp_is1 dc_R_fastStart_4 (wp_iload_n dc_R_fastStart_5 rfl rfl ?_)
      refine wi_if_le dc_R_fastStart_6 rfl (fun hd => ?_) (fun hd => ?_)
      · omega
      refine wi_iconst dc_R_fastStart_9 ?_
      refine wp_ireturn dc_R_fastStart_10 rfl rfl (hK σ' (md_ck hs f1))
  obtain ⟨z1, z2, z3, z4⟩ := cv_0 hF hn hz
  have htt := px_tt (F := F) (n := n) hF hn
  have hks := ks_can z2
  obtain ⟨me, hme⟩ := me_ex htt hks.1.1 hks.1.2.1
  obtain ⟨r0, hr⟩ := ff_ex (DT_ (px_ F n).2.2) htt.1
  have hx : fx_ F n (px_ F n).2.1 (px_ F n).2.2 (mi_ (px_ F n).2.1 (px_ F n).2.2) (tc_ (px_ F n).2.1 (px_ F n).2.2) (b_ (px_ F n).2.1 (px_ F n).2.2) (tab_ (px_ F n).2.1 (px_ F n).2.2) me := ⟨hF, hn1, htt, hks, z3, z4, hme⟩
  obtain ⟨u, hu⟩ := lf_ex (N := (px_ F n).2.1) (T := (px_ F n).2.2) (mi := mi_ (px_ F n).2.1 (px_ F n).2.2) (tc := tc_ (px_ F n).2.1 (px_ F n).2.2) (tab := tab_ (px_ F n).2.1 (px_ F n).2.2) (me := me) hF
  -- both halves, given what each leads to
  have cls : ∀ K : Option Value → mx_H → Prop, (∀ σ', md_ σ' F n → wp_m l Y_M_fastStart none 0 0 13 [.ref 0, .retAddr 0, .retAddr 0, .retAddr 0] [] (hp_ σ') K) → ct_m l Y_M_fastStart 0 0 [.ref 0] (hp_ σ) K := fun K hK => by
    refine ct_of (L := [.ref 0, .retAddr 0, .retAddr 0, .retAddr 0]) (by decide +kernel) (Nat.le_of_ble_eq_true rfl) rfl ?_
    refine wp_aload_n dc_M_fastStart_0 rfl rfl ?_
    refine wp_callV (As := []) dc_M_fastStart_1 lm_M_75 ls_M_look (by decide) rfl rfl (hp_at _ sh_0) rfl rfl (Nat.le_of_ble_eq_true rfl) (Nat.le_refl _) (Nat.le_refl _) ?_
    refine c_M_look (fo_lo hf) hs (fun σ' f1 h6 hc => ?_)
    refine wp_aload_n dc_M_fastStart_4 rfl rfl (wi_getE 5 ((cv_ F n)) dc_M_fastStart_5 lf_M_45 sh_0 rfl rfl (ca_5 hc) ?_)
    refine wi_if_eq dc_M_fastStart_8 rfl (fun hd => ?_) (fun hd => ?_)
    · exact hK σ' (md_lk hf h46 f1 h6 hc)
    · omega
  have ref : ∀ (s : sg_) (K : Option Value → mx_H → Prop), ro_ s F n → (∀ σ', fr_ ckW s σ' → ry_ σ' F n (px_ F n).2.1 (px_ F n).2.2 (mi_ (px_ F n).2.1 (px_ F n).2.2) (tc_ (px_ F n).2.1 (px_ F n).2.2) (b_ (px_ F n).2.1 (px_ F n).2.2) (tab_ (px_ F n).2.1 (px_ F n).2.2) → wp_m l Y_R_fastStart none 0 0 11 [.ref 51, .int (iI 0), .retAddr 0, .retAddr 0, .retAddr 0, .retAddr 0] [] (hp_ σ') K) → ct_m l Y_R_fastStart 0 0 [.ref 51] (hp_ s) K := fun s K hro hK => by
    refine ct_of (L := [.ref 51, .retAddr 0, .retAddr 0, .retAddr 0, .retAddr 0, .retAddr 0]) (by decide +kernel) (Nat.le_of_ble_eq_true rfl) rfl ?_
    refine wp_aload_n dc_R_fastStart_0 rfl rfl ?_
    refine wp_callV (As := []) dc_R_fastStart_1 lm_R_137 ls_R_check (by decide) rfl rfl (hp_at _ sh_51) rfl rfl (Nat.le_of_ble_eq_true rfl) (Nat.le_refl _) (Nat.le_refl _) ?_
    refine c_R_check hro (fun σ' f1 _ hq => ?_)
    obtain ⟨_, _, _, q4, q5⟩ := hq hz
    rw [hz]
    refine wp_is1 dc_R_fastStart_4 (wp_iload_n dc_R_fastStart_5 rfl rfl ?_)
    refine wi_if_le dc_R_fastStart_6 rfl (fun hd => ?_) (fun hd => ?_)
    · exact hK σ' f1 ⟨hro.fr f1 (by unfold ckW rdW kwW; omega) (fun j => by unfold ckW rdW kwW; omega), q4, q5⟩
    · omega
  generalize hN : (px_ F n).2.1 = N at *
  generalize hT : (px_ F n).2.2 = T at *
  by_cases hb : r0 < 0 ∨ mi_ N T < r0
  · refine ⟨iI (T 1 (mi_ N T)), fun s => md_ s F n, fun K hK => ?_, fun s hs K hK => ?_⟩
    · refine cls K (fun σ' hm => ?_)
      have hlt := hm.2.2.2.1
      rw [hN, hT] at hlt
      exact fm_13 hx hu (fo_lo hm.1) hlt hm.2.1 hr (fun _ => hK σ' hm) (fun q1 q2 => by omega) (fun q1 q2 => by omega)
    · exact ref s K (fo_ro hs.1) (fun σ' f1 hy => rf_11 hx hu hy hr (fun _ => hK σ' (md_ck hs f1)) (fun q1 q2 => by omega) (fun q1 q2 => by omega))
  by_cases hc : n - T 1 (mi_ N T) + nL_ F T (mi_ N T) (tc_ N T) (tab_ N T) me u > 1000
  · refine ⟨iI (-2), fun s => fo_ s F n ∧ (0 ≤ s 46 1 ∧ s 46 1 ≤ 1000) ∧ s 0 6 = 1, fun K hK => ?_, fun s hs K hK => ?_⟩
    · refine cls K (fun σ' hm => ?_)
      have hlt := hm.2.2.2.1
      rw [hN, hT] at hlt
      refine fm_13 hx hu (fo_lo hm.1) hlt hm.2.1 hr (fun q => absurd q hb) (fun q1 q2 q3 σ2 f2 => hK _ ⟨?_, ?_, up_s _ _ _ _⟩) (fun q1 q2 q3 => by omega)
      · exact fo_fr (P := fun b j => mvV b j ∨ (b = 0 ∧ j = 6)) hm.1 ((f2.mono (fun b j q => Or.inl q)).up (Or.inr ⟨rfl, rfl⟩)) (by unfold mvV; omega) (fun j => by unfold mvV; omega) (by unfold mvV; omega) (fun j => by unfold mvV; omega)
      · rw [up_n _ _ (by omega), f2 46 1 (by unfold mvV; omega)]
        exact hm.2.1
    · refine ref s K (fo_ro hs.1) (fun σ' f1 hy => rf_11 hx hu hy hr (fun q => absurd q hb) (fun q1 q2 q3 σ2 f2 => hK σ2 ⟨F, n, ?_, ?_, Or.inl ?_⟩) (fun q1 q2 q3 => by omega))
      · exact fo_fr (fo_fr hs.1 f1 (by unfold ckW rdW kwW; omega) (fun j => by unfold ckW rdW kwW; omega) (by unfold ckW rdW kwW; omega) (fun j => by unfold ckW rdW kwW; omega)) f2 (by unfold lyW; omega) (fun j => by unfold lyW; omega) (by unfold lyW; omega) (fun j => by unfold lyW; omega)
      · rw [f2 46 1 (by unfold lyW; omega), f1 46 1 (by unfold ckW rdW kwW; omega)]
        exact hs.2.1
      · rw [f2 0 6 (by unfold lyW; omega), f1 0 6 (by unfold ckW rdW kwW; omega)]
        exact hs.2.2
  · have m := fx_mi hx
    have bm := htt.2.2.1 _ m.1 m.2.2.2.2.1
    unfold bx_ at bm
    refine ⟨iI (nL_ F T (mi_ N T) (tc_ N T) (tab_ N T) me u), fun s => ro_ s F n ∧ s 1 1 = ((rl_ F n N T (mi_ N T) (tc_ N T) (tab_ N T) me u (T 0 r0)).length : Int) ∧ gs_ (rl_ F n N T (mi_ N T) (tc_ N T) (tab_ N T) me u (T 0 r0)) (s 2) ∧ s 46 1 = ((rl_ F n N T (mi_ N T) (tc_ N T) (tab_ N T) me u (T 0 r0)).length : Int) ∧ s 0 6 = 1, fun K hK => ?_, fun s hs K hK => ?_⟩
    · refine cls K (fun σ' hm => ?_)
      have hlt := hm.2.2.2.1
      rw [hN, hT] at hlt
      refine fm_13 hx hu (fo_lo hm.1) hlt hm.2.1 hr (fun q => absurd q hb) (fun q1 q2 q3 => by omega) (fun q1 q2 q3 σ2 f2 g1 g2 g3 => hK _ ⟨?_, ?_, ?_, ?_, up_s _ _ _ _⟩)
      · exact (fo_ro hm.1).fr (P := fun b j => mvW b j ∨ (b = 0 ∧ j = 6)) ((f2.mono (fun b j q => Or.inl q)).up (Or.inr ⟨rfl, rfl⟩)) (by unfold mvW; omega) (fun j => by unfold mvW; omega)
      · rw [up_n _ _ (by omega)]; exact g1
      · exact gs_congr g2 (fun i hi => by rw [up_n _ _ (by omega)])
      · rw [up_n _ _ (by omega)]; exact g3
    · obtain ⟨s1, s2, s3, s4, s5⟩ := hs
      refine ref s K s1 (fun σ' f1 hy => rf_11 hx hu hy hr (fun q => absurd q hb) (fun q1 q2 q3 => by omega) (fun q1 q2 q3 σ2 σ3 f2 f3 g1 g2 => hK σ3 ?_))
      have br := htt.2.2.1 r0 q1 (by omega)
      unfold bx_ at br
      have hdt : DT_ T r0 := by
        rcases hr with h | h
        · omega
        · exact h.2.2.1
      have ord := htt.2.2.2.2 r0 (mi_ N T) q1 q2 (by omega) hdt.1 m.2.2.2.2.2.1
      have hrl := rl_len hx (w := u) (a := T 0 r0) (by omega) (by omega)
      have hrb := rl_bk hx (w := u) (a := T 0 r0) hu.2.1 (by omega)
      have e : ∀ b j, ¬ ckW b j → ¬ lyW b j → ¬ wrW b j → σ3 b j = s b j := fun b j c1 c2 c3 => by rw [f3 b j c3, f2 b j c2, f1 b j c1]
      have e2 : ∀ j, σ3 2 j = s 2 j := fun j => e 2 j (by unfold ckW rdW kwW; omega) (by unfold lyW; omega) (by unfold wrW; omega)
      have e46 : σ3 46 1 = s 46 1 := e 46 1 (by unfold ckW rdW kwW; omega) (by unfold lyW; omega) (by unfold wrW; omega)
      refine ⟨fun i => if 0 ≤ i ∧ i < ((rl_ F n N T (mi_ N T) (tc_ N T) (tab_ N T) me u (T 0 r0)).length : Int) then σ3 2 i else 0, ((rl_ F n N T (mi_ N T) (tc_ N T) (tab_ N T) me u (T 0 r0)).length : Int), ⟨by omega, by omega, ?_, g1, fun i i0 i1 => ?_, fun i hi => if_neg hi⟩, ?_, Or.inl ?_⟩
      · rw [e 1 1 (by unfold ckW rdW kwW; omega) (by unfold lyW; omega) (by unfold wrW; omega)]
        exact s2
      · dsimp only
        rw [if_pos (show 0 ≤ i ∧ i < ((rl_ F n N T (mi_ N T) (tc_ N T) (tab_ N T) me u (T 0 r0)).length : Int) from ⟨i0, i1⟩)]
        have a1 := s3 i.toNat (by omega)
        have a2 := g2 i.toNat (by omega)
        rw [show ((i.toNat : Nat) : Int) = i by omega] at a1 a2
        have bb := bk_gs hrb s3 i0 i1
        rw [a1] at a2
        have a3 : s 2 i = σ3 52 i := Option.some.inj a2
        rw [e2, ← a3]
        exact ⟨rfl, rfl, bb⟩
      · rw [e46, s4]
        omega
      · rw [e 0 6 (by unfold ckW rdW kwW; omega) (by unfold lyW; omega) (by unfold wrW; omega)]
        exact s5
end FV
theorem op_thm (l : Launch) : op_all l Inv_ := op_but l (fun _ h => op_fastStart h)
