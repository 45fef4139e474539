/-! check, boxes, box, tracks on both sides -/
def md_ (σ : sg_) (F : Int → Int) (n : Int) : Prop := fo_ σ F n ∧ (0 ≤ σ 46 1 ∧ σ 46 1 ≤ 1000) ∧ σ 0 6 = 0 ∧ ca_ σ F n
section QA
variable {l : Launch} {σ σ' : sg_} {K : Option Value → mx_H → Prop} {F : Int → Int} {n p q x : Int}
theorem fo_F (h : fo_ σ F n) : ∀ i, 0 ≤ F i ∧ F i < 256 := fun i => by
  by_cases hi : 0 ≤ i ∧ i < n
  · exact (h.2.2.2.2.1 i hi.1 hi.2).2.2
  · rw [h.2.2.2.2.2 i hi]; omega
theorem fo_lo (h : fo_ σ F n) : lo_ σ F n := ⟨h.1, h.2.1, h.2.2.1, fun i i0 i1 => (h.2.2.2.2.1 i i0 i1).1, fo_F h⟩
theorem fo_ro (h : fo_ σ F n) : ro_ σ F n := ⟨h.1, h.2.1, h.2.2.2.1, fun i i0 i1 => (h.2.2.2.2.1 i i0 i1).2.1, fo_F h⟩
theorem fo_fr {P : Nat → Int → Prop} (h : fo_ σ F n) (hf : fr_ P σ σ') (h1 : ¬ P 1 1) (h2 : ∀ j, ¬ P 2 j) (h3 : ¬ P 51 1) (h4 : ∀ j, ¬ P 52 j) : fo_ σ' F n := by
  obtain ⟨a1, a2, a3, a4, a5, a6⟩ := h
  refine ⟨a1, a2, (hf 1 1 h1).trans a3, (hf 51 1 h3).trans a4, fun i i0 i1 => ?_, a6⟩
  rw [hf 2 i (h2 i), hf 52 i (h4 i)]
  exact a5 i i0 i1
theorem ca_fr {P : Nat → Int → Prop} (h : ca_ σ F n) (hf : fr_ P σ σ') (hP : ∀ b j, P b j → 45 ≤ b) (hF : ∀ i, 0 ≤ F i ∧ F i < 256) (hn : 0 ≤ n) : ca_ σ' F n := by
  have e : ∀ b j, b < 45 → σ' b j = σ b j := fun b j hb => hf b j (fun q => by have := hP b j q; omega)
  obtain ⟨h1, h2⟩ := h
  refine ⟨⟨(e 3 2 (by omega)).trans h1.1, fun c i c0 i0 i1 => (e (5 + c) i (by omega)).trans (h1.2.1 c i c0 i0 i1), fun i i0 i1 => (e 11 i (by omega)).trans (h1.2.2 i i0 i1)⟩, ?_⟩
  rw [e 0 5 (by omega), e 0 4 (by omega)]
  rcases h2 with h | h | ⟨g1, g2, g3, g4, g5⟩
  · exact Or.inl h
  · exact Or.inr (Or.inl h)
  · refine Or.inr (Or.inr ⟨g1, g2, g3, g4, fun hv t t0 t1 => ?_⟩)
    have htc := (ks_can g2).2.1.1
    have hta := ta_c t0 (show t < 2 by omega)
    obtain ⟨k1, k2⟩ := g5 hv t t0 t1
    exact ⟨bdk_fr hf (fun b k q1 q2 q => by have := hP b k q; omega) k1, cx_fr hf (fun b k q1 q2 q => by have := hP b k q; omega) k2⟩
theorem ca_5 (h : ca_ σ F n) : σ 0 5 = cv_ F n := by
  obtain ⟨h1, h2⟩ := h
  rcases h2 with ⟨g1, g2, g3⟩ | ⟨g1, g2, g3, g4⟩ | ⟨g1, g2, g3, g4, g5⟩
  · rw [cv_A g1, g2]
  · rw [cv_B g1 g2, g3]
  · rw [cv_C g1 g2 g4]
theorem md_lk (h : fo_ σ F n) (h46 : 0 ≤ σ 46 1 ∧ σ 46 1 ≤ 1000) (hf : fr_ lkW σ σ') (h6 : σ' 0 6 = 0) (hc : ca_ σ' F n) : md_ σ' F n := by
  refine ⟨fo_fr h hf (by unfold lkW rdL; omega) (fun j => by unfold lkW rdL; omega) (by unfold lkW rdL; omega) (fun j => by unfold lkW rdL; omega), ?_, h6, hc⟩
  rw [hf 46 1 (by unfold lkW rdL; omega)]
  exact h46
theorem md_ck (h : md_ σ F n) (hf : fr_ ckW σ σ') : Inv_ σ' := by
  obtain ⟨h1, h2, h3, h4⟩ := h
  refine ⟨F, n, fo_fr h1 hf (by unfold ckW rdW kwW; omega) (fun j => by unfold ckW rdW kwW; omega) (by unfold ckW rdW kwW; omega) (fun j => by unfold ckW rdW kwW; omega), ?_, Or.inr ⟨?_, ca_fr h4 hf (fun b j q => by unfold ckW rdW kwW at q; omega) (fo_F h1) h1.1⟩⟩
  · rw [hf 46 1 (by unfold ckW rdW kwW; omega)]; exact h2
  · rw [hf 0 6 (by unfold ckW rdW kwW; omega)]; exact h3
theorem cv_rg (hF : ∀ i, 0 ≤ F i ∧ F i < 256) (hn : 0 ≤ n) : 0 ≤ cv_ F n ∧ cv_ F n ≤ 6 ∧ ((cv_ F n = 1 ∨ cv_ F n = 2) ↔ ¬ (px_ F n).1 = 0) := by
  have pf := px_f hF hn
  by_cases h : (px_ F n).1 = 0
  · by_cases h2 : KO_ (px_ F n).2.1 (px_ F n).2.2
    · have : ∃ v, vt_ F (px_ F n).2.1 (px_ F n).2.2 (tc_ (px_ F n).2.1 (px_ F n).2.2) (tab_ (px_ F n).2.1 (px_ F n).2.2) v := by
        by_cases a1 : AR_ F (px_ F n).2.2 (tc_ (px_ F n).2.1 (px_ F n).2.2) (tab_ (px_ F n).2.1 (px_ F n).2.2)
        · by_cases a2 : AC_ F (px_ F n).2.2 (tc_ (px_ F n).2.1 (px_ F n).2.2) (tab_ (px_ F n).2.1 (px_ F n).2.2)
          · by_cases a3 : AD_ F (px_ F n).2.1 (px_ F n).2.2 (tc_ (px_ F n).2.1 (px_ F n).2.2) (tab_ (px_ F n).2.1 (px_ F n).2.2)
            · exact ⟨0, Or.inr (Or.inr (Or.inr ⟨rfl, a1, a2, a3⟩))⟩
            · exact ⟨6, Or.inr (Or.inr (Or.inl ⟨rfl, a1, a2, a3⟩))⟩
          · exact ⟨5, Or.inr (Or.inl ⟨rfl, a1, a2⟩)⟩
        · exact ⟨4, Or.inl ⟨rfl, a1⟩⟩
      obtain ⟨v, hv⟩ := this
      rw [cv_C h h2 hv]
      rcases hv with g | g | g | g <;> omega
    · rw [cv_B h h2]; omega
  · rw [cv_A h]; omega
/-- the reference's check, whatever the file -/
theorem c_R_check (hro : ro_ σ F n) (hK : ∀ σ', fr_ ckW σ σ' → rt_ σ' (px_ F n).2.1 (px_ F n).2.2 → (cv_ F n = 0 → (px_ F n).1 = 0 ∧ KO_ (px_ F n).2.1 (px_ F n).2.2 ∧ vt_ F (px_ F n).2.1 (px_ F n).2.2 (tc_ (px_ F n).2.1 (px_ F n).2.2) (tab_ (px_ F n).2.1 (px_ F n).2.2) 0 ∧ rs_ σ' (px_ F n).2.1 (px_ F n).2.2 (mi_ (px_ F n).2.1 (px_ F n).2.2) (tc_ (px_ F n).2.1 (px_ F n).2.2) (b_ (px_ F n).2.1 (px_ F n).2.2) (tab_ (px_ F n).2.1 (px_ F n).2.2) ∧ hm_ σ' F (px_ F n).2.1 (px_ F n).2.2 (tc_ (px_ F n).2.1 (px_ F n).2.2) (tab_ (px_ F n).2.1 (px_ F n).2.2)) → K (some (.int (iI (cv_ F n)))) (hp_ σ')) : ct_m l Y_R_check 0 0 [.ref 51] (hp_ σ) K := by
  have cr := cv_rg hro.2.2.2.2 hro.1
  by_cases h : (px_ F n).1 = 0
  · by_cases h2 : KO_ (px_ F n).2.1 (px_ F n).2.2
    · refine c_R_checkC hro rfl rfl h (ks_can h2) (fun σ' v hf hrs hv hm => ?_)
      have e := cv_C h h2 hv
      have := hK σ' hf hrs.1 (fun hz => by
        obtain rfl : v = 0 := by rw [← e]; exact hz
        exact ⟨h, h2, hv, hrs, hm rfl⟩)
      rw [e] at this
      exact this
    · refine c_R_checkB hro h h2 (fun σ' hf hr => ?_)
      have e := cv_B h h2
      have := hK σ' hf hr (fun hz => by omega)
      rw [e] at this
      exact this
  · refine c_R_checkA hro h (fun σ' hf hr => ?_)
    have e := cv_A h
    have := hK σ' hf hr (fun hz => by omega)
    rw [e] at this
    exact this
theorem op_check (h : Inv_ σ) : op_ok l Inv_ Y_M_check Y_R_check [] σ := by
  obtain ⟨F, n, hf, h46, hs⟩ := id h
  refine ⟨iI (cv_ F n), fun s => md_ s F n, fun K hK => ?_, fun s hs K hK => ?_⟩
  · refine ct_of (L := [.ref 0]) (by decide +kernel) (Nat.le_of_ble_eq_true rfl) rfl ?_
    refine wp_aload_n dc_M_check_0 rfl rfl ?_
    refine wp_callV (As := []) dc_M_check_1 lm_M_75 ls_M_look (by decide) rfl rfl (hp_at _ sh_0) rfl rfl (Nat.le_of_ble_eq_true rfl) (Nat.le_refl _) (Nat.le_refl _) ?_
    refine c_M_look (fo_lo hf) hs (fun σ' f1 h6 hc => ?_)
    refine wp_aload_n dc_M_check_4 rfl rfl (wi_getE 5 ((cv_ F n)) dc_M_check_5 lf_M_45 sh_0 rfl rfl (ca_5 hc) ?_)
    refine wp_ireturn dc_M_check_8 rfl rfl (hK σ' (md_lk hf h46 f1 h6 hc))
  · exact c_R_check (fo_ro hs.1) (fun σ' f1 _ _ => hK σ' (md_ck hs f1))
theorem c_M_boxesAreKnown (hF : ∀ i, 0 ≤ F i ∧ F i < 256) (hn : 0 ≤ n) (h5 : σ 0 5 = cv_ F n) (h1 : (px_ F n).1 = 0 → K (some (.int (iI 1))) (hp_ σ)) (h0 : ¬ (px_ F n).1 = 0 → K (some (.int (iI 0))) (hp_ σ)) : ct_m l Y_M_boxesAreKnown 0 0 [.ref 0] (hp_ σ) K := by
  obtain ⟨c1, c2, c3⟩ := cv_rg hF hn
  have bad : ¬ (px_ F n).1 = 0 → wp_m l Y_M_boxesAreKnown none 0 0 20 [.ref 0] [] (hp_ σ) K := fun h => by
    refine wi_iconst dc_M_boxesAreKnown_20 ?_
    refine wp_ireturn dc_M_boxesAreKnown_21 rfl rfl (h0 h)
  refine ct_of (L := [.ref 0]) (by decide +kernel) (Nat.le_of_ble_eq_true rfl) rfl ?_
  refine wp_aload_n dc_M_boxesAreKnown_0 rfl rfl (wi_getE 5 ((cv_ F n)) dc_M_boxesAreKnown_1 lf_M_45 sh_0 rfl rfl h5 (wi_iconst dc_M_boxesAreKnown_4 ?_))
  refine wi_ic_eq dc_M_boxesAreKnown_5 rfl (fun hd => ?_) (fun hd => ?_)
  · exact bad (c3.mp (Or.inl hd))
  refine wp_aload_n dc_M_boxesAreKnown_8 rfl rfl (wi_getE 5 ((cv_ F n)) dc_M_boxesAreKnown_9 lf_M_45 sh_0 rfl rfl h5 (wi_iconst dc_M_boxesAreKnown_12 ?_))
  refine wi_ic_eq dc_M_boxesAreKnown_13 rfl (fun he => ?_) (fun he => ?_)
  · exact bad (c3.mp (Or.inr he))
  refine wi_iconst dc_M_boxesAreKnown_16 (wp_goto dc_M_boxesAreKnown_17 rfl ?_)
  have hz : (px_ F n).1 = 0 := by
    by_cases h : (px_ F n).1 = 0
    · exact h
    · have := c3.mpr h; omega
  refine wp_ireturn dc_M_boxesAreKnown_21 rfl rfl (h1 hz)
theorem op_boxes (h : Inv_ σ) : op_ok l Inv_ Y_M_boxes Y_R_boxes [] σ := by
  obtain ⟨F, n, hf, h46, hs⟩ := id h
  have hF := fo_F hf
  have pf := px_f hF hf.1
  refine ⟨iI (if (px_ F n).1 = 0 then (px_ F n).2.1 else -1000), fun s => md_ s F n, fun K hK => ?_, fun s hs K hK => ?_⟩
  · refine ct_of (L := [.ref 0]) (by decide +kernel) (Nat.le_of_ble_eq_true rfl) rfl ?_
    refine wp_aload_n dc_M_boxes_0 rfl rfl ?_
    refine wp_callV (As := []) dc_M_boxes_1 lm_M_75 ls_M_look (by decide) rfl rfl (hp_at _ sh_0) rfl rfl (Nat.le_of_ble_eq_true rfl) (Nat.le_refl _) (Nat.le_refl _) ?_
    refine c_M_look (fo_lo hf) hs (fun σ' f1 h6 hc => ?_)
    have hm := md_lk hf h46 f1 h6 hc
    have hk := hK σ' hm
    refine wp_aload_n dc_M_boxes_4 rfl rfl ?_
    refine wp_callV (As := []) dc_M_boxes_5 lm_M_78 ls_M_boxesAreKnown (by decide) rfl rfl (hp_at _ sh_0) rfl rfl (Nat.le_of_ble_eq_true rfl) (Nat.le_refl _) (Nat.le_refl _) ?_
    refine c_M_boxesAreKnown hF hf.1 (ca_5 hc) (fun hz => ?_) (fun hz => ?_)
    · rw [if_pos hz] at hk
      refine wi_if_eq dc_M_boxes_8 rfl (fun hd => ?_) (fun hd => ?_)
      · omega
      refine wp_aload_n dc_M_boxes_11 rfl rfl (wi_getR dc_M_boxes_12 lf_M_21 sh_0 rfl ?_)
      refine wp_callV (As := []) dc_M_boxes_15 lm_M_82 ls_L_size (by decide) rfl rfl (hp_at _ sh_3) rfl rfl (Nat.le_of_ble_eq_true rfl) (Nat.le_refl _) (Nat.le_refl _) ?_
      refine c_L_size ?_
      rw [hc.1.1]
      refine wp_goto dc_M_boxes_18 rfl ?_
      refine wp_ireturn dc_M_boxes_24 rfl rfl hk
    · rw [if_neg hz] at hk
      refine wi_if_eq dc_M_boxes_8 rfl (fun hd => ?_) (fun hd => ?_)
      rotate_left
      · omega
      refine wi_sipush dc_M_boxes_21 ?_
      refine wp_ireturn dc_M_boxes_24 rfl rfl hk
  · refine ct_of (L := [.ref 51, .retAddr 0]) (by decide +kernel) (Nat.le_of_ble_eq_true rfl) rfl ?_
    refine wp_aload_n dc_R_boxes_0 rfl rfl ?_
    refine wp_callV (As := []) dc_R_boxes_1 lm_R_75 ls_R_read (by decide) rfl rfl (hp_at _ sh_51) rfl rfl (Nat.le_of_ble_eq_true rfl) (Nat.le_refl _) (Nat.le_refl _) ?_
    refine c_R_read (fo_ro hs.1) (fun σ' f1 hr => ?_)
    have hk := hK σ' (md_ck hs (f1.mono (fun b j h => Or.inl h)))
    refine wp_is1 dc_R_boxes_4 (wp_iload_n dc_R_boxes_5 rfl rfl ?_)
    refine wi_if_le dc_R_boxes_6 rfl (fun hd => ?_) (fun hd => ?_)
    · rw [if_pos (by omega)] at hk
      refine wp_aload_n dc_R_boxes_15 rfl rfl (wi_getE 2 ((px_ F n).2.1) dc_R_boxes_16 lf_R_64 sh_51 rfl rfl hr.1 ?_)
      refine wp_ireturn dc_R_boxes_19 rfl rfl hk
    · rw [if_neg (by omega)] at hk
      refine wi_sipush dc_R_boxes_9 (wp_goto dc_R_boxes_12 rfl ?_)
      refine wp_ireturn dc_R_boxes_19 rfl rfl hk
theorem op_box (h : Inv_ σ) (x0 x1 : Int32) : op_ok l Inv_ Y_M_box Y_R_box [.int x0, .int x1] σ := by
  obtain ⟨F, n, hf, h46, hs⟩ := id h
  obtain ⟨p, hp, rfl⟩ := iI_of x0
  obtain ⟨q, hq, rfl⟩ := iI_of x1
  have hF := fo_F hf
  have pf := px_f hF hf.1
  have htt := px_tt hF hf.1
  have t1 := htt.1
  have t2 := htt.2.1
  refine ⟨iI (if (px_ F n).1 = 0 ∧ 0 ≤ p ∧ p < (px_ F n).2.1 ∧ 0 ≤ q ∧ q ≤ 5 then (px_ F n).2.2 q.toNat p else -1000), fun s => md_ s F n, fun K hK => ?_, fun s hs K hK => ?_⟩
  · refine ct_of (L := [.ref 0, .int (iI p), .int (iI q)]) (by decide +kernel) (Nat.le_of_ble_eq_true rfl) rfl ?_
    refine wp_aload_n dc_M_box_0 rfl rfl ?_
    refine wp_callV (As := []) dc_M_box_1 lm_M_75 ls_M_look (by decide) rfl rfl (hp_at _ sh_0) rfl rfl (Nat.le_of_ble_eq_true rfl) (Nat.le_refl _) (Nat.le_refl _) ?_
    refine c_M_look (fo_lo hf) hs (fun σ' f1 h6 hc => ?_)
    have hm := md_lk hf h46 f1 h6 hc
    have hk := hK σ' hm
    have no : ¬ ((px_ F n).1 = 0 ∧ 0 ≤ q ∧ q ≤ 5) → wp_m l Y_M_box none 0 0 20 [.ref 0, .int (iI p), .int (iI q)] [] (hp_ σ') K := fun hn => by
      rw [if_neg (by omega)] at hk
      refine wi_sipush dc_M_box_20 ?_
      refine wp_ireturn dc_M_box_23 rfl rfl hk
    refine wp_aload_n dc_M_box_4 rfl rfl ?_
    refine wp_callV (As := []) dc_M_box_5 lm_M_78 ls_M_boxesAreKnown (by decide) rfl rfl (hp_at _ sh_0) rfl rfl (Nat.le_of_ble_eq_true rfl) (Nat.le_refl _) (Nat.le_refl _) ?_
    refine c_M_boxesAreKnown hF hf.1 (ca_5 hc) (fun hz => ?_) (fun hz => ?_)
    rotate_left
    · refine wi_if_eq dc_M_box_8 rfl (fun hd => ?_) (fun hd => ?_)
      · exact no (fun g => hz g.1)
      · omega
    refine wi_if_eq dc_M_box_8 rfl (fun hd => ?_) (fun hd => ?_)
    · omega
    refine wp_iload_n dc_M_box_11 rfl rfl ?_
    refine wi_if_lt dc_M_box_12 rfl (fun he => ?_) (fun he => ?_)
    · exact no (by omega)
    refine wp_iload_n dc_M_box_15 rfl rfl (wi_iconst dc_M_box_16 ?_)
    refine wi_ic_le dc_M_box_17 rfl (fun hg => ?_) (fun hg => ?_)
    rotate_left
    · exact no (by omega)
    refine wp_aload_n dc_M_box_24 rfl rfl (wi_getR dc_M_box_25 lf_M_21 sh_0 rfl (wp_iload_n dc_M_box_28 rfl rfl (wp_iload_n dc_M_box_29 rfl rfl ?_)))
    refine wp_callV (As := [_, _]) dc_M_box_30 lm_M_83 ls_L_of (by decide) rfl rfl (hp_at _ sh_3) rfl rfl (Nat.le_of_ble_eq_true rfl) (Nat.le_refl _) (Nat.le_refl _) ?_
    have hk' : K (some (.int (iI (at_ (σ' (5 + q.toNat)) (σ' 3 2) p)))) (hp_ σ') := by
      rw [hc.1.1]
      by_cases hr : 0 ≤ p ∧ p < (px_ F n).2.1
      · rw [if_pos (by omega)] at hk
        rw [at_in hr.1 hr.2, hc.1.2.1 q.toNat p (by omega) hr.1 hr.2]
        exact hk
      · rw [if_neg (by omega)] at hk
        rw [at_out hr]
        exact hk
    have eq : iI q = iI ((q.toNat : Nat) : Int) := by congr 1; omega
    rw [eq]
    refine c_L_of (c := q.toNat) (by omega) (by rw [hc.1.1]; omega) (by rw [hc.1.1]; omega) hp ?_
    refine wp_ireturn dc_M_box_33 rfl rfl hk'
  · refine ct_of (L := [.ref 51, .int (iI p), .int (iI q), .retAddr 0]) (by decide +kernel) (Nat.le_of_ble_eq_true rfl) rfl ?_
    refine wp_aload_n dc_R_box_0 rfl rfl ?_
    refine wp_callV (As := []) dc_R_box_1 lm_R_75 ls_R_read (by decide) rfl rfl (hp_at _ sh_51) rfl rfl (Nat.le_of_ble_eq_true rfl) (Nat.le_refl _) (Nat.le_refl _) ?_
    refine c_R_read (fo_ro hs.1) (fun σ' f1 hr => ?_)
    have hk := hK σ' (md_ck hs (f1.mono (fun b j h => Or.inl h)))
    have no : ¬ ((px_ F n).1 = 0 ∧ 0 ≤ p ∧ p < (px_ F n).2.1) → wp_m l Y_R_box none 0 0 21 [.ref 51, .int (iI p), .int (iI q), .int (iI (px_ F n).1)] [] (hp_ σ') K := fun hn => by
      rw [if_neg (by omega)] at hk
      refine wi_sipush dc_R_box_21 ?_
      refine wp_ireturn dc_R_box_24 rfl rfl hk
    refine wp_is3 dc_R_box_4 (wp_iload_n dc_R_box_5 rfl rfl ?_)
    refine wi_if_gt dc_R_box_6 rfl (fun hd => ?_) (fun hd => ?_)
    · exact no (by omega)
    refine wp_iload_n dc_R_box_9 rfl rfl ?_
    refine wi_if_lt dc_R_box_10 rfl (fun he => ?_) (fun he => ?_)
    · exact no (by omega)
    refine wp_iload_n dc_R_box_13 rfl rfl (wp_aload_n dc_R_box_14 rfl rfl (wi_getE 2 ((px_ F n).2.1) dc_R_box_15 lf_R_64 sh_51 rfl rfl hr.1 ?_))
    refine wi_ic_lt dc_R_box_18 rfl (fun hg => ?_) (fun hg => ?_)
    rotate_left
    · exact no (by omega)
    refine wp_iload_n dc_R_box_25 rfl rfl ?_
    have eq : (iI q).toInt = q := iI_t hq
    by_cases hq5 : 0 ≤ q ∧ q ≤ 5
    rotate_left
    · rw [if_neg (by omega)] at hk
      refine wp_tabOut dc_R_box_26 (by omega) rfl ?_
      refine wi_sipush dc_R_box_106 ?_
      refine wp_ireturn dc_R_box_109 rfl rfl hk
    rw [if_pos (by omega)] at hk
    have hcs : q = 0 ∨ q = 1 ∨ q = 2 ∨ q = 3 ∨ q = 4 ∨ q = 5 := by omega
    rcases hcs with rfl | rfl | rfl | rfl | rfl | rfl
    · refine wp_tabIn dc_R_box_26 (by decide) (by decide) rfl rfl ?_
      refine wp_aload_n dc_R_box_64 rfl rfl (wi_getR dc_R_box_65 lf_R_13 sh_51 rfl (wp_iload_n dc_R_box_68 rfl rfl (wi_aldE ((px_ F n).2.2 0 p) dc_R_box_69 sh_53 (by omega) (by omega) (by decide) (hr.2 0 p (by decide) (by omega) (by omega)) ?_)))
      refine wp_ireturn dc_R_box_70 rfl rfl hk
    · refine wp_tabIn dc_R_box_26 (by decide) (by decide) rfl rfl ?_
      refine wp_aload_n dc_R_box_71 rfl rfl (wi_getR dc_R_box_72 lf_R_16 sh_51 rfl (wp_iload_n dc_R_box_75 rfl rfl (wi_aldE ((px_ F n).2.2 1 p) dc_R_box_76 sh_54 (by omega) (by omega) (by decide) (hr.2 1 p (by decide) (by omega) (by omega)) ?_)))
      refine wp_ireturn dc_R_box_77 rfl rfl hk
    · refine wp_tabIn dc_R_box_26 (by decide) (by decide) rfl rfl ?_
      refine wp_aload_n dc_R_box_78 rfl rfl (wi_getR dc_R_box_79 lf_R_19 sh_51 rfl (wp_iload_n dc_R_box_82 rfl rfl (wi_aldE ((px_ F n).2.2 2 p) dc_R_box_83 sh_55 (by omega) (by omega) (by decide) (hr.2 2 p (by decide) (by omega) (by omega)) ?_)))
      refine wp_ireturn dc_R_box_84 rfl rfl hk
    · refine wp_tabIn dc_R_box_26 (by decide) (by decide) rfl rfl ?_
      refine wp_aload_n dc_R_box_85 rfl rfl (wi_getR dc_R_box_86 lf_R_22 sh_51 rfl (wp_iload_n dc_R_box_89 rfl rfl (wi_aldE ((px_ F n).2.2 3 p) dc_R_box_90 sh_56 (by omega) (by omega) (by decide) (hr.2 3 p (by decide) (by omega) (by omega)) ?_)))
      refine wp_ireturn dc_R_box_91 rfl rfl hk
    · refine wp_tabIn dc_R_box_26 (by decide) (by decide) rfl rfl ?_
      refine wp_aload_n dc_R_box_92 rfl rfl (wi_getR dc_R_box_93 lf_R_25 sh_51 rfl (wp_iload_n dc_R_box_96 rfl rfl (wi_aldE ((px_ F n).2.2 4 p) dc_R_box_97 sh_57 (by omega) (by omega) (by decide) (hr.2 4 p (by decide) (by omega) (by omega)) ?_)))
      refine wp_ireturn dc_R_box_98 rfl rfl hk
    · refine wp_tabIn dc_R_box_26 (by decide) (by decide) rfl rfl ?_
      refine wp_aload_n dc_R_box_99 rfl rfl (wi_getR dc_R_box_100 lf_R_28 sh_51 rfl (wp_iload_n dc_R_box_103 rfl rfl (wi_aldE ((px_ F n).2.2 5 p) dc_R_box_104 sh_58 (by omega) (by omega) (by decide) (hr.2 5 p (by decide) (by omega) (by omega)) ?_)))
      refine wp_ireturn dc_R_box_105 rfl rfl hk
theorem ca_z (h : ca_ σ F n) (hz : cv_ F n = 0) (hF : ∀ i, 0 ≤ F i ∧ F i < 256) (hn : 0 ≤ n) : (px_ F n).1 = 0 ∧ KO_ (px_ F n).2.1 (px_ F n).2.2 ∧ σ 0 4 = tc_ (px_ F n).2.1 (px_ F n).2.2 ∧ vt_ F (px_ F n).2.1 (px_ F n).2.2 (tc_ (px_ F n).2.1 (px_ F n).2.2) (tab_ (px_ F n).2.1 (px_ F n).2.2) 0 ∧ ct2_ σ F (px_ F n).2.2 (tc_ (px_ F n).2.1 (px_ F n).2.2) (tab_ (px_ F n).2.1 (px_ F n).2.2) := by
  have h5 := ca_5 h
  obtain ⟨h1, h2⟩ := h
  rcases h2 with ⟨g1, g2, g3⟩ | ⟨g1, g2, g3, g4⟩ | ⟨g1, g2, g3, g4, g5⟩
  · omega
  · omega
  · refine ⟨g1, g2, g3, ?_, g5 (by omega)⟩
    rw [h5, hz] at g4
    exact g4
theorem op_tracks (h : Inv_ σ) : op_ok l Inv_ Y_M_tracks Y_R_tracks [] σ := by
  obtain ⟨F, n, hf, h46, hs⟩ := id h
  have hF := fo_F hf
  obtain ⟨c1, c2, c3⟩ := cv_rg hF hf.1
  refine ⟨iI (if cv_ F n = 0 then tc_ (px_ F n).2.1 (px_ F n).2.2 else -1000), fun s => md_ s F n, fun K hK => ?_, fun s hs K hK => ?_⟩
  · refine ct_of (L := [.ref 0]) (by decide +kernel) (Nat.le_of_ble_eq_true rfl) rfl ?_
    refine wp_aload_n dc_M_tracks_0 rfl rfl ?_
    refine wp_callV (As := []) dc_M_tracks_1 lm_M_75 ls_M_look (by decide) rfl rfl (hp_at _ sh_0) rfl rfl (Nat.le_of_ble_eq_true rfl) (Nat.le_refl _) (Nat.le_refl _) ?_
    refine c_M_look (fo_lo hf) hs (fun σ' f1 h6 hc => ?_)
    have hk := hK σ' (md_lk hf h46 f1 h6 hc)
    refine wp_aload_n dc_M_tracks_4 rfl rfl (wi_getE 5 ((cv_ F n)) dc_M_tracks_5 lf_M_45 sh_0 rfl rfl (ca_5 hc) ?_)
    refine wi_if_ne dc_M_tracks_8 rfl (fun hd => ?_) (fun hd => ?_)
    · rw [if_neg hd] at hk
      refine wi_sipush dc_M_tracks_18 ?_
      refine wp_ireturn dc_M_tracks_21 rfl rfl hk
    · rw [if_pos hd] at hk
      have h4 := (ca_z hc hd hF hf.1).2.2.1
      refine wp_aload_n dc_M_tracks_11 rfl rfl (wi_getE 4 ((tc_ (px_ F n).2.1 (px_ F n).2.2)) dc_M_tracks_12 lf_M_41 sh_0 rfl rfl h4 (wp_goto dc_M_tracks_15 rfl ?_))
      refine wp_ireturn dc_M_tracks_21 rfl rfl hk
  · refine ct_of (L := [.ref 51, .retAddr 0]) (by decide +kernel) (Nat.le_of_ble_eq_true rfl) rfl ?_
    refine wp_aload_n dc_R_tracks_0 rfl rfl ?_
    refine wp_callV (As := []) dc_R_tracks_1 lm_R_137 ls_R_check (by decide) rfl rfl (hp_at _ sh_51) rfl rfl (Nat.le_of_ble_eq_true rfl) (Nat.le_refl _) (Nat.le_refl _) ?_
    refine c_R_check (fo_ro hs.1) (fun σ' f1 _ hz => ?_)
    have hk := hK σ' (md_ck hs f1)
    refine wp_is1 dc_R_tracks_4 (wp_iload_n dc_R_tracks_5 rfl rfl ?_)
    refine wi_if_le dc_R_tracks_6 rfl (fun hd => ?_) (fun hd => ?_)
    · have h0 : cv_ F n = 0 := by omega
      rw [if_pos h0] at hk
      have h12 := (hz h0).2.2.2.1.2.2.1
      refine wp_aload_n dc_R_tracks_15 rfl rfl (wi_getE 12 ((tc_ (px_ F n).2.1 (px_ F n).2.2)) dc_R_tracks_16 lf_R_83 sh_51 rfl rfl h12 ?_)
      refine wp_ireturn dc_R_tracks_19 rfl rfl hk
    · rw [if_neg (by omega)] at hk
      refine wi_sipush dc_R_tracks_9 (wp_goto dc_R_tracks_12 rfl ?_)
      refine wp_ireturn dc_R_tracks_19 rfl rfl hk
end QA
