/-! the class's tracks: bindTracks, tableFault -/
/-- the cell of the class's track t -/
def ta_ (t : Int) : Nat := if t = 0 then 13 else 29
theorem ta_c {t : Int} (t0 : 0 ≤ t) (t1 : t < 2) : (t = 0 ∧ ta_ t = 13) ∨ (t = 1 ∧ ta_ t = 29) := by
  have h : t = 0 ∨ t = 1 := by omega
  rcases h with rfl | rfl
  · exact Or.inl ⟨rfl, rfl⟩
  · exact Or.inr ⟨rfl, rfl⟩
theorem ta_k {t : Int} (t0 : 0 ≤ t) (t1 : t < 2) : kbo_ (ta_ t) := by
  rcases ta_c t0 t1 with ⟨-, e⟩ | ⟨-, e⟩ <;> rw [e]
  · exact kbo_13
  · exact kbo_29
theorem ta_r {t : Int} (t0 : 0 ≤ t) (t1 : t < 2) : (fun j : Nat => if j = 1 then some 29 else if j = 0 then some 13 else none) t.toNat = some (ta_ t) := by
  rcases ta_c t0 t1 with ⟨h, e⟩ | ⟨h, e⟩ <;> rw [e, h] <;> rfl
section BT
variable {l : Launch} {σ : sg_} {K : Option Value → mx_H → Prop} {F : Int → Int} {n N : Int} {T : px_T} {mi tc : Int} {b : Int → Int} {tab : Int → Int → Int}
/-- the class's tracks are bound -/
def bo_ (σ : sg_) (F : Int → Int) (T : px_T) (x : Int) (tab : Int → Int → Int) : Prop := σ 0 4 = x ∧ ∀ t, 0 ≤ t → t < x → bdk_ σ F T (ta_ t) (tab t) ∧ σ (ta_ t) 9 = 0
def btW (b : Nat) (j : Int) : Prop := (b = 0 ∧ j = 4) ∨ (13 ≤ b ∧ b < 45)
theorem btW_12 {σ' : sg_} (h : fr_ btW σ σ') (hlo : lo_ σ F n) (hlt : lt_ σ N T) : lo_ σ' F n ∧ lt_ σ' N T := by
  obtain ⟨a1, a2, a3, a4, a5⟩ := hlo
  obtain ⟨b1, b2, b3⟩ := hlt
  exact ⟨⟨a1, a2, (h 1 1 (by unfold btW; omega)).trans a3, fun i i0 i1 => (h 2 i (by unfold btW; omega)).trans (a4 i i0 i1), a5⟩, (h 3 2 (by unfold btW; omega)).trans b1, fun c i c0 i0 i1 => (h (5 + c) i (by unfold btW; omega)).trans (b2 c i c0 i0 i1), fun i i0 i1 => (h 11 i (by unfold btW; omega)).trans (b3 i i0 i1)⟩
theorem lp_M_bt {σ0 : sg_} (hlo0 : lo_ σ0 F n) (hlt0 : lt_ σ0 N T) (htt : tt_ n N T) (hks : KS_ N T mi tc b tab) (hK : ∀ σ', fr_ btW σ0 σ' → bo_ σ' F T tc tab → K none (hp_ σ')) :
    ∀ (j : Nat) (k x : Int) (σ : sg_), k + j = N → 0 ≤ k → fr_ btW σ0 σ → (0 ≤ x ∧ x ≤ tc) → bo_ σ F T x tab → (∀ t, 0 ≤ t → t < x → b t < k) → (∀ t, x ≤ t → t < tc → k ≤ b t) → wp_m l Y_M_bindTracks none 0 0 2 [.ref 0, .int (iI k)] [] (hp_ σ) K := by
  have htc := hks.2.1.1
  have t2 := htt.2.1
  have hbt := hks.2.1.2.1
  have hinc := hks.2.1.2.2.1
  intro j
  induction j with
  | zero =>
    intro k x σ hi k0 hfr hx hbo hlow hhi
    obtain ⟨hlo, hlt⟩ := btW_12 hfr hlo0 hlt0
    have ex : x = tc := by
      by_cases e : x = tc
      · exact e
      · have h1 := hhi x (by omega) (by omega)
        have h2 := hbt x (by omega) (by omega)
        omega
    subst ex
    refine wp_iload_n dc_M_bindTracks_2 rfl rfl (wp_aload_n dc_M_bindTracks_3 rfl rfl (wi_getR dc_M_bindTracks_4 lf_M_21 sh_0 rfl ?_))
    refine wp_callV (As := []) dc_M_bindTracks_7 lm_M_82 ls_L_size (by decide) rfl rfl (hp_at _ sh_3) rfl rfl (Nat.le_of_ble_eq_true rfl) (Nat.le_refl _) (Nat.le_refl _) ?_
    refine c_L_size ?_
    rw [hlt.1]
    refine wi_ic_ge dc_M_bindTracks_10 rfl (fun hd => ?_) (fun hd => ?_)
    · refine wp_return dc_M_bindTracks_65 rfl (hK σ hfr hbo)
    · omega
  | succ j ih =>
    intro k x σ hi k0 hfr hx hbo hlow hhi
    obtain ⟨hlo, hlt⟩ := btW_12 hfr hlo0 hlt0
    have b1 := htt.2.2.1 k k0 (by omega)
    have hkd := kd_tk b1
    have hkr := kd_rg b1
    refine wp_iload_n dc_M_bindTracks_2 rfl rfl (wp_aload_n dc_M_bindTracks_3 rfl rfl (wi_getR dc_M_bindTracks_4 lf_M_21 sh_0 rfl ?_))
    refine wp_callV (As := []) dc_M_bindTracks_7 lm_M_82 ls_L_size (by decide) rfl rfl (hp_at _ sh_3) rfl rfl (Nat.le_of_ble_eq_true rfl) (Nat.le_refl _) (Nat.le_refl _) ?_
    refine c_L_size ?_
    rw [hlt.1]
    refine wi_ic_ge dc_M_bindTracks_10 rfl (fun hd => ?_) (fun hd => ?_)
    · omega
    refine wp_aload_n dc_M_bindTracks_13 rfl rfl (wi_getE 4 (x) dc_M_bindTracks_14 lf_M_41 sh_0 rfl rfl hbo.1 (wi_iconst dc_M_bindTracks_17 ?_))
    refine wi_ic_ge dc_M_bindTracks_18 rfl (fun he => ?_) (fun he => ?_)
    · obtain rfl : x = tc := by omega
      refine wp_return dc_M_bindTracks_65 rfl (hK σ hfr hbo)
    refine wp_aload_n dc_M_bindTracks_21 rfl rfl (wi_getR dc_M_bindTracks_22 lf_M_21 sh_0 rfl (wp_iload_n dc_M_bindTracks_25 rfl rfl (wi_bipush dc_M_bindTracks_26 ?_)))
    refine wp_callV (As := [_, _]) dc_M_bindTracks_28 lm_M_83 ls_L_of (by decide) rfl rfl (hp_at _ sh_3) rfl rfl (Nat.le_of_ble_eq_true rfl) (Nat.le_refl _) (Nat.le_refl _) ?_
    refine c_L_of (c := 6) (by decide) (by rw [hlt.1]; omega) (by rw [hlt.1]; omega) ⟨by omega, by omega⟩ ?_
    rw [hlt.1, at_in k0 (by omega), show σ (5 + 6) k = px_kind (T 2 k) (T 4 k) from hlt.2.2 k k0 (by omega)]
    refine wi_bipush dc_M_bindTracks_31 ?_
    refine wi_ic_ne dc_M_bindTracks_33 rfl (fun hf => ?_) (fun hf => ?_)
    · refine wp_ii1 dc_M_bindTracks_59 (wp_goto dc_M_bindTracks_62 rfl ?_)
      refine ih (k + 1) x σ (by omega) (by omega) hfr hx hbo (fun t t0 t1 => by have := hlow t t0 t1; omega) (fun t t0 t1 => ?_)
      have h1 := hhi t t0 t1
      have h2 := hbt t (by omega) t1
      by_cases e : k = b t
      · exact absurd (hkd.mpr (e ▸ h2.2.2)) hf
      · omega
    obtain ⟨t, q0, q1, q2⟩ := hks.2.1.2.2.2 k k0 (by omega) (hkd.mp hf)
    have ext : t = x := by
      by_cases a1 : t < x
      · have := hlow t q0 a1; omega
      · by_cases a2 : t = x
        · exact a2
        · have h3 := hhi x (by omega) (by omega)
          have e1 : x = 0 := by omega
          have e2 : t = 1 := by omega
          subst e1 e2
          have := hinc (by omega)
          omega
    subst ext
    refine wp_aload_n dc_M_bindTracks_36 rfl rfl (wi_getR dc_M_bindTracks_37 lf_M_27 sh_0 rfl (wp_aload_n dc_M_bindTracks_40 rfl rfl (wi_getE 4 (t) dc_M_bindTracks_41 lf_M_41 sh_0 rfl rfl hbo.1 (wi_aald dc_M_bindTracks_44 sh_12 rfl rfl (by omega) (by omega) (by decide) (ta_r (by omega) (by omega)) (wp_iload_n dc_M_bindTracks_45 rfl rfl ?_)))))
    have hta := ta_c q0 (show t < 2 by omega)
    refine wp_callV (As := [_]) dc_M_bindTracks_46 lm_M_119 ls_K_bind (by decide) rfl rfl (hp_at _ (ta_k q0 (show t < 2 by omega)).1) rfl rfl (Nat.le_of_ble_eq_true rfl) (Nat.le_refl _) (Nat.le_refl _) ?_
    refine c_K_bind (f := tab t) (ta_k q0 (by omega)) (by omega) hlo hlt htt k0 (by omega) (q2 ▸ ks_of hks q0 q1) (fun σ' hf2 hb2 h9 => ?_)
    have h4 : σ' 0 4 = t := (hf2 0 4 (by omega)).trans hbo.1
    refine wp_aload_n dc_M_bindTracks_49 rfl rfl (wp_dup dc_M_bindTracks_50 (wi_getE 4 (t) dc_M_bindTracks_51 lf_M_41 sh_0 rfl rfl h4 (wi_iconst dc_M_bindTracks_54 (wi_iadd dc_M_bindTracks_55 (wi_putI 4 dc_M_bindTracks_56 lf_M_41 sh_0 rfl rfl pv_int (wp_ii1 dc_M_bindTracks_59 (wp_goto dc_M_bindTracks_62 rfl ?_)))))))
    have frn : fr_ btW σ0 (up_ σ' 0 4 (t + 1)) := (hfr.tr (hf2.mono (fun b _ h => by unfold btW; omega))).up (Or.inl ⟨rfl, rfl⟩)
    have fru : fr_ (fun b _ => b = 0) σ' (up_ σ' 0 4 (t + 1)) := fr_.rf.up rfl
    refine ih (k + 1) (t + 1) _ (by omega) (by omega) frn (by omega) ⟨up_s _ _ _ _, fun t' p0 p1 => ?_⟩ (fun t' p0 p1 => ?_) (fun t' p0 p1 => ?_)
    · have hta' := ta_c p0 (show t' < 2 by omega)
      by_cases e : t' = t
      · subst e
        exact ⟨bdk_fr fru (fun b k h1 h2 => by omega) hb2, (fru (ta_ t') 9 (by omega)).trans h9⟩
      · obtain ⟨g1, g2⟩ := hbo.2 t' p0 (by omega)
        exact ⟨bdk_fr fru (fun b k h1 h2 => by omega) (bdk_fr hf2 (fun b k h1 h2 => by omega) g1), (fru (ta_ t') 9 (by omega)).trans ((hf2 (ta_ t') 9 (by omega)).trans g2)⟩
    · by_cases e : t' = t
      · subst e; omega
      · have := hlow t' p0 (by omega); omega
    · have h3 := hhi t' (by omega) p1
      by_cases e : k = b t'
      · have e1 : t = 0 := by omega
        have e2 : t' = 1 := by omega
        subst e1 e2
        have := hinc (by omega)
        omega
      · omega
theorem c_M_bindTracks (hlo : lo_ σ F n) (hlt : lt_ σ N T) (htt : tt_ n N T) (hks : KS_ N T mi tc b tab) (h4 : σ 0 4 = 0) (hK : ∀ σ', fr_ btW σ σ' → bo_ σ' F T tc tab → K none (hp_ σ')) : ct_m l Y_M_bindTracks 0 0 [.ref 0] (hp_ σ) K := by
  have htc := hks.2.1.1
  have t1 := htt.1
  refine ct_of (L := [.ref 0, .retAddr 0]) (by decide +kernel) (Nat.le_of_ble_eq_true rfl) rfl ?_
  refine wi_iconst dc_M_bindTracks_0 (wp_is1 dc_M_bindTracks_1 ?_)
  exact lp_M_bt hlo hlt htt hks hK N.toNat 0 0 σ (by omega) (by omega) fr_.rf (by omega) ⟨h4, fun t t0 t1 => by omega⟩ (fun t t0 t1 => by omega) (fun t t0 t1 => (hks.2.1.2.1 t (by omega) t1).1)
theorem lp_M_tf3 (hlo : lo_ σ F n) (hlt : lt_ σ N T) (htt : tt_ n N T) (hks : KS_ N T mi tc b tab) (hbo : bo_ σ F T tc tab) (har : AR_ F T tc tab) (hac : AC_ F T tc tab) (h1 : AD_ F N T tc tab → K (some (.int (iI 0))) (hp_ σ)) (h0 : ¬ AD_ F N T tc tab → K (some (.int (iI 6))) (hp_ σ)) :
    ∀ (j : Nat) (i : Int), i + j = tc → 0 ≤ i → AD_ F N T i tab → wp_m l Y_M_tableFault none 0 0 62 [.ref 0, .int (iI i)] [] (hp_ σ) K := by
  have htc := hks.2.1.1
  intro j
  induction j with
  | zero =>
    intro i hi i0 hall
    obtain rfl : i = tc := by omega
    refine wp_iload_n dc_M_tableFault_62 rfl rfl (wp_aload_n dc_M_tableFault_63 rfl rfl (wi_getE 4 (i) dc_M_tableFault_64 lf_M_41 sh_0 rfl rfl hbo.1 ?_))
    refine wi_ic_ge dc_M_tableFault_67 rfl (fun hd => ?_) (fun hd => ?_)
    · refine wi_iconst dc_M_tableFault_91 ?_
      refine wp_ireturn dc_M_tableFault_92 rfl rfl (h1 hall)
    · omega
  | succ j ih =>
    intro i hi i0 hall
    refine wp_iload_n dc_M_tableFault_62 rfl rfl (wp_aload_n dc_M_tableFault_63 rfl rfl (wi_getE 4 (tc) dc_M_tableFault_64 lf_M_41 sh_0 rfl rfl hbo.1 ?_))
    refine wi_ic_ge dc_M_tableFault_67 rfl (fun hd => ?_) (fun hd => ?_)
    · omega
    refine wp_aload_n dc_M_tableFault_70 rfl rfl (wi_getR dc_M_tableFault_71 lf_M_27 sh_0 rfl (wp_iload_n dc_M_tableFault_74 rfl rfl (wi_aald dc_M_tableFault_75 sh_12 rfl rfl (by omega) (by omega) (by decide) (ta_r (by omega) (by omega)) ?_)))
    refine wp_callV (As := []) dc_M_tableFault_76 lm_M_128 ls_K_dataHolds (by decide) rfl rfl (hp_at _ (ta_k i0 (show i < 2 by omega)).1) rfl rfl (Nat.le_of_ble_eq_true rfl) (Nat.le_refl _) (Nat.le_refl _) ?_
    refine c_K_dataHolds (hac i i0 (by omega)) ⟨hlo, hlt, htt, ta_k i0 (by omega), ks_of hks i0 (by omega), har i i0 (by omega), (hbo.2 i i0 (by omega)).1⟩ (fun h => ?_) (fun h => ?_)
    · refine wi_if_ne dc_M_tableFault_79 rfl (fun he => ?_) (fun he => ?_)
      · refine wp_ii1 dc_M_tableFault_85 (wp_goto dc_M_tableFault_88 rfl ?_)
        refine ih (i + 1) (by omega) (by omega) (fun t t0 t1 => ?_)
        by_cases e : t = i
        · subst e; exact h
        · exact hall t t0 (by omega)
      · omega
    · refine wi_if_ne dc_M_tableFault_79 rfl (fun he => ?_) (fun he => ?_)
      · omega
      · refine wi_bipush dc_M_tableFault_82 ?_
        refine wp_ireturn dc_M_tableFault_84 rfl rfl (h0 (fun hh => h (hh i i0 (by omega))))
theorem lp_M_tf2 (hlo : lo_ σ F n) (hlt : lt_ σ N T) (htt : tt_ n N T) (hks : KS_ N T mi tc b tab) (hbo : bo_ σ F T tc tab) (har : AR_ F T tc tab) (h1 : AC_ F T tc tab → wp_m l Y_M_tableFault none 0 0 62 [.ref 0, .int (iI 0)] [] (hp_ σ) K) (h0 : ¬ AC_ F T tc tab → K (some (.int (iI 5))) (hp_ σ)) :
    ∀ (j : Nat) (i : Int), i + j = tc → 0 ≤ i → AC_ F T i tab → wp_m l Y_M_tableFault none 0 0 32 [.ref 0, .int (iI i)] [] (hp_ σ) K := by
  have htc := hks.2.1.1
  intro j
  induction j with
  | zero =>
    intro i hi i0 hall
    obtain rfl : i = tc := by omega
    refine wp_iload_n dc_M_tableFault_32 rfl rfl (wp_aload_n dc_M_tableFault_33 rfl rfl (wi_getE 4 (i) dc_M_tableFault_34 lf_M_41 sh_0 rfl rfl hbo.1 ?_))
    refine wi_ic_ge dc_M_tableFault_37 rfl (fun hd => ?_) (fun hd => ?_)
    · refine wi_iconst dc_M_tableFault_60 (wp_is1 dc_M_tableFault_61 ?_)
      exact h1 hall
    · omega
  | succ j ih =>
    intro i hi i0 hall
    refine wp_iload_n dc_M_tableFault_32 rfl rfl (wp_aload_n dc_M_tableFault_33 rfl rfl (wi_getE 4 (tc) dc_M_tableFault_34 lf_M_41 sh_0 rfl rfl hbo.1 ?_))
    refine wi_ic_ge dc_M_tableFault_37 rfl (fun hd => ?_) (fun hd => ?_)
    · omega
    refine wp_aload_n dc_M_tableFault_40 rfl rfl (wi_getR dc_M_tableFault_41 lf_M_27 sh_0 rfl (wp_iload_n dc_M_tableFault_44 rfl rfl (wi_aald dc_M_tableFault_45 sh_12 rfl rfl (by omega) (by omega) (by decide) (ta_r (by omega) (by omega)) ?_)))
    refine wp_callV (As := []) dc_M_tableFault_46 lm_M_125 ls_K_countsHold (by decide) rfl rfl (hp_at _ (ta_k i0 (show i < 2 by omega)).1) rfl rfl (Nat.le_of_ble_eq_true rfl) (Nat.le_refl _) (Nat.le_refl _) ?_
    refine c_K_countsHold ⟨hlo, hlt, htt, ta_k i0 (by omega), ks_of hks i0 (by omega), har i i0 (by omega), (hbo.2 i i0 (by omega)).1⟩ (fun h => ?_) (fun h => ?_)
    · refine wi_if_ne dc_M_tableFault_49 rfl (fun he => ?_) (fun he => ?_)
      · refine wp_ii1 dc_M_tableFault_54 (wp_goto dc_M_tableFault_57 rfl ?_)
        refine ih (i + 1) (by omega) (by omega) (fun t t0 t1 => ?_)
        by_cases e : t = i
        · subst e; exact h
        · exact hall t t0 (by omega)
      · omega
    · refine wi_if_ne dc_M_tableFault_49 rfl (fun he => ?_) (fun he => ?_)
      · omega
      · refine wi_iconst dc_M_tableFault_52 ?_
        refine wp_ireturn dc_M_tableFault_53 rfl rfl (h0 (fun hh => h (hh i i0 (by omega))))
theorem lp_M_tf1 (hlo : lo_ σ F n) (hlt : lt_ σ N T) (htt : tt_ n N T) (hks : KS_ N T mi tc b tab) (hbo : bo_ σ F T tc tab) (h1 : AR_ F T tc tab → wp_m l Y_M_tableFault none 0 0 32 [.ref 0, .int (iI 0)] [] (hp_ σ) K) (h0 : ¬ AR_ F T tc tab → K (some (.int (iI 4))) (hp_ σ)) :
    ∀ (j : Nat) (i : Int), i + j = tc → 0 ≤ i → AR_ F T i tab → wp_m l Y_M_tableFault none 0 0 2 [.ref 0, .int (iI i)] [] (hp_ σ) K := by
  have htc := hks.2.1.1
  intro j
  induction j with
  | zero =>
    intro i hi i0 hall
    obtain rfl : i = tc := by omega
    refine wp_iload_n dc_M_tableFault_2 rfl rfl (wp_aload_n dc_M_tableFault_3 rfl rfl (wi_getE 4 (i) dc_M_tableFault_4 lf_M_41 sh_0 rfl rfl hbo.1 ?_))
    refine wi_ic_ge dc_M_tableFault_7 rfl (fun hd => ?_) (fun hd => ?_)
    · refine wi_iconst dc_M_tableFault_30 (wp_is1 dc_M_tableFault_31 ?_)
      exact h1 hall
    · omega
  | succ j ih =>
    intro i hi i0 hall
    refine wp_iload_n dc_M_tableFault_2 rfl rfl (wp_aload_n dc_M_tableFault_3 rfl rfl (wi_getE 4 (tc) dc_M_tableFault_4 lf_M_41 sh_0 rfl rfl hbo.1 ?_))
    refine wi_ic_ge dc_M_tableFault_7 rfl (fun hd => ?_) (fun hd => ?_)
    · omega
    refine wp_aload_n dc_M_tableFault_10 rfl rfl (wi_getR dc_M_tableFault_11 lf_M_27 sh_0 rfl (wp_iload_n dc_M_tableFault_14 rfl rfl (wi_aald dc_M_tableFault_15 sh_12 rfl rfl (by omega) (by omega) (by decide) (ta_r (by omega) (by omega)) ?_)))
    refine wp_callV (As := []) dc_M_tableFault_16 lm_M_122 ls_K_rowsHold (by decide) rfl rfl (hp_at _ (ta_k i0 (show i < 2 by omega)).1) rfl rfl (Nat.le_of_ble_eq_true rfl) (Nat.le_refl _) (Nat.le_refl _) ?_
    refine c_K_rowsHold (ta_k i0 (by omega)) hlo htt (ks_of hks i0 (by omega)) (hbo.2 i i0 (by omega)).1 (fun h => ?_) (fun h => ?_)
    · refine wi_if_ne dc_M_tableFault_19 rfl (fun he => ?_) (fun he => ?_)
      · refine wp_ii1 dc_M_tableFault_24 (wp_goto dc_M_tableFault_27 rfl ?_)
        refine ih (i + 1) (by omega) (by omega) (fun t t0 t1 => ?_)
        by_cases e : t = i
        · subst e; exact h
        · exact hall t t0 (by omega)
      · omega
    · refine wi_if_ne dc_M_tableFault_19 rfl (fun he => ?_) (fun he => ?_)
      · omega
      · refine wi_iconst dc_M_tableFault_22 ?_
        refine wp_ireturn dc_M_tableFault_23 rfl rfl (h0 (fun hh => h (hh i i0 (by omega))))
theorem c_M_tableFault (hlo : lo_ σ F n) (hlt : lt_ σ N T) (htt : tt_ n N T) (hks : KS_ N T mi tc b tab) (hbo : bo_ σ F T tc tab) (hK : ∀ v, vt_ F N T tc tab v → K (some (.int (iI v))) (hp_ σ)) : ct_m l Y_M_tableFault 0 0 [.ref 0] (hp_ σ) K := by
  have htc := hks.2.1.1
  refine ct_of (L := [.ref 0, .retAddr 0]) (by decide +kernel) (Nat.le_of_ble_eq_true rfl) rfl ?_
  refine wi_iconst dc_M_tableFault_0 (wp_is1 dc_M_tableFault_1 ?_)
  refine lp_M_tf1 hlo hlt htt hks hbo (fun har => ?_) (fun h => hK 4 (Or.inl ⟨rfl, h⟩)) tc.toNat 0 (by omega) (by omega) (fun t t0 t1 => by omega)
  refine lp_M_tf2 hlo hlt htt hks hbo har (fun hac => ?_) (fun h => hK 5 (Or.inr (Or.inl ⟨rfl, har, h⟩))) tc.toNat 0 (by omega) (by omega) (fun t t0 t1 => by omega)
  exact lp_M_tf3 hlo hlt htt hks hbo har hac (fun h => hK 0 (Or.inr (Or.inr (Or.inr ⟨rfl, har, hac, h⟩)))) (fun h => hK 6 (Or.inr (Or.inr (Or.inl ⟨rfl, har, hac, h⟩)))) tc.toNat 0 (by omega) (by omega) (fun t t0 t1 => by omega)
end BT
