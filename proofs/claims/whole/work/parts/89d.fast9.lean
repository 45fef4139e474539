/-! fastStart: the class settles its widths -/
section FK
variable {l : Launch} {K : Option Value → mx_H → Prop} {F : Int → Int} {n N : Int} {T : px_T} {mi tc : Int} {b : Int → Int} {tab : Int → Int → Int} {me : Int} {σ0 : sg_}
def w48 (b : Nat) (_ : Int) : Prop := b = 48
theorem lp_V_ws {w P H : Int} (hx : fx_ F n N T mi tc b tab me) (hlo0 : lo_ σ0 F n) (hlt0 : lt_ σ0 N T) (h6 : σ0 45 6 = mi) (h7 : σ0 45 7 = me) (w0 : 0 ≤ w) (w1 : w ≤ 3) (h49 : σ0 49 mi = P) (h50 : σ0 50 mi = H) (hPH : 0 ≤ P + H ∧ P + H ≤ 2000000000)
    (hK : ∀ σ' s, fr_ w48 σ0 σ' → (∀ k, mi ≤ k → k < me → σ' 48 k = wk_ tc tab (jn_ w (ph_ F N T mi tc tab (P + H))) k) → ((s = 0 ∧ jn_ w (ph_ F N T mi tc tab (P + H)) = w) ∨ (s = 1 ∧ jn_ w (ph_ F N T mi tc tab (P + H)) ≠ w)) → K (some (.int (iI s))) (hp_ σ')) :
    ∀ (j : Nat) (i s : Int) (σ : sg_), i + j = me → mi ≤ i → fr_ w48 σ0 σ → (∀ k, mi ≤ k → k < i → σ 48 k = wk_ tc tab (jn_ w (ph_ F N T mi tc tab (P + H))) k) → (∀ k, i ≤ k → k < me → σ 48 k = wk_ tc tab w k) → ((s = 0 ∧ ∀ k, mi ≤ k → k < i → wk_ tc tab w k = wk_ tc tab (jn_ w (ph_ F N T mi tc tab (P + H))) k) ∨ (s = 1 ∧ ∃ k, wk_ tc tab w k ≠ wk_ tc tab (jn_ w (ph_ F N T mi tc tab (P + H))) k)) → wp_m l Y_V_widenSome none 0 0 7 [.ref 45, .int (iI s), .int (iI i)] [] (hp_ σ) K := by
  have m := fx_mi hx
  have htt := hx.2.2.1
  intro j
  induction j with
  | zero =>
    intro i s σ hi i0 hfr ha hb hs
    refine wp_iload_n dc_V_widenSome_7 rfl rfl (wp_aload_n dc_V_widenSome_8 rfl rfl (wi_getE 7 (me) dc_V_widenSome_9 lf_V_40 sh_45 rfl rfl ((hfr 45 7 (by unfold w48; omega)).trans h7) ?_))
    refine wi_ic_ge dc_V_widenSome_12 rfl (fun hd => ?_) (fun hd => ?_)
    · refine wp_iload_n dc_V_widenSome_62 rfl rfl ?_
      rcases hs with ⟨s0, hs⟩ | ⟨s0, k, hs⟩
      · subst s0
        exact wp_ireturn dc_V_widenSome_63 rfl rfl (hK σ 0 hfr (fun k k0 k1 => ha k k0 (by omega)) (Or.inl ⟨rfl, wk_un hx w0 w1 (fun k k0 k1 => hs k k0 (by omega))⟩))
      · subst s0
        exact wp_ireturn dc_V_widenSome_63 rfl rfl (hK σ 1 hfr (fun k k0 k1 => ha k k0 (by omega)) (Or.inr ⟨rfl, fun q => hs (by rw [q])⟩))
    · omega
  | succ j ih =>
    intro i s σ hi i0 hfr ha hb hs
    have f12 : fr_ (fun b _ => 12 ≤ b) σ0 σ := hfr.mono (fun b _ h => by unfold w48 at h; omega)
    have hlt := lt_fr f12 hlt0
    have hlo := lo_fr f12 hlo0
    have sr : 0 ≤ s ∧ s ≤ 1 := by rcases hs with h | h <;> omega
    have bx := htt.2.2.1 i (by omega) (by omega)
    have kr := kd_rg bx
    have e48 := hb i (by omega) (by omega)
    have wr := wk_01 (tc := tc) (tab := tab) w i
    have nx : wk_ tc tab w i = wk_ tc tab (jn_ w (ph_ F N T mi tc tab (P + H))) i → wp_m l Y_V_widenSome none 0 0 56 [.ref 45, .int (iI s), .int (iI i)] [] (hp_ σ) K := fun e => by
      refine wp_ii2 dc_V_widenSome_56 (wp_goto dc_V_widenSome_59 rfl ?_)
      refine ih (i + 1) s σ (by omega) (by omega) hfr (fun k k0 k1 => ?_) (fun k k0 k1 => hb k (by omega) k1) ?_
      · by_cases q : k = i
        · rw [q, e48, e]
        · exact ha k k0 (by omega)
      · rcases hs with ⟨s0, hs⟩ | hs
        · refine Or.inl ⟨s0, fun k k0 k1 => ?_⟩
          by_cases q : k = i
          · rw [q, e]
          · exact hs k k0 (by omega)
        · exact Or.inr hs
    refine wp_iload_n dc_V_widenSome_7 rfl rfl (wp_aload_n dc_V_widenSome_8 rfl rfl (wi_getE 7 (me) dc_V_widenSome_9 lf_V_40 sh_45 rfl rfl ((hfr 45 7 (by unfold w48; omega)).trans h7) ?_))
    refine wi_ic_ge dc_V_widenSome_12 rfl (fun hd => ?_) (fun hd => ?_)
    · omega
    refine wp_aload_n dc_V_widenSome_15 rfl rfl (wi_getR dc_V_widenSome_16 lf_V_15 sh_45 rfl (wp_iload_n dc_V_widenSome_19 rfl rfl (wi_bipush dc_V_widenSome_20 ?_)))
    refine wp_callV (As := [_, _]) dc_V_widenSome_22 lm_V_52 ls_L_of (by decide) rfl rfl (hp_at _ sh_3) rfl rfl (Nat.le_of_ble_eq_true rfl) (Nat.le_refl _) (Nat.le_refl _) ?_
    refine c_L_of (c := 6) (by decide) (by rw [hlt.1]; omega) (by rw [hlt.1]; omega) ⟨by omega, by omega⟩ ?_
    rw [hlt.1, at_in (by omega) (by omega), show σ (5 + 6) i = px_kind (T 2 i) (T 4 i) from hlt.2.2 i (by omega) (by omega)]
    refine wi_bipush dc_V_widenSome_25 ?_
    refine wi_ic_ne dc_V_widenSome_27 rfl (fun he => ?_) (fun he => ?_) kr ⟨by decide, by decide⟩
    · have hz : ∀ t, 0 ≤ t → t < tc → tab t 4 ≠ i := fun t t0 t1 q => he ((fx_kd hx i0 (by omega) (q := 4) (by omega) (by omega)).mpr ⟨t, t0, t1, q⟩)
      exact nx (by rw [wk_z m.2.2.2.2.2.2.2.2 hz, wk_z m.2.2.2.2.2.2.2.2 hz])
    obtain ⟨t, t0, t1, et⟩ := (fx_kd hx i0 (by omega) (q := 4) (by omega) (by omega)).mp he
    subst et
    have jb := (jn_b w (ph_ F N T mi tc tab (P + H)) t).2
    have pb := ph_b (F := F) (N := N) (T := T) (mi := mi) (tab := tab) (P + H) t0 t1 m.2.2.2.2.2.2.2.2
    have b1 := wk_b hx t0 t1 (by omega) w
    have b2 := wk_b hx t0 t1 (by omega) (jn_ w (ph_ F N T mi tc tab (P + H)))
    have wr2 := wk_01 (tc := tc) (tab := tab) (jn_ w (ph_ F N T mi tc tab (P + H))) (tab t 4)
    refine wp_aload_n dc_V_widenSome_30 rfl rfl (wi_getR dc_V_widenSome_31 lf_V_25 sh_45 rfl (wp_iload_n dc_V_widenSome_34 rfl rfl (wi_baldE (wk_ tc tab w (tab t 4)) dc_V_widenSome_35 sh_48 (by omega) (by omega) (by decide) e48 ?_)))
    refine wi_if_ne dc_V_widenSome_36 rfl (fun hf => ?_) (fun hf => ?_)
    · have e1 : wk_ tc tab w (tab t 4) = 1 := by omega
      exact nx (e1.trans (b2.mpr (jb.mpr (Or.inl (b1.mp e1)))).symm)
    refine wp_aload_n dc_V_widenSome_39 rfl rfl (wp_iload_n dc_V_widenSome_40 rfl rfl ?_)
    refine wp_callV (As := [_]) dc_V_widenSome_41 lm_V_111 ls_V_outgrowsBytes (by decide) rfl rfl (hp_at _ sh_45) rfl rfl (Nat.le_of_ble_eq_true rfl) (Nat.le_refl _) (Nat.le_refl _) ?_
    refine c_V_outgrowsBytes hx hlo hlt ((hfr 45 6 (by unfold w48; omega)).trans h6) t0 t1 (by omega) ((hfr 49 mi (by unfold w48; omega)).trans h49) ((hfr 50 mi (by unfold w48; omega)).trans h50) hPH (fun ho => ?_) (fun ho => ?_)
    · have e2 := b2.mpr (jb.mpr (Or.inr (pb.mpr ho)))
      refine wi_if_eq dc_V_widenSome_44 rfl (fun hg => ?_) (fun hg => ?_)
      · omega
      refine wp_aload_n dc_V_widenSome_47 rfl rfl (wi_getR dc_V_widenSome_48 lf_V_25 sh_45 rfl (wp_iload_n dc_V_widenSome_51 rfl rfl (wi_iconst dc_V_widenSome_52 (wi_bast dc_V_widenSome_53 sh_48 (by omega) (by omega) (by decide) rfl (wi_iconst dc_V_widenSome_54 (wp_is1 dc_V_widenSome_55 ?_))))))
      refine wp_ii2 dc_V_widenSome_56 (wp_goto dc_V_widenSome_59 rfl ?_)
      refine ih (tab t 4 + 1) 1 _ (by omega) (by omega) (hfr.up rfl) (fun k k0 k1 => ?_) (fun k k0 k1 => ?_) (Or.inr ⟨rfl, tab t 4, by omega⟩)
      · by_cases q : k = tab t 4
        · rw [q, up_s, e2]
        · rw [up_n _ _ (by omega)]; exact ha k k0 (by omega)
      · rw [up_n _ _ (by omega)]; exact hb k (by omega) k1
    · refine wi_if_eq dc_V_widenSome_44 rfl (fun hg => ?_) (fun hg => ?_)
      · have e2 : ¬ wk_ tc tab (jn_ w (ph_ F N T mi tc tab (P + H))) (tab t 4) = 1 := fun q => by
          rcases jb.mp (b2.mp q) with z | z
          · have := b1.mpr z; omega
          · exact ho (pb.mp z)
        exact nx (by omega)
      · omega
theorem c_V_widenSome {w P H : Int} (hx : fx_ F n N T mi tc b tab me) (hlo0 : lo_ σ0 F n) (hlt0 : lt_ σ0 N T) (h6 : σ0 45 6 = mi) (h7 : σ0 45 7 = me) (w0 : 0 ≤ w) (w1 : w ≤ 3) (h48 : ∀ k, mi ≤ k → k < me → σ0 48 k = wk_ tc tab w k) (h49 : σ0 49 mi = P) (h50 : σ0 50 mi = H) (hPH : 0 ≤ P + H ∧ P + H ≤ 2000000000)
    (hK : ∀ σ' s, fr_ w48 σ0 σ' → (∀ k, mi ≤ k → k < me → σ' 48 k = wk_ tc tab (jn_ w (ph_ F N T mi tc tab (P + H))) k) → ((s = 0 ∧ jn_ w (ph_ F N T mi tc tab (P + H)) = w) ∨ (s = 1 ∧ jn_ w (ph_ F N T mi tc tab (P + H)) ≠ w)) → K (some (.int (iI s))) (hp_ σ')) : ct_m l Y_V_widenSome 0 0 [.ref 45] (hp_ σ0) K := by
  have m := fx_mi hx
  refine ct_of (L := [.ref 45, .retAddr 0, .retAddr 0]) (by decide +kernel) (Nat.le_of_ble_eq_true rfl) rfl ?_
  refine wi_iconst dc_V_widenSome_0 (wp_is1 dc_V_widenSome_1 (wp_aload_n dc_V_widenSome_2 rfl rfl (wi_getE 6 (mi) dc_V_widenSome_3 lf_V_36 sh_45 rfl rfl h6 (wp_is2 dc_V_widenSome_6 ?_))))
  exact lp_V_ws hx hlo0 hlt0 h6 h7 w0 w1 h49 h50 hPH hK (me - mi).toNat mi 0 σ0 (by omega) (by omega) fr_.rf (fun k k0 k1 => by omega) (fun k k0 k1 => h48 k k0 k1) (Or.inl ⟨rfl, fun k k0 k1 => by omega⟩)
def swW (b : Nat) (_ : Int) : Prop := b = 48 ∨ b = 49 ∨ b = 50
/-- what the class has measured under the widths w -/
def mz_ (σ : sg_) (F : Int → Int) (T : px_T) (mi tc : Int) (tab : Int → Int → Int) (me w : Int) : Prop := ∀ k, mi ≤ k → k < me → σ 48 k = wk_ tc tab w k ∧ σ 49 k = np_ F T (wk_ tc tab w) mi me k ∧ σ 50 k = hd_ T k (np_ F T (wk_ tc tab w) mi me k)
theorem c_V_measure' {w : Int} {σ : sg_} (hx : fx_ F n N T mi tc b tab me) (hlo : lo_ σ F n) (hlt : lt_ σ N T) (h6 : σ 45 6 = mi) (h7 : σ 45 7 = me) (h48 : ∀ k, mi ≤ k → k < me → σ 48 k = wk_ tc tab w k) (hK : ∀ σ', fr_ msW σ σ' → mz_ σ' F T mi tc tab me w → K none (hp_ σ')) : ct_m l Y_V_measure 0 0 [.ref 45] (hp_ σ) K := by
  have m := fx_mi hx
  refine c_V_measure (W := wk_ tc tab w) hlo hlt hx.2.2.1 m.1 m.2.1 m.2.2.1 h6 h7 (fun k k0 k1 => ⟨h48 k k0 k1, wk_01 _ _, fun e => ?_⟩) (fun k k0 k1 => (fx_hh hx k0 k1).1) m.2.2.2.2.2.2.2.1 (fun σ' f h => hK σ' f (fun k k0 k1 => ⟨?_, h k k0 k1⟩))
  · have := (fx_wk hx e).2.2.2.2.2
    have := hx.1 (st_ T k)
    omega
  · rw [f 48 k (by unfold msW; omega)]
    exact h48 k k0 k1
theorem lp_V_sw2 {u : Int} (hx : fx_ F n N T mi tc b tab me) (hu : LF_ F N T mi tc tab me u) (hlo0 : lo_ σ0 F n) (hlt0 : lt_ σ0 N T) (h6 : σ0 45 6 = mi) (h7 : σ0 45 7 = me) (hK : ∀ σ', fr_ swW σ0 σ' → mz_ σ' F T mi tc tab me u → K none (hp_ σ')) :
    ∀ (j : Nat) (w r : Int) (σ : sg_), w + j = 3 → 0 ≤ r → r ≤ w → sbw_ w (fp_ F N T mi tc tab me w) → sbw_ w u → fr_ swW σ0 σ → mz_ σ F T mi tc tab me w → wp_m l Y_V_settleWidths none 0 0 27 [.ref 45, .int (iI r)] [] (hp_ σ) K := by
  have m := fx_mi hx
  intro j
  induction j using Nat.strongRecOn with
  | _ j ih =>
    intro w r σ hw r0 r1 hs1 hs2 hfr hmz
    have f12 : fr_ (fun b _ => 12 ≤ b) σ0 σ := hfr.mono (fun b _ h => by unfold swW at h; omega)
    have hlt := lt_fr f12 hlt0
    have hlo := lo_fr f12 hlo0
    have g6 := (hfr 45 6 (by unfold swW; omega)).trans h6
    have g7 := (hfr 45 7 (by unfold swW; omega)).trans h7
    have hm := hmz mi (by omega) m.2.1
    have nr := fx_np hx (wk_ tc tab w) (k := mi) (by omega) m.2.1
    have fr := fp_rg (F := F) (N := N) (T := T) (mi := mi) (tc := tc) (tab := tab) (me := me) w
    refine wp_iload_n dc_V_settleWidths_27 rfl rfl (wi_bipush dc_V_settleWidths_28 ?_)
    refine wi_ic_ge dc_V_settleWidths_30 rfl (fun hd => ?_) (fun hd => ?_)
    · omega
    refine wp_aload_n dc_V_settleWidths_33 rfl rfl ?_
    refine wp_callV (As := []) dc_V_settleWidths_34 lm_V_85 ls_V_widenSome (by decide) rfl rfl (hp_at _ sh_45) rfl rfl (Nat.le_of_ble_eq_true rfl) (Nat.le_refl _) (Nat.le_refl _) ?_
    refine c_V_widenSome (w := w) hx hlo hlt g6 g7 (by omega) (by omega) (fun k k0 k1 => (hmz k k0 k1).1) hm.2.1 hm.2.2 (by omega) (fun σ' s f1 h48 hs => ?_)
    have ej : jn_ w (ph_ F N T mi tc tab (np_ F T (wk_ tc tab w) mi me mi + hd_ T mi (np_ F T (wk_ tc tab w) mi me mi))) = fp_ F N T mi tc tab me w := jn_sub (by omega) (by omega) fr.1 fr.2 hs1
    rw [ej] at h48 hs
    rcases hs with ⟨s0, hs⟩ | ⟨s0, hs⟩
    · subst s0
      refine wi_if_eq dc_V_settleWidths_37 rfl (fun he => ?_) (fun he => ?_)
      · have eu : w = u := by
          have := hu.2.2 w (by omega) (by omega) hs
          have := hu.1
          unfold sbw_ at *
          omega
        rw [← eu] at hK
        refine wp_return dc_V_settleWidths_50 rfl (hK σ' (hfr.tr (f1.mono (fun b _ h => by unfold w48 at h; unfold swW; omega))) (fun k k0 k1 => ?_))
        obtain ⟨q1, q2, q3⟩ := hmz k k0 k1
        rw [f1 49 k (by unfold w48; omega), f1 50 k (by unfold w48; omega), h48 k k0 k1, hs]
        exact ⟨rfl, q2, q3⟩
      · omega
    · subst s0
      refine wi_if_eq dc_V_settleWidths_37 rfl (fun he => ?_) (fun he => ?_)
      · omega
      have hfr1 := hfr.tr (f1.mono (P' := swW) (fun b _ h => by unfold w48 at h; unfold swW; omega))
      have f12' : fr_ (fun b _ => 12 ≤ b) σ0 σ' := hfr1.mono (fun b _ h => by unfold swW at h; omega)
      refine wp_aload_n dc_V_settleWidths_40 rfl rfl ?_
      refine wp_callV (As := []) dc_V_settleWidths_41 lm_V_82 ls_V_measure (by decide) rfl rfl (hp_at _ sh_45) rfl rfl (Nat.le_of_ble_eq_true rfl) (Nat.le_refl _) (Nat.le_refl _) ?_
      refine c_V_measure' (w := fp_ F N T mi tc tab me w) hx (lo_fr f12' hlo0) (lt_fr f12' hlt0) ((hfr1 45 6 (by unfold swW; omega)).trans h6) ((hfr1 45 7 (by unfold swW; omega)).trans h7) h48 (fun σ2 f2 hm2 => ?_)
      refine wp_ii1 dc_V_settleWidths_44 (wp_goto dc_V_settleWidths_47 rfl ?_)
      have s2 := fp_mono (N := N) (T := T) (mi := mi) (tc := tc) (tab := tab) (me := me) hx.1 hs1 fr.1 fr.2
      have s3 := fp_mono (N := N) (T := T) (mi := mi) (tc := tc) (tab := tab) (me := me) hx.1 hs2 hu.1.1 hu.1.2
      rw [hu.2.1] at s3
      have lt : w < fp_ F N T mi tc tab me w := by unfold sbw_ at hs1; omega
      exact ih (3 - fp_ F N T mi tc tab me w).toNat (by omega) (fp_ F N T mi tc tab me w) (r + 1) σ2 (by omega) (by omega) (by omega) s2 s3 (hfr1.tr (f2.mono (fun b _ h => by unfold msW at h; unfold swW; omega))) hm2
theorem lp_V_sw1 {u : Int} (hx : fx_ F n N T mi tc b tab me) (hu : LF_ F N T mi tc tab me u) (hlo0 : lo_ σ0 F n) (hlt0 : lt_ σ0 N T) (h6 : σ0 45 6 = mi) (h7 : σ0 45 7 = me) (hK : ∀ σ', fr_ swW σ0 σ' → mz_ σ' F T mi tc tab me u → K none (hp_ σ')) :
    ∀ (j : Nat) (i : Int) (σ : sg_), i + j = 20 → 0 ≤ i → fr_ swW σ0 σ → (∀ k, 0 ≤ k → k < i → σ 48 k = 0) → wp_m l Y_V_settleWidths none 0 0 2 [.ref 45, .int (iI i)] [] (hp_ σ) K := by
  have m := fx_mi hx
  have z0 : ∀ k, wk_ tc tab 0 k = 0 := fun k => by
    unfold wk_
    rw [if_neg (by omega)]
  intro j
  induction j with
  | zero =>
    intro i σ hi i0 hfr h48
    have f12 : fr_ (fun b _ => 12 ≤ b) σ0 σ := hfr.mono (fun b _ h => by unfold swW at h; omega)
    refine wp_iload_n dc_V_settleWidths_2 rfl rfl (wi_bipush dc_V_settleWidths_3 ?_)
    refine wi_ic_ge dc_V_settleWidths_5 rfl (fun hd => ?_) (fun hd => ?_)
    · refine wp_aload_n dc_V_settleWidths_21 rfl rfl ?_
      refine wp_callV (As := []) dc_V_settleWidths_22 lm_V_82 ls_V_measure (by decide) rfl rfl (hp_at _ sh_45) rfl rfl (Nat.le_of_ble_eq_true rfl) (Nat.le_refl _) (Nat.le_refl _) ?_
      refine c_V_measure' (w := 0) hx (lo_fr f12 hlo0) (lt_fr f12 hlt0) ((hfr 45 6 (by unfold swW; omega)).trans h6) ((hfr 45 7 (by unfold swW; omega)).trans h7) (fun k k0 k1 => by rw [z0]; exact h48 k (by omega) (by omega)) (fun σ2 f2 hm2 => ?_)
      refine wi_iconst dc_V_settleWidths_25 (wp_is1 dc_V_settleWidths_26 ?_)
      have fr := fp_rg (F := F) (N := N) (T := T) (mi := mi) (tc := tc) (tab := tab) (me := me) 0
      have ur := hu.1
      exact lp_V_sw2 hx hu hlo0 hlt0 h6 h7 hK 3 0 0 σ2 (by omega) (by omega) (by omega) (by unfold sbw_; omega) (by unfold sbw_; omega) (hfr.tr (f2.mono (fun b _ h => by unfold msW at h; unfold swW; omega))) hm2
    · omega
  | succ j ih =>
    intro i σ hi i0 hfr h48
    refine wp_iload_n dc_V_settleWidths_2 rfl rfl (wi_bipush dc_V_settleWidths_3 ?_)
    refine wi_ic_ge dc_V_settleWidths_5 rfl (fun hd => ?_) (fun hd => ?_)
    · omega
    refine wp_aload_n dc_V_settleWidths_8 rfl rfl (wi_getR dc_V_settleWidths_9 lf_V_25 sh_45 rfl (wp_iload_n dc_V_settleWidths_12 rfl rfl (wi_iconst dc_V_settleWidths_13 (wi_bast dc_V_settleWidths_14 sh_48 (by omega) (by omega) (by decide) rfl (wp_ii1 dc_V_settleWidths_15 (wp_goto dc_V_settleWidths_18 rfl ?_))))))
    refine ih (i + 1) _ (by omega) (by omega) (hfr.up (Or.inl rfl)) (fun k k0 k1 => ?_)
    by_cases e : k = i
    · rw [e, up_s]
    · rw [up_n _ _ (by omega)]; exact h48 k k0 (by omega)
theorem c_V_settleWidths {u : Int} (hx : fx_ F n N T mi tc b tab me) (hu : LF_ F N T mi tc tab me u) (hlo0 : lo_ σ0 F n) (hlt0 : lt_ σ0 N T) (h6 : σ0 45 6 = mi) (h7 : σ0 45 7 = me) (hK : ∀ σ', fr_ swW σ0 σ' → mz_ σ' F T mi tc tab me u → K none (hp_ σ')) : ct_m l Y_V_settleWidths 0 0 [.ref 45] (hp_ σ0) K := by
  refine ct_of (L := [.ref 45, .retAddr 0]) (by decide +kernel) (Nat.le_of_ble_eq_true rfl) rfl ?_
  refine wi_iconst dc_V_settleWidths_0 (wp_is1 dc_V_settleWidths_1 ?_)
  exact lp_V_sw1 hx hu hlo0 hlt0 h6 h7 hK 20 0 σ0 (by omega) (by omega) fr_.rf (fun k k0 k1 => by omega)
end FK
