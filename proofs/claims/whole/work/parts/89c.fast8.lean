/-! fastStart: the class's widths -/
def jn_ (v w : Int) : Int := (if v % 2 = 1 ∨ w % 2 = 1 then 1 else 0) + (if v / 2 = 1 ∨ w / 2 = 1 then 2 else 0)
def bi_ (w t : Int) : Int := if t = 0 then w % 2 else w / 2
section FI
variable {F : Int → Int} {n N : Int} {T : px_T} {mi tc : Int} {b : Int → Int} {tab : Int → Int → Int} {me : Int}
theorem jn_b (v w t : Int) : (0 ≤ jn_ v w ∧ jn_ v w ≤ 3) ∧ (bi_ (jn_ v w) t = 1 ↔ bi_ v t = 1 ∨ bi_ w t = 1) := by
  unfold jn_ bi_
  by_cases a : v % 2 = 1 ∨ w % 2 = 1 <;> by_cases c : v / 2 = 1 ∨ w / 2 = 1
  · rw [if_pos a, if_pos c]
    refine ⟨by decide, ?_⟩
    split <;> omega
  · rw [if_pos a, if_neg c]
    refine ⟨by decide, ?_⟩
    split <;> omega
  · rw [if_neg a, if_pos c]
    refine ⟨by decide, ?_⟩
    split <;> omega
  · rw [if_neg a, if_neg c]
    refine ⟨by decide, ?_⟩
    split <;> omega
theorem jn_sub {v w : Int} (v0 : 0 ≤ v) (v1 : v ≤ 3) (w0 : 0 ≤ w) (w1 : w ≤ 3) (h : sbw_ v w) : jn_ v w = w := by
  unfold sbw_ at h
  unfold jn_
  by_cases a : w % 2 = 1 <;> by_cases c : w / 2 = 1
  · rw [if_pos (by omega), if_pos (by omega)]; omega
  · rw [if_pos (by omega), if_neg (by omega)]; omega
  · rw [if_neg (by omega), if_pos (by omega)]; omega
  · rw [if_neg (by omega), if_neg (by omega)]; omega
theorem ph_b (L : Int) {t : Int} (t0 : 0 ≤ t) (t1 : t < tc) (hc : tc = 1 ∨ tc = 2) : bi_ (ph_ F N T mi tc tab L) t = 1 ↔ og_ F N T mi (tab t) L := by
  have h := ph_bit (F := F) (N := N) (T := T) (mi := mi) (tc := tc) (tab := tab) L
  unfold bi_
  by_cases e : t = 0
  · rw [if_pos e, e]; exact h.2.1
  · rw [if_neg e]
    obtain rfl : t = 1 := by omega
    exact h.2.2.trans ⟨fun q => q.2, fun q => ⟨by omega, q⟩⟩
theorem fx_ne (h : fx_ F n N T mi tc b tab me) (hc : tc = 2) (a : 0 ≤ tab 0 4) : tab 0 4 ≠ tab 1 4 := fun q => by
  have x := fx_tab h (t := 0) (q := 4) (by omega) (by omega) (by omega) (by omega) a
  have y := fx_tab h (t := 1) (q := 4) (by omega) (by omega) (by omega) (by omega) (by omega)
  have z := h.2.2.2.1.2.1.2.2.1 hc
  rw [← q] at y
  omega
theorem wk_b (h : fx_ F n N T mi tc b tab me) {t : Int} (t0 : 0 ≤ t) (t1 : t < tc) (a : 0 ≤ tab t 4) (w : Int) : wk_ tc tab w (tab t 4) = 1 ↔ bi_ w t = 1 := by
  have m := fx_mi h
  unfold wk_ bi_
  by_cases e : t = 0
  · subst e
    rw [if_pos rfl]
    by_cases hc : tc = 2
    · have := fx_ne h hc a
      by_cases q : w % 2 = 1
      · rw [if_pos (by omega)]; omega
      · rw [if_neg (by omega)]; omega
    · by_cases q : w % 2 = 1
      · rw [if_pos (by omega)]; omega
      · rw [if_neg (by omega)]; omega
  · obtain rfl : t = 1 := by omega
    rw [if_neg e]
    have ne : 0 ≤ tab 0 4 → tab 0 4 ≠ tab 1 4 := fx_ne h (by omega)
    by_cases q : w / 2 = 1
    · rw [if_pos (Or.inr ⟨by omega, a, rfl, q⟩)]; omega
    · rw [if_neg (by omega)]; omega
theorem wk_z (m : tc = 1 ∨ tc = 2) {k w : Int} (hz : ∀ t, 0 ≤ t → t < tc → tab t 4 ≠ k) : wk_ tc tab w k = 0 := by
  unfold wk_
  rw [if_neg]
  rintro (⟨-, e, -⟩ | ⟨c, -, e, -⟩)
  · exact hz 0 (by omega) (by omega) e
  · exact hz 1 (by omega) (by omega) e
/-- what two widths say of the boxes says what they are -/
theorem wk_un (h : fx_ F n N T mi tc b tab me) {v L : Int} (v0 : 0 ≤ v) (v1 : v ≤ 3) (hz : ∀ k, mi ≤ k → k < me → wk_ tc tab v k = wk_ tc tab (jn_ v (ph_ F N T mi tc tab L)) k) : jn_ v (ph_ F N T mi tc tab L) = v := by
  have m := fx_mi h
  have key : ∀ t, 0 ≤ t → t < tc → og_ F N T mi (tab t) L → bi_ v t = 1 := fun t t0 t1 ho => by
    have g := fx_tab h t0 t1 (q := 4) (by omega) (by omega) ho.1
    have j := (jn_b v (ph_ F N T mi tc tab L) t).2.mpr (Or.inr ((ph_b L t0 t1 (by omega)).mpr ho))
    have e := hz (tab t 4) (by omega) g.2.1
    rw [(wk_b h t0 t1 ho.1 _).mpr j] at e
    exact (wk_b h t0 t1 ho.1 _).mp e
  have pb := ph_bit (F := F) (N := N) (T := T) (mi := mi) (tc := tc) (tab := tab) L
  have k0 : ph_ F N T mi tc tab L % 2 = 1 → v % 2 = 1 := fun q => by
    have := key 0 (by omega) (by omega) (pb.2.1.mp q)
    rwa [bi_, if_pos rfl] at this
  have k1 : ph_ F N T mi tc tab L / 2 = 1 → v / 2 = 1 := fun q => by
    have z := pb.2.2.mp q
    have := key 1 (by omega) (by omega) z.2
    rwa [bi_, if_neg (by decide)] at this
  unfold jn_
  by_cases a : v % 2 = 1 <;> by_cases c : v / 2 = 1
  · rw [if_pos (by omega), if_pos (by omega)]; omega
  · rw [if_pos (by omega), if_neg (by omega)]; omega
  · rw [if_neg (by omega), if_pos (by omega)]; omega
  · rw [if_neg (by omega), if_neg (by omega)]; omega
theorem fx_np (h : fx_ F n N T mi tc b tab me) (W : Int → Int) {k : Int} (k0 : mi ≤ k) (k1 : k < me) : (0 ≤ np_ F T W mi me k ∧ np_ F T W mi me k ≤ 1500000000) ∧ (hd_ T k (np_ F T W mi me k) = 2 ∨ hd_ T k (np_ F T W mi me k) = 4) := by
  have m := fx_mi h
  have lr := ly_rg (W := W) h.1 h.2.1 h.2.2.1 (me := me) (by omega) (me - mi).toNat (by omega) k (by omega) (by omega)
  have b20 := bn_20 (show (me - mi).toNat ≤ 20 by omega)
  refine ⟨?_, (hd_mono (T := T) (k := k) (Int.le_refl (np_ F T W mi me k))).2⟩
  unfold np_
  omega
end FI
section FJ
variable {l : Launch} {K : Option Value → mx_H → Prop} {F : Int → Int} {n N : Int} {T : px_T} {mi tc : Int} {b : Int → Int} {tab : Int → Int → Int} {me : Int} {σ : sg_}
theorem fx_pj (hx : fx_ F n N T mi tc b tab me) {t k : Int} (t0 : 0 ≤ t) (t1 : t < tc) (hk : pj_ (tab t) = k) : mi < k ∧ k < me ∧ T 4 k = 2 ∧ px_kind (T 2 k) (T 4 k) = T 2 k ∧ ((tab t 4 = -1 ∧ tab t 5 = k ∧ T 2 k = 79 ∧ pl_ T k = 1 + 2 * F (st_ T k)) ∨ (tab t 4 = k ∧ T 2 k = 111 ∧ pl_ T k = 1 + F (st_ T k))) := by
  have kd : ∀ x y : Int, x = 2 → (y = 79 ∨ y = 111) → px_kind y x = y := fun x y e1 e2 => by
    unfold px_kind
    rw [if_pos (by omega)]
  rcases fx_pl hx t0 t1 with ⟨q1, q2, q3, q4⟩ | ⟨q1, q2, q3, q4⟩
  · have g := fx_tab hx t0 t1 (q := 4) (by omega) (by omega) q1
    have e4 : tab t 4 = k := by omega
    rw [e4] at g q4
    have e := g.2.2.2.1.trans (show tq_ 4 = 111 from rfl)
    exact ⟨g.1, g.2.1, g.2.2.1, kd _ _ g.2.2.1 (Or.inr e), Or.inr ⟨e4, e, q4⟩⟩
  · have g := fx_tab hx t0 t1 (q := 5) (by omega) (by omega) q2
    have e5 : tab t 5 = k := by omega
    rw [e5] at g q4
    have e := g.2.2.2.1.trans (show tq_ 5 = 79 from rfl)
    exact ⟨g.1, g.2.1, g.2.2.1, kd _ _ g.2.2.1 (Or.inl e), Or.inl ⟨q1, e5, e, q4⟩⟩
theorem c_V_oldPlace {t k r : Int} (hx : fx_ F n N T mi tc b tab me) (hlo : lo_ σ F n) (hlt : lt_ σ N T) (t0 : 0 ≤ t) (t1 : t < tc) (hk : pj_ (tab t) = k) (r0 : 0 ≤ r) (r1 : r < CC_ F T (tab t)) (hK : K (some (.int (iI (pc_ F T (tab t) (r + 1))))) (hp_ σ)) : ct_m l Y_V_oldPlace 0 0 [.ref 45, .int (iI k), .int (iI r)] (hp_ σ) K := by
  have m := fx_mi hx
  have htt := hx.2.2.1
  have ecc : CC_ F T (tab t) = F (st_ T (pj_ (tab t))) := rfl
  obtain ⟨g1, g2, g3, g4, g5⟩ := fx_pj hx t0 t1 hk
  unfold pc_ at hK
  rw [hk] at hK ecc
  have hF := hx.1 (st_ T k)
  have bx := htt.2.2.1 k (by omega) (by omega)
  unfold bx_ at bx
  have ep : pl_ T k = T 1 k - T 3 k := rfl
  have es : st_ T k = T 0 k + T 3 k := rfl
  have n1 := hlo.1
  have n2 := hlo.2.1
  have K31 : ∀ o : Int, (o = 1 ∧ tab t 4 = -1 ∧ pl_ T k = 1 + 2 * F (st_ T k)) ∨ (o = 0 ∧ ¬ tab t 4 = -1 ∧ pl_ T k = 1 + F (st_ T k)) → wp_m l Y_V_oldPlace none 0 0 31 [.ref 45, .int (iI k), .int (iI r), .int (iI (st_ T k + 1)), .retAddr 0] [.int (iI o)] (hp_ σ) K := fun o ho => by
    refine wp_is4 dc_V_oldPlace_31 (wp_iload dc_V_oldPlace_33 rfl ?_)
    refine wi_if_eq dc_V_oldPlace_35 rfl (fun hd => ?_) (fun hd => ?_)
    · rw [if_neg (by omega)] at hK
      refine wp_aload_n dc_V_oldPlace_53 rfl rfl (wi_getR dc_V_oldPlace_54 lf_V_9 sh_45 rfl (wp_iload_n dc_V_oldPlace_57 rfl rfl (wp_iload_n dc_V_oldPlace_58 rfl rfl (wi_iadd dc_V_oldPlace_59 ?_))))
      refine wp_callV (As := [_]) dc_V_oldPlace_60 lm_V_108 ls_B_at (by decide) rfl rfl (hp_at _ sh_1) rfl rfl (Nat.le_of_ble_eq_true rfl) (Nat.le_refl _) (Nat.le_refl _) ?_
      refine c_B_at' hlo (by omega) (by omega) ?_
      rw [show st_ T k + 1 + r = st_ T k + (r + 1) by omega]
      refine wp_ireturn dc_V_oldPlace_63 rfl rfl hK
    · rw [if_pos (by omega)] at hK
      have e : σ (1 + 1) (st_ T k + 1 + 2 * r) * 256 + σ (1 + 1) (st_ T k + 1 + 2 * r + 1) = 256 * F (st_ T k + (2 * (r + 1) - 1)) + F (st_ T k + 2 * (r + 1)) := by
        have e1 : σ (1 + 1) (st_ T k + 1 + 2 * r) = F (st_ T k + 1 + 2 * r) := hlo.2.2.2.1 _ (by omega) (by omega)
        have e2 : σ (1 + 1) (st_ T k + 1 + 2 * r + 1) = F (st_ T k + 1 + 2 * r + 1) := hlo.2.2.2.1 _ (by omega) (by omega)
        rw [e1, e2, show st_ T k + (2 * (r + 1) - 1) = st_ T k + 1 + 2 * r by omega, show st_ T k + 2 * (r + 1) = st_ T k + 1 + 2 * r + 1 by omega]
        omega
      rw [← e] at hK
      refine wp_aload_n dc_V_oldPlace_38 rfl rfl (wi_getR dc_V_oldPlace_39 lf_V_9 sh_45 rfl (wp_iload_n dc_V_oldPlace_42 rfl rfl (wi_iconst dc_V_oldPlace_43 (wp_iload_n dc_V_oldPlace_44 rfl rfl (wi_imul dc_V_oldPlace_45 (wi_iadd dc_V_oldPlace_46 ?_))))))
      refine wp_callV (As := [_]) dc_V_oldPlace_47 lm_V_120 ls_B_pairAt (by decide) rfl rfl (hp_at _ sh_1) rfl rfl (Nat.le_of_ble_eq_true rfl) (Nat.le_refl _) (Nat.le_refl _) ?_
      refine c_B_pairAt by_1 (by rw [hlo.2.2.1]; exact n1) (by rw [hlo.2.2.1]; exact n2) (by omega) (by rw [hlo.2.2.1]; omega) ?_
      refine wp_goto dc_V_oldPlace_50 rfl ?_
      refine wp_ireturn dc_V_oldPlace_63 rfl rfl hK
  refine ct_of (L := [.ref 45, .int (iI k), .int (iI r), .retAddr 0, .retAddr 0]) (by decide +kernel) (Nat.le_of_ble_eq_true rfl) rfl ?_
  refine wp_aload_n dc_V_oldPlace_0 rfl rfl (wi_getR dc_V_oldPlace_1 lf_V_15 sh_45 rfl (wp_iload_n dc_V_oldPlace_4 rfl rfl ?_))
  refine wp_callV (As := [_]) dc_V_oldPlace_5 lm_V_105 ls_L_payloadOf (by decide) rfl rfl (hp_at _ sh_3) rfl rfl (Nat.le_of_ble_eq_true rfl) (Nat.le_refl _) (Nat.le_refl _) ?_
  refine c_L_payloadOf' hlt htt (by omega) (by omega) ?_
  refine wi_iconst dc_V_oldPlace_8 (wi_iadd dc_V_oldPlace_9 (wp_is3 dc_V_oldPlace_10 (wp_aload_n dc_V_oldPlace_11 rfl rfl (wi_getR dc_V_oldPlace_12 lf_V_15 sh_45 rfl (wp_iload_n dc_V_oldPlace_15 rfl rfl (wi_bipush dc_V_oldPlace_16 ?_))))))
  refine wp_callV (As := [_, _]) dc_V_oldPlace_18 lm_V_52 ls_L_of (by decide) rfl rfl (hp_at _ sh_3) rfl rfl (Nat.le_of_ble_eq_true rfl) (Nat.le_refl _) (Nat.le_refl _) ?_
  refine c_L_of (c := 6) (by decide) (by rw [hlt.1]; omega) (by rw [hlt.1]; omega) ⟨by omega, by omega⟩ ?_
  rw [hlt.1, at_in (by omega) (by omega), show σ (5 + 6) k = px_kind (T 2 k) (T 4 k) from hlt.2.2 k (by omega) (by omega), g4]
  refine wi_bipush dc_V_oldPlace_21 ?_
  refine wi_ic_ne dc_V_oldPlace_23 rfl (fun he => ?_) (fun he => ?_)
  · refine wi_iconst dc_V_oldPlace_30 ?_
    exact K31 0 (Or.inr ⟨rfl, by omega, by omega⟩)
  · refine wi_iconst dc_V_oldPlace_26 (wp_goto dc_V_oldPlace_27 rfl ?_)
    exact K31 1 (Or.inl ⟨rfl, by omega, by omega⟩)
theorem c_V_newPlace' {p P H : Int} (hlo : lo_ σ F n) (hlt : lt_ σ N T) (htt : tt_ n N T) (m0 : 0 ≤ mi) (m1 : mi < N) (h6 : σ 45 6 = mi) (hp : 0 ≤ p ∧ p ≤ 65535) (h49 : σ 49 mi = P) (h50 : σ 50 mi = H) (hK : K (some (.int (iI (nz_ N T mi p (P + H))))) (hp_ σ)) : ct_m l Y_V_newPlace 0 0 [.ref 45, .int (iI p)] (hp_ σ) K := by
  refine c_V_newPlace hlo hlt htt m0 m1 h6 hp h49 h50 (fun r hr => ?_)
  unfold nz_ at hK
  rw [hb_eq hr] at hK
  exact hK
theorem lp_V_og {t P H : Int} (hx : fx_ F n N T mi tc b tab me) (hlo : lo_ σ F n) (hlt : lt_ σ N T) (h6 : σ 45 6 = mi) (t0 : 0 ≤ t) (t1 : t < tc) (h4 : 0 ≤ tab t 4) (h49 : σ 49 mi = P) (h50 : σ 50 mi = H) (hPH : 0 ≤ P + H ∧ P + H ≤ 2000000000) (h1 : og_ F N T mi (tab t) (P + H) → K (some (.int (iI 1))) (hp_ σ)) (h0 : ¬ og_ F N T mi (tab t) (P + H) → K (some (.int (iI 0))) (hp_ σ)) :
    ∀ (j : Nat) (r : Int), r + j = CC_ F T (tab t) → 0 ≤ r → (∀ c, 1 ≤ c → c ≤ r → nz_ N T mi (pc_ F T (tab t) c) (P + H) ≤ 255) → wp_m l Y_V_outgrowsBytes none 0 0 2 [.ref 45, .int (iI (tab t 4)), .int (iI r)] [] (hp_ σ) K := by
  have m := fx_mi hx
  have htt := hx.2.2.1
  have hn := hx.2.1
  have hk : pj_ (tab t) = tab t 4 := by have := fx_pl hx t0 t1; omega
  have ecc : CC_ F T (tab t) = F (st_ T (pj_ (tab t))) := rfl
  rw [hk] at ecc
  obtain ⟨g1, g2, g3, g4, g5⟩ := fx_pj hx t0 t1 hk
  have hF := hx.1 (st_ T (tab t 4))
  intro j
  induction j with
  | zero =>
    intro r hr r0 hall
    refine wp_iload_n dc_V_outgrowsBytes_2 rfl rfl (wp_aload_n dc_V_outgrowsBytes_3 rfl rfl (wp_iload_n dc_V_outgrowsBytes_4 rfl rfl ?_))
    refine wp_callV (As := [_]) dc_V_outgrowsBytes_5 lm_V_102 ls_V_rowsOf (by decide) rfl rfl (hp_at _ sh_45) rfl rfl (Nat.le_of_ble_eq_true rfl) (Nat.le_refl _) (Nat.le_refl _) ?_
    refine c_V_rowsOf hlo hlt htt (by omega) (by omega) (by omega) ?_
    refine wi_ic_ge dc_V_outgrowsBytes_8 rfl (fun hd => ?_) (fun hd => ?_)
    · refine wi_iconst dc_V_outgrowsBytes_35 ?_
      refine wp_ireturn dc_V_outgrowsBytes_36 rfl rfl (h0 (fun ⟨_, c, c0, c1, c2⟩ => by have := hall c c0 (by omega); omega))
    · omega
  | succ j ih =>
    intro r hr r0 hall
    obtain ⟨z1, z2, z3, z4, z5⟩ := fx_nz hx (c := r + 1) t0 t1 (by omega) (by omega) hPH.1
    refine wp_iload_n dc_V_outgrowsBytes_2 rfl rfl (wp_aload_n dc_V_outgrowsBytes_3 rfl rfl (wp_iload_n dc_V_outgrowsBytes_4 rfl rfl ?_))
    refine wp_callV (As := [_]) dc_V_outgrowsBytes_5 lm_V_102 ls_V_rowsOf (by decide) rfl rfl (hp_at _ sh_45) rfl rfl (Nat.le_of_ble_eq_true rfl) (Nat.le_refl _) (Nat.le_refl _) ?_
    refine c_V_rowsOf hlo hlt htt (by omega) (by omega) (by omega) ?_
    refine wi_ic_ge dc_V_outgrowsBytes_8 rfl (fun hd => ?_) (fun hd => ?_)
    · omega
    refine wp_aload_n dc_V_outgrowsBytes_11 rfl rfl (wp_aload_n dc_V_outgrowsBytes_12 rfl rfl (wp_iload_n dc_V_outgrowsBytes_13 rfl rfl (wp_iload_n dc_V_outgrowsBytes_14 rfl rfl ?_)))
    refine wp_callV (As := [_, _]) dc_V_outgrowsBytes_15 lm_V_114 ls_V_oldPlace (by decide) rfl rfl (hp_at _ sh_45) rfl rfl (Nat.le_of_ble_eq_true rfl) (Nat.le_refl _) (Nat.le_refl _) ?_
    refine c_V_oldPlace hx hlo hlt t0 t1 hk r0 (by omega) ?_
    refine wp_callV (As := [_]) dc_V_outgrowsBytes_18 lm_V_117 ls_V_newPlace (by decide) rfl rfl (hp_at _ sh_45) rfl rfl (Nat.le_of_ble_eq_true rfl) (Nat.le_refl _) (Nat.le_refl _) ?_
    refine c_V_newPlace' hlo hlt htt (by omega) (by omega) h6 (by omega) h49 h50 ?_
    refine wi_sipush dc_V_outgrowsBytes_21 ?_
    refine wi_ic_le dc_V_outgrowsBytes_24 rfl (fun he => ?_) (fun he => ?_)
    · refine wp_ii2 dc_V_outgrowsBytes_29 (wp_goto dc_V_outgrowsBytes_32 rfl ?_)
      refine ih (r + 1) (by omega) (by omega) (fun c c0 c1 => ?_)
      by_cases e : c = r + 1
      · rw [e]; exact he
      · exact hall c c0 (by omega)
    · refine wi_iconst dc_V_outgrowsBytes_27 ?_
      refine wp_ireturn dc_V_outgrowsBytes_28 rfl rfl (h1 ⟨h4, r + 1, by omega, by omega, by omega⟩)
theorem c_V_outgrowsBytes {t P H : Int} (hx : fx_ F n N T mi tc b tab me) (hlo : lo_ σ F n) (hlt : lt_ σ N T) (h6 : σ 45 6 = mi) (t0 : 0 ≤ t) (t1 : t < tc) (h4 : 0 ≤ tab t 4) (h49 : σ 49 mi = P) (h50 : σ 50 mi = H) (hPH : 0 ≤ P + H ∧ P + H ≤ 2000000000) (h1 : og_ F N T mi (tab t) (P + H) → K (some (.int (iI 1))) (hp_ σ)) (h0 : ¬ og_ F N T mi (tab t) (P + H) → K (some (.int (iI 0))) (hp_ σ)) : ct_m l Y_V_outgrowsBytes 0 0 [.ref 45, .int (iI (tab t 4))] (hp_ σ) K := by
  have hF := hx.1 (st_ T (pj_ (tab t)))
  have ecc : CC_ F T (tab t) = F (st_ T (pj_ (tab t))) := rfl
  refine ct_of (L := [.ref 45, .int (iI (tab t 4)), .retAddr 0]) (by decide +kernel) (Nat.le_of_ble_eq_true rfl) rfl ?_
  refine wi_iconst dc_V_outgrowsBytes_0 (wp_is2 dc_V_outgrowsBytes_1 ?_)
  exact lp_V_og hx hlo hlt h6 t0 t1 h4 h49 h50 hPH h1 h0 (CC_ F T (tab t)).toNat 0 (by omega) (by omega) (fun c c0 c1 => by omega)
end FJ
