/-! fastStart: the class writes -/
section FQ
variable {l : Launch} {K : Option Value → mx_H → Prop} {F : Int → Int} {n N : Int} {T : px_T} {mi tc : Int} {b : Int → Int} {tab : Int → Int → Int} {me : Int} {σ : sg_} {xs : List Int}
/-- the class's outcome holds xs -/
def oc_ (σ : sg_) (xs : List Int) : Prop := σ 46 1 = (xs.length : Int) ∧ gs_ xs (σ 47)
def ocW (b : Nat) (j : Int) : Prop := (b = 46 ∧ j = 1) ∨ b = 47
theorem oc_put {v : Int} (ho : oc_ σ xs) : oc_ (up_ (up_ σ 47 (σ 46 1) v) 46 1 (σ 46 1 + 1)) (xs ++ [v]) := by
  obtain ⟨h1, h2⟩ := ho
  refine ⟨?_, gs_app (gs_congr h2 (fun i hi => ?_)) (gs_one ?_)⟩
  · rw [up_s, h1, List.length_append, Int.natCast_add]
    rfl
  · rw [up_n _ _ (by omega), up_n _ _ (by omega)]
  · rw [up_n _ _ (by omega), h1, Int.add_zero, up_s]
theorem c_O_add {v x : Int} (ho : oc_ σ xs) (hl : (xs.length : Int) < 1000) (hv : x % 256 = v) (hK : ∀ σ', fr_ ocW σ σ' → oc_ σ' (xs ++ [v]) → K none (hp_ σ')) : ct_m l Y_B_add 0 0 [.ref 46, .int (iI x)] (hp_ σ) K := by
  refine c_B_add by_46 (by rw [ho.1]; omega) (by rw [ho.1]; exact hl) ?_
  rw [hv]
  exact hK _ ((fr_.rf.up (Or.inr rfl)).up (Or.inl ⟨rfl, rfl⟩)) (oc_put ho)
theorem c_O_addPair {v u x : Int} (ho : oc_ σ xs) (hl : (xs.length : Int) < 999) (hx : rg x) (hv : x / 256 % 256 = v) (hu : x % 256 = u) (hK : ∀ σ', fr_ ocW σ σ' → oc_ σ' (xs ++ [v, u]) → K none (hp_ σ')) : ct_m l Y_B_addPair 0 0 [.ref 46, .int (iI x)] (hp_ σ) K := by
  refine c_B_addPair by_46 (by rw [ho.1]; omega) (by rw [ho.1]; exact hl) hx ?_
  rw [hv, hu]
  have h := oc_put (v := u) (oc_put (v := v) ho)
  rw [up_s, List.append_assoc] at h
  exact hK _ ((((fr_.rf.up (Or.inr rfl)).up (Or.inl ⟨rfl, rfl⟩)).up (Or.inr rfl)).up (Or.inl ⟨rfl, rfl⟩)) h
theorem c_O_addPart {p q : Int} (ho : oc_ σ xs) (hlo : lo_ σ F n) (hp : 0 ≤ p) (hpq : p ≤ q) (hq : q ≤ n) (hl : (xs.length : Int) + (q - p) ≤ 1000) (hK : ∀ σ', fr_ ocW σ σ' → oc_ σ' (xs ++ pt_ F p q) → K none (hp_ σ')) : ct_m l Y_B_addPart 0 0 [.ref 46, .ref 1, .int (iI p), .int (iI q)] (hp_ σ) K := by
  obtain ⟨o1, o2⟩ := ho
  obtain ⟨n0, n1, e1, e2, hF⟩ := hlo
  refine c_B_addPart by_46 by_1 (by decide) (by decide) (by decide) (by rw [o1]; omega) hp hpq (by rw [e1]; exact hq) (by rw [e1]; exact n1) (by rw [o1]; exact hl) (fun i i0 i1 => ?_) ?_
  · show 0 ≤ σ 2 i ∧ σ 2 i < 256
    rw [e2 i (by omega) (by omega)]
    exact hF i
  · refine hK _ (fun b j hb => ?_) ⟨?_, gs_app (gs_congr o2 (fun i hi => ?_)) (gs_congr (pt_gs F p q) (fun i hi => ?_))⟩
    · unfold ocW at hb
      unfold ap_
      rw [if_neg (by omega), if_neg (by omega)]
    · rw [ap_n, o1, List.length_append, pt_len, Int.natCast_add]
      omega
    · unfold ap_
      rw [if_neg (by omega), if_neg (by omega)]
    · rw [pt_len] at hi
      unfold ap_
      rw [if_pos (by omega), o1]
      show F (p + i) = σ 2 (p + ((xs.length : Int) + i - xs.length))
      rw [show p + ((xs.length : Int) + i - xs.length) = p + i by omega]
      exact (e2 _ (by omega) (by omega)).symm
theorem oc_12 {σ' : sg_} (h : fr_ ocW σ σ') : fr_ (fun b _ => 12 ≤ b) σ σ' := h.mono (fun b _ h => by unfold ocW at h; omega)
theorem c_V_writeHeader {k W p h : Int} (hlt : lt_ σ N T) (htt : tt_ n N T) (k0 : 0 ≤ k) (k1 : k < N) (h48 : σ 48 k = W) (hW : W = 0 ∨ W = 1) (h49 : σ 49 k = p) (h50 : σ 50 k = h) (hh : h = 2 ∨ h = 4) (hp : 0 ≤ p) (hlen : p + h ≤ 1000) (hs : h = 2 → p + 2 ≤ 255) (ho : oc_ σ xs) (hl : (xs.length : Int) + h ≤ 1000)
    (hK : ∀ σ', fr_ ocW σ σ' → oc_ σ' (xs ++ hh_ (if W = 1 then 79 else T 2 k) h (p + h)) → K none (hp_ σ')) : ct_m l Y_V_writeHeader 0 0 [.ref 45, .int (iI k)] (hp_ σ) K := by
  have t2 := htt.2.1
  have bx := htt.2.2.1 k k0 k1
  unfold bx_ at bx
  have K23 : ∀ ty : Int, ty = (if W = 1 then 79 else T 2 k) → wp_m l Y_V_writeHeader none 0 0 23 [.ref 45, .int (iI k), .retAddr 0, .retAddr 0] [.int (iI ty)] (hp_ σ) K := fun ty hty => by
    have tyr : 0 ≤ ty ∧ ty < 256 := by rw [hty]; split <;> omega
    rw [← hty] at hK
    refine wp_is2 dc_V_writeHeader_23 (wp_aload_n dc_V_writeHeader_24 rfl rfl (wi_getR dc_V_writeHeader_25 lf_V_33 sh_45 rfl (wp_iload_n dc_V_writeHeader_28 rfl rfl (wi_aldE (h) dc_V_writeHeader_29 sh_50 (by omega) (by omega) (by decide) h50 (wi_iconst dc_V_writeHeader_30 ?_)))))
    refine wi_ic_ne dc_V_writeHeader_31 rfl (fun hd => ?_) (fun hd => ?_)
    · obtain rfl : h = 2 := by omega
      rw [hh_, if_neg (by decide)] at hK
      refine wi_iconst dc_V_writeHeader_38 (wp_is3 dc_V_writeHeader_39 (wp_aload_n dc_V_writeHeader_40 rfl rfl (wi_getR dc_V_writeHeader_41 lf_V_22 sh_45 rfl (wp_iload_n dc_V_writeHeader_44 rfl rfl ?_))))
      refine wi_if_eq dc_V_writeHeader_45 rfl (fun he => ?_) (fun he => ?_)
      rotate_left
      · omega
      refine wp_aload_n dc_V_writeHeader_52 rfl rfl (wp_iload_n dc_V_writeHeader_53 rfl rfl ?_)
      refine wp_callV (As := [_]) dc_V_writeHeader_54 lm_V_59 ls_V_newSize (by decide) rfl rfl (hp_at _ sh_45) rfl rfl (Nat.le_of_ble_eq_true rfl) (Nat.le_refl _) (Nat.le_refl _) ?_
      refine c_V_newSize k0 (by omega) h49 h50 ?_
      refine wp_callV (As := [_]) dc_V_writeHeader_57 lm_V_132 ls_B_add (by decide) rfl rfl (hp_at _ sh_46) rfl rfl (Nat.le_of_ble_eq_true rfl) (Nat.le_refl _) (Nat.le_refl _) ?_
      refine c_O_add (v := p + 2) ho (by omega) (by omega) (fun σ1 f1 o1 => ?_)
      refine wp_aload_n dc_V_writeHeader_60 rfl rfl (wi_getR dc_V_writeHeader_61 lf_V_22 sh_45 rfl (wp_iload_n dc_V_writeHeader_64 rfl rfl ?_))
      refine wp_callV (As := [_]) dc_V_writeHeader_65 lm_V_132 ls_B_add (by decide) rfl rfl (hp_at _ sh_46) rfl rfl (Nat.le_of_ble_eq_true rfl) (Nat.le_refl _) (Nat.le_refl _) ?_
      refine c_O_add (v := ty) o1 (by rw [List.length_append]; show ((xs.length + 1 : Nat) : Int) < 1000; omega) (by omega) (fun σ2 f2 o2 => ?_)
      refine wp_iload_n dc_V_writeHeader_68 rfl rfl ?_
      refine wi_if_eq dc_V_writeHeader_69 rfl (fun hf => ?_) (fun hf => ?_)
      · rw [List.append_assoc] at o2
        exact wp_return dc_V_writeHeader_84 rfl (hK σ2 (f1.tr f2) o2)
      · omega
    · subst hd
      rw [hh_, if_pos rfl] at hK
      refine wi_iconst dc_V_writeHeader_34 (wp_goto dc_V_writeHeader_35 rfl (wp_is3 dc_V_writeHeader_39 (wp_aload_n dc_V_writeHeader_40 rfl rfl (wi_getR dc_V_writeHeader_41 lf_V_22 sh_45 rfl (wp_iload_n dc_V_writeHeader_44 rfl rfl ?_)))))
      refine wi_if_eq dc_V_writeHeader_45 rfl (fun he => ?_) (fun he => ?_)
      · omega
      refine wi_iconst dc_V_writeHeader_48 (wp_goto dc_V_writeHeader_49 rfl ?_)
      refine wp_callV (As := [_]) dc_V_writeHeader_57 lm_V_132 ls_B_add (by decide) rfl rfl (hp_at _ sh_46) rfl rfl (Nat.le_of_ble_eq_true rfl) (Nat.le_refl _) (Nat.le_refl _) ?_
      refine c_O_add (v := 1) ho (by omega) (by decide) (fun σ1 f1 o1 => ?_)
      refine wp_aload_n dc_V_writeHeader_60 rfl rfl (wi_getR dc_V_writeHeader_61 lf_V_22 sh_45 rfl (wp_iload_n dc_V_writeHeader_64 rfl rfl ?_))
      refine wp_callV (As := [_]) dc_V_writeHeader_65 lm_V_132 ls_B_add (by decide) rfl rfl (hp_at _ sh_46) rfl rfl (Nat.le_of_ble_eq_true rfl) (Nat.le_refl _) (Nat.le_refl _) ?_
      refine c_O_add (v := ty) o1 (by rw [List.length_append]; show ((xs.length + 1 : Nat) : Int) < 1000; omega) (by omega) (fun σ2 f2 o2 => ?_)
      rw [List.append_assoc] at o2
      have f12 := f1.tr f2
      refine wp_iload_n dc_V_writeHeader_68 rfl rfl ?_
      refine wi_if_eq dc_V_writeHeader_69 rfl (fun hf => ?_) (fun hf => ?_)
      · omega
      refine wp_aload_n dc_V_writeHeader_72 rfl rfl (wi_getR dc_V_writeHeader_73 lf_V_22 sh_45 rfl (wp_aload_n dc_V_writeHeader_76 rfl rfl (wp_iload_n dc_V_writeHeader_77 rfl rfl ?_)))
      refine wp_callV (As := [_]) dc_V_writeHeader_78 lm_V_59 ls_V_newSize (by decide) rfl rfl (hp_at _ sh_45) rfl rfl (Nat.le_of_ble_eq_true rfl) (Nat.le_refl _) (Nat.le_refl _) ?_
      refine c_V_newSize k0 (by omega) ((f12 49 k (by unfold ocW; omega)).trans h49) ((f12 50 k (by unfold ocW; omega)).trans h50) ?_
      refine wp_callV (As := [_]) dc_V_writeHeader_81 lm_V_135 ls_B_addPair (by decide) rfl rfl (hp_at _ sh_46) rfl rfl (Nat.le_of_ble_eq_true rfl) (Nat.le_refl _) (Nat.le_refl _) ?_
      refine c_O_addPair (v := (p + 4) / 256) (u := (p + 4) % 256) o2 (by rw [List.length_append]; show ((xs.length + 2 : Nat) : Int) < 999; omega) ⟨by omega, by omega⟩ (by omega) rfl (fun σ3 f3 o3 => ?_)
      rw [List.append_assoc] at o3
      exact wp_return dc_V_writeHeader_84 rfl (hK σ3 (f12.tr f3) o3)
  refine ct_of (L := [.ref 45, .int (iI k), .retAddr 0, .retAddr 0]) (by decide +kernel) (Nat.le_of_ble_eq_true rfl) rfl ?_
  refine wp_aload_n dc_V_writeHeader_0 rfl rfl (wi_getR dc_V_writeHeader_1 lf_V_25 sh_45 rfl (wp_iload_n dc_V_writeHeader_4 rfl rfl (wi_baldE (W) dc_V_writeHeader_5 sh_48 (by omega) (by omega) (by decide) h48 ?_)))
  refine wi_if_eq dc_V_writeHeader_6 rfl (fun hd => ?_) (fun hd => ?_)
  · refine wp_aload_n dc_V_writeHeader_14 rfl rfl (wi_getR dc_V_writeHeader_15 lf_V_15 sh_45 rfl (wp_iload_n dc_V_writeHeader_18 rfl rfl (wi_iconst dc_V_writeHeader_19 ?_)))
    refine wp_callV (As := [_, _]) dc_V_writeHeader_20 lm_V_52 ls_L_of (by decide) rfl rfl (hp_at _ sh_3) rfl rfl (Nat.le_of_ble_eq_true rfl) (Nat.le_refl _) (Nat.le_refl _) ?_
    refine c_L_of (c := 2) (by decide) (by rw [hlt.1]; omega) (by rw [hlt.1]; omega) ⟨by omega, by omega⟩ ?_
    rw [hlt.1, at_in k0 k1, show σ (5 + 2) k = T 2 k from hlt.2.1 2 k (by decide) k0 k1]
    exact K23 _ (by rw [if_neg (by omega)])
  · refine wi_bipush dc_V_writeHeader_9 (wp_goto dc_V_writeHeader_11 rfl ?_)
    exact K23 _ (by rw [if_pos (by omega)])
theorem lp_V_wp {σ0 : sg_} {t k w P H : Int} (hx : fx_ F n N T mi tc b tab me) (hlo0 : lo_ σ0 F n) (hlt0 : lt_ σ0 N T) (h6 : σ0 45 6 = mi) (h49 : σ0 49 mi = P) (h50 : σ0 50 mi = H) (hPH : P + H = nL_ F T mi tc tab me w) (hL : 0 ≤ P + H ∧ P + H ≤ 1000) (hw : fp_ F N T mi tc tab me w = w) (t0 : 0 ≤ t) (t1 : t < tc) (hk : pj_ (tab t) = k) (hl : xs.length + (pp_ F N T mi (tab t) (P + H) (wf_ w t (tab t))).length ≤ 1000)
    (hK : ∀ σ', fr_ ocW σ0 σ' → oc_ σ' (xs ++ pp_ F N T mi (tab t) (P + H) (wf_ w t (tab t))) → K none (hp_ σ')) :
    ∀ (j r : Nat) (σ : sg_) (u4 : Value), r + j = (CC_ F T (tab t)).toNat → fr_ ocW σ0 σ → oc_ σ (xs ++ (F (st_ T (pj_ (tab t))) :: ps_ (fun r => pe_ N T mi (pc_ F T (tab t) (r + 1)) (P + H) (wf_ w t (tab t))) r)) → wp_m l Y_V_writePlaces none 0 0 44 [.ref 45, .int (iI k), .int (iI (wf_ w t (tab t))), .int (iI r), u4] [] (hp_ σ) K := by
  have m := fx_mi hx
  have htt := hx.2.2.1
  have hn := hx.2.1
  have ecc : CC_ F T (tab t) = F (st_ T (pj_ (tab t))) := rfl
  obtain ⟨g1, g2, g3, g4, g5⟩ := fx_pj hx t0 t1 hk
  have hF := hx.1 (st_ T k)
  have ecc' : CC_ F T (tab t) = F (st_ T k) := by rw [ecc, hk]
  have wfr : wf_ w t (tab t) = 0 ∨ wf_ w t (tab t) = 1 := by unfold wf_; split <;> omega
  intro j
  induction j with
  | zero =>
    intro r σ u4 hr hfr ho
    have f12 := oc_12 hfr
    refine wp_iload_n dc_V_writePlaces_44 rfl rfl (wp_aload_n dc_V_writePlaces_45 rfl rfl (wp_iload_n dc_V_writePlaces_46 rfl rfl ?_))
    refine wp_callV (As := [_]) dc_V_writePlaces_47 lm_V_102 ls_V_rowsOf (by decide) rfl rfl (hp_at _ sh_45) rfl rfl (Nat.le_of_ble_eq_true rfl) (Nat.le_refl _) (Nat.le_refl _) ?_
    refine c_V_rowsOf (lo_fr f12 hlo0) (lt_fr f12 hlt0) htt (by omega) (by omega) (by omega) ?_
    refine wi_ic_ge dc_V_writePlaces_50 rfl (fun hd => ?_) (fun hd => ?_)
    · refine wp_return dc_V_writePlaces_96 rfl (hK σ hfr ?_)
      unfold pp_
      obtain rfl : r = (CC_ F T (tab t)).toNat := by omega
      exact ho
    · omega
  | succ j ih =>
    intro r σ u4 hr hfr ho
    have f12 := oc_12 hfr
    have hlo := lo_fr f12 hlo0
    have hlt := lt_fr f12 hlt0
    obtain ⟨z1, z2, z3, z4, z5⟩ := fx_nz hx (c := (r : Int) + 1) (L := P + H) t0 t1 (by omega) (by omega) hL.1
    have le := ps_le (fun r => pe_ N T mi (pc_ F T (tab t) (r + 1)) (P + H) (wf_ w t (tab t))) (show r + 1 ≤ (CC_ F T (tab t)).toNat by omega)
    have le1 : (ps_ (fun r => pe_ N T mi (pc_ F T (tab t) (r + 1)) (P + H) (wf_ w t (tab t))) (r + 1)).length = (ps_ (fun r => pe_ N T mi (pc_ F T (tab t) (r + 1)) (P + H) (wf_ w t (tab t))) r).length + (pe_ N T mi (pc_ F T (tab t) ((r : Int) + 1)) (P + H) (wf_ w t (tab t))).length := List.length_append
    have hl2 : (pp_ F N T mi (tab t) (P + H) (wf_ w t (tab t))).length = (ps_ (fun r => pe_ N T mi (pc_ F T (tab t) (r + 1)) (P + H) (wf_ w t (tab t))) (CC_ F T (tab t)).toNat).length + 1 := rfl
    have lx : (xs ++ (F (st_ T (pj_ (tab t))) :: ps_ (fun r => pe_ N T mi (pc_ F T (tab t) (r + 1)) (P + H) (wf_ w t (tab t))) r)).length = xs.length + ((ps_ (fun r => pe_ N T mi (pc_ F T (tab t) (r + 1)) (P + H) (wf_ w t (tab t))) r).length + 1) := List.length_append
    have nx : ∀ σ' u4, fr_ ocW σ σ' → oc_ σ' ((xs ++ (F (st_ T (pj_ (tab t))) :: ps_ (fun r => pe_ N T mi (pc_ F T (tab t) (r + 1)) (P + H) (wf_ w t (tab t))) r)) ++ pe_ N T mi (pc_ F T (tab t) ((r : Int) + 1)) (P + H) (wf_ w t (tab t))) → wp_m l Y_V_writePlaces none 0 0 90 [.ref 45, .int (iI k), .int (iI (wf_ w t (tab t))), .int (iI r), u4] [] (hp_ σ') K := fun σ' u4 f1 o1 => by
      refine wp_ii3 dc_V_writePlaces_90 (wp_goto dc_V_writePlaces_93 rfl ?_)
      rw [show (r : Int) + 1 = ((r + 1 : Nat) : Int) by omega]
      refine ih (r + 1) σ' u4 (by omega) (hfr.tr f1) ?_
      rw [List.append_assoc] at o1
      exact o1
    refine wp_iload_n dc_V_writePlaces_44 rfl rfl (wp_aload_n dc_V_writePlaces_45 rfl rfl (wp_iload_n dc_V_writePlaces_46 rfl rfl ?_))
    refine wp_callV (As := [_]) dc_V_writePlaces_47 lm_V_102 ls_V_rowsOf (by decide) rfl rfl (hp_at _ sh_45) rfl rfl (Nat.le_of_ble_eq_true rfl) (Nat.le_refl _) (Nat.le_refl _) ?_
    refine c_V_rowsOf hlo hlt htt (by omega) (by omega) (by omega) ?_
    refine wi_ic_ge dc_V_writePlaces_50 rfl (fun hd => ?_) (fun hd => ?_)
    · omega
    refine wp_aload_n dc_V_writePlaces_53 rfl rfl (wp_aload_n dc_V_writePlaces_54 rfl rfl (wp_iload_n dc_V_writePlaces_55 rfl rfl (wp_iload_n dc_V_writePlaces_56 rfl rfl ?_)))
    refine wp_callV (As := [_, _]) dc_V_writePlaces_57 lm_V_114 ls_V_oldPlace (by decide) rfl rfl (hp_at _ sh_45) rfl rfl (Nat.le_of_ble_eq_true rfl) (Nat.le_refl _) (Nat.le_refl _) ?_
    refine c_V_oldPlace hx hlo hlt t0 t1 hk (by omega) (by omega) ?_
    refine wp_callV (As := [_]) dc_V_writePlaces_60 lm_V_117 ls_V_newPlace (by decide) rfl rfl (hp_at _ sh_45) rfl rfl (Nat.le_of_ble_eq_true rfl) (Nat.le_refl _) (Nat.le_refl _) ?_
    refine c_V_newPlace' hlo hlt htt (by omega) (by omega) ((hfr 45 6 (by unfold ocW; omega)).trans h6) (by omega) ((hfr 49 mi (by unfold ocW; omega)).trans h49) ((hfr 50 mi (by unfold ocW; omega)).trans h50) ?_
    refine wp_is4 dc_V_writePlaces_63 (wp_iload_n dc_V_writePlaces_65 rfl rfl ?_)
    refine wi_if_eq dc_V_writePlaces_66 rfl (fun he => ?_) (fun he => ?_)
    · have hz := nz_nar hx (c := (r : Int) + 1) hw t0 t1 (by omega) (by omega) (by omega)
      rw [← hPH] at hz
      rw [pe_, if_neg (by omega)] at nx
      rw [pe_, if_neg (by omega)] at le1
      have l1 : [nz_ N T mi (pc_ F T (tab t) ((r : Int) + 1)) (P + H)].length = 1 := rfl
      refine wp_aload_n dc_V_writePlaces_81 rfl rfl (wi_getR dc_V_writePlaces_82 lf_V_22 sh_45 rfl (wp_iload dc_V_writePlaces_85 rfl ?_))
      refine wp_callV (As := [_]) dc_V_writePlaces_87 lm_V_132 ls_B_add (by decide) rfl rfl (hp_at _ sh_46) rfl rfl (Nat.le_of_ble_eq_true rfl) (Nat.le_refl _) (Nat.le_refl _) ?_
      refine c_O_add (v := nz_ N T mi (pc_ F T (tab t) ((r : Int) + 1)) (P + H)) ho (by omega) (by omega) (fun σ1 f1 o1 => ?_)
      exact nx σ1 _ f1 o1
    · rw [pe_, if_pos (by omega)] at nx
      rw [pe_, if_pos (by omega)] at le1
      have l1 : [nz_ N T mi (pc_ F T (tab t) ((r : Int) + 1)) (P + H) / 256, nz_ N T mi (pc_ F T (tab t) ((r : Int) + 1)) (P + H) % 256].length = 2 := rfl
      refine wp_aload_n dc_V_writePlaces_69 rfl rfl (wi_getR dc_V_writePlaces_70 lf_V_22 sh_45 rfl (wp_iload dc_V_writePlaces_73 rfl ?_))
      refine wp_callV (As := [_]) dc_V_writePlaces_75 lm_V_135 ls_B_addPair (by decide) rfl rfl (hp_at _ sh_46) rfl rfl (Nat.le_of_ble_eq_true rfl) (Nat.le_refl _) (Nat.le_refl _) ?_
      refine c_O_addPair (v := nz_ N T mi (pc_ F T (tab t) ((r : Int) + 1)) (P + H) / 256) (u := nz_ N T mi (pc_ F T (tab t) ((r : Int) + 1)) (P + H) % 256) ho (by omega) ⟨by omega, by omega⟩ (by omega) rfl (fun σ1 f1 o1 => ?_)
      refine wp_goto dc_V_writePlaces_78 rfl ?_
      exact nx σ1 _ f1 o1
theorem c_V_writePlaces {σ0 : sg_} {t k w P H : Int} (hx : fx_ F n N T mi tc b tab me) (hlo0 : lo_ σ0 F n) (hlt0 : lt_ σ0 N T) (h6 : σ0 45 6 = mi) (h48 : σ0 48 k = wk_ tc tab w k) (h49 : σ0 49 mi = P) (h50 : σ0 50 mi = H) (hPH : P + H = nL_ F T mi tc tab me w) (hL : 0 ≤ P + H ∧ P + H ≤ 1000) (hw : fp_ F N T mi tc tab me w = w) (t0 : 0 ≤ t) (t1 : t < tc) (hk : pj_ (tab t) = k) (ho : oc_ σ0 xs) (hl : xs.length + (pp_ F N T mi (tab t) (P + H) (wf_ w t (tab t))).length ≤ 1000)
    (hK : ∀ σ', fr_ ocW σ0 σ' → oc_ σ' (xs ++ pp_ F N T mi (tab t) (P + H) (wf_ w t (tab t))) → K none (hp_ σ')) : ct_m l Y_V_writePlaces 0 0 [.ref 45, .int (iI k)] (hp_ σ0) K := by
  have m := fx_mi hx
  have htt := hx.2.2.1
  obtain ⟨g1, g2, g3, g4, g5⟩ := fx_pj hx t0 t1 hk
  have hF := hx.1 (st_ T k)
  have wr := wk_01 (tc := tc) (tab := tab) w k
  have bx := htt.2.2.1 k (by omega) (by omega)
  have hl2 : (pp_ F N T mi (tab t) (P + H) (wf_ w t (tab t))).length = (ps_ (fun r => pe_ N T mi (pc_ F T (tab t) (r + 1)) (P + H) (wf_ w t (tab t))) (CC_ F T (tab t)).toNat).length + 1 := rfl
  have K29 : ∀ o : Int, o = wf_ w t (tab t) → wp_m l Y_V_writePlaces none 0 0 29 [.ref 45, .int (iI k), .retAddr 0, .retAddr 0, .retAddr 0] [.int (iI o)] (hp_ σ0) K := fun o he => by
    subst he
    refine wp_is2 dc_V_writePlaces_29 (wp_aload_n dc_V_writePlaces_30 rfl rfl (wi_getR dc_V_writePlaces_31 lf_V_22 sh_45 rfl (wp_aload_n dc_V_writePlaces_34 rfl rfl (wp_iload_n dc_V_writePlaces_35 rfl rfl ?_))))
    refine wp_callV (As := [_]) dc_V_writePlaces_36 lm_V_102 ls_V_rowsOf (by decide) rfl rfl (hp_at _ sh_45) rfl rfl (Nat.le_of_ble_eq_true rfl) (Nat.le_refl _) (Nat.le_refl _) ?_
    refine c_V_rowsOf hlo0 hlt0 htt (by omega) (by omega) (by omega) ?_
    refine wp_callV (As := [_]) dc_V_writePlaces_39 lm_V_132 ls_B_add (by decide) rfl rfl (hp_at _ sh_46) rfl rfl (Nat.le_of_ble_eq_true rfl) (Nat.le_refl _) (Nat.le_refl _) ?_
    refine c_O_add (v := F (st_ T k)) ho (by omega) (by omega) (fun σ1 f1 o1 => ?_)
    refine wi_iconst dc_V_writePlaces_42 (wp_is3 dc_V_writePlaces_43 ?_)
    refine lp_V_wp (xs := xs) hx hlo0 hlt0 h6 h49 h50 hPH hL hw t0 t1 hk hl hK (CC_ F T (tab t)).toNat 0 σ1 _ (by omega) f1 ?_
    rw [hk]
    exact o1
  have K24 : wf_ w t (tab t) = 1 → wp_m l Y_V_writePlaces none 0 0 24 [.ref 45, .int (iI k), .retAddr 0, .retAddr 0, .retAddr 0] [] (hp_ σ0) K := fun he => by
    refine wi_iconst dc_V_writePlaces_24 (wp_goto dc_V_writePlaces_25 rfl ?_)
    exact K29 1 he.symm
  refine ct_of (L := [.ref 45, .int (iI k), .retAddr 0, .retAddr 0, .retAddr 0]) (by decide +kernel) (Nat.le_of_ble_eq_true rfl) rfl ?_
  refine wp_aload_n dc_V_writePlaces_0 rfl rfl (wi_getR dc_V_writePlaces_1 lf_V_25 sh_45 rfl (wp_iload_n dc_V_writePlaces_4 rfl rfl (wi_baldE (wk_ tc tab w k) dc_V_writePlaces_5 sh_48 (by omega) (by omega) (by decide) h48 ?_)))
  refine wi_if_ne dc_V_writePlaces_6 rfl (fun hd => ?_) (fun hd => ?_)
  · have e1 : wk_ tc tab w k = 1 := by omega
    refine K24 ?_
    unfold wf_
    rcases g5 with ⟨a1, a2, a3, a4⟩ | ⟨a1, a3, a4⟩
    · rw [if_pos (Or.inl a1)]
    · have wb := wk_b hx t0 t1 (by omega) w
      rw [a1] at wb
      rw [if_pos (Or.inr (wb.mp e1))]
  refine wp_aload_n dc_V_writePlaces_9 rfl rfl (wi_getR dc_V_writePlaces_10 lf_V_15 sh_45 rfl (wp_iload_n dc_V_writePlaces_13 rfl rfl (wi_bipush dc_V_writePlaces_14 ?_)))
  refine wp_callV (As := [_, _]) dc_V_writePlaces_16 lm_V_52 ls_L_of (by decide) rfl rfl (hp_at _ sh_3) rfl rfl (Nat.le_of_ble_eq_true rfl) (Nat.le_refl _) (Nat.le_refl _) ?_
  refine c_L_of (c := 6) (by decide) (by rw [hlt0.1]; omega) (by rw [hlt0.1]; omega) ⟨by omega, by omega⟩ ?_
  rw [hlt0.1, at_in (by omega) (by omega), show σ0 (5 + 6) k = px_kind (T 2 k) (T 4 k) from hlt0.2.2 k (by omega) (by omega), g4]
  unfold bx_ at bx
  refine wi_bipush dc_V_writePlaces_19 ?_
  refine wi_ic_ne dc_V_writePlaces_21 rfl (fun he => ?_) (fun he => ?_)
  · refine wi_iconst dc_V_writePlaces_28 ?_
    refine K29 0 ?_
    unfold wf_
    rcases g5 with ⟨a1, a2, a3, a4⟩ | ⟨a1, a3, a4⟩
    · omega
    · have wb := wk_b hx t0 t1 (by omega) w
      rw [a1] at wb
      rw [if_neg]
      rintro (q | q)
      · omega
      · have := wb.mpr q; omega
  · refine K24 ?_
    unfold wf_
    rw [if_pos (Or.inl (by omega))]
theorem c_V_writeBox {k w : Int} (hx : fx_ F n N T mi tc b tab me) (hlo : lo_ σ F n) (hlt : lt_ σ N T) (h6 : σ 45 6 = mi) (hmz : mz_ σ F T mi tc tab me w) (hL : nL_ F T mi tc tab me w ≤ 1000) (hw : fp_ F N T mi tc tab me w = w) (k0 : mi ≤ k) (k1 : k < me) (ho : oc_ σ xs) (hl : xs.length + (bb_ F N T mi tc tab me w k).length ≤ 1000)
    (hK : ∀ σ', fr_ ocW σ σ' → oc_ σ' (xs ++ bb_ F N T mi tc tab me w k) → K none (hp_ σ')) : ct_m l Y_V_writeBox 0 0 [.ref 45, .int (iI k)] (hp_ σ) K := by
  have m := fx_mi hx
  have htt := hx.2.2.1
  have nm := fx_np hx (wk_ tc tab w) (Int.le_refl mi) m.2.1
  have nk := fx_np hx (wk_ tc tab w) k0 k1
  have le := nl_le hx (wk_ tc tab w) (k - mi).toNat k (by omega) k1
  have bx := htt.2.2.1 k (by omega) (by omega)
  have kr := kd_rg bx
  have bx' := bx
  unfold bx_ at bx
  have eL : nL_ F T mi tc tab me w = nl_ F T (wk_ tc tab w) mi me mi := rfl
  have em : nl_ F T (wk_ tc tab w) mi me mi = np_ F T (wk_ tc tab w) mi me mi + hd_ T mi (np_ F T (wk_ tc tab w) mi me mi) := rfl
  have ek : nl_ F T (wk_ tc tab w) mi me k = np_ F T (wk_ tc tab w) mi me k + hd_ T k (np_ F T (wk_ tc tab w) mi me k) := rfl
  obtain ⟨q1, q2, q3⟩ := hmz k k0 k1
  obtain ⟨p1, p2, p3⟩ := hmz mi (Int.le_refl mi) m.2.1
  have hs : hd_ T k (np_ F T (wk_ tc tab w) mi me k) = 2 → np_ F T (wk_ tc tab w) mi me k + 2 ≤ 255 := fun e => by
    unfold hd_ at e
    by_cases q : T 3 k = 2 ∧ np_ F T (wk_ tc tab w) mi me k + 2 ≤ 255
    · exact q.2
    · rw [if_neg q] at e; omega
  have lb : (bb_ F N T mi tc tab me w k).length = (hh_ (if wk_ tc tab w k = 1 then 79 else T 2 k) (hd_ T k (np_ F T (wk_ tc tab w) mi me k)) (nl_ F T (wk_ tc tab w) mi me k)).length + (bd_ F N T mi tc tab me w k).length := List.length_append
  have lh : ((hh_ (if wk_ tc tab w k = 1 then 79 else T 2 k) (hd_ T k (np_ F T (wk_ tc tab w) mi me k)) (nl_ F T (wk_ tc tab w) mi me k)).length : Int) = hd_ T k (np_ F T (wk_ tc tab w) mi me k) := by
    unfold hh_
    rcases nk.2 with e | e
    · rw [e, if_neg (by decide)]; rfl
    · rw [e, if_pos rfl]; rfl
  unfold bb_ at hK
  refine ct_of (L := [.ref 45, .int (iI k), .retAddr 0]) (by decide +kernel) (Nat.le_of_ble_eq_true rfl) rfl ?_
  refine wp_aload_n dc_V_writeBox_0 rfl rfl (wp_iload_n dc_V_writeBox_1 rfl rfl ?_)
  refine wp_callV (As := [_]) dc_V_writeBox_2 lm_V_126 ls_V_writeHeader (by decide) rfl rfl (hp_at _ sh_45) rfl rfl (Nat.le_of_ble_eq_true rfl) (Nat.le_refl _) (Nat.le_refl _) ?_
  refine c_V_writeHeader (xs := xs) hlt htt (by omega) (by omega) q1 (wk_01 _ _) q2 q3 nk.2 nk.1.1 (by omega) hs ho (by omega) (fun σ1 f1 o1 => ?_)
  rw [← ek] at o1
  rw [← List.append_assoc] at hK
  generalize hys : xs ++ hh_ (if wk_ tc tab w k = 1 then 79 else T 2 k) (hd_ T k (np_ F T (wk_ tc tab w) mi me k)) (nl_ F T (wk_ tc tab w) mi me k) = ys at *
  have ly : ys.length = xs.length + (hh_ (if wk_ tc tab w k = 1 then 79 else T 2 k) (hd_ T k (np_ F T (wk_ tc tab w) mi me k)) (nl_ F T (wk_ tc tab w) mi me k)).length := by rw [← hys]; exact List.length_append
  have f12 := oc_12 f1
  have hlo1 := lo_fr f12 hlo
  have hlt1 := lt_fr f12 hlt
  have K28 : ∀ (t x : Int), 0 ≤ t → t < tc → pj_ (tab t) = k → wp_m l Y_V_writeBox none 0 0 28 [.ref 45, .int (iI k), .int (iI x)] [] (hp_ σ1) K := fun t x t0 t1 hk => by
    rw [bd_t hx t0 t1 hk] at hK lb
    refine wp_aload_n dc_V_writeBox_28 rfl rfl (wp_iload_n dc_V_writeBox_29 rfl rfl ?_)
    refine wp_callV (As := [_]) dc_V_writeBox_30 lm_V_129 ls_V_writePlaces (by decide) rfl rfl (hp_at _ sh_45) rfl rfl (Nat.le_of_ble_eq_true rfl) (Nat.le_refl _) (Nat.le_refl _) ?_
    refine c_V_writePlaces (xs := ys) (w := w) hx hlo1 hlt1 ((f1 45 6 (by unfold ocW; omega)).trans h6) ((f1 48 k (by unfold ocW; omega)).trans q1) ((f1 49 mi (by unfold ocW; omega)).trans p2) ((f1 50 mi (by unfold ocW; omega)).trans p3) rfl (by omega) hw t0 t1 hk o1 ?_ (fun σ2 f2 o2 => ?_)
    · show ys.length + (pp_ F N T mi (tab t) (nL_ F T mi tc tab me w) (wf_ w t (tab t))).length ≤ 1000
      omega
    · refine wp_goto dc_V_writeBox_33 rfl ?_
      exact wp_return dc_V_writeBox_74 rfl (hK σ2 (f1.tr f2) o2)
  refine wp_aload_n dc_V_writeBox_5 rfl rfl (wi_getR dc_V_writeBox_6 lf_V_15 sh_45 rfl (wp_iload_n dc_V_writeBox_9 rfl rfl (wi_bipush dc_V_writeBox_10 ?_)))
  refine wp_callV (As := [_, _]) dc_V_writeBox_12 lm_V_52 ls_L_of (by decide) rfl rfl (hp_at _ sh_3) rfl rfl (Nat.le_of_ble_eq_true rfl) (Nat.le_refl _) (Nat.le_refl _) ?_
  refine c_L_of (c := 6) (by decide) (by rw [hlt1.1]; omega) (by rw [hlt1.1]; omega) ⟨by omega, by omega⟩ ?_
  rw [hlt1.1, at_in (by omega) (by omega), show σ1 (5 + 6) k = px_kind (T 2 k) (T 4 k) from hlt1.2.2 k (by omega) (by omega)]
  have k4 := fx_kd hx (k := k) (q := 4) k0 k1 (by omega) (by omega)
  have k5 := fx_kd hx (k := k) (q := 5) k0 k1 (by omega) (by omega)
  rw [show tq_ 4 = 111 from rfl] at k4
  rw [show tq_ 5 = 79 from rfl] at k5
  refine wp_is2 dc_V_writeBox_15 (wp_iload_n dc_V_writeBox_16 rfl rfl (wi_bipush dc_V_writeBox_17 ?_))
  refine wi_ic_eq dc_V_writeBox_19 rfl (fun hd => ?_) (fun hd => ?_) kr ⟨by decide, by decide⟩
  · obtain ⟨t, t0, t1, e⟩ := k4.mp hd
    exact K28 t _ t0 t1 (by have := fx_pl hx t0 t1; omega)
  refine wp_iload_n dc_V_writeBox_22 rfl rfl (wi_bipush dc_V_writeBox_23 ?_)
  refine wi_ic_ne dc_V_writeBox_25 rfl (fun he => ?_) (fun he => ?_) kr ⟨by decide, by decide⟩
  rotate_left
  · obtain ⟨t, t0, t1, e⟩ := k5.mp he
    exact K28 t _ t0 t1 (by have := fx_pl hx t0 t1; omega)
  have hz : ∀ t, 0 ≤ t → t < tc → pj_ (tab t) ≠ k := fun t t0 t1 q => by
    rcases fx_pl hx t0 t1 with ⟨x1, x2, x3, x4⟩ | ⟨x1, x2, x3, x4⟩
    · exact hd (k4.mpr ⟨t, t0, t1, by omega⟩)
    · exact he (k5.mpr ⟨t, t0, t1, by omega⟩)
  clear k4 k5
  rw [bd_n m.2.2.2.2.2.2.2.2 hz] at hK lb
  have ep : pl_ T k = T 1 k - T 3 k := rfl
  have es : st_ T k = T 0 k + T 3 k := rfl
  have hn := hlo.2.1
  refine wp_aload_n dc_V_writeBox_36 rfl rfl (wi_getR dc_V_writeBox_37 lf_V_15 sh_45 rfl (wp_iload_n dc_V_writeBox_40 rfl rfl ?_))
  refine wp_callV (As := [_]) dc_V_writeBox_41 lm_V_95 ls_L_holdsBoxes (by decide) rfl rfl (hp_at _ sh_3) rfl rfl (Nat.le_of_ble_eq_true rfl) (Nat.le_refl _) (Nat.le_refl _) ?_
  refine c_L_holdsBoxes' hlt1 htt (by omega) (by omega) (fun hh => ?_) (fun hh => ?_)
  · rw [if_pos hh, List.append_nil] at hK
    refine wi_if_ne dc_V_writeBox_44 rfl (fun hf => ?_) (fun hf => ?_)
    · exact wp_return dc_V_writeBox_74 rfl (hK σ1 f1 o1)
    · omega
  · rw [if_neg hh] at hK lb
    refine wi_if_ne dc_V_writeBox_44 rfl (fun hf => ?_) (fun hf => ?_)
    · omega
    refine wp_aload_n dc_V_writeBox_47 rfl rfl (wi_getR dc_V_writeBox_48 lf_V_22 sh_45 rfl (wp_aload_n dc_V_writeBox_51 rfl rfl (wi_getR dc_V_writeBox_52 lf_V_9 sh_45 rfl (wp_aload_n dc_V_writeBox_55 rfl rfl (wi_getR dc_V_writeBox_56 lf_V_15 sh_45 rfl (wp_iload_n dc_V_writeBox_59 rfl rfl ?_))))))
    refine wp_callV (As := [_]) dc_V_writeBox_60 lm_V_105 ls_L_payloadOf (by decide) rfl rfl (hp_at _ sh_3) rfl rfl (Nat.le_of_ble_eq_true rfl) (Nat.le_refl _) (Nat.le_refl _) ?_
    refine c_L_payloadOf' hlt1 htt (by omega) (by omega) ?_
    refine wp_aload_n dc_V_writeBox_63 rfl rfl (wi_getR dc_V_writeBox_64 lf_V_15 sh_45 rfl (wp_iload_n dc_V_writeBox_67 rfl rfl ?_))
    refine wp_callV (As := [_]) dc_V_writeBox_68 lm_V_74 ls_L_endOf (by decide) rfl rfl (hp_at _ sh_3) rfl rfl (Nat.le_of_ble_eq_true rfl) (Nat.le_refl _) (Nat.le_refl _) ?_
    refine c_L_endOf' hlt1 htt (by omega) (by omega) ?_
    refine wp_callV (As := [_, _, _]) dc_V_writeBox_71 lm_V_67 ls_B_addPart (by decide) rfl rfl (hp_at _ sh_46) rfl rfl (Nat.le_of_ble_eq_true rfl) (Nat.le_refl _) (Nat.le_refl _) ?_
    rw [pt_len] at lb
    refine c_O_addPart o1 hlo1 (by omega) (by omega) (by omega) (by omega) (fun σ2 f2 o2 => ?_)
    exact wp_return dc_V_writeBox_74 rfl (hK σ2 (f1.tr f2) o2)
end FQ
