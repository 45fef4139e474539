/-! fastStart: the reference writes -/
section FS
variable {l : Launch} {K : Option Value → mx_H → Prop} {F : Int → Int} {n N : Int} {T : px_T} {mi tc : Int} {b : Int → Int} {tab : Int → Int → Int} {me : Int} {σ : sg_} {xs : List Int}
/-- the reference's out holds xs -/
def or_ (σ : sg_) (xs : List Int) : Prop := σ 51 20 = (xs.length : Int) ∧ gs_ xs (σ 67)
def orW (b : Nat) (j : Int) : Prop := (b = 51 ∧ j = 20) ∨ b = 67
theorem c_R_put {v : Int} (ho : or_ σ xs) (hl : (xs.length : Int) < 1000) (hK : ∀ σ', fr_ orW σ σ' → or_ σ' (xs ++ [v]) → K none (hp_ σ')) : ct_m l Y_R_put 0 0 [.ref 51, .int (iI v)] (hp_ σ) K := by
  obtain ⟨h1, h2⟩ := ho
  refine ct_of (L := [.ref 51, .int (iI v)]) (by decide +kernel) (Nat.le_of_ble_eq_true rfl) rfl ?_
  refine wp_aload_n dc_R_put_0 rfl rfl (wi_getR dc_R_put_1 lf_R_55 sh_51 rfl (wp_aload_n dc_R_put_4 rfl rfl (wi_getE 20 ((xs.length : Int)) dc_R_put_5 lf_R_181 sh_51 rfl rfl h1 (wp_iload_n dc_R_put_8 rfl rfl (wi_ast dc_R_put_9 sh_67 (by omega) (by omega) (by decide) (wp_aload_n dc_R_put_10 rfl rfl (wp_dup dc_R_put_11 (wi_getE 20 ((xs.length : Int)) dc_R_put_12 lf_R_181 sh_51 rfl rfl (by rw [up_n _ _ (by omega)]; exact h1) (wi_iconst dc_R_put_15 (wi_iadd dc_R_put_16 (wi_putI 20 dc_R_put_17 lf_R_181 sh_51 rfl rfl pv_int ?_)))))))))))
  refine wp_return dc_R_put_20 rfl (hK _ ((fr_.rf.up (Or.inr rfl)).up (Or.inl ⟨rfl, rfl⟩)) ⟨?_, gs_app (gs_congr h2 (fun i hi => ?_)) (gs_one ?_)⟩)
  · rw [up_s, List.length_append, Int.natCast_add]
    rfl
  · rw [up_n _ _ (by omega), up_n _ _ (by omega)]
  · rw [up_n _ _ (by omega), Int.add_zero, up_s]
theorem ry_or {σ' : sg_} (h : ry_ σ F n N T mi tc b tab) (hf : fr_ orW σ σ') : ry_ σ' F n N T mi tc b tab := ry_fr h hf (fun b j q => by unfold orW at q; omega)
/-- the places -/
theorem lp_R_wbp {σ0 : sg_} {t k w L o : Int} (hx : fx_ F n N T mi tc b tab me) (hy0 : ry_ σ0 F n N T mi tc b tab) (hLw : L = nL_ F T mi tc tab me w) (hL : 0 ≤ L ∧ L ≤ 1000) (hw : fp_ F N T mi tc tab me w = w) (t0 : 0 ≤ t) (t1 : t < tc) (hoo : o = wf_ w t (tab t)) (hl : xs.length + (pp_ F N T mi (tab t) L o).length ≤ 1000)
    (hK : ∀ σ', fr_ orW σ0 σ' → or_ σ' (xs ++ pp_ F N T mi (tab t) L o) → K none (hp_ σ')) :
    ∀ (j r : Nat) (σ : sg_) (u8 : Value), r + j = (CC_ F T (tab t)).toNat → fr_ orW σ0 σ → or_ σ (xs ++ (F (st_ T (pj_ (tab t))) :: ps_ (fun r => pe_ N T mi (pc_ F T (tab t) (r + 1)) L o) r)) → wp_m l Y_R_writeBox none 0 0 176 [.ref 51, .int (iI k), .int (iI w), .int (iI L), .int (iI t), .int (iI o), .int (iI (CC_ F T (tab t))), .int (iI ((r : Int) + 1)), u8] [] (hp_ σ) K := by
  have m := fx_mi hx
  have hn := hx.2.1
  have ecc : CC_ F T (tab t) = F (st_ T (pj_ (tab t))) := rfl
  have hF := hx.1 (st_ T (pj_ (tab t)))
  have wfr : o = 0 ∨ o = 1 := by rw [hoo]; unfold wf_; split <;> omega
  intro j
  induction j with
  | zero =>
    intro r σ u8 hr hfr ho
    refine wp_iload dc_R_writeBox_176 rfl (wp_iload dc_R_writeBox_178 rfl ?_)
    refine wi_ic_gt dc_R_writeBox_180 rfl (fun hd => ?_) (fun hd => ?_)
    · refine wp_goto dc_R_writeBox_224 rfl ?_
      refine wp_return dc_R_writeBox_265 rfl (hK σ hfr ?_)
      unfold pp_
      obtain rfl : r = (CC_ F T (tab t)).toNat := by omega
      exact ho
    · omega
  | succ j ih =>
    intro r σ u8 hr hfr ho
    obtain ⟨z1, z2, z3, z4, z5⟩ := fx_nz hx (c := (r : Int) + 1) (L := L) t0 t1 (by omega) (by omega) hL.1
    have le := ps_le (fun r => pe_ N T mi (pc_ F T (tab t) (r + 1)) L o) (show r + 1 ≤ (CC_ F T (tab t)).toNat by omega)
    have le1 : (ps_ (fun r => pe_ N T mi (pc_ F T (tab t) (r + 1)) L o) (r + 1)).length = (ps_ (fun r => pe_ N T mi (pc_ F T (tab t) (r + 1)) L o) r).length + (pe_ N T mi (pc_ F T (tab t) ((r : Int) + 1)) L o).length := List.length_append
    have hl2 : (pp_ F N T mi (tab t) L o).length = (ps_ (fun r => pe_ N T mi (pc_ F T (tab t) (r + 1)) L o) (CC_ F T (tab t)).toNat).length + 1 := rfl
    have lx : (xs ++ (F (st_ T (pj_ (tab t))) :: ps_ (fun r => pe_ N T mi (pc_ F T (tab t) (r + 1)) L o) r)).length = xs.length + ((ps_ (fun r => pe_ N T mi (pc_ F T (tab t) (r + 1)) L o) r).length + 1) := List.length_append
    have nx : ∀ σ', fr_ orW σ σ' → or_ σ' ((xs ++ (F (st_ T (pj_ (tab t))) :: ps_ (fun r => pe_ N T mi (pc_ F T (tab t) (r + 1)) L o) r)) ++ pe_ N T mi (pc_ F T (tab t) ((r : Int) + 1)) L o) → wp_m l Y_R_writeBox none 0 0 218 [.ref 51, .int (iI k), .int (iI w), .int (iI L), .int (iI t), .int (iI o), .int (iI (CC_ F T (tab t))), .int (iI ((r : Int) + 1)), .int (iI (nz_ N T mi (pc_ F T (tab t) ((r : Int) + 1)) L))] [] (hp_ σ') K := fun σ' f1 o1 => by
      refine wp_ii7 dc_R_writeBox_218 (wp_goto dc_R_writeBox_221 rfl ?_)
      rw [show (r : Int) + 1 = ((r + 1 : Nat) : Int) by omega]
      refine ih (r + 1) σ' _ (by omega) (hfr.tr f1) ?_
      rw [List.append_assoc] at o1
      exact o1
    refine wp_iload dc_R_writeBox_176 rfl (wp_iload dc_R_writeBox_178 rfl ?_)
    refine wi_ic_gt dc_R_writeBox_180 rfl (fun hd => ?_) (fun hd => ?_)
    · omega
    refine wp_aload_n dc_R_writeBox_183 rfl rfl (wp_iload dc_R_writeBox_184 rfl (wp_iload dc_R_writeBox_186 rfl (wp_iload_n dc_R_writeBox_188 rfl rfl ?_)))
    refine wp_callV (As := [_, _, _]) dc_R_writeBox_189 lm_R_165 ls_R_newPlace (by decide) rfl rfl (hp_at _ sh_51) rfl rfl (Nat.le_of_ble_eq_true rfl) (Nat.le_refl _) (Nat.le_refl _) ?_
    refine c_R_newPlace hx (ry_or hy0 hfr) t0 t1 (by omega) (by omega) (by omega) ?_
    refine wp_is8 dc_R_writeBox_192 (wp_iload dc_R_writeBox_194 rfl ?_)
    refine wi_if_eq dc_R_writeBox_196 rfl (fun he => ?_) (fun he => ?_)
    · have hz := nz_nar hx (c := (r : Int) + 1) hw t0 t1 (by omega) (by omega) (by omega)
      rw [← hLw] at hz
      rw [pe_, if_neg (by omega)] at nx
      rw [pe_, if_neg (by omega)] at le1
      have l1 : [nz_ N T mi (pc_ F T (tab t) ((r : Int) + 1)) L].length = 1 := rfl
      refine wp_aload_n dc_R_writeBox_208 rfl rfl (wp_iload dc_R_writeBox_209 rfl (wi_sipush dc_R_writeBox_211 (wi_and255 dc_R_writeBox_214 ?_)))
      rw [show nz_ N T mi (pc_ F T (tab t) ((r : Int) + 1)) L % 256 = nz_ N T mi (pc_ F T (tab t) ((r : Int) + 1)) L by omega]
      refine wp_callV (As := [_]) dc_R_writeBox_215 lm_R_184 ls_R_put (by decide) rfl rfl (hp_at _ sh_51) rfl rfl (Nat.le_of_ble_eq_true rfl) (Nat.le_refl _) (Nat.le_refl _) ?_
      refine c_R_put (v := nz_ N T mi (pc_ F T (tab t) ((r : Int) + 1)) L) ho (by omega) (fun σ1 f1 o1 => ?_)
      exact nx σ1 f1 o1
    · rw [pe_, if_pos (by omega)] at nx
      rw [pe_, if_pos (by omega)] at le1
      have l1 : [nz_ N T mi (pc_ F T (tab t) ((r : Int) + 1)) L / 256, nz_ N T mi (pc_ F T (tab t) ((r : Int) + 1)) L % 256].length = 2 := rfl
      refine wp_aload_n dc_R_writeBox_199 rfl rfl (wp_iload dc_R_writeBox_200 rfl (wi_bipush dc_R_writeBox_202 (wi_shr8 dc_R_writeBox_204 ?_)))
      refine wp_callV (As := [_]) dc_R_writeBox_205 lm_R_184 ls_R_put (by decide) rfl rfl (hp_at _ sh_51) rfl rfl (Nat.le_of_ble_eq_true rfl) (Nat.le_refl _) (Nat.le_refl _) ?_
      refine c_R_put ho (by omega) (fun σ1 f1 o1 => ?_)
      refine wp_aload_n dc_R_writeBox_208 rfl rfl (wp_iload dc_R_writeBox_209 rfl (wi_sipush dc_R_writeBox_211 (wi_and255 dc_R_writeBox_214 ?_)))
      refine wp_callV (As := [_]) dc_R_writeBox_215 lm_R_184 ls_R_put (by decide) rfl rfl (hp_at _ sh_51) rfl rfl (Nat.le_of_ble_eq_true rfl) (Nat.le_refl _) (Nat.le_refl _) ?_
      refine c_R_put o1 (by rw [List.length_append, lx]; show ((xs.length + ((ps_ (fun r => pe_ N T mi (pc_ F T (tab t) (r + 1)) L o) r).length + 1) + 1 : Nat) : Int) < 1000; omega) (fun σ2 f2 o2 => ?_)
      rw [List.append_assoc] at o2
      exact nx σ2 (f1.tr f2) o2
/-- a payload that is kept -/
theorem lp_R_wbq {σ0 : sg_} {k w L x o : Int} {u7 u8 : Value} (hx : fx_ F n N T mi tc b tab me) (hy0 : ry_ σ0 F n N T mi tc b tab) (k0 : 0 ≤ k) (k1 : k < N) (hl : xs.length + (pt_ F (st_ T k) (T 0 k + T 1 k)).length ≤ 1000)
    (hK : ∀ σ', fr_ orW σ0 σ' → or_ σ' (xs ++ pt_ F (st_ T k) (T 0 k + T 1 k)) → K none (hp_ σ')) :
    ∀ (j : Nat) (i : Int) (σ : sg_), i + j = pl_ T k → 0 ≤ i → fr_ orW σ0 σ → or_ σ (xs ++ pt_ F (st_ T k) (st_ T k + i)) → wp_m l Y_R_writeBox none 0 0 238 [.ref 51, .int (iI k), .int (iI w), .int (iI L), .int (iI x), .int (iI o), .int (iI i), u7, u8] [] (hp_ σ) K := by
  have m := fx_mi hx
  have htt := hx.2.2.1
  have hn := hx.2.1
  have bx := htt.2.2.1 k k0 k1
  unfold bx_ at bx
  have ep : pl_ T k = T 1 k - T 3 k := rfl
  have es : st_ T k = T 0 k + T 3 k := rfl
  rw [pt_len] at hl
  intro j
  induction j with
  | zero =>
    intro i σ hi i0 hfr ho
    have hy := ry_or hy0 hfr
    refine wp_iload dc_R_writeBox_238 rfl (wp_aload_n dc_R_writeBox_240 rfl rfl (wp_iload_n dc_R_writeBox_241 rfl rfl ?_))
    refine wp_callV (As := [_]) dc_R_writeBox_242 lm_R_103 ls_R_payLength (by decide) rfl rfl (hp_at _ sh_51) rfl rfl (Nat.le_of_ble_eq_true rfl) (Nat.le_refl _) (Nat.le_refl _) ?_
    refine c_R_payLength hy.2.1.1 htt k0 k1 ?_
    refine wi_ic_ge dc_R_writeBox_245 rfl (fun hd => ?_) (fun hd => ?_)
    · refine wp_return dc_R_writeBox_265 rfl (hK σ hfr ?_)
      rw [show T 0 k + T 1 k = st_ T k + i by omega]
      exact ho
    · omega
  | succ j ih =>
    intro i σ hi i0 hfr ho
    have hy := ry_or hy0 hfr
    have lx : (xs ++ pt_ F (st_ T k) (st_ T k + i)).length = xs.length + (st_ T k + i - st_ T k).toNat := by rw [List.length_append, pt_len]
    refine wp_iload dc_R_writeBox_238 rfl (wp_aload_n dc_R_writeBox_240 rfl rfl (wp_iload_n dc_R_writeBox_241 rfl rfl ?_))
    refine wp_callV (As := [_]) dc_R_writeBox_242 lm_R_103 ls_R_payLength (by decide) rfl rfl (hp_at _ sh_51) rfl rfl (Nat.le_of_ble_eq_true rfl) (Nat.le_refl _) (Nat.le_refl _) ?_
    refine c_R_payLength hy.2.1.1 htt k0 k1 ?_
    refine wi_ic_ge dc_R_writeBox_245 rfl (fun hd => ?_) (fun hd => ?_)
    · omega
    refine wp_aload_n dc_R_writeBox_248 rfl rfl (wp_aload_n dc_R_writeBox_249 rfl rfl (wp_iload_n dc_R_writeBox_250 rfl rfl (wp_iload dc_R_writeBox_251 rfl ?_)))
    refine wp_callV (As := [_, _]) dc_R_writeBox_253 lm_R_106 ls_R_pay (by decide) rfl rfl (hp_at _ sh_51) rfl rfl (Nat.le_of_ble_eq_true rfl) (Nat.le_refl _) (Nat.le_refl _) ?_
    refine c_R_pay hy.1 hy.2.1.1 htt k0 k1 i0 (by omega) ?_
    refine wp_callV (As := [_]) dc_R_writeBox_256 lm_R_184 ls_R_put (by decide) rfl rfl (hp_at _ sh_51) rfl rfl (Nat.le_of_ble_eq_true rfl) (Nat.le_refl _) (Nat.le_refl _) ?_
    refine c_R_put ho (by omega) (fun σ1 f1 o1 => ?_)
    refine wp_ii6 dc_R_writeBox_259 (wp_goto dc_R_writeBox_262 rfl ?_)
    refine ih (i + 1) σ1 (by omega) (by omega) (hfr.tr f1) ?_
    rw [show st_ T k + (i + 1) = st_ T k + i + 1 by omega, pt_S F (by omega), ← List.append_assoc]
    exact o1
/-- what stands behind the header -/
theorem wb_154 {k w L x o : Int} {u6 u7 u8 : Value} (hx : fx_ F n N T mi tc b tab me) (hy : ry_ σ F n N T mi tc b tab) (hLw : L = nL_ F T mi tc tab me w) (hL : 0 ≤ L ∧ L ≤ 1000) (hw : fp_ F N T mi tc tab me w = w) (k0 : mi ≤ k) (k1 : k < me)
    (hxo : (x = -1 ∧ ∀ t, 0 ≤ t → t < tc → pj_ (tab t) ≠ k) ∨ ((0 ≤ x ∧ x < tc) ∧ pj_ (tab x) = k ∧ o = wf_ w x (tab x))) (ho : or_ σ xs) (hl : xs.length + (bd_ F N T mi tc tab me w k).length ≤ 1000)
    (hK : ∀ σ', fr_ orW σ σ' → or_ σ' (xs ++ bd_ F N T mi tc tab me w k) → K none (hp_ σ')) : wp_m l Y_R_writeBox none 0 0 154 [.ref 51, .int (iI k), .int (iI w), .int (iI L), .int (iI x), .int (iI o), u6, u7, u8] [] (hp_ σ) K := by
  have m := fx_mi hx
  have htt := hx.2.2.1
  rcases hxo with ⟨e, hz⟩ | ⟨⟨x0, x1⟩, hk, hoo⟩
  · subst e
    rw [bd_n m.2.2.2.2.2.2.2.2 hz] at hK hl
    refine wp_iload dc_R_writeBox_154 rfl ?_
    refine wi_if_lt dc_R_writeBox_156 rfl (fun hd => ?_) (fun hd => ?_)
    rotate_left
    · omega
    refine wp_aload_n dc_R_writeBox_227 rfl rfl (wp_iload_n dc_R_writeBox_228 rfl rfl ?_)
    refine wp_callV (As := [_]) dc_R_writeBox_229 lm_R_71 ls_R_isHolder (by decide) rfl rfl (hp_at _ sh_51) rfl rfl (Nat.le_of_ble_eq_true rfl) (Nat.le_refl _) (Nat.le_refl _) ?_
    refine c_R_isHolder' hy.2.1.1 htt (by omega) (by omega) (fun hh => ?_) (fun hh => ?_)
    · rw [if_pos hh, List.append_nil] at hK
      refine wi_if_ne dc_R_writeBox_232 rfl (fun hf => ?_) (fun hf => ?_)
      · exact wp_return dc_R_writeBox_265 rfl (hK σ fr_.rf ho)
      · omega
    · rw [if_neg hh] at hK hl
      have bx := htt.2.2.1 k (by omega) (by omega)
      unfold bx_ at bx
      have ep : pl_ T k = T 1 k - T 3 k := rfl
      refine wi_if_ne dc_R_writeBox_232 rfl (fun hf => ?_) (fun hf => ?_)
      · omega
      refine wi_iconst dc_R_writeBox_235 (wp_is6 dc_R_writeBox_236 ?_)
      refine lp_R_wbq (xs := xs) hx hy (by omega) (by omega) hl hK (pl_ T k).toNat 0 σ (by omega) (by omega) fr_.rf ?_
      rw [Int.add_zero, pt_0, List.append_nil]
      exact ho
  · have ecc : CC_ F T (tab x) = F (st_ T (pj_ (tab x))) := rfl
    have hF := hx.1 (st_ T (pj_ (tab x)))
    rw [bd_t hx x0 x1 hk, ← hLw, ← hoo] at hK hl
    have hl2 : (pp_ F N T mi (tab x) L o).length = (ps_ (fun r => pe_ N T mi (pc_ F T (tab x) (r + 1)) L o) (CC_ F T (tab x)).toNat).length + 1 := rfl
    refine wp_iload dc_R_writeBox_154 rfl ?_
    refine wi_if_lt dc_R_writeBox_156 rfl (fun hd => ?_) (fun hd => ?_)
    · omega
    refine wp_aload_n dc_R_writeBox_159 rfl rfl (wp_iload dc_R_writeBox_160 rfl ?_)
    refine wp_callV (As := [_]) dc_R_writeBox_162 lm_R_116 ls_R_chunkCount (by decide) rfl rfl (hp_at _ sh_51) rfl rfl (Nat.le_of_ble_eq_true rfl) (Nat.le_refl _) (Nat.le_refl _) ?_
    refine c_R_chunkCount (ry_rx hx hy x0 x1) ?_
    refine wp_is6 dc_R_writeBox_165 (wp_aload_n dc_R_writeBox_167 rfl rfl (wp_iload dc_R_writeBox_168 rfl ?_))
    refine wp_callV (As := [_]) dc_R_writeBox_170 lm_R_184 ls_R_put (by decide) rfl rfl (hp_at _ sh_51) rfl rfl (Nat.le_of_ble_eq_true rfl) (Nat.le_refl _) (Nat.le_refl _) ?_
    refine c_R_put ho (by omega) (fun σ1 f1 o1 => ?_)
    refine wi_iconst dc_R_writeBox_173 (wp_is7 dc_R_writeBox_174 ?_)
    exact lp_R_wbp (xs := xs) hx hy hLw hL hw x0 x1 hoo hl hK (CC_ F T (tab x)).toNat 0 σ1 _ (by omega) f1 o1
/-- the header -/
theorem wb_71 {k w L x o : Int} {u5 u6 u7 u8 : Value} (hx : fx_ F n N T mi tc b tab me) (hy : ry_ σ F n N T mi tc b tab) (h64 : σ 64 k = hd_ T k (np_ F T (wk_ tc tab w) mi me k)) (h65 : σ 65 k = nl_ F T (wk_ tc tab w) mi me k) (hLw : L = nL_ F T mi tc tab me w) (hL : 0 ≤ L ∧ L ≤ 1000) (hw : fp_ F N T mi tc tab me w = w) (k0 : mi ≤ k) (k1 : k < me)
    (hxo : (x = -1 ∧ ∀ t, 0 ≤ t → t < tc → pj_ (tab t) ≠ k) ∨ ((0 ≤ x ∧ x < tc) ∧ pj_ (tab x) = k ∧ o = wf_ w x (tab x))) (hty : (if o = 1 then 79 else T 2 k) = (if wk_ tc tab w k = 1 then 79 else T 2 k)) (o01 : o = 0 ∨ o = 1) (ho : or_ σ xs) (hl : xs.length + (bb_ F N T mi tc tab me w k).length ≤ 1000)
    (hK : ∀ σ', fr_ orW σ σ' → or_ σ' (xs ++ bb_ F N T mi tc tab me w k) → K none (hp_ σ')) : wp_m l Y_R_writeBox none 0 0 71 [.ref 51, .int (iI k), .int (iI w), .int (iI L), .int (iI x), u5, u6, u7, u8] [.int (iI o)] (hp_ σ) K := by
  have m := fx_mi hx
  have htt := hx.2.2.1
  have nk := fx_np hx (wk_ tc tab w) k0 k1
  have le := nl_le hx (wk_ tc tab w) (k - mi).toNat k (by omega) k1
  have eL : nL_ F T mi tc tab me w = nl_ F T (wk_ tc tab w) mi me mi := rfl
  have ek : nl_ F T (wk_ tc tab w) mi me k = np_ F T (wk_ tc tab w) mi me k + hd_ T k (np_ F T (wk_ tc tab w) mi me k) := rfl
  have bx := htt.2.2.1 k (by omega) (by omega)
  unfold bx_ at bx
  have lb : (bb_ F N T mi tc tab me w k).length = (hh_ (if wk_ tc tab w k = 1 then 79 else T 2 k) (hd_ T k (np_ F T (wk_ tc tab w) mi me k)) (nl_ F T (wk_ tc tab w) mi me k)).length + (bd_ F N T mi tc tab me w k).length := List.length_append
  have lh : ((hh_ (if wk_ tc tab w k = 1 then 79 else T 2 k) (hd_ T k (np_ F T (wk_ tc tab w) mi me k)) (nl_ F T (wk_ tc tab w) mi me k)).length : Int) = hd_ T k (np_ F T (wk_ tc tab w) mi me k) := by
    unfold hh_
    rcases nk.2 with e | e
    · rw [e, if_neg (by decide)]; rfl
    · rw [e, if_pos rfl]; rfl
  unfold bb_ at hK
  rw [← List.append_assoc, ← hty] at hK
  rw [← hty] at lb lh
  generalize hty2 : (if o = 1 then 79 else T 2 k) = ty at *
  generalize hlen : nl_ F T (wk_ tc tab w) mi me k = len at *
  have K114 : ∀ (σ1 : sg_) (f : Int), fr_ orW σ σ1 → (hd_ T k (np_ F T (wk_ tc tab w) mi me k) = 4 ∧ f = 1) ∨ (hd_ T k (np_ F T (wk_ tc tab w) mi me k) = 2 ∧ f = len) → or_ σ1 (xs ++ [f]) → wp_m l Y_R_writeBox none 0 0 114 [.ref 51, .int (iI k), .int (iI w), .int (iI L), .int (iI x), .int (iI o), u6, u7, u8] [.int (iI ty), .ref 51] (hp_ σ1) K := fun σ1 f f1 hf o1 => by
    refine wp_callV (As := [_]) dc_R_writeBox_114 lm_R_184 ls_R_put (by decide) rfl rfl (hp_at _ sh_51) rfl rfl (Nat.le_of_ble_eq_true rfl) (Nat.le_refl _) (Nat.le_refl _) ?_
    refine c_R_put o1 (by rw [List.length_append]; show ((xs.length + 1 : Nat) : Int) < 1000; omega) (fun σ2 f2 o2 => ?_)
    rw [List.append_assoc] at o2
    have f12 := f1.tr f2
    refine wp_aload_n dc_R_writeBox_117 rfl rfl (wi_getR dc_R_writeBox_118 lf_R_46 sh_51 rfl (wp_iload_n dc_R_writeBox_121 rfl rfl (wi_aldE (hd_ T k (np_ F T (wk_ tc tab w) mi me k)) dc_R_writeBox_122 sh_64 (by omega) (by omega) (by decide) ((f12 64 k (by unfold orW; omega)).trans h64) (wi_iconst dc_R_writeBox_123 ?_))))
    refine wi_ic_ne dc_R_writeBox_124 rfl (fun hd => ?_) (fun hd => ?_)
    · rw [hh_, if_neg hd] at hK lb lh
      obtain rfl : f = len := by omega
      refine wb_154 (xs := xs ++ [f, ty]) hx (ry_or hy f12) hLw hL hw k0 k1 hxo o2 (by rw [List.length_append]; omega) (fun σ' f3 o3 => hK σ' (f12.tr f3) o3)
    · rw [hh_, if_pos hd] at hK lb lh
      obtain rfl : f = 1 := by omega
      have l2 : (xs ++ [1, ty]).length = xs.length + 2 := List.length_append
      refine wp_aload_n dc_R_writeBox_127 rfl rfl (wp_aload_n dc_R_writeBox_128 rfl rfl (wi_getR dc_R_writeBox_129 lf_R_49 sh_51 rfl (wp_iload_n dc_R_writeBox_132 rfl rfl (wi_aldE (len) dc_R_writeBox_133 sh_65 (by omega) (by omega) (by decide) ((f12 65 k (by unfold orW; omega)).trans h65) (wi_bipush dc_R_writeBox_134 (wi_shr8 dc_R_writeBox_136 ?_))))))
      refine wp_callV (As := [_]) dc_R_writeBox_137 lm_R_184 ls_R_put (by decide) rfl rfl (hp_at _ sh_51) rfl rfl (Nat.le_of_ble_eq_true rfl) (Nat.le_refl _) (Nat.le_refl _) ?_
      refine c_R_put o2 (by rw [List.length_append]; show ((xs.length + 2 : Nat) : Int) < 1000; omega) (fun σ3 f3 o3 => ?_)
      have f13 := f12.tr f3
      refine wp_aload_n dc_R_writeBox_140 rfl rfl (wp_aload_n dc_R_writeBox_141 rfl rfl (wi_getR dc_R_writeBox_142 lf_R_49 sh_51 rfl (wp_iload_n dc_R_writeBox_145 rfl rfl (wi_aldE (len) dc_R_writeBox_146 sh_65 (by omega) (by omega) (by decide) ((f13 65 k (by unfold orW; omega)).trans h65) (wi_sipush dc_R_writeBox_147 (wi_and255 dc_R_writeBox_150 ?_))))))
      refine wp_callV (As := [_]) dc_R_writeBox_151 lm_R_184 ls_R_put (by decide) rfl rfl (hp_at _ sh_51) rfl rfl (Nat.le_of_ble_eq_true rfl) (Nat.le_refl _) (Nat.le_refl _) ?_
      refine c_R_put o3 (by rw [List.length_append, List.length_append]; show ((xs.length + 2 + 1 : Nat) : Int) < 1000; omega) (fun σ4 f4 o4 => ?_)
      rw [List.append_assoc, List.append_assoc] at o4
      have f14 := f13.tr f4
      exact wb_154 (xs := xs ++ [1, ty, len / 256, len % 256]) hx (ry_or hy f14) hLw hL hw k0 k1 hxo o4 (by rw [List.length_append]; omega) (fun σ' f5 o5 => hK σ' (f14.tr f5) o5)
  have K97 : ∀ (σ1 : sg_) (f : Int), fr_ orW σ σ1 → (hd_ T k (np_ F T (wk_ tc tab w) mi me k) = 4 ∧ f = 1) ∨ (hd_ T k (np_ F T (wk_ tc tab w) mi me k) = 2 ∧ f = len) → or_ σ1 (xs ++ [f]) → wp_m l Y_R_writeBox none 0 0 97 [.ref 51, .int (iI k), .int (iI w), .int (iI L), .int (iI x), .int (iI o), u6, u7, u8] [] (hp_ σ1) K := fun σ1 f f1 hf o1 => by
    have nx := K114 σ1 f f1 hf o1
    have hrt := (ry_or hy f1).2.1.1
    refine wp_aload_n dc_R_writeBox_97 rfl rfl (wp_iload dc_R_writeBox_98 rfl ?_)
    refine wi_if_eq dc_R_writeBox_100 rfl (fun hd => ?_) (fun hd => ?_)
    · rw [if_neg (by omega)] at hty2
      rw [← hty2] at nx
      refine wp_aload_n dc_R_writeBox_108 rfl rfl (wi_getR dc_R_writeBox_109 lf_R_19 sh_51 rfl (wp_iload_n dc_R_writeBox_112 rfl rfl (wi_aldE (T 2 k) dc_R_writeBox_113 sh_55 (by omega) (by omega) (by decide) (hrt.2 2 k (by decide) (by omega) (by omega)) ?_)))
      exact nx
    · rw [if_pos (by omega)] at hty2
      rw [← hty2] at nx
      refine wi_bipush dc_R_writeBox_103 (wp_goto dc_R_writeBox_105 rfl ?_)
      exact nx
  refine wp_is5 dc_R_writeBox_71 (wp_aload_n dc_R_writeBox_73 rfl rfl (wp_aload_n dc_R_writeBox_74 rfl rfl (wi_getR dc_R_writeBox_75 lf_R_46 sh_51 rfl (wp_iload_n dc_R_writeBox_78 rfl rfl (wi_aldE (hd_ T k (np_ F T (wk_ tc tab w) mi me k)) dc_R_writeBox_79 sh_64 (by omega) (by omega) (by decide) h64 (wi_iconst dc_R_writeBox_80 ?_))))))
  refine wi_ic_ne dc_R_writeBox_81 rfl (fun hd => ?_) (fun hd => ?_)
  · refine wp_aload_n dc_R_writeBox_88 rfl rfl (wi_getR dc_R_writeBox_89 lf_R_49 sh_51 rfl (wp_iload_n dc_R_writeBox_92 rfl rfl (wi_aldE (len) dc_R_writeBox_93 sh_65 (by omega) (by omega) (by decide) h65 ?_)))
    refine wp_callV (As := [_]) dc_R_writeBox_94 lm_R_184 ls_R_put (by decide) rfl rfl (hp_at _ sh_51) rfl rfl (Nat.le_of_ble_eq_true rfl) (Nat.le_refl _) (Nat.le_refl _) ?_
    refine c_R_put ho (by omega) (fun σ1 f1 o1 => ?_)
    exact K97 σ1 len f1 (Or.inr ⟨by omega, rfl⟩) o1
  · refine wi_iconst dc_R_writeBox_84 (wp_goto dc_R_writeBox_85 rfl ?_)
    refine wp_callV (As := [_]) dc_R_writeBox_94 lm_R_184 ls_R_put (by decide) rfl rfl (hp_at _ sh_51) rfl rfl (Nat.le_of_ble_eq_true rfl) (Nat.le_refl _) (Nat.le_refl _) ?_
    refine c_R_put ho (by omega) (fun σ1 f1 o1 => ?_)
    exact K97 σ1 1 f1 (Or.inl ⟨hd, rfl⟩) o1
theorem lp_R_wb {k w L : Int} {u6 u7 u8 : Value} (hx : fx_ F n N T mi tc b tab me) (hy : ry_ σ F n N T mi tc b tab) (w0 : 0 ≤ w) (w1 : w ≤ 3) (h64 : σ 64 k = hd_ T k (np_ F T (wk_ tc tab w) mi me k)) (h65 : σ 65 k = nl_ F T (wk_ tc tab w) mi me k) (hLw : L = nL_ F T mi tc tab me w) (hL : 0 ≤ L ∧ L ≤ 1000) (hw : fp_ F N T mi tc tab me w = w) (k0 : mi ≤ k) (k1 : k < me) (ho : or_ σ xs) (hl : xs.length + (bb_ F N T mi tc tab me w k).length ≤ 1000)
    (hK : ∀ σ', fr_ orW σ σ' → or_ σ' (xs ++ bb_ F N T mi tc tab me w k) → K none (hp_ σ')) :
    ∀ (j : Nat) (t x : Int), t + j = tc → 0 ≤ t → ((x = -1 ∧ ∀ t', 0 ≤ t' → t' < t → pj_ (tab t') ≠ k) ∨ ((0 ≤ x ∧ x < t) ∧ pj_ (tab x) = k)) → wp_m l Y_R_writeBox none 0 0 6 [.ref 51, .int (iI k), .int (iI w), .int (iI L), .int (iI x), .int (iI t), u6, u7, u8] [] (hp_ σ) K := by
  have m := fx_mi hx
  have htt := hx.2.2.1
  have hrt := hy.2.1.1
  have bx := htt.2.2.1 k (by omega) (by omega)
  unfold bx_ at bx
  intro j
  induction j with
  | zero =>
    intro t x ht t0 hxx
    obtain rfl : t = tc := by omega
    refine wp_iload dc_R_writeBox_6 rfl (wp_aload_n dc_R_writeBox_8 rfl rfl (wi_getE 12 (t) dc_R_writeBox_9 lf_R_83 sh_51 rfl rfl hy.2.1.2.2.1 ?_))
    refine wi_ic_ge dc_R_writeBox_12 rfl (fun hd => ?_) (fun hd => ?_)
    rotate_left
    · omega
    rcases hxx with ⟨e, hz⟩ | ⟨⟨x0, x1⟩, hk⟩
    · subst e
      refine wp_iload dc_R_writeBox_40 rfl ?_
      refine wi_if_lt dc_R_writeBox_42 rfl (fun he => ?_) (fun he => ?_)
      rotate_left
      · omega
      refine wi_iconst dc_R_writeBox_70 ?_
      refine wb_71 (o := 0) hx hy h64 h65 hLw hL hw k0 k1 (Or.inl ⟨rfl, hz⟩) ?_ (Or.inl rfl) ho hl hK
      rw [if_neg (by decide), if_neg]
      intro q
      obtain ⟨t', a1, a2, a3, -⟩ := (wk_iff m.2.2.2.2.2.2.2.2 (by omega)).mp q
      have := fx_pl hx a1 a2
      exact hz t' a1 a2 (by omega)
    · obtain ⟨g1, g2, g3, g4, g5⟩ := fx_pj hx x0 x1 hk
      have wr := wk_01 (tc := t) (tab := tab) w k
      have bsr := bs_rg (t := x) w0 w1
      have bsb := bs_bi (t := x) w0 w1
      have bir := bi_rg x w0 w1
      have one : wf_ w x (tab x) = 1 → (T 2 k = 79 ∨ wk_ t tab w k = 1) → wp_m l Y_R_writeBox none 0 0 66 [.ref 51, .int (iI k), .int (iI w), .int (iI L), .int (iI x), .int (iI t), u6, u7, u8] [] (hp_ σ) K := fun q q2 => by
        refine wi_iconst dc_R_writeBox_66 (wp_goto dc_R_writeBox_67 rfl ?_)
        refine wb_71 (o := 1) hx hy h64 h65 hLw hL hw k0 k1 (Or.inr ⟨⟨x0, x1⟩, hk, q.symm⟩) ?_ (Or.inr rfl) ho hl hK
        rw [if_pos rfl]
        split <;> omega
      refine wp_iload dc_R_writeBox_40 rfl ?_
      refine wi_if_lt dc_R_writeBox_42 rfl (fun he => ?_) (fun he => ?_)
      · omega
      refine wp_aload_n dc_R_writeBox_45 rfl rfl (wi_getR dc_R_writeBox_46 lf_R_19 sh_51 rfl (wp_iload_n dc_R_writeBox_49 rfl rfl (wi_aldE (T 2 k) dc_R_writeBox_50 sh_55 (by omega) (by omega) (by decide) (hrt.2 2 k (by decide) (by omega) (by omega)) (wi_bipush dc_R_writeBox_51 ?_))))
      refine wi_ic_eq dc_R_writeBox_53 rfl (fun hf => ?_) (fun hf => ?_)
      · refine one ?_ (Or.inl hf)
        unfold wf_
        rw [if_pos (by omega)]
      have wb := wk_b hx x0 x1 (by omega) w
      rw [show tab x 4 = k by omega] at wb
      refine wp_iload_n dc_R_writeBox_56 rfl rfl (wp_iload dc_R_writeBox_57 rfl (wi_shrt dc_R_writeBox_59 (wi_iconst dc_R_writeBox_60 (wi_and1 dc_R_writeBox_61 (wi_iconst dc_R_writeBox_62 ?_)))))
      refine wi_ic_ne dc_R_writeBox_63 rfl (fun hg => ?_) (fun hg => ?_)
      · refine wi_iconst dc_R_writeBox_70 ?_
        refine wb_71 (o := 0) hx hy h64 h65 hLw hL hw k0 k1 (Or.inr ⟨⟨x0, x1⟩, hk, ?_⟩) ?_ (Or.inl rfl) ho hl hK
        · unfold wf_
          rw [if_neg (by omega)]
        · rw [if_neg (by decide), if_neg (fun q => by have := wb.mp q; omega)]
      · refine one ?_ (Or.inr (wb.mpr (by omega)))
        unfold wf_
        rw [if_pos (by omega)]
  | succ j ih =>
    intro t x ht t0 hxx
    have rp := rh_p htt (ks_of hx.2.2.2.1 t0 (show t < tc by omega)) (hx.2.2.2.2.1 t t0 (by omega))
    refine wp_iload dc_R_writeBox_6 rfl (wp_aload_n dc_R_writeBox_8 rfl rfl (wi_getE 12 (tc) dc_R_writeBox_9 lf_R_83 sh_51 rfl rfl hy.2.1.2.2.1 ?_))
    refine wi_ic_ge dc_R_writeBox_12 rfl (fun hd => ?_) (fun hd => ?_)
    · omega
    refine wp_aload_n dc_R_writeBox_15 rfl rfl (wp_iload dc_R_writeBox_16 rfl ?_)
    refine wp_callV (As := [_]) dc_R_writeBox_18 lm_R_122 ls_R_placesBox (by decide) rfl rfl (hp_at _ sh_51) rfl rfl (Nat.le_of_ble_eq_true rfl) (Nat.le_refl _) (Nat.le_refl _) ?_
    refine c_R_placesBox (ry_rx hx hy t0 (by omega)) ?_
    refine wp_iload_n dc_R_writeBox_21 rfl rfl ?_
    refine wi_ic_ne dc_R_writeBox_22 rfl (fun he => ?_) (fun he => ?_)
    · refine wp_iload dc_R_writeBox_30 rfl (wp_is4 dc_R_writeBox_32 (wp_ii5 dc_R_writeBox_34 (wp_goto dc_R_writeBox_37 rfl ?_)))
      refine ih (t + 1) x (by omega) (by omega) ?_
      rcases hxx with ⟨e, hz⟩ | ⟨x0, hk⟩
      · refine Or.inl ⟨e, fun t' a1 a2 => ?_⟩
        by_cases q : t' = t
        · rw [q]; exact he
        · exact hz t' a1 (by omega)
      · exact Or.inr ⟨by omega, hk⟩
    · refine wp_iload dc_R_writeBox_25 rfl (wp_goto dc_R_writeBox_27 rfl (wp_is4 dc_R_writeBox_32 (wp_ii5 dc_R_writeBox_34 (wp_goto dc_R_writeBox_37 rfl ?_))))
      exact ih (t + 1) t (by omega) (by omega) (Or.inr ⟨by omega, he⟩)
theorem c_R_writeBox {k w L : Int} (hx : fx_ F n N T mi tc b tab me) (hy : ry_ σ F n N T mi tc b tab) (w0 : 0 ≤ w) (w1 : w ≤ 3) (h64 : σ 64 k = hd_ T k (np_ F T (wk_ tc tab w) mi me k)) (h65 : σ 65 k = nl_ F T (wk_ tc tab w) mi me k) (hLw : L = nL_ F T mi tc tab me w) (hL : 0 ≤ L ∧ L ≤ 1000) (hw : fp_ F N T mi tc tab me w = w) (k0 : mi ≤ k) (k1 : k < me) (ho : or_ σ xs) (hl : xs.length + (bb_ F N T mi tc tab me w k).length ≤ 1000)
    (hK : ∀ σ', fr_ orW σ σ' → or_ σ' (xs ++ bb_ F N T mi tc tab me w k) → K none (hp_ σ')) : ct_m l Y_R_writeBox 0 0 [.ref 51, .int (iI k), .int (iI w), .int (iI L)] (hp_ σ) K := by
  have m := fx_mi hx
  refine ct_of (L := [.ref 51, .int (iI k), .int (iI w), .int (iI L), .retAddr 0, .retAddr 0, .retAddr 0, .retAddr 0, .retAddr 0]) (by decide +kernel) (Nat.le_of_ble_eq_true rfl) rfl ?_
  refine wi_iconst dc_R_writeBox_0 (wp_is4 dc_R_writeBox_1 (wi_iconst dc_R_writeBox_3 (wp_is5 dc_R_writeBox_4 ?_)))
  exact lp_R_wb (xs := xs) hx hy w0 w1 h64 h65 hLw hL hw k0 k1 ho hl hK tc.toNat 0 (-1) (by omega) (by omega) (Or.inl ⟨rfl, fun t' a1 a2 => by omega⟩)
end FS
