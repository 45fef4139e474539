/-! the law: its walk, over what each of the thirteen calls does on both sides -/
/-- a call of the class and then of the reference, on the same arguments: the same answer, and Inv again -/
def op_ok (l : Launch) (Inv : sg_ → Prop) (YM YR : mx_Y) (As : List Value) (σ : sg_) : Prop := ∃ (r : Int32) (Mid : sg_ → Prop), (∀ K : Option Value → mx_H → Prop, (∀ σ1, Mid σ1 → K (some (.int r)) (hp_ σ1)) → ct_m l YM 0 0 (.ref 0 :: As) (hp_ σ) K) ∧ ∀ σ1, Mid σ1 → ∀ K : Option Value → mx_H → Prop, (∀ σ2, Inv σ2 → K (some (.int r)) (hp_ σ2)) → ct_m l YR 0 0 (.ref 51 :: As) (hp_ σ1) K
def op_all (l : Launch) (Inv : sg_ → Prop) : Prop := (∀ σ, Inv σ → ∀ (x0 : Int64) (x1 : Int32), op_ok l Inv Y_M_append Y_R_append [.long x0, .int x1] σ) ∧ (∀ σ, Inv σ → ∀ (x0 : Int32) (x1 : Int32), op_ok l Inv Y_M_poke Y_R_poke [.int x0, .int x1] σ) ∧ (∀ σ, Inv σ → ∀ (x0 : Int32), op_ok l Inv Y_M_cut Y_R_cut [.int x0] σ) ∧ (∀ σ, Inv σ → op_ok l Inv Y_M_length Y_R_length [] σ) ∧ (∀ σ, Inv σ → ∀ (x0 : Int32), op_ok l Inv Y_M_peek Y_R_peek [.int x0] σ) ∧ (∀ σ, Inv σ → op_ok l Inv Y_M_check Y_R_check [] σ) ∧ (∀ σ, Inv σ → op_ok l Inv Y_M_boxes Y_R_boxes [] σ) ∧ (∀ σ, Inv σ → ∀ (x0 : Int32) (x1 : Int32), op_ok l Inv Y_M_box Y_R_box [.int x0, .int x1] σ) ∧ (∀ σ, Inv σ → op_ok l Inv Y_M_tracks Y_R_tracks [] σ) ∧ (∀ σ, Inv σ → ∀ (x0 : Int32), op_ok l Inv Y_M_samples Y_R_samples [.int x0] σ) ∧ (∀ σ, Inv σ → ∀ (x0 : Int32) (x1 : Int32) (x2 : Int32), op_ok l Inv Y_M_sample Y_R_sample [.int x0, .int x1, .int x2] σ) ∧ (∀ σ, Inv σ → ∀ (x0 : Int32) (x1 : Int32), op_ok l Inv Y_M_shown Y_R_shown [.int x0, .int x1] σ) ∧ (∀ σ, Inv σ → op_ok l Inv Y_M_fastStart Y_R_fastStart [] σ)
section LW
variable {l : Launch} {Inv : sg_ → Prop} {N : Nat} {xs : Nat → Int32}
theorem vp_15 (x : Int32) : ∃ j : Nat, j < 16 ∧ x &&& iI 15 = nI j := by
  obtain ⟨j, h1, h2⟩ := pk_andE x (m := iI 15) 4 (by decide)
  exact ⟨j, h1, h2⟩
set_option maxRecDepth 10000 in
theorem lw_loop (hN : N ≤ 2048) (ho : op_all l Inv) : ∀ (j : Nat) (i : Int) (σ : sg_), Inv σ → 0 ≤ i → i ≤ N + 3 → N + 4 - i ≤ j → wp_m l Y_W_law (some (N, xs)) 0 0 18 [.retAddr 1, .ref 0, .ref 51, .int (iI i)] [] (hp_ σ) (fun v _ => v = some (.int 1)) := by
  intro j
  induction j with
  | zero => intro i σ hI h0 h1 h2; omega
  | succ j ih =>
    intro i σ hI h0 h1 h2
    obtain ⟨o0, o1, o2, o3, o4, o5, o6, o7, o8, o9, o10, o11, o12⟩ := ho
    have eN : Int32.ofNat (N, xs).1 = iI (N : Int) := nI_iI N
    refine wp_iload_n dc_W_law_18 rfl rfl (wp_aload_nS dc_W_law_19 rfl rfl (wp_salen dc_W_law_20 ?_))
    rw [eN]
    refine wi_iconst dc_W_law_21 (wi_isub dc_W_law_22 ?_)
    refine wi_ic_gt dc_W_law_23 rfl (fun hc => ?_) (fun hc => ?_)
    · exact wi_iconst dc_W_law_445 (wp_ireturn dc_W_law_446 rfl rfl rfl)
    have nx : ∀ σ2, Inv σ2 → wp_m l Y_W_law (some (N, xs)) 0 0 439 [.retAddr 1, .ref 0, .ref 51, .int (iI i)] [] (hp_ σ2) (fun v _ => v = some (.int 1)) := fun σ2 hI2 => wp_ii3 dc_W_law_439 (wp_goto dc_W_law_442 rfl (ih (i + 4) σ2 hI2 (by omega) (by omega) (by omega)))
    refine wp_aload_nS dc_W_law_26 rfl rfl (wp_iload_n dc_W_law_27 rfl rfl (wp_saload dc_W_law_28 (iI_in (by omega) (by show i < (N : Int); omega) (by show N ≤ _; omega)) (wi_bipush dc_W_law_29 (wp_iand dc_W_law_31 ?_))))
    obtain ⟨c, hc1, hc2⟩ := vp_15 ((N, xs).2 (iI i).toNatClampNeg)
    rw [hc2]
    match c, hc1 with
    | 0, _ =>
      refine wp_tabIn dc_W_law_32 (off := 68) (by decide) (by decide) rfl rfl ?_
      refine wp_aload_n dc_W_law_100 rfl rfl (wp_aload_nS dc_W_law_101 rfl rfl (wp_iload_n dc_W_law_102 rfl rfl (wi_iconst dc_W_law_103 (wi_iadd dc_W_law_104 (wp_saload dc_W_law_105 (iI_in (by omega) (by show _ < (N : Int); omega) (by show N ≤ _; omega)) (wp_i2l dc_W_law_106 (wi_bipush dc_W_law_107 (wp_lshl dc_W_law_109 (wp_aload_nS dc_W_law_110 rfl rfl (wp_iload_n dc_W_law_111 rfl rfl (wi_iconst dc_W_law_112 (wi_iadd dc_W_law_113 (wp_saload dc_W_law_114 (iI_in (by omega) (by show _ < (N : Int); omega) (by show N ≤ _; omega)) (wp_i2l dc_W_law_115 (wp_ldc2 dc_W_law_116 lq_c2 (wp_land dc_W_law_119 (wp_lor dc_W_law_120 (wp_aload_nS dc_W_law_121 rfl rfl (wp_iload_n dc_W_law_122 rfl rfl (wi_iconst dc_W_law_123 (wi_iadd dc_W_law_124 (wp_saload dc_W_law_125 (iI_in (by omega) (by show _ < (N : Int); omega) (by show N ≤ _; omega)) ?_))))))))))))))))))))))
      refine wp_callV (As := [_, _]) dc_W_law_126 lm_W_15 ls_M_append (by decide) rfl rfl (hp_at _ sh_0) rfl rfl (Nat.le_of_ble_eq_true rfl) (Nat.le_refl _) (Nat.le_refl _) ?_
      obtain ⟨r, Mid, hM, hR⟩ := o0 σ hI _ _
      refine hM _ (fun σ1 hm => ?_)
      refine wp_aload_n dc_W_law_129 rfl rfl (wp_aload_nS dc_W_law_130 rfl rfl (wp_iload_n dc_W_law_131 rfl rfl (wi_iconst dc_W_law_132 (wi_iadd dc_W_law_133 (wp_saload dc_W_law_134 (iI_in (by omega) (by show _ < (N : Int); omega) (by show N ≤ _; omega)) (wp_i2l dc_W_law_135 (wi_bipush dc_W_law_136 (wp_lshl dc_W_law_138 (wp_aload_nS dc_W_law_139 rfl rfl (wp_iload_n dc_W_law_140 rfl rfl (wi_iconst dc_W_law_141 (wi_iadd dc_W_law_142 (wp_saload dc_W_law_143 (iI_in (by omega) (by show _ < (N : Int); omega) (by show N ≤ _; omega)) (wp_i2l dc_W_law_144 (wp_ldc2 dc_W_law_145 lq_c2 (wp_land dc_W_law_148 (wp_lor dc_W_law_149 (wp_aload_nS dc_W_law_150 rfl rfl (wp_iload_n dc_W_law_151 rfl rfl (wi_iconst dc_W_law_152 (wi_iadd dc_W_law_153 (wp_saload dc_W_law_154 (iI_in (by omega) (by show _ < (N : Int); omega) (by show N ≤ _; omega)) ?_))))))))))))))))))))))
      refine wp_callV (As := [_, _]) dc_W_law_155 lm_W_19 ls_R_append (by decide) rfl rfl (hp_at _ sh_51) rfl rfl (Nat.le_of_ble_eq_true rfl) (Nat.le_refl _) (Nat.le_refl _) ?_
      refine hR σ1 hm _ (fun σ2 hI2 => ?_)
      exact wp_ic_eq dc_W_law_158 rfl (fun _ => nx σ2 hI2) (fun q => absurd rfl q)
    | 1, _ =>
      refine wp_tabIn dc_W_law_32 (off := 131) (by decide) (by decide) rfl rfl ?_
      refine wp_aload_n dc_W_law_163 rfl rfl (wp_aload_nS dc_W_law_164 rfl rfl (wp_iload_n dc_W_law_165 rfl rfl (wi_iconst dc_W_law_166 (wi_iadd dc_W_law_167 (wp_saload dc_W_law_168 (iI_in (by omega) (by show _ < (N : Int); omega) (by show N ≤ _; omega)) (wp_aload_nS dc_W_law_169 rfl rfl (wp_iload_n dc_W_law_170 rfl rfl (wi_iconst dc_W_law_171 (wi_iadd dc_W_law_172 (wp_saload dc_W_law_173 (iI_in (by omega) (by show _ < (N : Int); omega) (by show N ≤ _; omega)) ?_))))))))))
      refine wp_callV (As := [_, _]) dc_W_law_174 lm_W_20 ls_M_poke (by decide) rfl rfl (hp_at _ sh_0) rfl rfl (Nat.le_of_ble_eq_true rfl) (Nat.le_refl _) (Nat.le_refl _) ?_
      obtain ⟨r, Mid, hM, hR⟩ := o1 σ hI _ _
      refine hM _ (fun σ1 hm => ?_)
      refine wp_aload_n dc_W_law_177 rfl rfl (wp_aload_nS dc_W_law_178 rfl rfl (wp_iload_n dc_W_law_179 rfl rfl (wi_iconst dc_W_law_180 (wi_iadd dc_W_law_181 (wp_saload dc_W_law_182 (iI_in (by omega) (by show _ < (N : Int); omega) (by show N ≤ _; omega)) (wp_aload_nS dc_W_law_183 rfl rfl (wp_iload_n dc_W_law_184 rfl rfl (wi_iconst dc_W_law_185 (wi_iadd dc_W_law_186 (wp_saload dc_W_law_187 (iI_in (by omega) (by show _ < (N : Int); omega) (by show N ≤ _; omega)) ?_))))))))))
      refine wp_callV (As := [_, _]) dc_W_law_188 lm_W_24 ls_R_poke (by decide) rfl rfl (hp_at _ sh_51) rfl rfl (Nat.le_of_ble_eq_true rfl) (Nat.le_refl _) (Nat.le_refl _) ?_
      refine hR σ1 hm _ (fun σ2 hI2 => ?_)
      exact wp_ic_eq dc_W_law_191 rfl (fun _ => nx σ2 hI2) (fun q => absurd rfl q)
    | 2, _ =>
      refine wp_tabIn dc_W_law_32 (off := 164) (by decide) (by decide) rfl rfl ?_
      refine wp_aload_n dc_W_law_196 rfl rfl (wp_aload_nS dc_W_law_197 rfl rfl (wp_iload_n dc_W_law_198 rfl rfl (wi_iconst dc_W_law_199 (wi_iadd dc_W_law_200 (wp_saload dc_W_law_201 (iI_in (by omega) (by show _ < (N : Int); omega) (by show N ≤ _; omega)) ?_)))))
      refine wp_callV (As := [_]) dc_W_law_202 lm_W_25 ls_M_cut (by decide) rfl rfl (hp_at _ sh_0) rfl rfl (Nat.le_of_ble_eq_true rfl) (Nat.le_refl _) (Nat.le_refl _) ?_
      obtain ⟨r, Mid, hM, hR⟩ := o2 σ hI _
      refine hM _ (fun σ1 hm => ?_)
      refine wp_aload_n dc_W_law_205 rfl rfl (wp_aload_nS dc_W_law_206 rfl rfl (wp_iload_n dc_W_law_207 rfl rfl (wi_iconst dc_W_law_208 (wi_iadd dc_W_law_209 (wp_saload dc_W_law_210 (iI_in (by omega) (by show _ < (N : Int); omega) (by show N ≤ _; omega)) ?_)))))
      refine wp_callV (As := [_]) dc_W_law_211 lm_W_29 ls_R_cut (by decide) rfl rfl (hp_at _ sh_51) rfl rfl (Nat.le_of_ble_eq_true rfl) (Nat.le_refl _) (Nat.le_refl _) ?_
      refine hR σ1 hm _ (fun σ2 hI2 => ?_)
      exact wp_ic_eq dc_W_law_214 rfl (fun _ => nx σ2 hI2) (fun q => absurd rfl q)
    | 3, _ =>
      refine wp_tabIn dc_W_law_32 (off := 187) (by decide) (by decide) rfl rfl ?_
      refine wp_aload_n dc_W_law_219 rfl rfl ?_
      refine wp_callV (As := []) dc_W_law_220 lm_W_30 ls_M_length (by decide) rfl rfl (hp_at _ sh_0) rfl rfl (Nat.le_of_ble_eq_true rfl) (Nat.le_refl _) (Nat.le_refl _) ?_
      obtain ⟨r, Mid, hM, hR⟩ := o3 σ hI
      refine hM _ (fun σ1 hm => ?_)
      refine wp_aload_n dc_W_law_223 rfl rfl ?_
      refine wp_callV (As := []) dc_W_law_224 lm_W_34 ls_R_length (by decide) rfl rfl (hp_at _ sh_51) rfl rfl (Nat.le_of_ble_eq_true rfl) (Nat.le_refl _) (Nat.le_refl _) ?_
      refine hR σ1 hm _ (fun σ2 hI2 => ?_)
      exact wp_ic_eq dc_W_law_227 rfl (fun _ => nx σ2 hI2) (fun q => absurd rfl q)
    | 4, _ =>
      refine wp_tabIn dc_W_law_32 (off := 200) (by decide) (by decide) rfl rfl ?_
      refine wp_aload_n dc_W_law_232 rfl rfl (wp_aload_nS dc_W_law_233 rfl rfl (wp_iload_n dc_W_law_234 rfl rfl (wi_iconst dc_W_law_235 (wi_iadd dc_W_law_236 (wp_saload dc_W_law_237 (iI_in (by omega) (by show _ < (N : Int); omega) (by show N ≤ _; omega)) ?_)))))
      refine wp_callV (As := [_]) dc_W_law_238 lm_W_35 ls_M_peek (by decide) rfl rfl (hp_at _ sh_0) rfl rfl (Nat.le_of_ble_eq_true rfl) (Nat.le_refl _) (Nat.le_refl _) ?_
      obtain ⟨r, Mid, hM, hR⟩ := o4 σ hI _
      refine hM _ (fun σ1 hm => ?_)
      refine wp_aload_n dc_W_law_241 rfl rfl (wp_aload_nS dc_W_law_242 rfl rfl (wp_iload_n dc_W_law_243 rfl rfl (wi_iconst dc_W_law_244 (wi_iadd dc_W_law_245 (wp_saload dc_W_law_246 (iI_in (by omega) (by show _ < (N : Int); omega) (by show N ≤ _; omega)) ?_)))))
      refine wp_callV (As := [_]) dc_W_law_247 lm_W_39 ls_R_peek (by decide) rfl rfl (hp_at _ sh_51) rfl rfl (Nat.le_of_ble_eq_true rfl) (Nat.le_refl _) (Nat.le_refl _) ?_
      refine hR σ1 hm _ (fun σ2 hI2 => ?_)
      exact wp_ic_eq dc_W_law_250 rfl (fun _ => nx σ2 hI2) (fun q => absurd rfl q)
    | 5, _ =>
      refine wp_tabIn dc_W_law_32 (off := 223) (by decide) (by decide) rfl rfl ?_
      refine wp_aload_n dc_W_law_255 rfl rfl ?_
      refine wp_callV (As := []) dc_W_law_256 lm_W_40 ls_M_check (by decide) rfl rfl (hp_at _ sh_0) rfl rfl (Nat.le_of_ble_eq_true rfl) (Nat.le_refl _) (Nat.le_refl _) ?_
      obtain ⟨r, Mid, hM, hR⟩ := o5 σ hI
      refine hM _ (fun σ1 hm => ?_)
      refine wp_aload_n dc_W_law_259 rfl rfl ?_
      refine wp_callV (As := []) dc_W_law_260 lm_W_43 ls_R_check (by decide) rfl rfl (hp_at _ sh_51) rfl rfl (Nat.le_of_ble_eq_true rfl) (Nat.le_refl _) (Nat.le_refl _) ?_
      refine hR σ1 hm _ (fun σ2 hI2 => ?_)
      exact wp_ic_eq dc_W_law_263 rfl (fun _ => nx σ2 hI2) (fun q => absurd rfl q)
    | 6, _ =>
      refine wp_tabIn dc_W_law_32 (off := 236) (by decide) (by decide) rfl rfl ?_
      refine wp_aload_n dc_W_law_268 rfl rfl ?_
      refine wp_callV (As := []) dc_W_law_269 lm_W_44 ls_M_boxes (by decide) rfl rfl (hp_at _ sh_0) rfl rfl (Nat.le_of_ble_eq_true rfl) (Nat.le_refl _) (Nat.le_refl _) ?_
      obtain ⟨r, Mid, hM, hR⟩ := o6 σ hI
      refine hM _ (fun σ1 hm => ?_)
      refine wp_aload_n dc_W_law_272 rfl rfl ?_
      refine wp_callV (As := []) dc_W_law_273 lm_W_47 ls_R_boxes (by decide) rfl rfl (hp_at _ sh_51) rfl rfl (Nat.le_of_ble_eq_true rfl) (Nat.le_refl _) (Nat.le_refl _) ?_
      refine hR σ1 hm _ (fun σ2 hI2 => ?_)
      exact wp_ic_eq dc_W_law_276 rfl (fun _ => nx σ2 hI2) (fun q => absurd rfl q)
    | 7, _ =>
      refine wp_tabIn dc_W_law_32 (off := 249) (by decide) (by decide) rfl rfl ?_
      refine wp_aload_n dc_W_law_281 rfl rfl (wp_aload_nS dc_W_law_282 rfl rfl (wp_iload_n dc_W_law_283 rfl rfl (wi_iconst dc_W_law_284 (wi_iadd dc_W_law_285 (wp_saload dc_W_law_286 (iI_in (by omega) (by show _ < (N : Int); omega) (by show N ≤ _; omega)) (wp_aload_nS dc_W_law_287 rfl rfl (wp_iload_n dc_W_law_288 rfl rfl (wi_iconst dc_W_law_289 (wi_iadd dc_W_law_290 (wp_saload dc_W_law_291 (iI_in (by omega) (by show _ < (N : Int); omega) (by show N ≤ _; omega)) ?_))))))))))
      refine wp_callV (As := [_, _]) dc_W_law_292 lm_W_48 ls_M_box (by decide) rfl rfl (hp_at _ sh_0) rfl rfl (Nat.le_of_ble_eq_true rfl) (Nat.le_refl _) (Nat.le_refl _) ?_
      obtain ⟨r, Mid, hM, hR⟩ := o7 σ hI _ _
      refine hM _ (fun σ1 hm => ?_)
      refine wp_aload_n dc_W_law_295 rfl rfl (wp_aload_nS dc_W_law_296 rfl rfl (wp_iload_n dc_W_law_297 rfl rfl (wi_iconst dc_W_law_298 (wi_iadd dc_W_law_299 (wp_saload dc_W_law_300 (iI_in (by omega) (by show _ < (N : Int); omega) (by show N ≤ _; omega)) (wp_aload_nS dc_W_law_301 rfl rfl (wp_iload_n dc_W_law_302 rfl rfl (wi_iconst dc_W_law_303 (wi_iadd dc_W_law_304 (wp_saload dc_W_law_305 (iI_in (by omega) (by show _ < (N : Int); omega) (by show N ≤ _; omega)) ?_))))))))))
      refine wp_callV (As := [_, _]) dc_W_law_306 lm_W_51 ls_R_box (by decide) rfl rfl (hp_at _ sh_51) rfl rfl (Nat.le_of_ble_eq_true rfl) (Nat.le_refl _) (Nat.le_refl _) ?_
      refine hR σ1 hm _ (fun σ2 hI2 => ?_)
      exact wp_ic_eq dc_W_law_309 rfl (fun _ => nx σ2 hI2) (fun q => absurd rfl q)
    | 8, _ =>
      refine wp_tabIn dc_W_law_32 (off := 282) (by decide) (by decide) rfl rfl ?_
      refine wp_aload_n dc_W_law_314 rfl rfl ?_
      refine wp_callV (As := []) dc_W_law_315 lm_W_52 ls_M_tracks (by decide) rfl rfl (hp_at _ sh_0) rfl rfl (Nat.le_of_ble_eq_true rfl) (Nat.le_refl _) (Nat.le_refl _) ?_
      obtain ⟨r, Mid, hM, hR⟩ := o8 σ hI
      refine hM _ (fun σ1 hm => ?_)
      refine wp_aload_n dc_W_law_318 rfl rfl ?_
      refine wp_callV (As := []) dc_W_law_319 lm_W_55 ls_R_tracks (by decide) rfl rfl (hp_at _ sh_51) rfl rfl (Nat.le_of_ble_eq_true rfl) (Nat.le_refl _) (Nat.le_refl _) ?_
      refine hR σ1 hm _ (fun σ2 hI2 => ?_)
      exact wp_ic_eq dc_W_law_322 rfl (fun _ => nx σ2 hI2) (fun q => absurd rfl q)
    | 9, _ =>
      refine wp_tabIn dc_W_law_32 (off := 295) (by decide) (by decide) rfl rfl ?_
      refine wp_aload_n dc_W_law_327 rfl rfl (wp_aload_nS dc_W_law_328 rfl rfl (wp_iload_n dc_W_law_329 rfl rfl (wi_iconst dc_W_law_330 (wi_iadd dc_W_law_331 (wp_saload dc_W_law_332 (iI_in (by omega) (by show _ < (N : Int); omega) (by show N ≤ _; omega)) ?_)))))
      refine wp_callV (As := [_]) dc_W_law_333 lm_W_56 ls_M_samples (by decide) rfl rfl (hp_at _ sh_0) rfl rfl (Nat.le_of_ble_eq_true rfl) (Nat.le_refl _) (Nat.le_refl _) ?_
      obtain ⟨r, Mid, hM, hR⟩ := o9 σ hI _
      refine hM _ (fun σ1 hm => ?_)
      refine wp_aload_n dc_W_law_336 rfl rfl (wp_aload_nS dc_W_law_337 rfl rfl (wp_iload_n dc_W_law_338 rfl rfl (wi_iconst dc_W_law_339 (wi_iadd dc_W_law_340 (wp_saload dc_W_law_341 (iI_in (by omega) (by show _ < (N : Int); omega) (by show N ≤ _; omega)) ?_)))))
      refine wp_callV (As := [_]) dc_W_law_342 lm_W_59 ls_R_samples (by decide) rfl rfl (hp_at _ sh_51) rfl rfl (Nat.le_of_ble_eq_true rfl) (Nat.le_refl _) (Nat.le_refl _) ?_
      refine hR σ1 hm _ (fun σ2 hI2 => ?_)
      exact wp_ic_eq dc_W_law_345 rfl (fun _ => nx σ2 hI2) (fun q => absurd rfl q)
    | 10, _ =>
      refine wp_tabIn dc_W_law_32 (off := 318) (by decide) (by decide) rfl rfl ?_
      refine wp_aload_n dc_W_law_350 rfl rfl (wp_aload_nS dc_W_law_351 rfl rfl (wp_iload_n dc_W_law_352 rfl rfl (wi_iconst dc_W_law_353 (wi_iadd dc_W_law_354 (wp_saload dc_W_law_355 (iI_in (by omega) (by show _ < (N : Int); omega) (by show N ≤ _; omega)) (wp_aload_nS dc_W_law_356 rfl rfl (wp_iload_n dc_W_law_357 rfl rfl (wi_iconst dc_W_law_358 (wi_iadd dc_W_law_359 (wp_saload dc_W_law_360 (iI_in (by omega) (by show _ < (N : Int); omega) (by show N ≤ _; omega)) (wp_aload_nS dc_W_law_361 rfl rfl (wp_iload_n dc_W_law_362 rfl rfl (wi_iconst dc_W_law_363 (wi_iadd dc_W_law_364 (wp_saload dc_W_law_365 (iI_in (by omega) (by show _ < (N : Int); omega) (by show N ≤ _; omega)) ?_)))))))))))))))
      refine wp_callV (As := [_, _, _]) dc_W_law_366 lm_W_60 ls_M_sample (by decide) rfl rfl (hp_at _ sh_0) rfl rfl (Nat.le_of_ble_eq_true rfl) (Nat.le_refl _) (Nat.le_refl _) ?_
      obtain ⟨r, Mid, hM, hR⟩ := o10 σ hI _ _ _
      refine hM _ (fun σ1 hm => ?_)
      refine wp_aload_n dc_W_law_369 rfl rfl (wp_aload_nS dc_W_law_370 rfl rfl (wp_iload_n dc_W_law_371 rfl rfl (wi_iconst dc_W_law_372 (wi_iadd dc_W_law_373 (wp_saload dc_W_law_374 (iI_in (by omega) (by show _ < (N : Int); omega) (by show N ≤ _; omega)) (wp_aload_nS dc_W_law_375 rfl rfl (wp_iload_n dc_W_law_376 rfl rfl (wi_iconst dc_W_law_377 (wi_iadd dc_W_law_378 (wp_saload dc_W_law_379 (iI_in (by omega) (by show _ < (N : Int); omega) (by show N ≤ _; omega)) (wp_aload_nS dc_W_law_380 rfl rfl (wp_iload_n dc_W_law_381 rfl rfl (wi_iconst dc_W_law_382 (wi_iadd dc_W_law_383 (wp_saload dc_W_law_384 (iI_in (by omega) (by show _ < (N : Int); omega) (by show N ≤ _; omega)) ?_)))))))))))))))
      refine wp_callV (As := [_, _, _]) dc_W_law_385 lm_W_64 ls_R_sample (by decide) rfl rfl (hp_at _ sh_51) rfl rfl (Nat.le_of_ble_eq_true rfl) (Nat.le_refl _) (Nat.le_refl _) ?_
      refine hR σ1 hm _ (fun σ2 hI2 => ?_)
      exact wp_ic_eq dc_W_law_388 rfl (fun _ => nx σ2 hI2) (fun q => absurd rfl q)
    | 11, _ =>
      refine wp_tabIn dc_W_law_32 (off := 361) (by decide) (by decide) rfl rfl ?_
      refine wp_aload_n dc_W_law_393 rfl rfl (wp_aload_nS dc_W_law_394 rfl rfl (wp_iload_n dc_W_law_395 rfl rfl (wi_iconst dc_W_law_396 (wi_iadd dc_W_law_397 (wp_saload dc_W_law_398 (iI_in (by omega) (by show _ < (N : Int); omega) (by show N ≤ _; omega)) (wp_aload_nS dc_W_law_399 rfl rfl (wp_iload_n dc_W_law_400 rfl rfl (wi_iconst dc_W_law_401 (wi_iadd dc_W_law_402 (wp_saload dc_W_law_403 (iI_in (by omega) (by show _ < (N : Int); omega) (by show N ≤ _; omega)) ?_))))))))))
      refine wp_callV (As := [_, _]) dc_W_law_404 lm_W_65 ls_M_shown (by decide) rfl rfl (hp_at _ sh_0) rfl rfl (Nat.le_of_ble_eq_true rfl) (Nat.le_refl _) (Nat.le_refl _) ?_
      obtain ⟨r, Mid, hM, hR⟩ := o11 σ hI _ _
      refine hM _ (fun σ1 hm => ?_)
      refine wp_aload_n dc_W_law_407 rfl rfl (wp_aload_nS dc_W_law_408 rfl rfl (wp_iload_n dc_W_law_409 rfl rfl (wi_iconst dc_W_law_410 (wi_iadd dc_W_law_411 (wp_saload dc_W_law_412 (iI_in (by omega) (by show _ < (N : Int); omega) (by show N ≤ _; omega)) (wp_aload_nS dc_W_law_413 rfl rfl (wp_iload_n dc_W_law_414 rfl rfl (wi_iconst dc_W_law_415 (wi_iadd dc_W_law_416 (wp_saload dc_W_law_417 (iI_in (by omega) (by show _ < (N : Int); omega) (by show N ≤ _; omega)) ?_))))))))))
      refine wp_callV (As := [_, _]) dc_W_law_418 lm_W_68 ls_R_shown (by decide) rfl rfl (hp_at _ sh_51) rfl rfl (Nat.le_of_ble_eq_true rfl) (Nat.le_refl _) (Nat.le_refl _) ?_
      refine hR σ1 hm _ (fun σ2 hI2 => ?_)
      exact wp_ic_eq dc_W_law_421 rfl (fun _ => nx σ2 hI2) (fun q => absurd rfl q)
    | 12, _ =>
      refine wp_tabIn dc_W_law_32 (off := 394) (by decide) (by decide) rfl rfl ?_
      refine wp_aload_n dc_W_law_426 rfl rfl ?_
      refine wp_callV (As := []) dc_W_law_427 lm_W_69 ls_M_fastStart (by decide) rfl rfl (hp_at _ sh_0) rfl rfl (Nat.le_of_ble_eq_true rfl) (Nat.le_refl _) (Nat.le_refl _) ?_
      obtain ⟨r, Mid, hM, hR⟩ := o12 σ hI
      refine hM _ (fun σ1 hm => ?_)
      refine wp_aload_n dc_W_law_430 rfl rfl ?_
      refine wp_callV (As := []) dc_W_law_431 lm_W_72 ls_R_fastStart (by decide) rfl rfl (hp_at _ sh_51) rfl rfl (Nat.le_of_ble_eq_true rfl) (Nat.le_refl _) (Nat.le_refl _) ?_
      refine hR σ1 hm _ (fun σ2 hI2 => ?_)
      exact wp_ic_eq dc_W_law_434 rfl (fun _ => nx σ2 hI2) (fun q => absurd rfl q)
    | 13, _ => exact wp_tabOut dc_W_law_32 (by decide) rfl (nx σ hI)
    | 14, _ => exact wp_tabOut dc_W_law_32 (by decide) rfl (nx σ hI)
    | 15, _ => exact wp_tabOut dc_W_law_32 (by decide) rfl (nx σ hI)
    | c + 16, h => exact absurd h (by omega)
end LW
