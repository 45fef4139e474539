/-! the reference's kindsWrong, on -/
theorem ks_tr {N : Int} {T : px_T} {mi tc : Int} {b : Int → Int} {tab : Int → Int → Int} {tc2 : Int} {b2 : Int → Int} (h : KS_ N T mi tc b tab) (h2 : kt2_ T N tc2 b2) : tc = tc2 ∧ ∀ t, 0 ≤ t → t < tc → b t = b2 t := by
  obtain ⟨-, ⟨h3, h4, h5, h6⟩, -⟩ := h
  obtain ⟨-, -, h7⟩ := h2
  have in2 : ∀ j, 0 ≤ j → j < N → TK_ T j → j = b 0 ∨ (tc = 2 ∧ j = b 1) := fun j j0 j1 j2 => by
    obtain ⟨t, t0, t1, e⟩ := h6 j j0 j1 j2
    have ht : t = 0 ∨ t = 1 := by omega
    rcases ht with rfl | rfl
    · exact Or.inl e
    · exact Or.inr ⟨by omega, e⟩
  have hb0 := h4 0 (by omega) (by omega)
  rcases h7 with ⟨a1, a2⟩ | ⟨a1, a2, a3, a4, a5⟩ | ⟨a1, a2, a3, a4, a5, a6, a7⟩ | ⟨a1, x, y, z, a2, a3, a4, a5, a6, a7, a8⟩
  · exact absurd hb0.2.2 (a2 _ hb0.1 hb0.2.1)
  · have e0 := a5 _ hb0.1 hb0.2.1 hb0.2.2
    rcases h3 with h3 | h3
    · refine ⟨by omega, fun t t0 t1 => ?_⟩
      have ht : t = 0 := by omega
      subst ht
      exact e0
    · have hb1 := h4 1 (by omega) (by omega)
      have e1 := a5 _ hb1.1 hb1.2.1 hb1.2.2
      have := h5 h3
      omega
  · have e0 := in2 (b2 0) a2 (by omega) a5
    have e1 := in2 (b2 1) (by omega) a4 a6
    rcases h3 with h3 | h3
    · omega
    · have := h5 h3
      refine ⟨by omega, fun t t0 t1 => ?_⟩
      have ht : t = 0 ∨ t = 1 := by omega
      rcases ht with rfl | rfl <;> omega
  · have e0 := in2 x a2 (by omega) a6
    have e1 := in2 y (by omega) (by omega) a7
    have e2 := in2 z (by omega) a5 a8
    rcases h3 with h3 | h3
    · omega
    · have := h5 h3
      omega
section KT
variable {l : Launch} {σ : sg_} {K : Option Value → mx_H → Prop} {n N k : Int} {T : px_T}
def r4_ (σ : sg_) (t : Int) : Prop := 0 ≤ σ 62 (8 * t + 0) ∧ 0 ≤ σ 62 (8 * t + 2) ∧ 0 ≤ σ 62 (8 * t + 3) ∧ ((0 ≤ σ 62 (8 * t + 4) ∧ σ 62 (8 * t + 5) < 0) ∨ (σ 62 (8 * t + 4) < 0 ∧ 0 ≤ σ 62 (8 * t + 5)))
theorem lp_R_kw4 {mv tc : Int} (htc : σ 51 12 = tc) (h12 : tc = 1 ∨ tc = 2) (hr : ∀ i, 0 ≤ i → i < 16 → rg (σ 62 i)) : ∀ (j : Nat) (t w : Int) (u4 u5 : Value), u4.category = 1 → t = tc - j → 0 ≤ t → (w = 0 ∨ w = 1) → (∀ w' : Int, (w' = 0 ∨ w' = 1) → (w' = 0 ↔ w = 0 ∧ ∀ s, t ≤ s → s < tc → r4_ σ s) → K (some (.int (iI w'))) (hp_ σ)) → wp_m l Y_R_kindsWrong none 0 0 228 [.ref 51, .int (iI mv), .int (iI w), .int (iI t), u4, u5] [] (hp_ σ) K := by
  intro j
  induction j with
  | zero =>
    intro t w u4 u5 hu ht t0 hw hK
    refine wp_iload_n dc_R_kindsWrong_228 rfl rfl (wp_aload_n dc_R_kindsWrong_229 rfl rfl (wi_getE 12 (tc) dc_R_kindsWrong_230 lf_R_83 sh_51 rfl rfl htc ?_))
    refine wi_ic_ge dc_R_kindsWrong_233 rfl (fun hd => ?_) (fun hd => ?_)
    · have hwr : narrow .boolean (.int (iI w)) = .int (iI w) := by rcases hw with rfl | rfl <;> rfl
      refine wp_iload_n dc_R_kindsWrong_343 rfl rfl (wp_ireturn dc_R_kindsWrong_344 rfl hwr (hK w hw ⟨fun h => ⟨h, fun s h1 h2 => by omega⟩, fun h => h.1⟩))
    · omega
  | succ j ih =>
    intro t w u4 u5 hu ht t0 hw hK
    have r0 := hr (8 * t + 0) (by omega) (by omega)
    have r2 := hr (8 * t + 2) (by omega) (by omega)
    have r3 := hr (8 * t + 3) (by omega) (by omega)
    have r4 := hr (8 * t + 4) (by omega) (by omega)
    have r5 := hr (8 * t + 5) (by omega) (by omega)
    have hwr : rg w := by rcases hw with rfl | rfl <;> decide
    refine wp_iload_n dc_R_kindsWrong_228 rfl rfl (wp_aload_n dc_R_kindsWrong_229 rfl rfl (wi_getE 12 (tc) dc_R_kindsWrong_230 lf_R_83 sh_51 rfl rfl htc ?_))
    refine wi_ic_ge dc_R_kindsWrong_233 rfl (fun hd => ?_) (fun hd => ?_)
    · omega
    suffices K336 : ∀ (w2 : Int) (u4 u5 : Value), u4.category = 1 → u5.category = 1 → (w2 = 0 ∨ w2 = 1) → (w2 = 0 ↔ w = 0 ∧ r4_ σ t) → wp_m l Y_R_kindsWrong none 0 0 336 [.ref 51, .int (iI mv), .int (iI w), .int (iI t), u4, u5] [.int (iI w2)] (hp_ σ) K by
      have fin : ∀ (x y : Int), (x = if 0 ≤ σ 62 (8 * t + 4) then 1 else 0) → (y = if 0 ≤ σ 62 (8 * t + 5) then 1 else 0) → wp_m l Y_R_kindsWrong none 0 0 278 [.ref 51, .int (iI mv), .int (iI w), .int (iI t), .int (iI x), .int (iI y)] [] (hp_ σ) K := by
        intro x y hx hy
        have hx01 : x = 0 ∨ x = 1 := by rw [hx]; split <;> omega
        have hy01 : y = 0 ∨ y = 1 := by rw [hy]; split <;> omega
        have no : ¬ (w = 0 ∧ r4_ σ t) → wp_m l Y_R_kindsWrong none 0 0 331 [.ref 51, .int (iI mv), .int (iI w), .int (iI t), .int (iI x), .int (iI y)] [] (hp_ σ) K := fun hn => by
          refine wi_iconst dc_R_kindsWrong_331 (wp_goto dc_R_kindsWrong_332 rfl ?_)
          exact K336 1 _ _ rfl rfl (Or.inr rfl) ⟨fun h => by omega, fun h => absurd h hn⟩
        refine wp_iload_n dc_R_kindsWrong_278 rfl rfl ?_
        refine wi_if_ne dc_R_kindsWrong_279 rfl (fun he => ?_) (fun he => ?_)
        · exact no (fun h => he h.1)
        refine wp_iload dc_R_kindsWrong_282 rfl (wp_iload dc_R_kindsWrong_284 rfl ?_)
        refine wi_ic_eq dc_R_kindsWrong_286 rfl (fun hf => ?_) (fun hf => ?_)
        · refine no (fun h => ?_)
          have h4 := h.2.2.2.2
          rw [hx, hy] at hf
          by_cases q4 : 0 ≤ σ 62 (8 * t + 4) <;> by_cases q5 : 0 ≤ σ 62 (8 * t + 5)
          · omega
          · rw [if_pos q4, if_neg q5] at hf; omega
          · rw [if_neg q4, if_pos q5] at hf; omega
          · omega
        refine wp_aload_n dc_R_kindsWrong_289 rfl rfl (wi_getR dc_R_kindsWrong_290 lf_R_40 sh_51 rfl (wi_bipush dc_R_kindsWrong_293 (wp_iload_n dc_R_kindsWrong_295 rfl rfl (wi_imul dc_R_kindsWrong_296 (wi_iconst dc_R_kindsWrong_297 (wi_iadd dc_R_kindsWrong_298 (wi_ald dc_R_kindsWrong_299 sh_62 (by omega) (by omega) (by decide) ?_)))))))
        refine wi_if_lt dc_R_kindsWrong_300 rfl (fun hg => ?_) (fun hg => ?_)
        · exact no (fun h => by have := h.2.1; omega)
        refine wp_aload_n dc_R_kindsWrong_303 rfl rfl (wi_getR dc_R_kindsWrong_304 lf_R_40 sh_51 rfl (wi_bipush dc_R_kindsWrong_307 (wp_iload_n dc_R_kindsWrong_309 rfl rfl (wi_imul dc_R_kindsWrong_310 (wi_iconst dc_R_kindsWrong_311 (wi_iadd dc_R_kindsWrong_312 (wi_ald dc_R_kindsWrong_313 sh_62 (by omega) (by omega) (by decide) ?_)))))))
        refine wi_if_lt dc_R_kindsWrong_314 rfl (fun hh => ?_) (fun hh => ?_)
        · exact no (fun h => by have := h.2.2.1; omega)
        refine wp_aload_n dc_R_kindsWrong_317 rfl rfl (wi_getR dc_R_kindsWrong_318 lf_R_40 sh_51 rfl (wi_bipush dc_R_kindsWrong_321 (wp_iload_n dc_R_kindsWrong_323 rfl rfl (wi_imul dc_R_kindsWrong_324 (wi_iconst dc_R_kindsWrong_325 (wi_iadd dc_R_kindsWrong_326 (wi_ald dc_R_kindsWrong_327 sh_62 (by omega) (by omega) (by decide) ?_)))))))
        refine wi_if_ge dc_R_kindsWrong_328 rfl (fun hi => ?_) (fun hi => ?_)
        · refine wi_iconst dc_R_kindsWrong_335 ?_
          refine K336 0 _ _ rfl rfl (Or.inl rfl) ⟨fun _ => ⟨by omega, by omega, by omega, hi, ?_⟩, fun _ => rfl⟩
          rw [hx, hy] at hf
          by_cases q4 : 0 ≤ σ 62 (8 * t + 4) <;> by_cases q5 : 0 ≤ σ 62 (8 * t + 5)
          · rw [if_pos q4, if_pos q5] at hf; omega
          · exact Or.inl ⟨q4, by omega⟩
          · exact Or.inr ⟨by omega, q5⟩
          · rw [if_neg q4, if_neg q5] at hf; omega
        · exact no (fun h => hi h.2.2.2.1)
      have f255 : ∀ x : Int, (x = if 0 ≤ σ 62 (8 * t + 4) then 1 else 0) → wp_m l Y_R_kindsWrong none 0 0 255 [.ref 51, .int (iI mv), .int (iI w), .int (iI t), u4, u5] [.int (iI x)] (hp_ σ) K := by
        intro x hx
        refine wp_is4 dc_R_kindsWrong_255 (wp_aload_n dc_R_kindsWrong_257 rfl rfl (wi_getR dc_R_kindsWrong_258 lf_R_40 sh_51 rfl (wi_bipush dc_R_kindsWrong_261 (wp_iload_n dc_R_kindsWrong_263 rfl rfl (wi_imul dc_R_kindsWrong_264 (wi_iconst dc_R_kindsWrong_265 (wi_iadd dc_R_kindsWrong_266 (wi_ald dc_R_kindsWrong_267 sh_62 (by omega) (by omega) (by decide) ?_))))))))
        refine wi_if_lt dc_R_kindsWrong_268 rfl (fun he => ?_) (fun he => ?_)
        · refine wi_iconst dc_R_kindsWrong_275 (wp_is5 dc_R_kindsWrong_276 ?_)
          exact fin x 0 hx (by rw [if_neg (by omega)])
        · refine wi_iconst dc_R_kindsWrong_271 (wp_goto dc_R_kindsWrong_272 rfl (wp_is5 dc_R_kindsWrong_276 ?_))
          exact fin x 1 hx (by rw [if_pos (by omega)])
      refine wp_aload_n dc_R_kindsWrong_236 rfl rfl (wi_getR dc_R_kindsWrong_237 lf_R_40 sh_51 rfl (wi_bipush dc_R_kindsWrong_240 (wp_iload_n dc_R_kindsWrong_242 rfl rfl (wi_imul dc_R_kindsWrong_243 (wi_iconst dc_R_kindsWrong_244 (wi_iadd dc_R_kindsWrong_245 (wi_ald dc_R_kindsWrong_246 sh_62 (by omega) (by omega) (by decide) ?_)))))))
      refine wi_if_lt dc_R_kindsWrong_247 rfl (fun he => ?_) (fun he => ?_)
      · refine wi_iconst dc_R_kindsWrong_254 ?_
        exact f255 0 (by rw [if_neg (by omega)])
      · refine wi_iconst dc_R_kindsWrong_250 (wp_goto dc_R_kindsWrong_251 rfl ?_)
        exact f255 1 (by rw [if_pos (by omega)])
    intro w2 u4 u5 hu4 hu5 hw2 hiff
    refine wp_is2 dc_R_kindsWrong_336 (wp_ii3 dc_R_kindsWrong_337 (wp_goto dc_R_kindsWrong_340 rfl ?_))
    refine ih (t + 1) w2 u4 u5 hu4 (by omega) (by omega) hw2 (fun w' hw' h => hK w' hw' (h.trans ?_))
    rw [hiff]
    constructor
    · rintro ⟨⟨h1, h2⟩, h3⟩
      refine ⟨h1, fun s s0 s1 => ?_⟩
      by_cases hs : s = t
      · subst hs; exact h2
      · exact h3 s (by omega) s1
    · rintro ⟨h1, h2⟩
      exact ⟨⟨h1, h2 t (by omega) (by omega)⟩, fun s s0 s1 => h2 s (by omega) s1⟩
theorem lp_R_kw0 {σ0 : sg_} {u4 u5 : Value} (hK : ∀ σ', fr_ kwW σ0 σ' → (∀ i, 0 ≤ i → i < 16 → σ' 62 i = -1) → σ' 51 12 = 0 → wp_m l Y_R_kindsWrong none 0 0 30 [.ref 51, .int (iI 0), .int (iI 0), .int (iI 16), u4, u5] [] (hp_ σ') K) : ∀ (j : Nat) (k : Int) (σ : sg_), k = 16 - j → 0 ≤ k → fr_ kwW σ0 σ → (∀ i, 0 ≤ i → i < k → σ 62 i = -1) → σ 51 12 = 0 → wp_m l Y_R_kindsWrong none 0 0 11 [.ref 51, .int (iI 0), .int (iI 0), .int (iI k), u4, u5] [] (hp_ σ) K := by
  intro j
  induction j with
  | zero =>
    intro k σ hk k0 hf h1 h2
    refine wp_iload_n dc_R_kindsWrong_11 rfl rfl (wi_bipush dc_R_kindsWrong_12 ?_)
    refine wi_ic_ge dc_R_kindsWrong_14 rfl (fun hd => ?_) (fun hd => ?_)
    · have e : k = 16 := by omega
      subst e
      exact hK σ hf h1 h2
    · omega
  | succ j ih =>
    intro k σ hk k0 hf h1 h2
    refine wp_iload_n dc_R_kindsWrong_11 rfl rfl (wi_bipush dc_R_kindsWrong_12 ?_)
    refine wi_ic_ge dc_R_kindsWrong_14 rfl (fun hd => ?_) (fun hd => ?_)
    · omega
    · refine wp_aload_n dc_R_kindsWrong_17 rfl rfl (wi_getR dc_R_kindsWrong_18 lf_R_40 sh_51 rfl (wp_iload_n dc_R_kindsWrong_21 rfl rfl (wi_iconst dc_R_kindsWrong_22 (wi_ast dc_R_kindsWrong_23 sh_62 (by omega) (by omega) (by decide) (wp_ii3 dc_R_kindsWrong_24 (wp_goto dc_R_kindsWrong_27 rfl ?_))))))
      refine ih (k + 1) _ (by omega) (by omega) (hf.up (by unfold kwW; omega)) (fun i i0 i1 => ?_) (by rw [up_n _ _ (fun q => absurd q.1 (by decide))]; exact h2)
      by_cases hi : i = k
      · subst hi; rw [up_s]
      · rw [up_n _ _ (fun q => hi q.2)]
        exact h1 i i0 (by omega)
theorem c_R_kindsWrong (hrt : rt_ σ N T) (htt : tt_ n N T) (h1 : ¬ KO_ N T → ∀ σ', fr_ kwW σ σ' → K (some (.int (iI 1))) (hp_ σ')) (h0 : ∀ σ', fr_ kwW σ σ' → KS_ N T (σ' 51 11) (σ' 51 12) (σ' 61) (fun t q => σ' 62 (8 * t + q)) → K (some (.int (iI 0))) (hp_ σ')) : ct_m l Y_R_kindsWrong 0 0 [.ref 51] (hp_ σ) K := by
  have t1 := htt.1
  have t2 := htt.2.1
  refine ct_of (L := [.ref 51, .retAddr 0, .retAddr 0, .retAddr 0, .retAddr 0, .retAddr 0]) (by decide +kernel) (Nat.le_of_ble_eq_true rfl) rfl ?_
  refine wi_iconst dc_R_kindsWrong_0 (wp_is1 dc_R_kindsWrong_1 (wp_aload_n dc_R_kindsWrong_2 rfl rfl (wi_iconst dc_R_kindsWrong_3 (wi_putI 12 dc_R_kindsWrong_4 lf_R_83 sh_51 rfl rfl pv_int (wi_iconst dc_R_kindsWrong_7 (wp_is2 dc_R_kindsWrong_8 (wi_iconst dc_R_kindsWrong_9 (wp_is3 dc_R_kindsWrong_10 ?_))))))))
  refine lp_R_kw0 (σ0 := σ) (fun σ1 f1 e1 e2 => ?_) 16 0 _ (by omega) (by omega) (fr_.rf.up (by unfold kwW; omega)) (fun i i0 i1 => by omega) (up_s _ _ _ _)
  have hrt1 : rt_ σ N T := hrt
  refine wi_iconst dc_R_kindsWrong_30 (wp_is3 dc_R_kindsWrong_31 ?_)
  refine lp_R_kw hrt htt N.toNat 0 0 0 σ1 _ _ (by omega) (by omega) rfl ⟨f1, ⟨by omega, by omega, Or.inl ⟨rfl, fun j j0 j1 => by omega⟩⟩, ⟨by omega, by omega, Or.inl ⟨e2, fun j j0 j1 => by omega⟩⟩, fun _ => ⟨fun t q t0 t1 q0 q1 => Or.inl ⟨e1 _ (by omega) (by omega), fun ht => by omega⟩, fun hw => by omega⟩, Or.inl rfl⟩ ?_
  intro σ2 mv wr u4 u5 hu hx
  obtain ⟨x1, x2, x3, x4, x5⟩ := hx
  have hmv : rg mv := ⟨by have := x2.1; omega, by have := x2.2.1; omega⟩
  have hT := x3.1
  have hT2 := x3.2.1
  have bad : ¬ KO_ N T → wp_m l Y_R_kindsWrong none 0 0 224 [.ref 51, .int (iI mv), .int (iI wr), .int (iI N), u4, u5] [] (hp_ σ2) K := fun hn => by
    refine wi_iconst dc_R_kindsWrong_224 ?_
    refine wp_ireturn dc_R_kindsWrong_225 rfl rfl (h1 hn σ2 x1)
  refine wp_iload_n dc_R_kindsWrong_203 rfl rfl (wi_iconst dc_R_kindsWrong_204 ?_)
  refine wi_ic_ne dc_R_kindsWrong_205 rfl (fun hd => ?_) (fun hd => ?_)
  · refine bad ?_
    rintro ⟨mi, tc, b, tab, hks⟩
    obtain ⟨y1, y2, y3, y4⟩ := hks.1
    rcases x2.2.2 with ⟨a1, a2⟩ | ⟨a1, a2⟩ | ⟨a1, a, c, a2, a3, a4, a5, a6⟩
    · exact a2 mi y1 y2 y3
    · omega
    · have e1 := y4 a a2 (by omega) a5
      have e2 := y4 c (by omega) a4 a6
      omega
  refine wp_aload_n dc_R_kindsWrong_208 rfl rfl (wi_getI 12 dc_R_kindsWrong_209 lf_R_83 sh_51 rfl rfl (wi_iconst dc_R_kindsWrong_212 ?_))
  refine wi_ic_lt dc_R_kindsWrong_213 rfl (fun he => ?_) (fun he => ?_)
  · refine bad ?_
    rintro ⟨mi, tc, b, tab, hks⟩
    have := ks_tr hks x3
    have := hks.2.1.1
    omega
  refine wp_aload_n dc_R_kindsWrong_216 rfl rfl (wi_getI 12 dc_R_kindsWrong_217 lf_R_83 sh_51 rfl rfl (wi_iconst dc_R_kindsWrong_220 ?_))
  refine wi_ic_le dc_R_kindsWrong_221 rfl (fun hf => ?_) (fun hf => ?_)
  rotate_left
  · refine bad ?_
    rintro ⟨mi, tc, b, tab, hks⟩
    have := ks_tr hks x3
    have := hks.2.1.1
    omega
  obtain ⟨x6, x7⟩ := x4 (by omega)
  have hmi : 0 ≤ σ2 51 11 ∧ σ2 51 11 < N ∧ MV_ T (σ2 51 11) ∧ ∀ j, 0 ≤ j → j < N → MV_ T j → j = σ2 51 11 := by
    rcases x2.2.2 with ⟨a1, a2⟩ | ⟨a1, a2⟩ | ⟨a1, a2⟩
    · omega
    · exact a2
    · omega
  have htr : (σ2 51 12 = 1 ∨ σ2 51 12 = 2) ∧ (∀ t, 0 ≤ t → t < σ2 51 12 → 0 ≤ σ2 61 t ∧ σ2 61 t < N ∧ TK_ T (σ2 61 t)) ∧ (σ2 51 12 = 2 → σ2 61 0 < σ2 61 1) ∧ ∀ j, 0 ≤ j → j < N → TK_ T j → ∃ t, 0 ≤ t ∧ t < σ2 51 12 ∧ j = σ2 61 t := by
    rcases x3.2.2 with ⟨a1, a2⟩ | ⟨a1, a2, a3, a4, a5⟩ | ⟨a1, a2, a3, a4, a5, a6, a7⟩ | ⟨a1, a2⟩
    · omega
    · refine ⟨Or.inl a1, fun t t0 t1 => ?_, fun h => by omega, fun j j0 j1 j2 => ⟨0, by omega, by omega, a5 j j0 j1 j2⟩⟩
      have ht : t = 0 := by omega
      subst ht
      exact ⟨a2, a3, a4⟩
    · refine ⟨Or.inr a1, fun t t0 t1 => ?_, fun _ => a3, fun j j0 j1 j2 => ?_⟩
      · have ht : t = 0 ∨ t = 1 := by omega
        rcases ht with rfl | rfl
        · exact ⟨a2, by omega, a5⟩
        · exact ⟨by omega, a4, a6⟩
      · rcases a7 j j0 j1 j2 with h | h
        · exact ⟨0, by omega, by omega, h⟩
        · exact ⟨1, by omega, by omega, h⟩
    · omega
  refine wi_iconst dc_R_kindsWrong_226 (wp_is3 dc_R_kindsWrong_227 ?_)
  have hr62 : ∀ i, 0 ≤ i → i < 16 → rg (σ2 62 i) := fun i i0 i1 => by
    have e : i = 8 * (i / 8) + i % 8 := by omega
    have h := x6 (i / 8) (i % 8) (by omega) (by omega) (by omega) (by omega)
    rw [← e] at h
    rcases h with h | h
    · rw [h.1]; decide
    · constructor <;> omega
  refine lp_R_kw4 rfl htr.1 hr62 (σ2 51 12).toNat 0 wr u4 u5 hu (by omega) (by omega) x5 (fun w' hw' hiff => ?_)
  rcases hw' with rfl | rfl
  · obtain ⟨g1, g2⟩ := hiff.mp rfl
    refine h0 σ2 x1 ⟨hmi, htr, fun t q t0 t1 q0 q1 => ?_, fun t t0 t1 => ?_⟩
    · rcases x6 t q t0 (by omega) q0 q1 with h | h
      · exact Or.inl ⟨h.1, h.2 t1⟩
      · exact Or.inr ⟨h.2.1, h.2.2.1, h.2.2.2.1, h.2.2.2.2 g1⟩
    · obtain ⟨c1, c2, c3, c4⟩ := g2 t t0 t1
      refine ⟨c1, c2, c3, ?_⟩
      have m4 := x6 t 4 t0 (by omega) (by omega) (by omega)
      have m5 := x6 t 5 t0 (by omega) (by omega) (by omega)
      rcases c4 with c4 | c4
      · refine Or.inl ⟨c4.1, ?_⟩
        rcases m5 with h | h
        · exact h.1
        · omega
      · refine Or.inr ⟨?_, c4.2⟩
        rcases m4 with h | h
        · exact h.1
        · omega
  · refine h1 ?_ σ2 x1
    rintro ⟨mi, tc, b, tab, hks⟩
    obtain ⟨e1, e2⟩ := ks_tr hks x3
    obtain ⟨-, -, k3, k4⟩ := hks
    have hz : (1 : Int) = 0 := hiff.mpr ⟨by
      rcases x5 with h | h
      · exact h
      · exfalso
        obtain ⟨t, q, x, y, b1, b2, b3, b4, b5, b6, b7, b8, b9⟩ := x7 h
        rw [← e2 t b1 (by omega)] at b8 b9
        rcases k3 t q b1 (by omega) b3 b4 with h | h
        · exact h.2 x b5 (by omega) b8
        · have c1 := h.2.2.2 x b5 (by omega) b8
          have c2 := h.2.2.2 y (by omega) b7 b9
          omega, fun t t0 t1 => ?_⟩
    · omega
    have same : ∀ q, 0 ≤ q → q < 8 → (0 ≤ tab t q → 0 ≤ σ2 62 (8 * t + q)) ∧ (tab t q = -1 → σ2 62 (8 * t + q) < 0) := fun q q0 q1 => by
      have m := x6 t q t0 (by omega) q0 q1
      have m2 := k3 t q t0 (by omega) q0 q1
      rw [e2 t t0 (by omega)] at m2
      refine ⟨fun hp => ?_, fun hp => ?_⟩
      · rcases m2 with h | h
        · omega
        · rcases m with g | g
          · exact absurd h.2.2.1 (g.2 t1 _ h.1 h.2.1)
          · exact g.2.1
      · rcases m2 with h | h
        · rcases m with g | g
          · omega
          · exact absurd g.2.2.2.1 (h.2 _ g.2.1 g.2.2.1)
        · omega
    obtain ⟨c1, c2, c3, c4⟩ := k4 t t0 (by omega)
    refine ⟨(same 0 (by omega) (by omega)).1 c1, (same 2 (by omega) (by omega)).1 c2, (same 3 (by omega) (by omega)).1 c3, ?_⟩
    rcases c4 with c4 | c4
    · exact Or.inl ⟨(same 4 (by omega) (by omega)).1 c4.1, (same 5 (by omega) (by omega)).2 c4.2⟩
    · exact Or.inr ⟨(same 4 (by omega) (by omega)).2 c4.1, (same 5 (by omega) (by omega)).1 c4.2⟩
end KT
