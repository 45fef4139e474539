/-! the rows of a table: what must hold of them; the reference's rowsWrong -/
def wd_ (q : Int) : Int := if q = 2 then 3 else if q = 4 ∨ q = 6 then 1 else 2
def rk_ (F : Int → Int) (s q r : Int) : Prop := (q = 2 → (if r = 0 then F (s + (1 + 3 * r)) = 1 else F (s + (3 * r - 2)) < F (s + (1 + 3 * r))) ∧ ¬ F (s + (2 + 3 * r)) = 0) ∧ (q = 6 → (if r = 0 then 0 else F (s + r)) < F (s + (1 + r)))
/-- a table of kind q whose payload of p bytes begins at s is as it must be -/
def RO_ (F : Int → Int) (s p q : Int) : Prop := (q = 3 → 2 ≤ p ∧ p = (if F s = 0 then 2 + F (s + 1) else 2)) ∧ (¬ q = 3 → 1 ≤ p ∧ p = 1 + wd_ q * F s ∧ ∀ r, 0 ≤ r → r < F s → rk_ F s q r)
section RW
variable {l : Launch} {σ : sg_} {K : Option Value → mx_H → Prop} {F : Int → Int} {n N : Int} {T : px_T} {j i q : Int}
abbrev st_ (T : px_T) (j : Int) : Int := T 0 j + T 3 j
abbrev pl_ (T : px_T) (j : Int) : Int := T 1 j - T 3 j
theorem c_R_pay (hro : ro_ σ F n) (hrt : rt_ σ N T) (htt : tt_ n N T) (j0 : 0 ≤ j) (j1 : j < N) (i0 : 0 ≤ i) (i1 : i < pl_ T j) (hK : K (some (.int (iI (F (st_ T j + i))))) (hp_ σ)) : ct_m l Y_R_pay 0 0 [.ref 51, .int (iI j), .int (iI i)] (hp_ σ) K := by
  obtain ⟨a1, a2, a3, a4, a5⟩ := hro
  have t2 := htt.2.1
  have b := htt.2.2.1 j j0 j1
  unfold bx_ at b
  have ep : pl_ T j = T 1 j - T 3 j := rfl
  have es : st_ T j = T 0 j + T 3 j := rfl
  refine ct_of (L := [.ref 51, .int (iI j), .int (iI i)]) (by decide +kernel) (Nat.le_of_ble_eq_true rfl) rfl ?_
  refine wp_aload_n dc_R_pay_0 rfl rfl (wi_getR dc_R_pay_1 lf_R_7 sh_51 rfl (wp_aload_n dc_R_pay_4 rfl rfl (wi_getR dc_R_pay_5 lf_R_13 sh_51 rfl (wp_iload_n dc_R_pay_8 rfl rfl (wi_aldE (T 0 j) dc_R_pay_9 sh_53 (by omega) (by omega) (by decide) (hrt.2 0 j (by decide) j0 j1) (wp_aload_n dc_R_pay_10 rfl rfl (wi_getR dc_R_pay_11 lf_R_22 sh_51 rfl (wp_iload_n dc_R_pay_14 rfl rfl (wi_aldE (T 3 j) dc_R_pay_15 sh_56 (by omega) (by omega) (by decide) (hrt.2 3 j (by decide) j0 j1) (wi_iadd dc_R_pay_16 (wp_iload_n dc_R_pay_17 rfl rfl (wi_iadd dc_R_pay_18 (wi_aldE (F (st_ T j + i)) dc_R_pay_19 sh_52 (by omega) (by omega) (by decide) (a4 _ (by omega) (by omega)) ?_)))))))))))))
  refine wp_ireturn dc_R_pay_20 rfl rfl hK
theorem c_R_payLength (hrt : rt_ σ N T) (htt : tt_ n N T) (j0 : 0 ≤ j) (j1 : j < N) (hK : K (some (.int (iI (pl_ T j)))) (hp_ σ)) : ct_m l Y_R_payLength 0 0 [.ref 51, .int (iI j)] (hp_ σ) K := by
  have t2 := htt.2.1
  refine ct_of (L := [.ref 51, .int (iI j)]) (by decide +kernel) (Nat.le_of_ble_eq_true rfl) rfl ?_
  refine wp_aload_n dc_R_payLength_0 rfl rfl (wi_getR dc_R_payLength_1 lf_R_16 sh_51 rfl (wp_iload_n dc_R_payLength_4 rfl rfl (wi_aldE (T 1 j) dc_R_payLength_5 sh_54 (by omega) (by omega) (by decide) (hrt.2 1 j (by decide) j0 j1) (wp_aload_n dc_R_payLength_6 rfl rfl (wi_getR dc_R_payLength_7 lf_R_22 sh_51 rfl (wp_iload_n dc_R_payLength_10 rfl rfl (wi_aldE (T 3 j) dc_R_payLength_11 sh_56 (by omega) (by omega) (by decide) (hrt.2 3 j (by decide) j0 j1) (wi_isub dc_R_payLength_12 ?_))))))))
  refine wp_ireturn dc_R_payLength_13 rfl rfl hK
theorem lp_R_rw (hro : ro_ σ F n) (hrt : rt_ σ N T) (htt : tt_ n N T) (j0 : 0 ≤ j) (j1 : j < N) (q0 : 0 ≤ q) (q1 : q < 8) (hp : pl_ T j = 1 + wd_ q * F (st_ T j)) {x3 x4 : Value}
    (h0 : (∀ r, 0 ≤ r → r < F (st_ T j) → rk_ F (st_ T j) q r) → K (some (.int (iI 0))) (hp_ σ)) (h1 : ¬ (∀ r, 0 ≤ r → r < F (st_ T j) → rk_ F (st_ T j) q r) → K (some (.int (iI 1))) (hp_ σ)) :
    ∀ (m : Nat) (r w : Int) (u8 u9 : Value), u8.category = 1 → r = F (st_ T j) - m → 0 ≤ r → (w = 0 ∧ (∀ i, 0 ≤ i → i < r → rk_ F (st_ T j) q i)) ∨ (w = 1 ∧ ¬ (∀ i, 0 ≤ i → i < r → rk_ F (st_ T j) q i)) → wp_m l Y_R_rowsWrong none 0 0 110 [.ref 51, .int (iI j), .int (iI q), x3, x4, .int (iI (F (st_ T j))), .int (iI w), .int (iI r), u8, u9] [] (hp_ σ) K := by
  have a5 := hro.2.2.2.2
  have hs := a5 (st_ T j)
  intro m
  induction m with
  | zero =>
    intro r w u8 u9 hu hr r0 hw
    have er : r = F (st_ T j) := by omega
    subst er
    refine wp_iload dc_R_rowsWrong_110 rfl (wp_iload dc_R_rowsWrong_112 rfl ?_)
    refine wi_ic_ge dc_R_rowsWrong_114 rfl (fun hd => ?_) (fun hd => ?_)
    · rcases hw with ⟨rfl, hw⟩ | ⟨rfl, hw⟩
      · refine wp_iload dc_R_rowsWrong_264 rfl ?_
        refine wp_ireturn dc_R_rowsWrong_266 rfl rfl (h0 hw)
      · refine wp_iload dc_R_rowsWrong_264 rfl ?_
        refine wp_ireturn dc_R_rowsWrong_266 rfl rfl (h1 hw)
    · omega
  | succ m ih =>
    intro r w u8 u9 hu hr r0 hw
    have hw01 : w = 0 ∨ w = 1 := by rcases hw with h | h <;> omega
    have nx : ∀ (w' : Int) (u8 u9 : Value), u8.category = 1 → (w' = 0 ∧ w = 0 ∧ rk_ F (st_ T j) q r) ∨ (w' = 1 ∧ ¬ (w = 0 ∧ rk_ F (st_ T j) q r)) → wp_m l Y_R_rowsWrong none 0 0 258 [.ref 51, .int (iI j), .int (iI q), x3, x4, .int (iI (F (st_ T j))), .int (iI w'), .int (iI r), u8, u9] [] (hp_ σ) K := fun w' u8 u9 hu h => by
      refine wp_ii7 dc_R_rowsWrong_258 (wp_goto dc_R_rowsWrong_261 rfl ?_)
      refine ih (r + 1) w' u8 u9 hu (by omega) (by omega) ?_
      rcases h with ⟨g1, g2, g3⟩ | ⟨g1, g2⟩
      · refine Or.inl ⟨g1, fun i i0 i1 => ?_⟩
        by_cases hi : i = r
        · subst hi; exact g3
        · rcases hw with h | h
          · exact h.2 i i0 (by omega)
          · omega
      · refine Or.inr ⟨g1, fun hall => g2 ⟨?_, hall r r0 (by omega)⟩⟩
        rcases hw with h | h
        · exact h.1
        · exact absurd (fun i i0 i1 => hall i i0 (by omega)) h.2
    refine wp_iload dc_R_rowsWrong_110 rfl (wp_iload dc_R_rowsWrong_112 rfl ?_)
    refine wi_ic_ge dc_R_rowsWrong_114 rfl (fun hd => ?_) (fun hd => ?_)
    · omega
    have e0 := a5 (st_ T j + (1 + 3 * r))
    have e1 := a5 (st_ T j + (3 * r - 2))
    have e2 := a5 (st_ T j + (2 + 3 * r))
    have e3 := a5 (st_ T j + r)
    have e4 := a5 (st_ T j + (1 + r))
    refine wp_iload_n dc_R_rowsWrong_117 rfl rfl (wi_iconst dc_R_rowsWrong_118 ?_)
    refine wi_ic_ne dc_R_rowsWrong_119 rfl (fun he => ?_) (fun he => ?_)
    rotate_left
    · have hwd : wd_ q = 3 := by unfold wd_; rw [if_pos he]
      rw [hwd] at hp
      refine wp_aload_n dc_R_rowsWrong_122 rfl rfl (wp_iload_n dc_R_rowsWrong_123 rfl rfl (wi_iconst dc_R_rowsWrong_124 (wi_iconst dc_R_rowsWrong_125 (wp_iload dc_R_rowsWrong_126 rfl (wi_imul dc_R_rowsWrong_128 (wi_iadd dc_R_rowsWrong_129 ?_))))))
      refine wp_callV (As := [_, _]) dc_R_rowsWrong_130 lm_R_106 ls_R_pay (by decide) rfl rfl (hp_at _ sh_51) rfl rfl (Nat.le_of_ble_eq_true rfl) (Nat.le_refl _) (Nat.le_refl _) ?_
      refine c_R_pay hro hrt htt j0 j1 (by omega) (by omega) ?_
      suffices K175 : ∀ o : Int, (o = 1 ∧ (if r = 0 then F (st_ T j + (1 + 3 * r)) = 1 else F (st_ T j + (3 * r - 2)) < F (st_ T j + (1 + 3 * r)))) ∨ (o = 0 ∧ ¬ (if r = 0 then F (st_ T j + (1 + 3 * r)) = 1 else F (st_ T j + (3 * r - 2)) < F (st_ T j + (1 + 3 * r)))) → wp_m l Y_R_rowsWrong none 0 0 175 [.ref 51, .int (iI j), .int (iI q), x3, x4, .int (iI (F (st_ T j))), .int (iI w), .int (iI r), .int (iI (F (st_ T j + (1 + 3 * r)))), u9] [.int (iI o)] (hp_ σ) K by
        refine wp_is8 dc_R_rowsWrong_133 (wp_iload dc_R_rowsWrong_135 rfl ?_)
        refine wi_if_ne dc_R_rowsWrong_137 rfl (fun hf => ?_) (fun hf => ?_)
        · refine wp_iload dc_R_rowsWrong_154 rfl (wp_aload_n dc_R_rowsWrong_156 rfl rfl (wp_iload_n dc_R_rowsWrong_157 rfl rfl (wi_iconst dc_R_rowsWrong_158 (wp_iload dc_R_rowsWrong_159 rfl (wi_imul dc_R_rowsWrong_161 (wi_iconst dc_R_rowsWrong_162 (wi_isub dc_R_rowsWrong_163 ?_)))))))
          refine wp_callV (As := [_, _]) dc_R_rowsWrong_164 lm_R_106 ls_R_pay (by decide) rfl rfl (hp_at _ sh_51) rfl rfl (Nat.le_of_ble_eq_true rfl) (Nat.le_refl _) (Nat.le_refl _) ?_
          refine c_R_pay hro hrt htt j0 j1 (by omega) (by omega) ?_
          refine wi_ic_le dc_R_rowsWrong_167 rfl (fun hg => ?_) (fun hg => ?_)
          · refine wi_iconst dc_R_rowsWrong_174 ?_
            exact K175 0 (Or.inr ⟨rfl, by rw [if_neg hf]; omega⟩)
          · refine wi_iconst dc_R_rowsWrong_170 (wp_goto dc_R_rowsWrong_171 rfl ?_)
            exact K175 1 (Or.inl ⟨rfl, by rw [if_neg hf]; omega⟩)
        · refine wp_iload dc_R_rowsWrong_140 rfl (wi_iconst dc_R_rowsWrong_142 ?_)
          refine wi_ic_ne dc_R_rowsWrong_143 rfl (fun hg => ?_) (fun hg => ?_)
          · refine wi_iconst dc_R_rowsWrong_150 (wp_goto dc_R_rowsWrong_151 rfl ?_)
            exact K175 0 (Or.inr ⟨rfl, by rw [if_pos hf]; exact hg⟩)
          · refine wi_iconst dc_R_rowsWrong_146 (wp_goto dc_R_rowsWrong_147 rfl ?_)
            exact K175 1 (Or.inl ⟨rfl, by rw [if_pos hf]; exact hg⟩)
      intro o ho
      have ho01 : o = 0 ∨ o = 1 := by rcases ho with h | h <;> omega
      have fin : ∀ w' : Int, (w' = 0 ∧ w = 0 ∧ rk_ F (st_ T j) q r) ∨ (w' = 1 ∧ ¬ (w = 0 ∧ rk_ F (st_ T j) q r)) → wp_m l Y_R_rowsWrong none 0 0 206 [.ref 51, .int (iI j), .int (iI q), x3, x4, .int (iI (F (st_ T j))), .int (iI w), .int (iI r), .int (iI (F (st_ T j + (1 + 3 * r)))), .int (iI o)] [.int (iI w')] (hp_ σ) K := fun w' h => by
        refine wp_is6 dc_R_rowsWrong_206 (wp_iload_n dc_R_rowsWrong_208 rfl rfl (wi_bipush dc_R_rowsWrong_209 ?_))
        refine wi_ic_ne dc_R_rowsWrong_211 rfl (fun hf => ?_) (fun hf => ?_)
        · exact nx w' _ _ rfl h
        · omega
      refine wp_is9 dc_R_rowsWrong_175 (wp_iload dc_R_rowsWrong_177 rfl ?_)
      refine wi_if_ne dc_R_rowsWrong_179 rfl (fun hf => ?_) (fun hf => ?_)
      · refine wi_iconst dc_R_rowsWrong_201 (wp_goto dc_R_rowsWrong_202 rfl ?_)
        exact fin 1 (Or.inr ⟨rfl, fun h => hf h.1⟩)
      refine wp_iload dc_R_rowsWrong_182 rfl ?_
      refine wi_if_eq dc_R_rowsWrong_184 rfl (fun hg => ?_) (fun hg => ?_)
      · refine wi_iconst dc_R_rowsWrong_201 (wp_goto dc_R_rowsWrong_202 rfl ?_)
        refine fin 1 (Or.inr ⟨rfl, fun h => ?_⟩)
        rcases ho with k | k
        · omega
        · exact k.2 (h.2.1 he).1
      refine wp_aload_n dc_R_rowsWrong_187 rfl rfl (wp_iload_n dc_R_rowsWrong_188 rfl rfl (wi_iconst dc_R_rowsWrong_189 (wi_iconst dc_R_rowsWrong_190 (wp_iload dc_R_rowsWrong_191 rfl (wi_imul dc_R_rowsWrong_193 (wi_iadd dc_R_rowsWrong_194 ?_))))))
      refine wp_callV (As := [_, _]) dc_R_rowsWrong_195 lm_R_106 ls_R_pay (by decide) rfl rfl (hp_at _ sh_51) rfl rfl (Nat.le_of_ble_eq_true rfl) (Nat.le_refl _) (Nat.le_refl _) ?_
      refine c_R_pay hro hrt htt j0 j1 (by omega) (by omega) ?_
      refine wi_if_ne dc_R_rowsWrong_198 rfl (fun hh => ?_) (fun hh => ?_)
      · refine wi_iconst dc_R_rowsWrong_205 ?_
        refine fin 0 (Or.inl ⟨rfl, hf, fun _ => ⟨?_, hh⟩, fun h6 => by omega⟩)
        rcases ho with k | k
        · exact k.2
        · omega
      · refine wi_iconst dc_R_rowsWrong_201 (wp_goto dc_R_rowsWrong_202 rfl ?_)
        exact fin 1 (Or.inr ⟨rfl, fun h => (h.2.1 he).2 hh⟩)
    refine wp_iload_n dc_R_rowsWrong_208 rfl rfl (wi_bipush dc_R_rowsWrong_209 ?_)
    refine wi_ic_ne dc_R_rowsWrong_211 rfl (fun hf => ?_) (fun hf => ?_)
    · refine nx w _ _ hu ?_
      have hrk : rk_ F (st_ T j) q r := ⟨fun h => absurd h he, fun h => absurd h hf⟩
      rcases hw01 with rfl | rfl
      · exact Or.inl ⟨rfl, rfl, hrk⟩
      · exact Or.inr ⟨rfl, fun h => by omega⟩
    have hwd : wd_ q = 1 := by unfold wd_; rw [if_neg he, if_pos (Or.inr hf)]
    rw [hwd] at hp
    refine wp_aload_n dc_R_rowsWrong_214 rfl rfl (wp_iload_n dc_R_rowsWrong_215 rfl rfl (wi_iconst dc_R_rowsWrong_216 (wp_iload dc_R_rowsWrong_217 rfl (wi_iadd dc_R_rowsWrong_219 ?_))))
    refine wp_callV (As := [_, _]) dc_R_rowsWrong_220 lm_R_106 ls_R_pay (by decide) rfl rfl (hp_at _ sh_51) rfl rfl (Nat.le_of_ble_eq_true rfl) (Nat.le_refl _) (Nat.le_refl _) ?_
    refine c_R_pay hro hrt htt j0 j1 (by omega) (by omega) ?_
    have fin : ∀ w' : Int, (w' = 0 ∧ w = 0 ∧ rk_ F (st_ T j) q r) ∨ (w' = 1 ∧ ¬ (w = 0 ∧ rk_ F (st_ T j) q r)) → wp_m l Y_R_rowsWrong none 0 0 256 [.ref 51, .int (iI j), .int (iI q), x3, x4, .int (iI (F (st_ T j))), .int (iI w), .int (iI r), .int (iI (F (st_ T j + (1 + r)))), u9] [.int (iI w')] (hp_ σ) K := fun w' h => by
      refine wp_is6 dc_R_rowsWrong_256 ?_
      exact nx w' _ _ rfl h
    refine wp_is8 dc_R_rowsWrong_223 (wp_iload dc_R_rowsWrong_225 rfl ?_)
    refine wi_if_ne dc_R_rowsWrong_227 rfl (fun hg => ?_) (fun hg => ?_)
    · refine wi_iconst dc_R_rowsWrong_251 (wp_goto dc_R_rowsWrong_252 rfl ?_)
      exact fin 1 (Or.inr ⟨rfl, fun h => hg h.1⟩)
    suffices K248 : wp_m l Y_R_rowsWrong none 0 0 248 [.ref 51, .int (iI j), .int (iI q), x3, x4, .int (iI (F (st_ T j))), .int (iI w), .int (iI r), .int (iI (F (st_ T j + (1 + r)))), u9] [.int (iI (if r = 0 then 0 else F (st_ T j + r))), .int (iI (F (st_ T j + (1 + r))))] (hp_ σ) K by
      refine wp_iload dc_R_rowsWrong_230 rfl (wp_iload dc_R_rowsWrong_232 rfl ?_)
      refine wi_if_ne dc_R_rowsWrong_234 rfl (fun hh => ?_) (fun hh => ?_)
      · rw [if_neg hh] at K248
        refine wp_aload_n dc_R_rowsWrong_241 rfl rfl (wp_iload_n dc_R_rowsWrong_242 rfl rfl (wp_iload dc_R_rowsWrong_243 rfl ?_))
        refine wp_callV (As := [_, _]) dc_R_rowsWrong_245 lm_R_106 ls_R_pay (by decide) rfl rfl (hp_at _ sh_51) rfl rfl (Nat.le_of_ble_eq_true rfl) (Nat.le_refl _) (Nat.le_refl _) ?_
        refine c_R_pay hro hrt htt j0 j1 (by omega) (by omega) ?_
        exact K248
      · rw [if_pos hh] at K248
        refine wi_iconst dc_R_rowsWrong_237 (wp_goto dc_R_rowsWrong_238 rfl ?_)
        exact K248
    have hri : rg (if r = 0 then 0 else F (st_ T j + r)) := by split <;> (constructor <;> omega)
    refine wi_ic_gt dc_R_rowsWrong_248 rfl (fun hh => ?_) (fun hh => ?_)
    · refine wi_iconst dc_R_rowsWrong_255 ?_
      exact fin 0 (Or.inl ⟨rfl, hg, fun h => absurd h he, fun _ => hh⟩)
    · refine wi_iconst dc_R_rowsWrong_251 (wp_goto dc_R_rowsWrong_252 rfl ?_)
      exact fin 1 (Or.inr ⟨rfl, fun h => hh (h.2.2 hf)⟩)
theorem c_R_rowsWrong (hro : ro_ σ F n) (hrt : rt_ σ N T) (htt : tt_ n N T) (j0 : 0 ≤ j) (j1 : j < N) (q0 : 0 ≤ q) (q1 : q < 8) (h0 : RO_ F (st_ T j) (pl_ T j) q → K (some (.int (iI 0))) (hp_ σ)) (h1 : ¬ RO_ F (st_ T j) (pl_ T j) q → K (some (.int (iI 1))) (hp_ σ)) : ct_m l Y_R_rowsWrong 0 0 [.ref 51, .int (iI j), .int (iI q)] (hp_ σ) K := by
  have a2 := hro.2.1
  have a5 := hro.2.2.2.2
  have hs := a5 (st_ T j)
  have hs0 := a5 (st_ T j + 0)
  have hs1 := a5 (st_ T j + 1)
  have b := htt.2.2.1 j j0 j1
  unfold bx_ at b
  have ep : pl_ T j = T 1 j - T 3 j := rfl
  have es : st_ T j = T 0 j + T 3 j := rfl
  have z0 : st_ T j + 0 = st_ T j := by omega
  refine ct_of (L := [.ref 51, .int (iI j), .int (iI q), .retAddr 0, .retAddr 0, .retAddr 0, .retAddr 0, .retAddr 0, .retAddr 0, .retAddr 0]) (by decide +kernel) (Nat.le_of_ble_eq_true rfl) rfl ?_
  refine wp_aload_n dc_R_rowsWrong_0 rfl rfl (wp_iload_n dc_R_rowsWrong_1 rfl rfl ?_)
  refine wp_callV (As := [_]) dc_R_rowsWrong_2 lm_R_103 ls_R_payLength (by decide) rfl rfl (hp_at _ sh_51) rfl rfl (Nat.le_of_ble_eq_true rfl) (Nat.le_refl _) (Nat.le_refl _) ?_
  refine c_R_payLength hrt htt j0 j1 ?_
  refine wp_is3 dc_R_rowsWrong_5 (wp_iload_n dc_R_rowsWrong_6 rfl rfl (wi_iconst dc_R_rowsWrong_7 ?_))
  refine wi_ic_ne dc_R_rowsWrong_8 rfl (fun hd => ?_) (fun hd => ?_)
  rotate_left
  · have bad : ¬ RO_ F (st_ T j) (pl_ T j) q → wp_m l Y_R_rowsWrong none 0 0 41 [.ref 51, .int (iI j), .int (iI q), .int (iI (pl_ T j)), .retAddr 0, .retAddr 0, .retAddr 0, .retAddr 0, .retAddr 0, .retAddr 0] [] (hp_ σ) K := fun hn => by
      refine wi_iconst dc_R_rowsWrong_41 (wp_goto dc_R_rowsWrong_42 rfl ?_)
      refine wp_ireturn dc_R_rowsWrong_46 rfl rfl (h1 hn)
    refine wp_iload_n dc_R_rowsWrong_11 rfl rfl (wi_iconst dc_R_rowsWrong_12 ?_)
    refine wi_ic_lt dc_R_rowsWrong_13 rfl (fun he => ?_) (fun he => ?_)
    · exact bad (fun h => by have := (h.1 hd).1; omega)
    suffices K38 : wp_m l Y_R_rowsWrong none 0 0 38 [.ref 51, .int (iI j), .int (iI q), .int (iI (pl_ T j)), .retAddr 0, .retAddr 0, .retAddr 0, .retAddr 0, .retAddr 0, .retAddr 0] [.int (iI (if F (st_ T j) = 0 then 2 + F (st_ T j + 1) else 2)), .int (iI (pl_ T j))] (hp_ σ) K by
      refine wp_iload_n dc_R_rowsWrong_16 rfl rfl (wp_aload_n dc_R_rowsWrong_17 rfl rfl (wp_iload_n dc_R_rowsWrong_18 rfl rfl (wi_iconst dc_R_rowsWrong_19 ?_)))
      refine wp_callV (As := [_, _]) dc_R_rowsWrong_20 lm_R_106 ls_R_pay (by decide) rfl rfl (hp_at _ sh_51) rfl rfl (Nat.le_of_ble_eq_true rfl) (Nat.le_refl _) (Nat.le_refl _) ?_
      refine c_R_pay hro hrt htt j0 j1 (by omega) (by omega) ?_
      rw [z0]
      refine wi_if_ne dc_R_rowsWrong_23 rfl (fun hf => ?_) (fun hf => ?_)
      · rw [if_neg hf] at K38
        refine wi_iconst dc_R_rowsWrong_37 ?_
        exact K38
      · rw [if_pos hf] at K38
        refine wi_iconst dc_R_rowsWrong_26 (wp_aload_n dc_R_rowsWrong_27 rfl rfl (wp_iload_n dc_R_rowsWrong_28 rfl rfl (wi_iconst dc_R_rowsWrong_29 ?_)))
        refine wp_callV (As := [_, _]) dc_R_rowsWrong_30 lm_R_106 ls_R_pay (by decide) rfl rfl (hp_at _ sh_51) rfl rfl (Nat.le_of_ble_eq_true rfl) (Nat.le_refl _) (Nat.le_refl _) ?_
        refine c_R_pay hro hrt htt j0 j1 (by omega) (by omega) ?_
        refine wi_iadd dc_R_rowsWrong_33 (wp_goto dc_R_rowsWrong_34 rfl ?_)
        exact K38
    have hri : rg (if F (st_ T j) = 0 then 2 + F (st_ T j + 1) else 2) := by split <;> (constructor <;> omega)
    refine wi_ic_eq dc_R_rowsWrong_38 rfl (fun hf => ?_) (fun hf => ?_)
    · refine wi_iconst dc_R_rowsWrong_45 ?_
      refine wp_ireturn dc_R_rowsWrong_46 rfl rfl (h0 ⟨fun _ => ⟨by omega, hf⟩, fun h => absurd hd h⟩)
    · exact bad (fun h => hf (h.1 hd).2)
  have bad : ∀ x4 : Value, ¬ RO_ F (st_ T j) (pl_ T j) q → wp_m l Y_R_rowsWrong none 0 0 94 [.ref 51, .int (iI j), .int (iI q), .int (iI (pl_ T j)), x4, .retAddr 0, .retAddr 0, .retAddr 0, .retAddr 0, .retAddr 0] [] (hp_ σ) K := fun x4 hn => by
    refine wi_iconst dc_R_rowsWrong_94 ?_
    refine wp_ireturn dc_R_rowsWrong_95 rfl rfl (h1 hn)
  have hwr : wd_ q = 1 ∨ wd_ q = 2 ∨ wd_ q = 3 := by
    unfold wd_
    split
    · omega
    split <;> omega
  suffices K72 : wp_m l Y_R_rowsWrong none 0 0 72 [.ref 51, .int (iI j), .int (iI q), .int (iI (pl_ T j)), .retAddr 0, .retAddr 0, .retAddr 0, .retAddr 0, .retAddr 0, .retAddr 0] [.int (iI (wd_ q))] (hp_ σ) K by
    refine wp_iload_n dc_R_rowsWrong_47 rfl rfl (wi_iconst dc_R_rowsWrong_48 ?_)
    refine wi_ic_ne dc_R_rowsWrong_49 rfl (fun he => ?_) (fun he => ?_)
    · refine wp_iload_n dc_R_rowsWrong_56 rfl rfl (wi_iconst dc_R_rowsWrong_57 ?_)
      refine wi_ic_eq dc_R_rowsWrong_58 rfl (fun hf => ?_) (fun hf => ?_)
      · rw [show wd_ q = 1 by unfold wd_; rw [if_neg he, if_pos (Or.inl hf)]] at K72
        refine wi_iconst dc_R_rowsWrong_67 (wp_goto dc_R_rowsWrong_68 rfl ?_)
        exact K72
      · refine wp_iload_n dc_R_rowsWrong_61 rfl rfl (wi_bipush dc_R_rowsWrong_62 ?_)
        refine wi_ic_ne dc_R_rowsWrong_64 rfl (fun hg => ?_) (fun hg => ?_)
        · rw [show wd_ q = 2 by unfold wd_; rw [if_neg he, if_neg (by omega)]] at K72
          refine wi_iconst dc_R_rowsWrong_71 ?_
          exact K72
        · rw [show wd_ q = 1 by unfold wd_; rw [if_neg he, if_pos (Or.inr hg)]] at K72
          refine wi_iconst dc_R_rowsWrong_67 (wp_goto dc_R_rowsWrong_68 rfl ?_)
          exact K72
    · rw [show wd_ q = 3 by unfold wd_; rw [if_pos he]] at K72
      refine wi_iconst dc_R_rowsWrong_52 (wp_goto dc_R_rowsWrong_53 rfl ?_)
      exact K72
  refine wp_is4 dc_R_rowsWrong_72 (wp_iload_n dc_R_rowsWrong_74 rfl rfl (wi_iconst dc_R_rowsWrong_75 ?_))
  refine wi_ic_lt dc_R_rowsWrong_76 rfl (fun he => ?_) (fun he => ?_)
  · exact bad _ (fun h => by have := (h.2 hd).1; omega)
  have hmr : 0 ≤ wd_ q * F (st_ T j) ∧ wd_ q * F (st_ T j) ≤ 1000 := by
    rcases hwr with h | h | h <;> (rw [h]; omega)
  refine wp_iload_n dc_R_rowsWrong_79 rfl rfl (wi_iconst dc_R_rowsWrong_80 (wp_iload dc_R_rowsWrong_81 rfl (wp_aload_n dc_R_rowsWrong_83 rfl rfl (wp_iload_n dc_R_rowsWrong_84 rfl rfl (wi_iconst dc_R_rowsWrong_85 ?_)))))
  refine wp_callV (As := [_, _]) dc_R_rowsWrong_86 lm_R_106 ls_R_pay (by decide) rfl rfl (hp_at _ sh_51) rfl rfl (Nat.le_of_ble_eq_true rfl) (Nat.le_refl _) (Nat.le_refl _) ?_
  refine c_R_pay hro hrt htt j0 j1 (by omega) (by omega) ?_
  rw [z0]
  refine wi_imul dc_R_rowsWrong_89 (wi_iadd dc_R_rowsWrong_90 ?_)
  refine wi_ic_eq dc_R_rowsWrong_91 rfl (fun hf => ?_) (fun hf => ?_)
  rotate_left
  · exact bad _ (fun h => hf (h.2 hd).2.1)
  refine wp_aload_n dc_R_rowsWrong_96 rfl rfl (wp_iload_n dc_R_rowsWrong_97 rfl rfl (wi_iconst dc_R_rowsWrong_98 ?_))
  refine wp_callV (As := [_, _]) dc_R_rowsWrong_99 lm_R_106 ls_R_pay (by decide) rfl rfl (hp_at _ sh_51) rfl rfl (Nat.le_of_ble_eq_true rfl) (Nat.le_refl _) (Nat.le_refl _) ?_
  refine c_R_pay hro hrt htt j0 j1 (by omega) (by omega) ?_
  rw [z0]
  refine wp_is5 dc_R_rowsWrong_102 (wi_iconst dc_R_rowsWrong_104 (wp_is6 dc_R_rowsWrong_105 (wi_iconst dc_R_rowsWrong_107 (wp_is7 dc_R_rowsWrong_108 ?_))))
  refine lp_R_rw hro hrt htt j0 j1 q0 q1 hf (fun h => h0 ⟨fun h3 => absurd h3 hd, fun _ => ⟨by omega, hf, h⟩⟩) (fun h => h1 (fun hR => h (hR.2 hd).2.2)) (F (st_ T j)).toNat 0 0 _ _ rfl (by omega) (by omega) (Or.inl ⟨rfl, fun i i0 i1 => by omega⟩)
end RW
