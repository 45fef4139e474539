/-! fastStart: the reference's write -/
section FT
variable {l : Launch} {K : Option Value → mx_H → Prop} {F : Int → Int} {n N : Int} {T : px_T} {mi tc : Int} {b : Int → Int} {tab : Int → Int → Int} {me : Int} {σ : sg_} {xs : List Int}
/-- the bytes from a up to i but for those from p up to q -/
def sk_ (F : Int → Int) (a p q i : Int) : List Int := pt_ F a (if i < p then i else p) ++ pt_ F q (if i < q then q else i)
theorem sk_1 {a p q i : Int} (h : a ≤ i) (h1 : i < p) (h2 : p ≤ q) : sk_ F a p q (i + 1) = sk_ F a p q i ++ [F i] ∧ (sk_ F a p q i).length = (i - a).toNat := by
  unfold sk_
  have e1 : (if i + 1 < p then i + 1 else p) = i + 1 := by split <;> omega
  have e2 : (if i + 1 < q then q else i + 1) = q := by split <;> omega
  rw [e1, e2, if_pos h1, if_pos (by omega), pt_0, List.append_nil, List.append_nil, pt_S F h, pt_len]
  exact ⟨rfl, rfl⟩
theorem sk_2 {a p q i : Int} (h1 : p ≤ i) (h2 : i < q) : sk_ F a p q (i + 1) = sk_ F a p q i := by
  unfold sk_
  have e2 : (if i + 1 < q then q else i + 1) = q := by split <;> omega
  rw [e2, if_neg (by omega), if_neg (by omega), if_pos h2]
theorem sk_3 {a p q i : Int} (h1 : p ≤ q) (h2 : q ≤ i) : sk_ F a p q (i + 1) = sk_ F a p q i ++ [F i] ∧ (sk_ F a p q i).length = (p - a).toNat + (i - q).toNat := by
  unfold sk_
  rw [if_neg (by omega), if_neg (by omega), if_neg (by omega), if_neg (by omega), pt_S F h2, List.length_append, pt_len, pt_len, List.append_assoc]
  exact ⟨rfl, rfl⟩
theorem sk_a {a p q : Int} (h : a ≤ p) (h1 : p ≤ q) : sk_ F a p q a = [] := by
  unfold sk_
  have e1 : (if a < p then a else p) = a := by split <;> omega
  have e2 : (if a < q then q else a) = q := by split <;> omega
  rw [e1, e2, pt_0, pt_0]
  rfl
theorem sk_n {a p q n : Int} (h1 : p ≤ q) (h2 : q ≤ n) : sk_ F a p q n = pt_ F a p ++ pt_ F q n := by
  unfold sk_
  rw [if_neg (by omega), if_neg (by omega)]
def wrW (b : Nat) (j : Int) : Prop := (b = 51 ∧ (j = 1 ∨ j = 20)) ∨ b = 52 ∨ b = 67
theorem lp_R_wr4 {σ0 : sg_} {a w L m : Int} (h1 : σ0 51 1 = m) (m1 : m ≤ 1000) (hK : ∀ σ', fr_ (fun b _ => b = 52) σ0 σ' → (∀ k, 0 ≤ k → k < m → σ' 52 k = σ0 67 k) → K none (hp_ σ')) :
    ∀ (j : Nat) (i : Int) (σ : sg_), i + j = m → 0 ≤ i → fr_ (fun b _ => b = 52) σ0 σ → (∀ k, 0 ≤ k → k < i → σ 52 k = σ0 67 k) → wp_m l Y_R_write none 0 0 154 [.ref 51, .int (iI a), .int (iI w), .int (iI L), .int (iI i)] [] (hp_ σ) K := by
  intro j
  induction j with
  | zero =>
    intro i σ hi i0 hfr h
    refine wp_iload dc_R_write_154 rfl (wp_aload_n dc_R_write_156 rfl rfl (wi_getE 1 (m) dc_R_write_157 lf_R_58 sh_51 rfl rfl ((hfr 51 1 (by decide)).trans h1) ?_))
    refine wi_ic_ge dc_R_write_160 rfl (fun hd => ?_) (fun hd => ?_)
    · exact wp_return dc_R_write_183 rfl (hK σ hfr (fun k k0 k1 => h k k0 (by omega)))
    · omega
  | succ j ih =>
    intro i σ hi i0 hfr h
    refine wp_iload dc_R_write_154 rfl (wp_aload_n dc_R_write_156 rfl rfl (wi_getE 1 (m) dc_R_write_157 lf_R_58 sh_51 rfl rfl ((hfr 51 1 (by decide)).trans h1) ?_))
    refine wi_ic_ge dc_R_write_160 rfl (fun hd => ?_) (fun hd => ?_)
    · omega
    refine wp_aload_n dc_R_write_163 rfl rfl (wi_getR dc_R_write_164 lf_R_7 sh_51 rfl (wp_iload dc_R_write_167 rfl (wp_aload_n dc_R_write_169 rfl rfl (wi_getR dc_R_write_170 lf_R_55 sh_51 rfl (wp_iload dc_R_write_173 rfl (wi_aldE (σ0 67 i) dc_R_write_175 sh_67 (by omega) (by omega) (by decide) (hfr 67 i (by show ¬ (67 = 52); decide)) (wi_ast dc_R_write_176 sh_52 (by omega) (by omega) (by decide) (wp_ii4 dc_R_write_177 (wp_goto dc_R_write_180 rfl ?_)))))))))
    refine ih (i + 1) _ (by omega) (by omega) (hfr.up rfl) (fun k k0 k1 => ?_)
    by_cases e : k = i
    · rw [e, up_s]
    · rw [up_n _ _ (by omega)]; exact h k k0 (by omega)
theorem lp_R_wr3 {σ0 : sg_} {a w L : Int} (hx : fx_ F n N T mi tc b tab me) (hy0 : ry_ σ0 F n N T mi tc b tab) (a0 : 0 ≤ a) (a1 : a ≤ T 0 mi) (hl : (xs.length : Int) + (T 0 mi - a) + (n - (T 0 mi + T 1 mi)) ≤ 1000)
    (hK : ∀ σ' i, fr_ orW σ0 σ' → or_ σ' (xs ++ sk_ F a (T 0 mi) (T 0 mi + T 1 mi) n) → wp_m l Y_R_write none 0 0 143 [.ref 51, .int (iI a), .int (iI w), .int (iI L), .int (iI i)] [] (hp_ σ') K) :
    ∀ (j : Nat) (i : Int) (σ : sg_), i + j = n → a ≤ i → fr_ orW σ0 σ → or_ σ (xs ++ sk_ F a (T 0 mi) (T 0 mi + T 1 mi) i) → wp_m l Y_R_write none 0 0 79 [.ref 51, .int (iI a), .int (iI w), .int (iI L), .int (iI i)] [] (hp_ σ) K := by
  have m := fx_mi hx
  have htt := hx.2.2.1
  have hn := hx.2.1
  have bm := htt.2.2.1 mi m.1 (by omega)
  unfold bx_ at bm
  intro j
  induction j with
  | zero =>
    intro i σ hi i0 hfr ho
    have hy := ry_or hy0 hfr
    obtain rfl : i = n := by omega
    refine wp_iload dc_R_write_79 rfl (wp_aload_n dc_R_write_81 rfl rfl (wi_getE 1 (i) dc_R_write_82 lf_R_58 sh_51 rfl rfl hy.1.2.2.1 ?_))
    refine wi_ic_ge dc_R_write_85 rfl (fun hd => ?_) (fun hd => ?_)
    · exact hK σ i hfr ho
    · omega
  | succ j ih =>
    intro i σ hi i0 hfr ho
    have hy := ry_or hy0 hfr
    have hrt := hy.2.1.1
    have e0 := hrt.2 0 mi (by decide) m.1 (by omega)
    have e1 := hrt.2 1 mi (by decide) m.1 (by omega)
    have eF := hy.1.2.2.2.1 i (by omega) (by omega)
    have put : sk_ F a (T 0 mi) (T 0 mi + T 1 mi) (i + 1) = sk_ F a (T 0 mi) (T 0 mi + T 1 mi) i ++ [F i] → ((sk_ F a (T 0 mi) (T 0 mi + T 1 mi) i).length : Int) < (T 0 mi - a) + (n - (T 0 mi + T 1 mi)) → wp_m l Y_R_write none 0 0 126 [.ref 51, .int (iI a), .int (iI w), .int (iI L), .int (iI i)] [] (hp_ σ) K := fun es el => by
      refine wp_aload_n dc_R_write_126 rfl rfl (wp_aload_n dc_R_write_127 rfl rfl (wi_getR dc_R_write_128 lf_R_7 sh_51 rfl (wp_iload dc_R_write_131 rfl (wi_aldE (F i) dc_R_write_133 sh_52 (by omega) (by omega) (by decide) eF ?_))))
      refine wp_callV (As := [_]) dc_R_write_134 lm_R_184 ls_R_put (by decide) rfl rfl (hp_at _ sh_51) rfl rfl (Nat.le_of_ble_eq_true rfl) (Nat.le_refl _) (Nat.le_refl _) ?_
      refine c_R_put ho (by rw [List.length_append]; omega) (fun σ1 f1 o1 => ?_)
      refine wp_ii4 dc_R_write_137 (wp_goto dc_R_write_140 rfl ?_)
      refine ih (i + 1) σ1 (by omega) (by omega) (hfr.tr f1) ?_
      rw [es, ← List.append_assoc]
      exact o1
    refine wp_iload dc_R_write_79 rfl (wp_aload_n dc_R_write_81 rfl rfl (wi_getE 1 (n) dc_R_write_82 lf_R_58 sh_51 rfl rfl hy.1.2.2.1 ?_))
    refine wi_ic_ge dc_R_write_85 rfl (fun hd => ?_) (fun hd => ?_)
    · omega
    refine wp_iload dc_R_write_88 rfl (wp_aload_n dc_R_write_90 rfl rfl (wi_getR dc_R_write_91 lf_R_13 sh_51 rfl (wp_aload_n dc_R_write_94 rfl rfl (wi_getE 11 (mi) dc_R_write_95 lf_R_96 sh_51 rfl rfl hy.2.1.2.1 (wi_aldE (T 0 mi) dc_R_write_98 sh_53 (by omega) (by omega) (by decide) e0 ?_)))))
    refine wi_ic_lt dc_R_write_99 rfl (fun he => ?_) (fun he => ?_)
    · have s := sk_1 (F := F) (q := T 0 mi + T 1 mi) i0 he (by omega)
      exact put s.1 (by rw [s.2]; omega)
    refine wp_iload dc_R_write_102 rfl (wp_aload_n dc_R_write_104 rfl rfl (wi_getR dc_R_write_105 lf_R_13 sh_51 rfl (wp_aload_n dc_R_write_108 rfl rfl (wi_getE 11 (mi) dc_R_write_109 lf_R_96 sh_51 rfl rfl hy.2.1.2.1 (wi_aldE (T 0 mi) dc_R_write_112 sh_53 (by omega) (by omega) (by decide) e0 (wp_aload_n dc_R_write_113 rfl rfl (wi_getR dc_R_write_114 lf_R_16 sh_51 rfl (wp_aload_n dc_R_write_117 rfl rfl (wi_getE 11 (mi) dc_R_write_118 lf_R_96 sh_51 rfl rfl hy.2.1.2.1 (wi_aldE (T 1 mi) dc_R_write_121 sh_54 (by omega) (by omega) (by decide) e1 (wi_iadd dc_R_write_122 ?_)))))))))))
    refine wi_ic_lt dc_R_write_123 rfl (fun hf => ?_) (fun hf => ?_)
    · refine wp_ii4 dc_R_write_137 (wp_goto dc_R_write_140 rfl ?_)
      refine ih (i + 1) σ (by omega) (by omega) hfr ?_
      rw [sk_2 (by omega) hf]
      exact ho
    · have s := sk_3 (F := F) (a := a) (p := T 0 mi) (q := T 0 mi + T 1 mi) (i := i) (by omega) (by omega)
      exact put s.1 (by rw [s.2]; omega)
theorem lp_R_wr2 {σ0 : sg_} {a w L : Int} (hx : fx_ F n N T mi tc b tab me) (hy0 : ry_ σ0 F n N T mi tc b tab) (w0 : 0 ≤ w) (w1 : w ≤ 3) (h64 : ∀ k, mi ≤ k → k < me → σ0 64 k = hd_ T k (np_ F T (wk_ tc tab w) mi me k) ∧ σ0 65 k = nl_ F T (wk_ tc tab w) mi me k) (hLw : L = nL_ F T mi tc tab me w) (hL : 0 ≤ L ∧ a + L ≤ 1000) (hw : fp_ F N T mi tc tab me w = w) (a0 : 0 ≤ a)
    (hK : ∀ σ' i, fr_ orW σ0 σ' → or_ σ' (pt_ F 0 a ++ bs2_ F N T mi tc tab me w (me - mi).toNat) → wp_m l Y_R_write none 0 0 76 [.ref 51, .int (iI a), .int (iI w), .int (iI L), .int (iI i)] [] (hp_ σ') K) :
    ∀ (j : Nat) (k : Int) (σ : sg_), k + j = N → 0 ≤ k → fr_ orW σ0 σ → or_ σ (pt_ F 0 a ++ bs2_ F N T mi tc tab me w ((if k < me then k else me) - mi).toNat) → wp_m l Y_R_write none 0 0 34 [.ref 51, .int (iI a), .int (iI w), .int (iI L), .int (iI k)] [] (hp_ σ) K := by
  have m := fx_mi hx
  have htt := hx.2.2.1
  have hbl := bs2_len hx (w := w)
  intro j
  induction j with
  | zero =>
    intro k σ hk k0 hfr ho
    have hy := ry_or hy0 hfr
    obtain rfl : k = N := by omega
    refine wp_iload dc_R_write_34 rfl (wp_aload_n dc_R_write_36 rfl rfl (wi_getE 2 (k) dc_R_write_37 lf_R_64 sh_51 rfl rfl hy.2.1.1.1 ?_))
    refine wi_ic_ge dc_R_write_40 rfl (fun hd => ?_) (fun hd => ?_)
    · rw [if_neg (by omega)] at ho
      exact hK σ k hfr ho
    · omega
  | succ j ih =>
    intro k σ hk k0 hfr ho
    have hy := ry_or hy0 hfr
    have hrt := hy.2.1.1
    have bx := htt.2.2.1 k k0 (by omega)
    unfold bx_ at bx
    have hlv := fx_lv hx k0 (show k < N by omega)
    have K62 : mi ≤ k → k < me → wp_m l Y_R_write none 0 0 62 [.ref 51, .int (iI a), .int (iI w), .int (iI L), .int (iI k)] [] (hp_ σ) K := fun km kme => by
      rw [if_pos kme] at ho
      have es : ((if k + 1 < me then k + 1 else me) - mi).toNat = (k - mi).toNat + 1 := by split <;> omega
      have le : (bs2_ F N T mi tc tab me w ((k - mi).toNat + 1)).length ≤ (bs2_ F N T mi tc tab me w (me - mi).toNat).length := ps_le _ (by omega)
      have ek : mi + ((k - mi).toNat : Int) = k := by omega
      have ls0 : bs2_ F N T mi tc tab me w ((k - mi).toNat + 1) = bs2_ F N T mi tc tab me w (k - mi).toNat ++ bb_ F N T mi tc tab me w (mi + ((k - mi).toNat : Int)) := rfl
      rw [ek] at ls0
      have ls : (bs2_ F N T mi tc tab me w ((k - mi).toNat + 1)).length = (bs2_ F N T mi tc tab me w (k - mi).toNat).length + (bb_ F N T mi tc tab me w k).length := by rw [ls0, List.length_append]
      have la : (pt_ F 0 a ++ bs2_ F N T mi tc tab me w (k - mi).toNat).length = (a - 0).toNat + (bs2_ F N T mi tc tab me w (k - mi).toNat).length := by rw [List.length_append, pt_len]
      have hh := h64 k km kme
      refine wp_aload_n dc_R_write_62 rfl rfl (wp_iload dc_R_write_63 rfl (wp_iload_n dc_R_write_65 rfl rfl (wp_iload_n dc_R_write_66 rfl rfl ?_)))
      refine wp_callV (As := [_, _, _]) dc_R_write_67 lm_R_188 ls_R_writeBox (by decide) rfl rfl (hp_at _ sh_51) rfl rfl (Nat.le_of_ble_eq_true rfl) (Nat.le_refl _) (Nat.le_refl _) ?_
      refine c_R_writeBox hx hy w0 w1 ((hfr 64 k (by unfold orW; omega)).trans hh.1) ((hfr 65 k (by unfold orW; omega)).trans hh.2) hLw (by omega) hw km kme ho (by omega) (fun σ1 f1 o1 => ?_)
      refine wp_ii4 dc_R_write_70 (wp_goto dc_R_write_73 rfl ?_)
      refine ih (k + 1) σ1 (by omega) (by omega) (hfr.tr f1) ?_
      rw [es, ls0, ← List.append_assoc]
      exact o1
    have K70 : ¬ (mi ≤ k ∧ k < me) → wp_m l Y_R_write none 0 0 70 [.ref 51, .int (iI a), .int (iI w), .int (iI L), .int (iI k)] [] (hp_ σ) K := fun km => by
      refine wp_ii4 dc_R_write_70 (wp_goto dc_R_write_73 rfl ?_)
      refine ih (k + 1) σ (by omega) (by omega) hfr ?_
      have es : ((if k + 1 < me then k + 1 else me) - mi).toNat = ((if k < me then k else me) - mi).toNat := by
        split <;> split <;> omega
      rw [es]
      exact ho
    refine wp_iload dc_R_write_34 rfl (wp_aload_n dc_R_write_36 rfl rfl (wi_getE 2 (N) dc_R_write_37 lf_R_64 sh_51 rfl rfl hy.2.1.1.1 ?_))
    refine wi_ic_ge dc_R_write_40 rfl (fun hd => ?_) (fun hd => ?_)
    · omega
    refine wp_iload dc_R_write_43 rfl (wp_aload_n dc_R_write_45 rfl rfl (wi_getE 11 (mi) dc_R_write_46 lf_R_96 sh_51 rfl rfl hy.2.1.2.1 ?_))
    refine wi_ic_eq dc_R_write_49 rfl (fun he => ?_) (fun he => ?_)
    · exact K62 (by omega) (by omega)
    refine wp_aload_n dc_R_write_52 rfl rfl (wi_getR dc_R_write_53 lf_R_25 sh_51 rfl (wp_iload dc_R_write_56 rfl (wi_aldE (T 4 k) dc_R_write_58 sh_57 (by omega) (by omega) (by decide) (hrt.2 4 k (by decide) k0 (by omega)) ?_)))
    refine wi_if_le dc_R_write_59 rfl (fun hf => ?_) (fun hf => ?_)
    · exact K70 (by omega)
    · exact K62 (by omega) (by omega)
theorem lp_R_wr1 {σ0 : sg_} {a w L : Int} (hx : fx_ F n N T mi tc b tab me) (hy0 : ry_ σ0 F n N T mi tc b tab) (a0 : 0 ≤ a) (a1 : a ≤ n)
    (hK : ∀ σ' i, fr_ orW σ0 σ' → or_ σ' (pt_ F 0 a) → wp_m l Y_R_write none 0 0 31 [.ref 51, .int (iI a), .int (iI w), .int (iI L), .int (iI i)] [] (hp_ σ') K) :
    ∀ (j : Nat) (i : Int) (σ : sg_), i + j = a → 0 ≤ i → fr_ orW σ0 σ → or_ σ (pt_ F 0 i) → wp_m l Y_R_write none 0 0 8 [.ref 51, .int (iI a), .int (iI w), .int (iI L), .int (iI i)] [] (hp_ σ) K := by
  have hn := hx.2.1
  intro j
  induction j with
  | zero =>
    intro i σ hi i0 hfr ho
    obtain rfl : i = a := by omega
    refine wp_iload dc_R_write_8 rfl (wp_iload_n dc_R_write_10 rfl rfl ?_)
    refine wi_ic_ge dc_R_write_11 rfl (fun hd => ?_) (fun hd => ?_)
    · exact hK σ i hfr ho
    · omega
  | succ j ih =>
    intro i σ hi i0 hfr ho
    have hy := ry_or hy0 hfr
    refine wp_iload dc_R_write_8 rfl (wp_iload_n dc_R_write_10 rfl rfl ?_)
    refine wi_ic_ge dc_R_write_11 rfl (fun hd => ?_) (fun hd => ?_)
    · omega
    refine wp_aload_n dc_R_write_14 rfl rfl (wp_aload_n dc_R_write_15 rfl rfl (wi_getR dc_R_write_16 lf_R_7 sh_51 rfl (wp_iload dc_R_write_19 rfl (wi_aldE (F i) dc_R_write_21 sh_52 (by omega) (by omega) (by decide) (hy.1.2.2.2.1 i (by omega) (by omega)) ?_))))
    refine wp_callV (As := [_]) dc_R_write_22 lm_R_184 ls_R_put (by decide) rfl rfl (hp_at _ sh_51) rfl rfl (Nat.le_of_ble_eq_true rfl) (Nat.le_refl _) (Nat.le_refl _) ?_
    refine c_R_put ho (by rw [pt_len]; omega) (fun σ1 f1 o1 => ?_)
    refine wp_ii4 dc_R_write_25 (wp_goto dc_R_write_28 rfl ?_)
    refine ih (i + 1) σ1 (by omega) (by omega) (hfr.tr f1) ?_
    rw [pt_S F i0]
    exact o1
theorem c_R_write {a w L : Int} (hx : fx_ F n N T mi tc b tab me) (hy : ry_ σ F n N T mi tc b tab) (w0 : 0 ≤ w) (w1 : w ≤ 3) (h64 : ∀ k, mi ≤ k → k < me → σ 64 k = hd_ T k (np_ F T (wk_ tc tab w) mi me k) ∧ σ 65 k = nl_ F T (wk_ tc tab w) mi me k) (hLw : L = nL_ F T mi tc tab me w) (hL : 0 ≤ L ∧ n - T 1 mi + L ≤ 1000) (hw : fp_ F N T mi tc tab me w = w) (a0 : 0 ≤ a) (a1 : a ≤ T 0 mi)
    (hK : ∀ σ', fr_ wrW σ σ' → σ' 51 1 = ((rl_ F n N T mi tc tab me w a).length : Int) → gs_ (rl_ F n N T mi tc tab me w a) (σ' 52) → K none (hp_ σ')) : ct_m l Y_R_write 0 0 [.ref 51, .int (iI a), .int (iI w), .int (iI L)] (hp_ σ) K := by
  have m := fx_mi hx
  have htt := hx.2.2.1
  have hn := hx.2.1
  have bm := htt.2.2.1 mi m.1 (by omega)
  unfold bx_ at bm
  have hbl := bs2_len hx (w := w)
  have hrl := rl_len hx (w := w) a0 a1
  refine ct_of (L := [.ref 51, .int (iI a), .int (iI w), .int (iI L), .retAddr 0]) (by decide +kernel) (Nat.le_of_ble_eq_true rfl) rfl ?_
  refine wp_aload_n dc_R_write_0 rfl rfl (wi_iconst dc_R_write_1 (wi_putI 20 dc_R_write_2 lf_R_181 sh_51 rfl rfl pv_int (wi_iconst dc_R_write_5 (wp_is4 dc_R_write_6 ?_))))
  have fA : fr_ orW σ (up_ σ 51 20 0) := fr_.rf.up (Or.inl ⟨rfl, rfl⟩)
  refine lp_R_wr1 (σ0 := up_ σ 51 20 0) hx (ry_or hy fA) a0 (by omega) (fun σ1 i1 f1 o1 => ?_) a.toNat 0 _ (by omega) (by omega) fr_.rf ?_
  rotate_left
  · rw [pt_0]
    exact ⟨up_s _ _ _ _, gs_nil _⟩
  have fB := fA.tr f1
  refine wi_iconst dc_R_write_31 (wp_is4 dc_R_write_32 ?_)
  refine lp_R_wr2 (σ0 := σ1) hx (ry_or hy fB) w0 w1 (fun k k0 k1 => by rw [fB 64 k (by unfold orW; omega), fB 65 k (by unfold orW; omega)]; exact h64 k k0 k1) hLw (by omega) hw a0 (fun σ2 i2 f2 o2 => ?_) N.toNat 0 _ (by omega) (by omega) fr_.rf ?_
  rotate_left
  · rw [if_pos (by omega), show (0 - mi).toNat = 0 by omega]
    show or_ σ1 (pt_ F 0 a ++ [])
    rw [List.append_nil]
    exact o1
  have fC := fB.tr f2
  refine wp_iload_n dc_R_write_76 rfl rfl (wp_is4 dc_R_write_77 ?_)
  refine lp_R_wr3 (σ0 := σ2) (xs := pt_ F 0 a ++ bs2_ F N T mi tc tab me w (me - mi).toNat) hx (ry_or hy fC) a0 a1 (by rw [List.length_append, pt_len]; omega) (fun σ3 i3 f3 o3 => ?_) (n - a).toNat a _ (by omega) (by omega) fr_.rf ?_
  rotate_left
  · rw [sk_a a1 (by omega), List.append_nil]
    exact o2
  have fD := fC.tr f3
  have o3' : or_ σ3 (rl_ F n N T mi tc tab me w a) := by
    rw [sk_n (by omega) (by omega), ← List.append_assoc] at o3
    exact o3
  clear o3 o2 o1
  refine wp_aload_n dc_R_write_143 rfl rfl (wp_aload_n dc_R_write_144 rfl rfl (wi_getE 20 (((rl_ F n N T mi tc tab me w a).length : Int)) dc_R_write_145 lf_R_181 sh_51 rfl rfl o3'.1 (wi_putI 1 dc_R_write_148 lf_R_58 sh_51 rfl rfl pv_int (wi_iconst dc_R_write_151 (wp_is4 dc_R_write_152 ?_)))))
  refine lp_R_wr4 (σ0 := up_ σ3 51 1 ((rl_ F n N T mi tc tab me w a).length : Int)) (m := ((rl_ F n N T mi tc tab me w a).length : Int)) (up_s _ _ _ _) (by omega) (fun σ4 f4 h4 => ?_) (rl_ F n N T mi tc tab me w a).length 0 _ (by omega) (by omega) fr_.rf (fun k k0 k1 => by omega)
  refine hK σ4 (fun b j hb => ?_) ((f4 51 1 (by decide)).trans (up_s _ _ _ _)) (gs_congr o3'.2 (fun i hi => ?_))
  · unfold wrW at hb
    rw [f4 b j (by omega), up_n _ _ (by omega), fD b j (by unfold orW; omega)]
  · rw [h4 i (by omega) (by omega), up_n _ _ (by omega)]
end FT
