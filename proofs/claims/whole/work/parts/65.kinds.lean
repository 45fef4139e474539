/-! which boxes are which: what must be of each kind -/
def tq_ (q : Int) : Int := if q = 0 then 115 else if q = 1 then 99 else if q = 2 then 107 else if q = 3 then 122 else if q = 4 then 111 else if q = 5 then 79 else if q = 6 then 121 else 101
def TB_ (T : px_T) (b q j : Int) : Prop := T 4 j = 2 ∧ T 2 j = tq_ q ∧ T 5 j = b
/-- the kinds hold: the movie mi, tc tracks b 0, b 1, their tables tab t q (-1: none) -/
def KS_ (N : Int) (T : px_T) (mi tc : Int) (b : Int → Int) (tab : Int → Int → Int) : Prop :=
  (0 ≤ mi ∧ mi < N ∧ MV_ T mi ∧ ∀ j, 0 ≤ j → j < N → MV_ T j → j = mi) ∧
  ((tc = 1 ∨ tc = 2) ∧ (∀ t, 0 ≤ t → t < tc → 0 ≤ b t ∧ b t < N ∧ TK_ T (b t)) ∧ (tc = 2 → b 0 < b 1) ∧ ∀ j, 0 ≤ j → j < N → TK_ T j → ∃ t, 0 ≤ t ∧ t < tc ∧ j = b t) ∧
  (∀ t q, 0 ≤ t → t < tc → 0 ≤ q → q < 8 → (tab t q = -1 ∧ ∀ j, 0 ≤ j → j < N → ¬ TB_ T (b t) q j) ∨ (0 ≤ tab t q ∧ tab t q < N ∧ TB_ T (b t) q (tab t q) ∧ ∀ j, 0 ≤ j → j < N → TB_ T (b t) q j → j = tab t q)) ∧
  ∀ t, 0 ≤ t → t < tc → 0 ≤ tab t 0 ∧ 0 ≤ tab t 2 ∧ 0 ≤ tab t 3 ∧ ((0 ≤ tab t 4 ∧ tab t 5 = -1) ∨ (tab t 4 = -1 ∧ 0 ≤ tab t 5))
def KO_ (N : Int) (T : px_T) : Prop := ∃ mi tc b tab, KS_ N T mi tc b tab
theorem tq_cases {q : Int} (h0 : 0 ≤ q) (h1 : q < 8) : (q = 0 ∧ tq_ q = 115) ∨ (q = 1 ∧ tq_ q = 99) ∨ (q = 2 ∧ tq_ q = 107) ∨ (q = 3 ∧ tq_ q = 122) ∨ (q = 4 ∧ tq_ q = 111) ∨ (q = 5 ∧ tq_ q = 79) ∨ (q = 6 ∧ tq_ q = 121) ∨ (q = 7 ∧ tq_ q = 101) := by
  have h : q = 0 ∨ q = 1 ∨ q = 2 ∨ q = 3 ∨ q = 4 ∨ q = 5 ∨ q = 6 ∨ q = 7 := by omega
  rcases h with rfl | rfl | rfl | rfl | rfl | rfl | rfl | rfl <;> simp [tq_]
theorem tq_inj {q q' : Int} (h0 : 0 ≤ q) (h1 : q < 8) (h2 : 0 ≤ q') (h3 : q' < 8) (h : tq_ q = tq_ q') : q = q' := by
  have a := tq_cases h0 h1
  have b := tq_cases h2 h3
  omega
/-- the kind of a type, as the reference counts them -/
def kq_ (t : Int) : Int := if t = 115 then 0 else if t = 99 then 1 else if t = 107 then 2 else if t = 122 then 3 else if t = 111 then 4 else if t = 79 then 5 else if t = 121 then 6 else if t = 101 then 7 else -1
theorem kq_spec (t : Int) : (kq_ t = -1 ∧ ∀ q, 0 ≤ q → q < 8 → t ≠ tq_ q) ∨ (0 ≤ kq_ t ∧ kq_ t < 8 ∧ t = tq_ (kq_ t)) := by
  by_cases h : t = 115 ∨ t = 99 ∨ t = 107 ∨ t = 122 ∨ t = 111 ∨ t = 79 ∨ t = 121 ∨ t = 101
  · right
    rcases h with rfl | rfl | rfl | rfl | rfl | rfl | rfl | rfl <;> simp [kq_, tq_]
  · left
    refine ⟨?_, fun q h0 h1 => ?_⟩
    · unfold kq_
      rw [if_neg (by omega), if_neg (by omega), if_neg (by omega), if_neg (by omega), if_neg (by omega), if_neg (by omega), if_neg (by omega), if_neg (by omega)]
    · have := tq_cases h0 h1
      omega
section KR
variable {l : Launch} {σ : sg_} {K : Option Value → mx_H → Prop} {n N k : Int} {T : px_T}
theorem c_R_kindOf {t : Int} {h : mx_H} (ht : rg t) (hK : K (some (.int (iI (kq_ t)))) h) : ct_m l Y_R_kindOf 0 0 [.int (iI t)] h K := by
  refine ct_of (L := [.int (iI t)]) (by decide +kernel) (Nat.le_of_ble_eq_true rfl) rfl ?_
  refine wp_iload_n dc_R_kindOf_0 rfl rfl ?_
  by_cases hc : t = 115 ∨ t = 99 ∨ t = 107 ∨ t = 122 ∨ t = 111 ∨ t = 79 ∨ t = 121 ∨ t = 101
  · rcases hc with rfl | rfl | rfl | rfl | rfl | rfl | rfl | rfl
    · exact wp_lookup dc_R_kindOf_1 (off := 75) (t := 76) rfl (by rw [iI_t ht]; rfl) rfl (wi_iconst dc_R_kindOf_76 (wp_ireturn dc_R_kindOf_77 rfl rfl hK))
    · exact wp_lookup dc_R_kindOf_1 (off := 77) (t := 78) rfl (by rw [iI_t ht]; rfl) rfl (wi_iconst dc_R_kindOf_78 (wp_ireturn dc_R_kindOf_79 rfl rfl hK))
    · exact wp_lookup dc_R_kindOf_1 (off := 79) (t := 80) rfl (by rw [iI_t ht]; rfl) rfl (wi_iconst dc_R_kindOf_80 (wp_ireturn dc_R_kindOf_81 rfl rfl hK))
    · exact wp_lookup dc_R_kindOf_1 (off := 81) (t := 82) rfl (by rw [iI_t ht]; rfl) rfl (wi_iconst dc_R_kindOf_82 (wp_ireturn dc_R_kindOf_83 rfl rfl hK))
    · exact wp_lookup dc_R_kindOf_1 (off := 83) (t := 84) rfl (by rw [iI_t ht]; rfl) rfl (wi_iconst dc_R_kindOf_84 (wp_ireturn dc_R_kindOf_85 rfl rfl hK))
    · exact wp_lookup dc_R_kindOf_1 (off := 85) (t := 86) rfl (by rw [iI_t ht]; rfl) rfl (wi_iconst dc_R_kindOf_86 (wp_ireturn dc_R_kindOf_87 rfl rfl hK))
    · exact wp_lookup dc_R_kindOf_1 (off := 87) (t := 88) rfl (by rw [iI_t ht]; rfl) rfl (wi_bipush dc_R_kindOf_88 (wp_ireturn dc_R_kindOf_90 rfl rfl hK))
    · exact wp_lookup dc_R_kindOf_1 (off := 90) (t := 91) rfl (by rw [iI_t ht]; rfl) rfl (wi_bipush dc_R_kindOf_91 (wp_ireturn dc_R_kindOf_93 rfl rfl hK))
  · have e : kq_ t = -1 := by
      rcases kq_spec t with h | ⟨h1, h2, h3⟩
      · exact h.1
      · have := tq_cases h1 h2
        omega
    rw [e] at hK
    refine wp_lookup dc_R_kindOf_1 (off := 93) (t := 94) rfl ?_ rfl (wi_iconst dc_R_kindOf_94 (wp_ireturn dc_R_kindOf_95 rfl rfl hK))
    rw [iI_t ht]
    simp only [Op.lookupswitch.offset_cons]
    rw [if_neg (by omega), if_neg (by omega), if_neg (by omega), if_neg (by omega), if_neg (by omega), if_neg (by omega), if_neg (by omega), if_neg (by omega)]
    rfl
def kwW (b : Nat) (j : Int) : Prop := (b = 51 ∧ (j = 11 ∨ j = 12)) ∨ b = 61 ∨ b = 62
/-- movies up to k: mv of them, the last at m -/
def km_ (T : px_T) (k mv m : Int) : Prop := 0 ≤ mv ∧ mv ≤ k ∧ ((mv = 0 ∧ ∀ j, 0 ≤ j → j < k → ¬ MV_ T j) ∨ (mv = 1 ∧ 0 ≤ m ∧ m < k ∧ MV_ T m ∧ ∀ j, 0 ≤ j → j < k → MV_ T j → j = m) ∨ (2 ≤ mv ∧ ∃ a b, 0 ≤ a ∧ a < b ∧ b < k ∧ MV_ T a ∧ MV_ T b))
/-- tracks up to k: tc of them, at b 0 and b 1 -/
def kt2_ (T : px_T) (k tc : Int) (b : Int → Int) : Prop := 0 ≤ tc ∧ tc ≤ k ∧ ((tc = 0 ∧ ∀ j, 0 ≤ j → j < k → ¬ TK_ T j) ∨ (tc = 1 ∧ 0 ≤ b 0 ∧ b 0 < k ∧ TK_ T (b 0) ∧ ∀ j, 0 ≤ j → j < k → TK_ T j → j = b 0) ∨ (tc = 2 ∧ 0 ≤ b 0 ∧ b 0 < b 1 ∧ b 1 < k ∧ TK_ T (b 0) ∧ TK_ T (b 1) ∧ ∀ j, 0 ≤ j → j < k → TK_ T j → j = b 0 ∨ j = b 1) ∨ (3 ≤ tc ∧ ∃ x y z, 0 ≤ x ∧ x < y ∧ y < z ∧ z < k ∧ TK_ T x ∧ TK_ T y ∧ TK_ T z))
/-- tables up to k -/
def kb_ (T : px_T) (k tc wr : Int) (b tab : Int → Int) : Prop := tc ≤ 2 → (∀ t q, 0 ≤ t → t < 2 → 0 ≤ q → q < 8 → (tab (8 * t + q) = -1 ∧ (t < tc → ∀ j, 0 ≤ j → j < k → ¬ TB_ T (b t) q j)) ∨ (t < tc ∧ 0 ≤ tab (8 * t + q) ∧ tab (8 * t + q) < k ∧ TB_ T (b t) q (tab (8 * t + q)) ∧ (wr = 0 → ∀ j, 0 ≤ j → j < k → TB_ T (b t) q j → j = tab (8 * t + q)))) ∧ (wr = 1 → ∃ t q x y, 0 ≤ t ∧ t < tc ∧ 0 ≤ q ∧ q < 8 ∧ 0 ≤ x ∧ x < y ∧ y < k ∧ TB_ T (b t) q x ∧ TB_ T (b t) q y)
theorem km_S {mv m : Int} (hk : 0 ≤ k) (h : km_ T k mv m) (hm : MV_ T k) : km_ T (k + 1) (mv + 1) k := by
  obtain ⟨h1, h2, h3⟩ := h
  refine ⟨by omega, by omega, ?_⟩
  rcases h3 with ⟨a1, a2⟩ | ⟨a1, a2, a3, a4, a5⟩ | ⟨a1, a, b, a2, a3, a4, a5, a6⟩
  · exact Or.inr (Or.inl ⟨by omega, hk, by omega, hm, fun j j0 j1 j2 => by
      by_cases hj : j = k
      · exact hj
      · exact absurd j2 (a2 j j0 (by omega))⟩)
  · exact Or.inr (Or.inr ⟨by omega, m, k, a2, a3, by omega, a4, hm⟩)
  · exact Or.inr (Or.inr ⟨by omega, a, b, a2, a3, by omega, a5, a6⟩)
theorem km_N {mv m : Int} (h : km_ T k mv m) (hm : ¬ MV_ T k) : km_ T (k + 1) mv m := by
  obtain ⟨h1, h2, h3⟩ := h
  refine ⟨by omega, by omega, ?_⟩
  rcases h3 with ⟨a1, a2⟩ | ⟨a1, a2, a3, a4, a5⟩ | ⟨a1, a, b, a2, a3, a4, a5, a6⟩
  · exact Or.inl ⟨a1, fun j j0 j1 => by
      by_cases hj : j = k
      · subst hj; exact hm
      · exact a2 j j0 (by omega)⟩
  · exact Or.inr (Or.inl ⟨a1, a2, by omega, a4, fun j j0 j1 j2 => by
      by_cases hj : j = k
      · subst hj; exact absurd j2 hm
      · exact a5 j j0 (by omega) j2⟩)
  · exact Or.inr (Or.inr ⟨a1, a, b, a2, a3, by omega, a5, a6⟩)
theorem kt2_S {tc : Int} {b : Int → Int} (hk : 0 ≤ k) (h : kt2_ T k tc b) (hm : TK_ T k) : kt2_ T (k + 1) (tc + 1) (fun t => if t = tc then k else b t) := by
  obtain ⟨h1, h2, h3⟩ := h
  refine ⟨by omega, by omega, ?_⟩
  rcases h3 with ⟨a1, a2⟩ | ⟨a1, a2, a3, a4, a5⟩ | ⟨a1, a2, a3, a4, a5, a6, a7⟩ | ⟨a1, x, y, z, a2, a3, a4, a5, a6, a7, a8⟩
  · refine Or.inr (Or.inl ⟨by omega, ?_⟩)
    dsimp only
    rw [if_pos a1.symm]
    exact ⟨hk, by omega, hm, fun j j0 j1 j2 => by
      by_cases hj : j = k
      · exact hj
      · exact absurd j2 (a2 j j0 (by omega))⟩
  · refine Or.inr (Or.inr (Or.inl ⟨by omega, ?_⟩))
    dsimp only
    rw [if_neg (by omega), if_pos a1.symm]
    exact ⟨a2, a3, by omega, a4, hm, fun j j0 j1 j2 => by
      by_cases hj : j = k
      · exact Or.inr hj
      · exact Or.inl (a5 j j0 (by omega) j2)⟩
  · exact Or.inr (Or.inr (Or.inr ⟨by omega, b 0, b 1, k, a2, a3, a4, by omega, a5, a6, hm⟩))
  · exact Or.inr (Or.inr (Or.inr ⟨by omega, x, y, z, a2, a3, a4, by omega, a6, a7, a8⟩))
theorem kt2_N {tc : Int} {b : Int → Int} (h : kt2_ T k tc b) (hm : ¬ TK_ T k) : kt2_ T (k + 1) tc b := by
  obtain ⟨h1, h2, h3⟩ := h
  refine ⟨by omega, by omega, ?_⟩
  have key : ∀ j, j < k + 1 → TK_ T j → j < k := fun j j1 j2 => by
    by_cases hj : j = k
    · subst hj; exact absurd j2 hm
    · omega
  rcases h3 with ⟨a1, a2⟩ | ⟨a1, a2, a3, a4, a5⟩ | ⟨a1, a2, a3, a4, a5, a6, a7⟩ | ⟨a1, x, y, z, a2, a3, a4, a5, a6, a7, a8⟩
  · exact Or.inl ⟨a1, fun j j0 j1 j2 => a2 j j0 (key j j1 j2) j2⟩
  · exact Or.inr (Or.inl ⟨a1, a2, by omega, a4, fun j j0 j1 j2 => a5 j j0 (key j j1 j2) j2⟩)
  · exact Or.inr (Or.inr (Or.inl ⟨a1, a2, a3, by omega, a5, a6, fun j j0 j1 j2 => a7 j j0 (key j j1 j2) j2⟩))
  · exact Or.inr (Or.inr (Or.inr ⟨a1, x, y, z, a2, a3, a4, by omega, a6, a7, a8⟩))
end KR
