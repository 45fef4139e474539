/-! how the boxes of a reading lie: holders, levels, places -/
def MV_ (T : px_T) (j : Int) : Prop := T 4 j = 0 ∧ T 2 j = 77
def TK_ (T : px_T) (j : Int) : Prop := T 4 j = 1 ∧ T 2 j = 84
def l1_ (T : px_T) (j o : Int) : Prop := 0 ≤ o ∧ o < j ∧ MV_ T o ∧ ∀ i, o < i → i < j → 1 ≤ T 4 i
def l2_ (T : px_T) (j o : Int) : Prop := 0 ≤ o ∧ o < j ∧ TK_ T o ∧ ∀ i, o < i → i < j → T 4 i = 2
def sx_ (T : px_T) (j : Int) : Prop := (T 4 j = 0 → T 5 j = -1) ∧ (T 4 j = 1 → l1_ T j (T 5 j)) ∧ (T 4 j = 2 → l2_ T j (T 5 j))
def si_ (k p : Int) (v : Nat) (E O : Nat → Int) (T : px_T) : Prop := (1 ≤ v → l1_ T k (O 1)) ∧ (2 ≤ v → l2_ T k (O 2)) ∧ (∀ j, 0 ≤ j → j < k → sx_ T j) ∧ (∀ i, 0 ≤ i → i < k → T 4 i = 0 → T 0 i + T 1 i ≤ (if v = 0 then p else E 1)) ∧ (∀ i j, 0 ≤ i → i < j → j < k → T 4 i = 0 → T 4 j = 0 → T 0 i + T 1 i ≤ T 0 j)
theorem l1_put {T : px_T} {k a s t h v o j x : Int} (hj : j ≤ k) : l1_ (px_put T k a s t h v o) j x ↔ l1_ T j x := by
  unfold l1_ MV_
  constructor
  · rintro ⟨h1, h2, h3, h4⟩
    rw [put_ne T (by omega), put_ne T (by omega)] at h3
    exact ⟨h1, h2, h3, fun i i0 i1 => by have := h4 i i0 i1; rwa [put_ne T (by omega)] at this⟩
  · rintro ⟨h1, h2, h3, h4⟩
    rw [put_ne T (by omega), put_ne T (by omega)]
    exact ⟨h1, h2, h3, fun i i0 i1 => by rw [put_ne T (by omega)]; exact h4 i i0 i1⟩
theorem l2_put {T : px_T} {k a s t h v o j x : Int} (hj : j ≤ k) : l2_ (px_put T k a s t h v o) j x ↔ l2_ T j x := by
  unfold l2_ TK_
  constructor
  · rintro ⟨h1, h2, h3, h4⟩
    rw [put_ne T (by omega), put_ne T (by omega)] at h3
    exact ⟨h1, h2, h3, fun i i0 i1 => by have := h4 i i0 i1; rwa [put_ne T (by omega)] at this⟩
  · rintro ⟨h1, h2, h3, h4⟩
    rw [put_ne T (by omega), put_ne T (by omega)]
    exact ⟨h1, h2, h3, fun i i0 i1 => by rw [put_ne T (by omega)]; exact h4 i i0 i1⟩
theorem sx_put {T : px_T} {k a s t h v o j : Int} (hj : j < k) : sx_ (px_put T k a s t h v o) j ↔ sx_ T j := by
  unfold sx_
  rw [put_ne T (by omega), put_ne T (by omega), l1_put (by omega), l2_put (by omega)]
theorem si_pop {n k p : Int} {v : Nat} {E O : Nat → Int} {T : px_T} (hg : gi_ n k p v E O T) (h : si_ k p v E O T) : si_ k p (px_pop p E v) E O T := by
  obtain ⟨h1, h2, h3, h4, h5⟩ := h
  have hle := px_pop_le p E v
  refine ⟨fun q => h1 (by omega), fun q => h2 (by omega), h3, fun i i0 i1 i2 => ?_, h5⟩
  have h6 := h4 i i0 i1 i2
  obtain ⟨-, g2, -, g4, -⟩ := hg
  match v, g2, hle with
  | 0, _, _ => exact h6
  | 1, _, _ =>
    rw [if_neg (by decide)] at h6
    unfold px_pop
    by_cases hp : p = E (0 + 1)
    · rw [if_pos hp]
      show _ ≤ p
      rw [hp]
      exact h6
    · rw [if_neg hp]
      exact h6
  | 2, _, _ =>
    rw [if_neg (by decide)] at h6
    unfold px_pop
    by_cases hp : p = E (1 + 1)
    · rw [if_pos hp]
      unfold px_pop
      by_cases hp2 : p = E (0 + 1)
      · rw [if_pos hp2]
        show _ ≤ p
        rw [hp2]
        exact h6
      · rw [if_neg hp2]
        exact h6
    · rw [if_neg hp]
      exact h6
theorem si_put {F : Int → Int} {n k p : Int} {v : Nat} {E O : Nat → Int} {T : px_T} {s h : Int} (hg : gi_ n k p v E O T) (hs : si_ k p v E O T) (ho : px_one F p (E v - p) v = some (s, h)) : si_ (k + 1) (p + s) v E O (px_put T k p s (F (p + 1)) h v (O v)) := by
  obtain ⟨h1, h2, h3, h4, h5⟩ := hs
  obtain ⟨g1, g2, g3, g4, g5, g6, g7, g8, g9⟩ := id hg
  obtain ⟨o1, o2, o3, o4, o5, o6, o7, o8⟩ := one_spec ho
  have e4 : px_put T k p s (F (p + 1)) h v (O v) 4 k = v := put_4 T
  have e5 : px_put T k p s (F (p + 1)) h v (O v) 5 k = O v := put_5 T
  refine ⟨fun q => ?_, fun q => ?_, fun j j0 j1 => ?_, fun i i0 i1 i2 => ?_, fun i j i0 i1 i2 i3 i4 => ?_⟩
  · obtain ⟨a1, a2, a3, a4⟩ := (l1_put (Int.le_refl k)).mpr (h1 q)
    exact ⟨a1, by omega, a3, fun i i0 i1 => by
      by_cases hi : i = k
      · subst hi; rw [e4]; omega
      · exact a4 i i0 (by omega)⟩
  · obtain ⟨a1, a2, a3, a4⟩ := (l2_put (Int.le_refl k)).mpr (h2 q)
    exact ⟨a1, by omega, a3, fun i i0 i1 => by
      by_cases hi : i = k
      · subst hi; rw [e4]; omega
      · exact a4 i i0 (by omega)⟩
  · by_cases hj : j = k
    · subst hj
      refine ⟨fun q => ?_, fun q => ?_, fun q => ?_⟩
      · rw [e4] at q
        have hv : v = 0 := by omega
        subst hv
        rw [e5]; exact g6
      · rw [e4] at q
        have hv : v = 1 := by omega
        subst hv
        rw [e5]
        exact (l1_put (Int.le_refl _)).mpr (h1 (by omega))
      · rw [e4] at q
        have hv : v = 2 := by omega
        subst hv
        rw [e5]
        exact (l2_put (Int.le_refl _)).mpr (h2 (by omega))
    · exact (sx_put (by omega)).mpr (h3 j j0 (by omega))
  · by_cases hi : i = k
    · subst hi
      rw [e4] at i2
      have hv : v = 0 := by omega
      subst hv
      rw [put_0, put_1, if_pos rfl]
      omega
    · rw [put_ne T hi] at i2
      rw [put_ne T hi, put_ne T hi]
      have h6 := h4 i i0 (by omega) i2
      by_cases hv : v = 0
      · rw [if_pos hv] at h6 ⊢
        omega
      · rw [if_neg hv] at h6 ⊢
        exact h6
  · rw [put_ne T (show i ≠ k by omega)] at i3
    by_cases hj : j = k
    · subst hj
      rw [e4] at i4
      have hv : v = 0 := by omega
      subst hv
      rw [put_0, put_ne T (by omega), put_ne T (by omega)]
      have h6 := h4 i i0 (by omega) i3
      rw [if_pos rfl] at h6
      exact h6
    · rw [put_ne T hj] at i4 ⊢
      rw [put_ne T (by omega), put_ne T (by omega)]
      exact h5 i j i0 i1 (by omega) i3 i4
theorem si_hold {F : Int → Int} {n k p : Int} {v : Nat} {E O : Nat → Int} {T : px_T} {s h : Int} (hg : gi_ n k p v E O T) (hs : si_ k p v E O T) (ho : px_one F p (E v - p) v = some (s, h)) (hh : px_hold v (F (p + 1))) : si_ (k + 1) (p + h) (v + 1) (px_upN E (v + 1) (p + s)) (px_upN O (v + 1) k) (px_put T k p s (F (p + 1)) h v (O v)) := by
  obtain ⟨b1, b2, b3, b4, b5⟩ := si_put hg hs ho
  obtain ⟨o1, o2, o3, o4, o5, o6, o7, o8⟩ := one_spec ho
  have g1 := hg.1
  have e4 : px_put T k p s (F (p + 1)) h v (O v) 4 k = v := put_4 T
  have e2 : px_put T k p s (F (p + 1)) h v (O v) 2 k = F (p + 1) := put_2 T
  rcases hh with ⟨hv, ht⟩ | ⟨hv, ht⟩
  · subst hv
    refine ⟨fun _ => ?_, fun q => by omega, b3, fun i i0 i1 i2 => ?_, b5⟩
    · rw [upN_s]
      exact ⟨g1, by omega, ⟨e4, by rw [e2]; exact ht⟩, fun i i0 i1 => by omega⟩
    · rw [if_neg (by omega), upN_s]
      have h6 := b4 i i0 i1 i2
      rw [if_pos rfl] at h6
      exact h6
  · subst hv
    refine ⟨fun _ => ?_, fun _ => ?_, b3, fun i i0 i1 i2 => ?_, b5⟩
    · rw [upN_n _ _ (by decide)]
      exact b1 (by decide)
    · rw [upN_s]
      exact ⟨g1, by omega, ⟨e4, by rw [e2]; exact ht⟩, fun i i0 i1 => by omega⟩
    · rw [if_neg (by omega), upN_n _ _ (by decide)]
      have h6 := b4 i i0 i1 i2
      rw [if_neg (by decide)] at h6
      exact h6
theorem rd_struct {F : Int → Int} {n : Int} (hF : ∀ i, 0 ≤ F i ∧ F i < 256) : ∀ (j : Nat) (k p : Int) (v : Nat) (E O : Nat → Int) (T : px_T), gi_ n k p v E O T → si_ k p v E O T → (∀ i, 0 ≤ i → i < (px_rd F j k p v E O T).2.1 → sx_ (px_rd F j k p v E O T).2.2 i) ∧ ∀ a b, 0 ≤ a → a < b → b < (px_rd F j k p v E O T).2.1 → (px_rd F j k p v E O T).2.2 4 a = 0 → (px_rd F j k p v E O T).2.2 4 b = 0 → (px_rd F j k p v E O T).2.2 0 a + (px_rd F j k p v E O T).2.2 1 a ≤ (px_rd F j k p v E O T).2.2 0 b := by
  intro j
  induction j with
  | zero =>
    intro k p v E O T hg hs
    unfold px_rd
    split
    · exact ⟨hs.2.2.1, hs.2.2.2.2⟩
    · exact ⟨hs.2.2.1, hs.2.2.2.2⟩
  | succ j ih =>
    intro k p v E O T hg hs
    have hg1 := gi_pop hg
    have hs1 := si_pop hg hs
    unfold px_rd
    split
    · exact ⟨hs.2.2.1, hs.2.2.2.2⟩
    · split
      · exact ⟨hs.2.2.1, hs.2.2.2.2⟩
      · rename_i s h ho
        split
        · rename_i hh
          exact ih _ _ _ _ _ _ (gi_hold hF hg1 ho hh) (si_hold hg1 hs1 ho hh)
        · exact ih _ _ _ _ _ _ (gi_put hF hg1 ho) (si_put hg1 hs1 ho)
/-- all that is kept of a reading: N boxes, T -/
def tt_ (n N : Int) (T : px_T) : Prop := 0 ≤ N ∧ N ≤ 20 ∧ (∀ i, 0 ≤ i → i < N → bx_ n T i) ∧ (∀ i, 0 ≤ i → i < N → sx_ T i) ∧ ∀ a b, 0 ≤ a → a < b → b < N → T 4 a = 0 → T 4 b = 0 → T 0 a + T 1 a ≤ T 0 b
theorem px_tt {F : Int → Int} {n : Int} (hF : ∀ i, 0 ≤ F i ∧ F i < 256) (hn : 0 ≤ n) : tt_ n (px_ F n).2.1 (px_ F n).2.2 := by
  obtain ⟨a1, a2, a3, a4⟩ := px_good hF hn
  obtain ⟨b1, b2⟩ := rd_struct hF 20 0 0 0 (fun _ => n) (fun _ => -1) (fun _ _ => 0) (gi_0 hn) ⟨fun q => by omega, fun q => by omega, fun j h1 h2 => by omega, fun i h1 h2 => by omega, fun i j h1 h2 h3 => by omega⟩
  exact ⟨a1, a2, a4, b1, b2⟩
