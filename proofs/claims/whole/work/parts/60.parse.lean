/-! the reading of a file into boxes, as numbers: what both programs do -/
abbrev px_T : Type := Nat → Int → Int
def px_pop (p : Int) (E : Nat → Int) : Nat → Nat
  | 0 => 0
  | v + 1 => if p = E (v + 1) then px_pop p E v else v + 1
def px_w (F : Int → Int) (p left : Int) : Int := if F p = 0 then left else if F p = 1 then 256 * F (p + 2) + F (p + 3) else F p
def px_h (F : Int → Int) (p : Int) : Int := if F p = 1 then 4 else 2
/-- one box at p, of which 'left' bytes are left in the holder: its length and its header's -/
def px_one (F : Int → Int) (p left : Int) (v : Nat) : Option (Int × Int) :=
  if left < 2 then none else
  if left < px_h F p ∨ (F p = 0 ∧ 0 < v) then none else
  if px_w F p left < px_h F p ∨ left < px_w F p left then none else
  some (px_w F p left, px_h F p)
def px_put (T : px_T) (k a s t h v o : Int) : px_T := fun c i => if i = k then (if c = 0 then a else if c = 1 then s else if c = 2 then t else if c = 3 then h else if c = 4 then v else if c = 5 then o else T c i) else T c i
abbrev px_hold (v : Nat) (t : Int) : Prop := (v = 0 ∧ t = 77) ∨ (v = 1 ∧ t = 84)
def px_upN (E : Nat → Int) (i : Nat) (x : Int) : Nat → Int := fun j => if j = i then x else E j
def px_rd (F : Int → Int) : Nat → Int → Int → Nat → (Nat → Int) → (Nat → Int) → px_T → Int × Int × px_T
  | 0, k, p, v, E, _, T => if p = E (px_pop p E v) then (0, k, T) else (2, k, T)
  | j + 1, k, p, v, E, O, T => if p = E (px_pop p E v) then (0, k, T) else
    match px_one F p (E (px_pop p E v) - p) (px_pop p E v) with
    | none => (1, k, T)
    | some (s, h) => if px_hold (px_pop p E v) (F (p + 1)) then px_rd F j (k + 1) (p + h) (px_pop p E v + 1) (px_upN E (px_pop p E v + 1) (p + s)) (px_upN O (px_pop p E v + 1) k) (px_put T k p s (F (p + 1)) h (px_pop p E v) (O (px_pop p E v)))
      else px_rd F j (k + 1) (p + s) (px_pop p E v) E O (px_put T k p s (F (p + 1)) h (px_pop p E v) (O (px_pop p E v)))
/-- the whole reading: the fault, the number of boxes, their table -/
def px_ (F : Int → Int) (n : Int) : Int × Int × px_T := px_rd F 20 0 0 0 (fun _ => n) (fun _ => -1) (fun _ _ => 0)
def bx_ (n : Int) (T : px_T) (j : Int) : Prop := 0 ≤ T 0 j ∧ (T 3 j = 2 ∨ T 3 j = 4) ∧ T 3 j ≤ T 1 j ∧ T 0 j + T 1 j ≤ n ∧ 0 ≤ T 2 j ∧ T 2 j < 256 ∧ 0 ≤ T 4 j ∧ T 4 j ≤ 2 ∧ -1 ≤ T 5 j ∧ T 5 j < j
def gi_ (n k p : Int) (v : Nat) (E O : Nat → Int) (T : px_T) : Prop :=
  0 ≤ k ∧ v ≤ 2 ∧ 0 ≤ p ∧ p ≤ E v ∧ E 0 = n ∧ O 0 = -1 ∧ (∀ i, i < v → E (i + 1) ≤ E i) ∧ (∀ i : Nat, i < v → 0 ≤ O (i + 1) ∧ O (i + 1) < k ∧ T 4 (O (i + 1)) = i ∧ T 5 (O (i + 1)) = O i ∧ T 0 (O (i + 1)) + T 1 (O (i + 1)) = E (i + 1) ∧ T 2 (O (i + 1)) = (if i = 0 then 77 else 84)) ∧ (∀ j, 0 ≤ j → j < k → bx_ n T j)
theorem px_pop_le (p : Int) (E : Nat → Int) : ∀ v, px_pop p E v ≤ v
  | 0 => Nat.le_refl _
  | v + 1 => by
    unfold px_pop
    split
    · exact Nat.le_succ_of_le (px_pop_le p E v)
    · exact Nat.le_refl _
theorem px_pop_ne (p : Int) (E : Nat → Int) : ∀ v, px_pop p E v = 0 ∨ p ≠ E (px_pop p E v)
  | 0 => Or.inl rfl
  | v + 1 => by
    unfold px_pop
    split
    · exact px_pop_ne p E v
    · exact Or.inr (by assumption)
theorem gi_pop {n k p : Int} {v : Nat} {E O : Nat → Int} {T : px_T} (h : gi_ n k p v E O T) : gi_ n k p (px_pop p E v) E O T := by
  obtain ⟨h1, h2, h3, h4, h5, h6, h7, h8, h9⟩ := h
  have hle := px_pop_le p E v
  have hE : ∀ v, (∀ i, i < v → E (i + 1) ≤ E i) → p ≤ E v → p ≤ E (px_pop p E v) := by
    intro v
    induction v with
    | zero => intro _ h; exact h
    | succ v ih =>
      intro hm hp
      unfold px_pop
      split
      · exact ih (fun i hi => hm i (by omega)) (Int.le_trans hp (hm v (by omega)))
      · exact hp
  exact ⟨h1, by omega, h3, hE v h7 h4, h5, h6, fun i hi => h7 i (by omega), fun i hi => h8 i (by omega), h9⟩
theorem one_spec {F : Int → Int} {p left : Int} {v : Nat} {s h : Int} (ho : px_one F p left v = some (s, h)) : 2 ≤ left ∧ s = px_w F p left ∧ h = px_h F p ∧ (h = 2 ∨ h = 4) ∧ h ≤ left ∧ h ≤ s ∧ s ≤ left ∧ ¬ (F p = 0 ∧ 0 < v) := by
  unfold px_one at ho
  split at ho
  · cases ho
  split at ho
  · cases ho
  split at ho
  · cases ho
  · cases ho
    have hh : px_h F p = 2 ∨ px_h F p = 4 := by
      unfold px_h
      split
      · exact Or.inr rfl
      · exact Or.inl rfl
    refine ⟨by omega, rfl, rfl, hh, by omega, by omega, by omega, fun q => ?_⟩
    rename_i h2 _
    exact h2 (Or.inr q)
theorem put_ne (T : px_T) {k a s t h v o : Int} {c : Nat} {i : Int} (hi : i ≠ k) : px_put T k a s t h v o c i = T c i := if_neg hi
theorem put_0 (T : px_T) {k a s t h v o : Int} : px_put T k a s t h v o 0 k = a := by simp [px_put]
theorem put_1 (T : px_T) {k a s t h v o : Int} : px_put T k a s t h v o 1 k = s := by simp [px_put]
theorem put_2 (T : px_T) {k a s t h v o : Int} : px_put T k a s t h v o 2 k = t := by simp [px_put]
theorem put_3 (T : px_T) {k a s t h v o : Int} : px_put T k a s t h v o 3 k = h := by simp [px_put]
theorem put_4 (T : px_T) {k a s t h v o : Int} : px_put T k a s t h v o 4 k = v := by simp [px_put]
theorem put_5 (T : px_T) {k a s t h v o : Int} : px_put T k a s t h v o 5 k = o := by simp [px_put]
/-- one box more -/
theorem gi_put {F : Int → Int} {n k p : Int} {v : Nat} {E O : Nat → Int} {T : px_T} {s h : Int} (hF : ∀ i, 0 ≤ F i ∧ F i < 256) (hg : gi_ n k p v E O T) (ho : px_one F p (E v - p) v = some (s, h)) : gi_ n (k + 1) (p + s) v E O (px_put T k p s (F (p + 1)) h v (O v)) := by
  obtain ⟨h1, h2, h3, h4, h5, h6, h7, h8, h9⟩ := hg
  obtain ⟨o1, o2, o3, o4, o5, o6, o7, o8⟩ := one_spec ho
  have hEn : ∀ v, (∀ i, i < v → E (i + 1) ≤ E i) → E v ≤ n := by
    intro v
    induction v with
    | zero => intro _; omega
    | succ v ih =>
      intro hm
      exact Int.le_trans (hm v (by omega)) (ih (fun i hi => hm i (by omega)))
  have hEv := hEn v h7
  have hOv : -1 ≤ O v ∧ O v < k := by
    cases v with
    | zero => omega
    | succ v =>
      have h8' := h8 v (by omega)
      omega
  refine ⟨by omega, h2, by omega, by omega, h5, h6, h7, fun i hi => ?_, fun j j0 j1 => ?_⟩
  · have h8' := h8 i hi
    rw [put_ne T (by omega), put_ne T (by omega), put_ne T (by omega), put_ne T (by omega), put_ne T (by omega)]
    exact ⟨h8'.1, by omega, h8'.2.2⟩
  · by_cases hj : j = k
    · subst hj
      unfold bx_
      rw [put_0, put_1, put_2, put_3, put_4, put_5]
      have hF1 := hF (p + 1)
      omega
    · have h9' := h9 j j0 (by omega)
      unfold bx_ at h9' ⊢
      rw [put_ne T hj, put_ne T hj, put_ne T hj, put_ne T hj, put_ne T hj, put_ne T hj]
      exact h9'
theorem upN_s (E : Nat → Int) (i : Nat) (x : Int) : px_upN E i x i = x := if_pos rfl
theorem upN_n (E : Nat → Int) {i j : Nat} (x : Int) (h : j ≠ i) : px_upN E i x j = E j := if_neg h
/-- one box more, that holds boxes -/
theorem gi_hold {F : Int → Int} {n k p : Int} {v : Nat} {E O : Nat → Int} {T : px_T} {s h : Int} (hF : ∀ i, 0 ≤ F i ∧ F i < 256) (hg : gi_ n k p v E O T) (ho : px_one F p (E v - p) v = some (s, h)) (hh : px_hold v (F (p + 1))) : gi_ n (k + 1) (p + h) (v + 1) (px_upN E (v + 1) (p + s)) (px_upN O (v + 1) k) (px_put T k p s (F (p + 1)) h v (O v)) := by
  have hg2 := gi_put hF hg ho
  obtain ⟨o1, o2, o3, o4, o5, o6, o7, o8⟩ := one_spec ho
  obtain ⟨h1, h2, h3, h4, h5, h6, h7, h8, h9⟩ := hg2
  have hv : v ≤ 1 := by omega
  have g3 := hg.2.2.1
  refine ⟨h1, by omega, by omega, by rw [upN_s]; omega, by rw [upN_n _ _ (by omega)]; exact h5, by rw [upN_n _ _ (by omega)]; exact h6, fun i hi => ?_, fun i hi => ?_, h9⟩
  · by_cases hi2 : i = v
    · subst hi2
      rw [upN_s, upN_n _ _ (by omega)]
      omega
    · rw [upN_n _ _ (by omega), upN_n _ _ (by omega)]
      exact h7 i (by omega)
  · by_cases hi2 : i = v
    · subst hi2
      rw [upN_s, upN_s, upN_n _ _ (by omega), put_0, put_1, put_2, put_4, put_5]
      refine ⟨by have := hg.1; omega, by omega, rfl, rfl, rfl, ?_⟩
      rcases hh with ⟨q1, q2⟩ | ⟨q1, q2⟩
      · rw [if_pos q1]; exact q2
      · rw [if_neg (by omega)]; exact q2
    · rw [upN_n _ _ (by omega), upN_n _ _ (by omega), upN_n _ _ (by omega)]
      exact h8 i (by omega)
theorem rd_good {F : Int → Int} {n : Int} (hF : ∀ i, 0 ≤ F i ∧ F i < 256) : ∀ (j : Nat) (k p : Int) (v : Nat) (E O : Nat → Int) (T : px_T), gi_ n k p v E O T → 0 ≤ (px_rd F j k p v E O T).2.1 ∧ (px_rd F j k p v E O T).2.1 ≤ k + j ∧ (0 ≤ (px_rd F j k p v E O T).1 ∧ (px_rd F j k p v E O T).1 ≤ 2) ∧ ∀ i, 0 ≤ i → i < (px_rd F j k p v E O T).2.1 → bx_ n (px_rd F j k p v E O T).2.2 i := by
  intro j
  induction j with
  | zero =>
    intro k p v E O T hg
    unfold px_rd
    split
    · exact ⟨hg.1, by simp, by simp, hg.2.2.2.2.2.2.2.2⟩
    · exact ⟨hg.1, by simp, by simp, hg.2.2.2.2.2.2.2.2⟩
  | succ j ih =>
    intro k p v E O T hg
    have hg1 := gi_pop hg
    unfold px_rd
    split
    · exact ⟨hg.1, by show k ≤ _; omega, by simp, hg.2.2.2.2.2.2.2.2⟩
    · split
      · exact ⟨hg.1, by show k ≤ _; omega, by simp, hg.2.2.2.2.2.2.2.2⟩
      · rename_i s h ho
        split
        · rename_i hh
          obtain ⟨a1, a2, a3, a4⟩ := ih _ _ _ _ _ _ (gi_hold hF hg1 ho hh)
          exact ⟨a1, by omega, a3, a4⟩
        · obtain ⟨a1, a2, a3, a4⟩ := ih _ _ _ _ _ _ (gi_put hF hg1 ho)
          exact ⟨a1, by omega, a3, a4⟩
theorem gi_0 {n : Int} (hn : 0 ≤ n) : gi_ n 0 0 0 (fun _ => n) (fun _ => -1) (fun _ _ => 0) := ⟨by omega, by omega, by omega, hn, rfl, rfl, fun i hi => by omega, fun i hi => by omega, fun j h1 h2 => by omega⟩
theorem px_good {F : Int → Int} {n : Int} (hF : ∀ i, 0 ≤ F i ∧ F i < 256) (hn : 0 ≤ n) : 0 ≤ (px_ F n).2.1 ∧ (px_ F n).2.1 ≤ 20 ∧ (0 ≤ (px_ F n).1 ∧ (px_ F n).1 ≤ 2) ∧ ∀ i, 0 ≤ i → i < (px_ F n).2.1 → bx_ n (px_ F n).2.2 i := by
  obtain ⟨a1, a2, a3, a4⟩ := rd_good hF 20 0 0 0 _ _ _ (gi_0 hn)
  exact ⟨a1, by unfold px_; simpa using a2, a3, a4⟩
theorem gi_En {n k p : Int} {v : Nat} {E O : Nat → Int} {T : px_T} (h : gi_ n k p v E O T) : E v ≤ n := by
  obtain ⟨-, -, -, -, h5, -, h7, -⟩ := h
  have hEn : ∀ v, (∀ i, i < v → E (i + 1) ≤ E i) → E v ≤ n := by
    intro v
    induction v with
    | zero => intro _; omega
    | succ v ih =>
      intro hm
      exact Int.le_trans (hm v (by omega)) (ih (fun i hi => hm i (by omega)))
  exact hEn v h7
