/-! what holds between two calls -/
/-- the file on both sides: n bytes F -/
def fo_ (σ : sg_) (F : Int → Int) (n : Int) : Prop := 0 ≤ n ∧ n ≤ 1000 ∧ σ 1 1 = n ∧ σ 51 1 = n ∧ (∀ i, 0 ≤ i → i < n → σ 2 i = F i ∧ σ 52 i = F i ∧ 0 ≤ F i ∧ F i < 256) ∧ (∀ i, ¬ (0 ≤ i ∧ i < n) → F i = 0)
def Inv_ (σ : sg_) : Prop := ∃ F n, fo_ σ F n ∧ (0 ≤ σ 46 1 ∧ σ 46 1 ≤ 1000) ∧ (σ 0 6 = 1 ∨ (σ 0 6 = 0 ∧ ca_ σ F n))
theorem inv_0 : Inv_ (fun a k => if a = 0 ∧ k = 6 then 1 else 0) := by
  refine ⟨fun _ => 0, 0, ⟨by omega, by omega, rfl, rfl, fun i h1 h2 => by omega, fun _ _ => rfl⟩, ⟨by decide, by decide⟩, Or.inl rfl⟩
