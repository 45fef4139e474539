def Inv_ (σ : sg_) : Prop := True
theorem inv_0 : Inv_ (fun a k => if a = 0 ∧ k = 6 then 1 else 0) := trivial
