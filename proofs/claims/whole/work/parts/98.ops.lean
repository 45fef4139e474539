/-! all calls but fastStart -/
theorem op_but (l : Launch) (hfs : ∀ σ, Inv_ σ → op_ok l Inv_ Y_M_fastStart Y_R_fastStart [] σ) : op_all l Inv_ :=
  ⟨fun _ h x0 x1 => op_append h x0 x1, fun _ h x0 x1 => op_poke h x0 x1, fun _ h x0 => op_cut h x0, fun _ h => op_length h, fun _ h x0 => op_peek h x0, fun _ h => op_check h, fun _ h => op_boxes h, fun _ h x0 x1 => op_box h x0 x1, fun _ h => op_tracks h, fun _ h x0 => op_samples h x0, fun _ h x0 x1 x2 => op_sample h x0 x1 x2, fun _ h x0 x1 => op_shown h x0 x1, hfs⟩
