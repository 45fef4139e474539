theorem op_thm (l : Launch) : op_all l Inv_ := by
  sorry
