/-! the start of the law: both objects are made -/
def s0_ : sg_ := fun a k => if a = 0 ∧ k = 6 then 1 else 0
set_option maxRecDepth 100000 in
theorem hp_0 : hp_ s0_ = mh_ ++ [.inr (7, [.ref 52, .int 0, .int 0, .ref 53, .ref 54, .ref 55, .ref 56, .ref 57, .ref 58, .ref 59, .ref 60, .int 0, .int 0, .ref 61, .ref 62, .ref 63, .ref 64, .ref 65, .ref 66, .ref 67, .int 0]), .inl (0, 1000, .inl (fun _ => 0)), .inl (0, 20, .inl (fun _ => 0)), .inl (0, 20, .inl (fun _ => 0)), .inl (0, 20, .inl (fun _ => 0)), .inl (0, 20, .inl (fun _ => 0)), .inl (0, 20, .inl (fun _ => 0)), .inl (0, 20, .inl (fun _ => 0)), .inl (0, 3, .inl (fun _ => 0)), .inl (0, 3, .inl (fun _ => 0)), .inl (0, 2, .inl (fun _ => 0)), .inl (0, 16, .inl (fun _ => 0)), .inl (0, 512, .inl (fun _ => 0)), .inl (0, 20, .inl (fun _ => 0)), .inl (0, 20, .inl (fun _ => 0)), .inl (0, 20, .inl (fun _ => 0)), .inl (0, 1000, .inl (fun _ => 0))] := rfl
theorem mh_len : mh_.length = 51 := rfl
section LS
variable {l : Launch} {Inv : sg_ → Prop} {N : Nat} {xs : Nat → Int32}
theorem lw_begin (hN : N ≤ 2048) (ho : op_all l Inv) (h0 : Inv s0_) : wp_m l Y_W_law (some (N, xs)) 68 8654 0 [.retAddr 1, .retAddr 0, .retAddr 0, .retAddr 0] [] [] (fun v _ => v = some (.int 1)) := by
  have hq : ([] : mx_H).length = 0 := rfl
  show wp_m l Y_W_law (some (N, xs)) 68 8654 0 [.retAddr 1, .retAddr 0, .retAddr 0, .retAddr 0] [] ([] ++ []) _
  refine wq_new dc_W_law_0 (m := 0) (ci := 0) rfl fi_M fo_M lk_W_7 lq_M1 lq_M2 df_M rfl (by decide) (by decide) hq rfl (wp_dup dc_W_law_3 ?_)
  refine wp_callI (As := []) dc_W_law_4 lm_W_9 ls_M_init (by decide) rfl rfl (Nat.le_of_ble_eq_true rfl) (k' := 50) (n' := 5910) (by decide) (by decide) ?_
  refine c_M_init ?_
  refine wp_as1 dc_W_law_7 ?_
  show wp_m l Y_W_law (some (N, xs)) _ _ 8 _ [] (mh_ ++ []) _
  refine wq_new dc_W_law_8 (q := 51) (m := 0) (ci := 7) rfl fi_R fo_R lk_W_10 lq_R1 lq_R2 df_R rfl (by decide) (by decide) mh_len rfl (wp_dup dc_W_law_11 ?_)
  refine wp_callI (As := []) dc_W_law_12 lm_W_12 ls_R_init (by decide) rfl rfl (Nat.le_of_ble_eq_true rfl) (k' := 16) (n' := 2716) (by decide) (by decide) ?_
  refine c_R_init (q := 51) mh_len ?_
  refine wp_as2 dc_W_law_15 (wi_iconst dc_W_law_16 (wp_is3 dc_W_law_17 ?_))
  have h := lw_loop (l := l) (xs := xs) hN ho (N + 4) 0 s0_ h0 (by omega) (by omega) (by omega)
  rw [hp_0] at h
  exact h
end LS
