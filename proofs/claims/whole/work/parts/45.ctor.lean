/-! constructors: the heap is g ++ w, w the cells that are looked at, q the number of the first of them -/
theorem gl_at {g w : mx_H} {q i : Nat} (hq : g.length = q) : (g ++ w)[q + i]? = w[i]? := by
  rw [List.getElem?_append_right (by omega), hq, Nat.add_sub_cancel_left]
theorem gl_set {g w : mx_H} {q i : Nat} {c : va_E} (hq : g.length = q) : (g ++ w).set (q + i) c = g ++ w.set i c := by
  rw [List.set_append_right _ _ (by omega), hq, Nat.add_sub_cancel_left]
section CT
variable {l : Launch} {Y : mx_Y} {sc : mx_S} {k n : Nat} {pc : Nat} {L st : List Value} {g w : mx_H} {Q : Option Value → mx_H → Prop} {q : Nat}
theorem wq_get {idx ci kf i : Nat} {fin : Bool} {ft : FieldType} {fs : List Value} {v : Value} (hi : decode Y.2.1 pc = .ok (.getfield idx, 3)) (hF : mx_F Y.1.cls idx ci kf fin ft) (hq : g.length = q) (ha : w[i]? = some (.inr (ci, fs))) (hv : fs[kf]? = some v) (kk : wp_m l Y sc k n (pc + 3) L (v :: st) (g ++ w) Q) : wp_m l Y sc k n pc L (.ref (q + i) :: st) (g ++ w) Q :=
  wp_getf hi hF ((gl_at hq).trans ha) hv kk
theorem wq_put {idx ci kf i : Nat} {ft : FieldType} {fs : List Value} {v : Value} (hi : decode Y.2.1 pc = .ok (.putfield idx, 3)) (hF : mx_F Y.1.cls idx ci kf false ft) (hq : g.length = q) (ha : w[i]? = some (.inr (ci, fs))) (hkf : kf < fs.length) (hv : ∀ (b : Nat) (as : List Nat) (v' : Value), rl_v b as v v' → narrow ft v' = v' ∧ fits ft v' = true) (kk : wp_m l Y sc k n (pc + 3) L st (g ++ w.set i (.inr (ci, fs.set kf v))) Q) : wp_m l Y sc k n pc L (v :: .ref (q + i) :: st) (g ++ w) Q :=
  wp_putf hi hF ((gl_at hq).trans ha) hkf hv (by rw [gl_set hq]; exact kk)
theorem wq_putF {idx ci kf i : Nat} {ft : FieldType} {fs : List Value} {v : Value} (hi : decode Y.2.1 pc = .ok (.putfield idx, 3)) (hF : mx_F Y.1.cls idx ci kf true ft) (hin : Y.1.name = "<init>") (hq : g.length = q) (ha : w[i]? = some (.inr (ci, fs))) (hkf : kf < fs.length) (hv : ∀ (b : Nat) (as : List Nat) (v' : Value), rl_v b as v v' → narrow ft v' = v' ∧ fits ft v' = true) (kk : wp_m l Y sc k n (pc + 3) L st (g ++ w.set i (.inr (ci, fs.set kf v))) Q) : wp_m l Y sc k n pc L (v :: .ref (q + i) :: st) (g ++ w) Q :=
  wp_putF hi hF hin ((gl_at hq).trans ha) hkf hv (by rw [gl_set hq]; exact kk)
theorem wq_new {idx ci N m : Nat} {C : String} {T : u_T} {ty0 : Nat → FieldType} {fs : List Value} (hi : decode Y.2.1 pc = .ok (.new idx, 3)) (hc : classes[ci]? = some (C, T, N)) (hin : ∀ x ∈ u_ws C T N, x ∈ WS) (hty : ∀ k, k < N → parseFieldDescriptor (T k).2.2.1 = some (ty0 k)) (hcl : Cond.classLink Y.1.cls idx C ∈ WS) (hins : Cond.instantiable C N ∈ WS) (hini : Cond.initialized C ∈ WS) (hfs : ∀ j, j < N → defaultValue (ty0 j) = vp_V fs j) (hz : mx_z fs = true) (hk1 : 1 ≤ k) (hn1 : N ≤ n) (hq : g.length = q) (hm : w.length = m)
    (kk : wp_m l Y sc (k - 1) (n - N) (pc + 3) L (.ref (q + m) :: st) (g ++ (w ++ [.inr (ci, fs)])) Q) : wp_m l Y sc k n pc L st (g ++ w) Q :=
  wp_new hi hc hin hty hcl hins hini hfs hz hk1 hn1 (by rw [List.append_assoc, List.length_append, hq, hm]; exact kk)
theorem wq_newa {t N m : Nat} {at0 : ArrayType} {i : Int} (hi : decode Y.2.1 pc = .ok (.newarray at0, 2)) (hT : TY[t]? = some (newarray.typeOf at0)) (hd : defaultValue (newarray.typeOf at0) = .int 0) (hwd : Cond.arrayClass (newarray.typeOf at0) ∈ WS) (hi0 : ¬ iI i < 0) (hN : (iI i).toNatClampNeg = N) (hb : N * componentBytes (newarray.typeOf at0) ≤ 536870912) (hk1 : 1 ≤ k) (hn1 : N ≤ n) (hq : g.length = q) (hm : w.length = m)
    (kk : wp_m l Y sc (k - 1) (n - N) (pc + 2) L (.ref (q + m) :: st) (g ++ (w ++ [.inl (t, N, .inl (fun _ => 0))])) Q) : wp_m l Y sc k n pc L (.int (iI i) :: st) (g ++ w) Q :=
  wp_newarray hi hT hd hwd hi0 hN hb hk1 hn1 (by rw [List.append_assoc, List.length_append, hq, hm]; exact kk)
theorem wq_multi {idx N M m : Nat} {i j : Int} (hi : decode Y.2.1 pc = .ok (.multianewarray idx 2, 4)) (hcl : Cond.classLink Y.1.cls idx "[[I" ∈ WS) (hi0 : ¬ iI i < 0) (hj0 : ¬ iI j < 0) (hN : (iI i).toNatClampNeg = N) (hM : (iI j).toNatClampNeg = M) (hb1 : N ≤ 1000) (hb2 : M ≤ 1000) (hk1 : 1 + N ≤ k) (hn1 : N + N * M ≤ n) (hq : g.length = q) (hm : w.length = m)
    (kk : wp_m l Y sc (k - (1 + N)) (n - (N + N * M)) (pc + 4) L (.ref (q + m) :: st) (g ++ (w ++ mu_c (q + m) N M)) Q) : wp_m l Y sc k n pc L (.int (iI j) :: .int (iI i) :: st) (g ++ w) Q :=
  wp_multi hi hcl hi0 hj0 hN hM hb1 hb2 hk1 hn1 (by rw [List.append_assoc, List.length_append, hq, hm]; exact kk)
theorem wq_anew {idx N m : Nat} {i : Int} (hi : decode Y.2.1 pc = .ok (.anewarray idx, 3)) (hcl : Cond.classLink Y.1.cls idx TR ∈ WS) (hi0 : ¬ iI i < 0) (hN : (iI i).toNatClampNeg = N) (hb : N * 4 ≤ 536870912) (hk1 : 1 ≤ k) (hn1 : N ≤ n) (hq : g.length = q) (hm : w.length = m)
    (kk : wp_m l Y sc (k - 1) (n - N) (pc + 3) L (.ref (q + m) :: st) (g ++ (w ++ [.inl (2, N, .inr (.inr (.inr (.inr (fun _ => none)))))])) Q) : wp_m l Y sc k n pc L (.int (iI i) :: st) (g ++ w) Q :=
  wp_anewarray hi rfl hcl hi0 hN hb hk1 hn1 (by rw [List.append_assoc, List.length_append, hq, hm]; exact kk)
theorem wq_aast {a t N j ci : Nat} {r : vw_C} {f : Nat → Option Nat} {i : Int32} {fs : List Value} (hi : decode Y.2.1 pc = .ok (.aastore, 1)) (hq : g.length = q) (ha : w[a]? = some (.inl (t, N, .inr (.inr (.inr (.inr f)))))) (hT : TY[t]? = some (.object r.1)) (hin : vp_in i N) (hj : w[j]? = some (.inr (ci, fs))) (hc : classes[ci]? = some r) (kk : wp_m l Y sc k n (pc + 1) L st (g ++ w.set a (.inl (t, N, .inr (.inr (.inr (.inr (va_up f i.toNatClampNeg (some (q + j))))))))) Q) : wp_m l Y sc k n pc L (.ref (q + j) :: .int i :: .ref (q + a) :: st) (g ++ w) Q :=
  wp_aastore hi ((gl_at hq).trans ha) hT hin ((gl_at hq).trans hj) hc (by rw [gl_set hq]; exact kk)
end CT
theorem df_T : ∀ j, j < 6 → defaultValue (ft_T j) = vp_V [.null, .int 0, .int 0, .int 0, .int 0, .int 0] j := by decide
theorem df_Z : ∀ j, j < 5 → defaultValue (ft_Z j) = vp_V [.null, .int 0, .int 0, .int 0, .int 0] j := by decide
theorem df_B : ∀ j, j < 2 → defaultValue (ft_B j) = vp_V [.null, .int 0] j := by decide
theorem df_L : ∀ j, j < 3 → defaultValue (ft_L j) = vp_V [.null, .null, .int 0] j := by decide
theorem df_K : ∀ j, j < 10 → defaultValue (ft_K j) = vp_V [.null, .null, .null, .null, .null, .null, .null, .null, .null, .int 0] j := by decide
theorem df_V : ∀ j, j < 8 → defaultValue (ft_V j) = vp_V [.null, .null, .null, .null, .null, .null, .int 0, .int 0] j := by decide
theorem df_M : ∀ j, j < 7 → defaultValue (ft_M j) = vp_V [.null, .null, .null, .null, .int 0, .int 0, .int 0] j := by decide
theorem df_R : ∀ j, j < 21 → defaultValue (ft_R j) = vp_V [.null, .int 0, .int 0, .null, .null, .null, .null, .null, .null, .null, .null, .int 0, .int 0, .null, .null, .null, .null, .null, .null, .null, .int 0] j := by decide
section CU
variable {l : Launch} {K : Option Value → mx_H → Prop} {g : mx_H} {q : Nat}
theorem c_B_init (hq : g.length = q) (hK : K none (g ++ [.inr (1, [.ref (q + 1), .int 0]), .inl (0, 1000, .inl (fun _ => 0))])) : ct_m l Y_B_init 1 1000 [.ref (q + 0)] (g ++ [.inr (1, [.null, .int 0])]) K := by
  refine ct_of (L := [.ref (q + 0)]) (by decide +kernel) (Nat.le_of_ble_eq_true rfl) rfl ?_
  refine wp_aload_n dc_B_init_0 rfl rfl (wp_objInit dc_B_init_1 lm_B_3 lo_1 lo_2 (by decide) (wp_aload_n dc_B_init_4 rfl rfl (wi_sipush dc_B_init_5 (wq_newa dc_B_init_8 (m := 1) (N := 1000) (t := 0) rfl rfl lq_int (by decide) rfl (by decide) (by decide) (by decide) hq rfl (wq_putF dc_B_init_10 lf_B_9 rfl hq rfl (Nat.le_of_ble_eq_true rfl) (pv_ref rfl) ?_)))))
  dsimp only [List.set_cons_succ, List.set_cons_zero, List.cons_append, List.nil_append]
  refine wp_aload_n dc_B_init_13 rfl rfl (wi_iconst dc_B_init_14 (wq_put dc_B_init_15 lf_B_15 hq rfl (Nat.le_of_ble_eq_true rfl) pv_int ?_))
  dsimp only [List.set_cons_succ, List.set_cons_zero, List.cons_append, List.nil_append]
  refine wp_return dc_B_init_18 rfl hK
theorem c_L_init {f : Nat} (hq : g.length = q) (hK : K none (g ++ (.inr (2, [.ref f, .ref (q + 1), .int 0]) :: mu_c (q + 1) 7 20))) : ct_m l Y_L_init 8 147 [.ref (q + 0), .ref f] (g ++ [.inr (2, [.null, .null, .int 0])]) K := by
  refine ct_of (L := [.ref (q + 0), .ref f]) (by decide +kernel) (Nat.le_of_ble_eq_true rfl) rfl ?_
  refine wp_aload_n dc_L_init_0 rfl rfl (wp_objInit dc_L_init_1 lm_L_3 lo_1 lo_2 (by decide) (wp_aload_n dc_L_init_4 rfl rfl (wp_aload_n dc_L_init_5 rfl rfl (wq_putF dc_L_init_6 lf_L_9 rfl hq rfl (Nat.le_of_ble_eq_true rfl) (pv_ref rfl) ?_))))
  dsimp only [List.set_cons_succ, List.set_cons_zero, List.cons_append, List.nil_append]
  refine wp_aload_n dc_L_init_9 rfl rfl (wi_bipush dc_L_init_10 (wi_bipush dc_L_init_12 (wq_multi dc_L_init_14 (m := 1) (N := 7) (M := 20) lk_L_15 (by decide) (by decide) rfl rfl (by decide) (by decide) (by decide) (by decide) hq rfl (wq_putF dc_L_init_18 lf_L_17 rfl hq rfl (Nat.le_of_ble_eq_true rfl) (pv_ref rfl) ?_))))
  dsimp only [List.set_cons_succ, List.set_cons_zero, List.cons_append, List.nil_append]
  refine wp_aload_n dc_L_init_21 rfl rfl (wi_iconst dc_L_init_22 (wq_put dc_L_init_23 lf_L_20 hq rfl (Nat.le_of_ble_eq_true rfl) pv_int ?_))
  dsimp only [List.set_cons_succ, List.set_cons_zero, List.cons_append, List.nil_append]
  refine wp_return dc_L_init_26 rfl hK
theorem c_T_init {f : Nat} (hq : g.length = q) (hK : K none (g ++ [.inr (3, [.ref f, .int 0, .int 0, .int 0, .int 0, .int 0])])) : ct_m l Y_T_init 0 0 [.ref (q + 0), .ref f] (g ++ [.inr (3, [.null, .int 0, .int 0, .int 0, .int 0, .int 0])]) K := by
  refine ct_of (L := [.ref (q + 0), .ref f]) (by decide +kernel) (Nat.le_of_ble_eq_true rfl) rfl ?_
  refine wp_aload_n dc_T_init_0 rfl rfl (wp_objInit dc_T_init_1 lm_T_1 lo_1 lo_2 (by decide) (wp_aload_n dc_T_init_4 rfl rfl (wp_aload_n dc_T_init_5 rfl rfl (wq_putF dc_T_init_6 lf_T_7 rfl hq rfl (Nat.le_of_ble_eq_true rfl) (pv_ref rfl) ?_))))
  dsimp only [List.set_cons_succ, List.set_cons_zero, List.cons_append, List.nil_append]
  refine wp_aload_n dc_T_init_9 rfl rfl (wi_iconst dc_T_init_10 (wq_put dc_T_init_11 lf_T_13 hq rfl (Nat.le_of_ble_eq_true rfl) pv_0 ?_))
  dsimp only [List.set_cons_succ, List.set_cons_zero, List.cons_append, List.nil_append]
  refine wp_aload_n dc_T_init_14 rfl rfl (wi_iconst dc_T_init_15 (wq_put dc_T_init_16 lf_T_17 hq rfl (Nat.le_of_ble_eq_true rfl) pv_int ?_))
  dsimp only [List.set_cons_succ, List.set_cons_zero, List.cons_append, List.nil_append]
  refine wp_aload_n dc_T_init_19 rfl rfl (wi_iconst dc_T_init_20 (wq_put dc_T_init_21 lf_T_21 hq rfl (Nat.le_of_ble_eq_true rfl) pv_int ?_))
  dsimp only [List.set_cons_succ, List.set_cons_zero, List.cons_append, List.nil_append]
  refine wp_aload_n dc_T_init_24 rfl rfl (wi_iconst dc_T_init_25 (wq_put dc_T_init_26 lf_T_24 hq rfl (Nat.le_of_ble_eq_true rfl) pv_int ?_))
  dsimp only [List.set_cons_succ, List.set_cons_zero, List.cons_append, List.nil_append]
  refine wp_aload_n dc_T_init_29 rfl rfl (wi_iconst dc_T_init_30 (wq_put dc_T_init_31 lf_T_27 hq rfl (Nat.le_of_ble_eq_true rfl) pv_int ?_))
  dsimp only [List.set_cons_succ, List.set_cons_zero, List.cons_append, List.nil_append]
  refine wp_return dc_T_init_34 rfl hK
theorem c_Z_init {f : Nat} (hq : g.length = q) (hK : K none (g ++ [.inr (4, [.ref f, .int 0, .int 0, .int 0, .int 0])])) : ct_m l Y_Z_init 0 0 [.ref (q + 0), .ref f] (g ++ [.inr (4, [.null, .int 0, .int 0, .int 0, .int 0])]) K := by
  refine ct_of (L := [.ref (q + 0), .ref f]) (by decide +kernel) (Nat.le_of_ble_eq_true rfl) rfl ?_
  refine wp_aload_n dc_Z_init_0 rfl rfl (wp_objInit dc_Z_init_1 lm_Z_1 lo_1 lo_2 (by decide) (wp_aload_n dc_Z_init_4 rfl rfl (wp_aload_n dc_Z_init_5 rfl rfl (wq_putF dc_Z_init_6 lf_Z_7 rfl hq rfl (Nat.le_of_ble_eq_true rfl) (pv_ref rfl) ?_))))
  dsimp only [List.set_cons_succ, List.set_cons_zero, List.cons_append, List.nil_append]
  refine wp_aload_n dc_Z_init_9 rfl rfl (wi_iconst dc_Z_init_10 (wq_put dc_Z_init_11 lf_Z_13 hq rfl (Nat.le_of_ble_eq_true rfl) pv_int ?_))
  dsimp only [List.set_cons_succ, List.set_cons_zero, List.cons_append, List.nil_append]
  refine wp_aload_n dc_Z_init_14 rfl rfl (wi_iconst dc_Z_init_15 (wq_put dc_Z_init_16 lf_Z_17 hq rfl (Nat.le_of_ble_eq_true rfl) pv_int ?_))
  dsimp only [List.set_cons_succ, List.set_cons_zero, List.cons_append, List.nil_append]
  refine wp_aload_n dc_Z_init_19 rfl rfl (wi_iconst dc_Z_init_20 (wq_put dc_Z_init_21 lf_Z_20 hq rfl (Nat.le_of_ble_eq_true rfl) pv_int ?_))
  dsimp only [List.set_cons_succ, List.set_cons_zero, List.cons_append, List.nil_append]
  refine wp_aload_n dc_Z_init_24 rfl rfl (wi_iconst dc_Z_init_25 (wq_put dc_Z_init_26 lf_Z_23 hq rfl (Nat.le_of_ble_eq_true rfl) pv_int ?_))
  dsimp only [List.set_cons_succ, List.set_cons_zero, List.cons_append, List.nil_append]
  refine wp_return dc_Z_init_29 rfl hK
theorem c_R_init (hq : g.length = q) (hK : K none (g ++ [.inr (7, [.ref (q + 1), .int 0, .int 0, .ref (q + 2), .ref (q + 3), .ref (q + 4), .ref (q + 5), .ref (q + 6), .ref (q + 7), .ref (q + 8), .ref (q + 9), .int 0, .int 0, .ref (q + 10), .ref (q + 11), .ref (q + 12), .ref (q + 13), .ref (q + 14), .ref (q + 15), .ref (q + 16), .int 0]), .inl (0, 1000, .inl (fun _ => 0)), .inl (0, 20, .inl (fun _ => 0)), .inl (0, 20, .inl (fun _ => 0)), .inl (0, 20, .inl (fun _ => 0)), .inl (0, 20, .inl (fun _ => 0)), .inl (0, 20, .inl (fun _ => 0)), .inl (0, 20, .inl (fun _ => 0)), .inl (0, 3, .inl (fun _ => 0)), .inl (0, 3, .inl (fun _ => 0)), .inl (0, 2, .inl (fun _ => 0)), .inl (0, 16, .inl (fun _ => 0)), .inl (0, 512, .inl (fun _ => 0)), .inl (0, 20, .inl (fun _ => 0)), .inl (0, 20, .inl (fun _ => 0)), .inl (0, 20, .inl (fun _ => 0)), .inl (0, 1000, .inl (fun _ => 0))])) : ct_m l Y_R_init 16 2716 [.ref (q + 0)] (g ++ [.inr (7, [.null, .int 0, .int 0, .null, .null, .null, .null, .null, .null, .null, .null, .int 0, .int 0, .null, .null, .null, .null, .null, .null, .null, .int 0])]) K := by
  refine ct_of (L := [.ref (q + 0)]) (by decide +kernel) (Nat.le_of_ble_eq_true rfl) rfl ?_
  refine wp_aload_n dc_R_init_0 rfl rfl (wp_objInit dc_R_init_1 lm_R_1 lo_1 lo_2 (by decide) (wp_aload_n dc_R_init_4 rfl rfl (wi_sipush dc_R_init_5 (wq_newa dc_R_init_8 (m := 1) (N := 1000) (t := 0) rfl rfl lq_int (by decide) rfl (by decide) (by decide) (by decide) hq rfl (wq_putF dc_R_init_10 lf_R_7 rfl hq rfl (Nat.le_of_ble_eq_true rfl) (pv_ref rfl) ?_)))))
  dsimp only [List.set_cons_succ, List.set_cons_zero, List.cons_append, List.nil_append]
  refine wp_aload_n dc_R_init_13 rfl rfl (wi_bipush dc_R_init_14 (wq_newa dc_R_init_16 (m := 2) (N := 20) (t := 0) rfl rfl lq_int (by decide) rfl (by decide) (by decide) (by decide) hq rfl (wq_putF dc_R_init_18 lf_R_13 rfl hq rfl (Nat.le_of_ble_eq_true rfl) (pv_ref rfl) ?_)))
  dsimp only [List.set_cons_succ, List.set_cons_zero, List.cons_append, List.nil_append]
  refine wp_aload_n dc_R_init_21 rfl rfl (wi_bipush dc_R_init_22 (wq_newa dc_R_init_24 (m := 3) (N := 20) (t := 0) rfl rfl lq_int (by decide) rfl (by decide) (by decide) (by decide) hq rfl (wq_putF dc_R_init_26 lf_R_16 rfl hq rfl (Nat.le_of_ble_eq_true rfl) (pv_ref rfl) ?_)))
  dsimp only [List.set_cons_succ, List.set_cons_zero, List.cons_append, List.nil_append]
  refine wp_aload_n dc_R_init_29 rfl rfl (wi_bipush dc_R_init_30 (wq_newa dc_R_init_32 (m := 4) (N := 20) (t := 0) rfl rfl lq_int (by decide) rfl (by decide) (by decide) (by decide) hq rfl (wq_putF dc_R_init_34 lf_R_19 rfl hq rfl (Nat.le_of_ble_eq_true rfl) (pv_ref rfl) ?_)))
  dsimp only [List.set_cons_succ, List.set_cons_zero, List.cons_append, List.nil_append]
  refine wp_aload_n dc_R_init_37 rfl rfl (wi_bipush dc_R_init_38 (wq_newa dc_R_init_40 (m := 5) (N := 20) (t := 0) rfl rfl lq_int (by decide) rfl (by decide) (by decide) (by decide) hq rfl (wq_putF dc_R_init_42 lf_R_22 rfl hq rfl (Nat.le_of_ble_eq_true rfl) (pv_ref rfl) ?_)))
  dsimp only [List.set_cons_succ, List.set_cons_zero, List.cons_append, List.nil_append]
  refine wp_aload_n dc_R_init_45 rfl rfl (wi_bipush dc_R_init_46 (wq_newa dc_R_init_48 (m := 6) (N := 20) (t := 0) rfl rfl lq_int (by decide) rfl (by decide) (by decide) (by decide) hq rfl (wq_putF dc_R_init_50 lf_R_25 rfl hq rfl (Nat.le_of_ble_eq_true rfl) (pv_ref rfl) ?_)))
  dsimp only [List.set_cons_succ, List.set_cons_zero, List.cons_append, List.nil_append]
  refine wp_aload_n dc_R_init_53 rfl rfl (wi_bipush dc_R_init_54 (wq_newa dc_R_init_56 (m := 7) (N := 20) (t := 0) rfl rfl lq_int (by decide) rfl (by decide) (by decide) (by decide) hq rfl (wq_putF dc_R_init_58 lf_R_28 rfl hq rfl (Nat.le_of_ble_eq_true rfl) (pv_ref rfl) ?_)))
  dsimp only [List.set_cons_succ, List.set_cons_zero, List.cons_append, List.nil_append]
  refine wp_aload_n dc_R_init_61 rfl rfl (wi_iconst dc_R_init_62 (wq_newa dc_R_init_63 (m := 8) (N := 3) (t := 0) rfl rfl lq_int (by decide) rfl (by decide) (by decide) (by decide) hq rfl (wq_putF dc_R_init_65 lf_R_31 rfl hq rfl (Nat.le_of_ble_eq_true rfl) (pv_ref rfl) ?_)))
  dsimp only [List.set_cons_succ, List.set_cons_zero, List.cons_append, List.nil_append]
  refine wp_aload_n dc_R_init_68 rfl rfl (wi_iconst dc_R_init_69 (wq_newa dc_R_init_70 (m := 9) (N := 3) (t := 0) rfl rfl lq_int (by decide) rfl (by decide) (by decide) (by decide) hq rfl (wq_putF dc_R_init_72 lf_R_34 rfl hq rfl (Nat.le_of_ble_eq_true rfl) (pv_ref rfl) ?_)))
  dsimp only [List.set_cons_succ, List.set_cons_zero, List.cons_append, List.nil_append]
  refine wp_aload_n dc_R_init_75 rfl rfl (wi_iconst dc_R_init_76 (wq_newa dc_R_init_77 (m := 10) (N := 2) (t := 0) rfl rfl lq_int (by decide) rfl (by decide) (by decide) (by decide) hq rfl (wq_putF dc_R_init_79 lf_R_37 rfl hq rfl (Nat.le_of_ble_eq_true rfl) (pv_ref rfl) ?_)))
  dsimp only [List.set_cons_succ, List.set_cons_zero, List.cons_append, List.nil_append]
  refine wp_aload_n dc_R_init_82 rfl rfl (wi_bipush dc_R_init_83 (wq_newa dc_R_init_85 (m := 11) (N := 16) (t := 0) rfl rfl lq_int (by decide) rfl (by decide) (by decide) (by decide) hq rfl (wq_putF dc_R_init_87 lf_R_40 rfl hq rfl (Nat.le_of_ble_eq_true rfl) (pv_ref rfl) ?_)))
  dsimp only [List.set_cons_succ, List.set_cons_zero, List.cons_append, List.nil_append]
  refine wp_aload_n dc_R_init_90 rfl rfl (wi_sipush dc_R_init_91 (wq_newa dc_R_init_94 (m := 12) (N := 512) (t := 0) rfl rfl lq_int (by decide) rfl (by decide) (by decide) (by decide) hq rfl (wq_putF dc_R_init_96 lf_R_43 rfl hq rfl (Nat.le_of_ble_eq_true rfl) (pv_ref rfl) ?_)))
  dsimp only [List.set_cons_succ, List.set_cons_zero, List.cons_append, List.nil_append]
  refine wp_aload_n dc_R_init_99 rfl rfl (wi_bipush dc_R_init_100 (wq_newa dc_R_init_102 (m := 13) (N := 20) (t := 0) rfl rfl lq_int (by decide) rfl (by decide) (by decide) (by decide) hq rfl (wq_putF dc_R_init_104 lf_R_46 rfl hq rfl (Nat.le_of_ble_eq_true rfl) (pv_ref rfl) ?_)))
  dsimp only [List.set_cons_succ, List.set_cons_zero, List.cons_append, List.nil_append]
  refine wp_aload_n dc_R_init_107 rfl rfl (wi_bipush dc_R_init_108 (wq_newa dc_R_init_110 (m := 14) (N := 20) (t := 0) rfl rfl lq_int (by decide) rfl (by decide) (by decide) (by decide) hq rfl (wq_putF dc_R_init_112 lf_R_49 rfl hq rfl (Nat.le_of_ble_eq_true rfl) (pv_ref rfl) ?_)))
  dsimp only [List.set_cons_succ, List.set_cons_zero, List.cons_append, List.nil_append]
  refine wp_aload_n dc_R_init_115 rfl rfl (wi_bipush dc_R_init_116 (wq_newa dc_R_init_118 (m := 15) (N := 20) (t := 0) rfl rfl lq_int (by decide) rfl (by decide) (by decide) (by decide) hq rfl (wq_putF dc_R_init_120 lf_R_52 rfl hq rfl (Nat.le_of_ble_eq_true rfl) (pv_ref rfl) ?_)))
  dsimp only [List.set_cons_succ, List.set_cons_zero, List.cons_append, List.nil_append]
  refine wp_aload_n dc_R_init_123 rfl rfl (wi_sipush dc_R_init_124 (wq_newa dc_R_init_127 (m := 16) (N := 1000) (t := 0) rfl rfl lq_int (by decide) rfl (by decide) (by decide) (by decide) hq rfl (wq_putF dc_R_init_129 lf_R_55 rfl hq rfl (Nat.le_of_ble_eq_true rfl) (pv_ref rfl) ?_)))
  dsimp only [List.set_cons_succ, List.set_cons_zero, List.cons_append, List.nil_append]
  refine wp_return dc_R_init_132 rfl hK
theorem gl_ap {α : Type} (g w v : List α) : g ++ (w ++ v) = (g ++ w) ++ v := (List.append_assoc g w v).symm
theorem gl_len {g w : mx_H} {q m : Nat} (hq : g.length = q) (hm : w.length = m) : (g ++ w).length = q + m := by rw [List.length_append, hq, hm]
def kt_ (q : Nat) : mx_H := [.inr (5, [.ref 3, .ref (q + 1), .ref (q + 2), .ref (q + 3), .ref (q + 4), .ref (q + 5), .ref (q + 6), .ref (q + 7), .ref (q + 8), .int 0]), .inr (3, [.ref 1, .int 0, .int 0, .int 0, .int 0, .int 0]), .inr (3, [.ref 1, .int 0, .int 0, .int 0, .int 0, .int 0]), .inr (3, [.ref 1, .int 0, .int 0, .int 0, .int 0, .int 0]), .inr (3, [.ref 1, .int 0, .int 0, .int 0, .int 0, .int 0]), .inr (3, [.ref 1, .int 0, .int 0, .int 0, .int 0, .int 0]), .inr (3, [.ref 1, .int 0, .int 0, .int 0, .int 0, .int 0]), .inr (4, [.ref 1, .int 0, .int 0, .int 0, .int 0])] ++ mu_c (q + 8) 7 255
theorem c_K_init (hq : g.length = q) (hK : K none (g ++ kt_ q)) : ct_m l Y_K_init 15 1833 [.ref (q + 0), .ref 1, .ref 3] (g ++ [.inr (5, [.null, .null, .null, .null, .null, .null, .null, .null, .null, .int 0])]) K := by
  refine ct_of (L := [.ref (q + 0), .ref 1, .ref 3]) (by decide +kernel) (Nat.le_of_ble_eq_true rfl) rfl ?_
  refine wp_aload_n dc_K_init_0 rfl rfl (wp_objInit dc_K_init_1 lm_K_3 lo_1 lo_2 (by decide) (wp_aload_n dc_K_init_4 rfl rfl (wp_aload_n dc_K_init_5 rfl rfl (wq_putF dc_K_init_6 lf_K_9 rfl hq rfl (Nat.le_of_ble_eq_true rfl) (pv_ref rfl) ?_))))
  dsimp only [List.set_cons_succ, List.set_cons_zero, List.cons_append, List.nil_append]
  refine wp_aload_n dc_K_init_9 rfl rfl (wq_new dc_K_init_10 (m := 1) (ci := 3) rfl fi_T fo_T lk_K_15 lq_T1 lq_T2 df_T rfl (by decide) (by decide) hq rfl (wp_dup dc_K_init_13 (wp_aload_n dc_K_init_14 rfl rfl ?_)))
  refine wp_callI (As := [_]) dc_K_init_15 lm_K_17 ls_T_init (by decide) rfl rfl (Nat.le_of_ble_eq_true rfl) (k' := 0) (n' := 0) (by decide) (by decide) ?_
  rw [gl_ap]
  refine c_T_init (q := q + 1) (gl_len hq rfl) ?_
  rw [← gl_ap]
  refine wq_putF dc_K_init_18 lf_K_20 rfl hq rfl (Nat.le_of_ble_eq_true rfl) (pv_ref rfl) ?_
  dsimp only [List.set_cons_succ, List.set_cons_zero, List.cons_append, List.nil_append]
  refine wp_aload_n dc_K_init_21 rfl rfl (wq_new dc_K_init_22 (m := 2) (ci := 3) rfl fi_T fo_T lk_K_15 lq_T1 lq_T2 df_T rfl (by decide) (by decide) hq rfl (wp_dup dc_K_init_25 (wp_aload_n dc_K_init_26 rfl rfl ?_)))
  refine wp_callI (As := [_]) dc_K_init_27 lm_K_17 ls_T_init (by decide) rfl rfl (Nat.le_of_ble_eq_true rfl) (k' := 0) (n' := 0) (by decide) (by decide) ?_
  rw [gl_ap]
  refine c_T_init (q := q + 2) (gl_len hq rfl) ?_
  rw [← gl_ap]
  refine wq_putF dc_K_init_30 lf_K_24 rfl hq rfl (Nat.le_of_ble_eq_true rfl) (pv_ref rfl) ?_
  dsimp only [List.set_cons_succ, List.set_cons_zero, List.cons_append, List.nil_append]
  refine wp_aload_n dc_K_init_33 rfl rfl (wq_new dc_K_init_34 (m := 3) (ci := 3) rfl fi_T fo_T lk_K_15 lq_T1 lq_T2 df_T rfl (by decide) (by decide) hq rfl (wp_dup dc_K_init_37 (wp_aload_n dc_K_init_38 rfl rfl ?_)))
  refine wp_callI (As := [_]) dc_K_init_39 lm_K_17 ls_T_init (by decide) rfl rfl (Nat.le_of_ble_eq_true rfl) (k' := 0) (n' := 0) (by decide) (by decide) ?_
  rw [gl_ap]
  refine c_T_init (q := q + 3) (gl_len hq rfl) ?_
  rw [← gl_ap]
  refine wq_putF dc_K_init_42 lf_K_27 rfl hq rfl (Nat.le_of_ble_eq_true rfl) (pv_ref rfl) ?_
  dsimp only [List.set_cons_succ, List.set_cons_zero, List.cons_append, List.nil_append]
  refine wp_aload_n dc_K_init_45 rfl rfl (wq_new dc_K_init_46 (m := 4) (ci := 3) rfl fi_T fo_T lk_K_15 lq_T1 lq_T2 df_T rfl (by decide) (by decide) hq rfl (wp_dup dc_K_init_49 (wp_aload_n dc_K_init_50 rfl rfl ?_)))
  refine wp_callI (As := [_]) dc_K_init_51 lm_K_17 ls_T_init (by decide) rfl rfl (Nat.le_of_ble_eq_true rfl) (k' := 0) (n' := 0) (by decide) (by decide) ?_
  rw [gl_ap]
  refine c_T_init (q := q + 4) (gl_len hq rfl) ?_
  rw [← gl_ap]
  refine wq_putF dc_K_init_54 lf_K_30 rfl hq rfl (Nat.le_of_ble_eq_true rfl) (pv_ref rfl) ?_
  dsimp only [List.set_cons_succ, List.set_cons_zero, List.cons_append, List.nil_append]
  refine wp_aload_n dc_K_init_57 rfl rfl (wq_new dc_K_init_58 (m := 5) (ci := 3) rfl fi_T fo_T lk_K_15 lq_T1 lq_T2 df_T rfl (by decide) (by decide) hq rfl (wp_dup dc_K_init_61 (wp_aload_n dc_K_init_62 rfl rfl ?_)))
  refine wp_callI (As := [_]) dc_K_init_63 lm_K_17 ls_T_init (by decide) rfl rfl (Nat.le_of_ble_eq_true rfl) (k' := 0) (n' := 0) (by decide) (by decide) ?_
  rw [gl_ap]
  refine c_T_init (q := q + 5) (gl_len hq rfl) ?_
  rw [← gl_ap]
  refine wq_putF dc_K_init_66 lf_K_33 rfl hq rfl (Nat.le_of_ble_eq_true rfl) (pv_ref rfl) ?_
  dsimp only [List.set_cons_succ, List.set_cons_zero, List.cons_append, List.nil_append]
  refine wp_aload_n dc_K_init_69 rfl rfl (wq_new dc_K_init_70 (m := 6) (ci := 3) rfl fi_T fo_T lk_K_15 lq_T1 lq_T2 df_T rfl (by decide) (by decide) hq rfl (wp_dup dc_K_init_73 (wp_aload_n dc_K_init_74 rfl rfl ?_)))
  refine wp_callI (As := [_]) dc_K_init_75 lm_K_17 ls_T_init (by decide) rfl rfl (Nat.le_of_ble_eq_true rfl) (k' := 0) (n' := 0) (by decide) (by decide) ?_
  rw [gl_ap]
  refine c_T_init (q := q + 6) (gl_len hq rfl) ?_
  rw [← gl_ap]
  refine wq_putF dc_K_init_78 lf_K_36 rfl hq rfl (Nat.le_of_ble_eq_true rfl) (pv_ref rfl) ?_
  dsimp only [List.set_cons_succ, List.set_cons_zero, List.cons_append, List.nil_append]
  refine wp_aload_n dc_K_init_81 rfl rfl (wq_new dc_K_init_82 (m := 7) (ci := 4) rfl fi_Z fo_Z lk_K_39 lq_Z1 lq_Z2 df_Z rfl (by decide) (by decide) hq rfl (wp_dup dc_K_init_85 (wp_aload_n dc_K_init_86 rfl rfl ?_)))
  refine wp_callI (As := [_]) dc_K_init_87 lm_K_41 ls_Z_init (by decide) rfl rfl (Nat.le_of_ble_eq_true rfl) (k' := 0) (n' := 0) (by decide) (by decide) ?_
  rw [gl_ap]
  refine c_Z_init (q := q + 7) (gl_len hq rfl) ?_
  rw [← gl_ap]
  refine wq_putF dc_K_init_90 lf_K_42 rfl hq rfl (Nat.le_of_ble_eq_true rfl) (pv_ref rfl) ?_
  dsimp only [List.set_cons_succ, List.set_cons_zero, List.cons_append, List.nil_append]
  refine wp_aload_n dc_K_init_93 rfl rfl (wi_bipush dc_K_init_94 (wi_sipush dc_K_init_96 (wq_multi dc_K_init_99 (m := 8) (N := 7) (M := 255) lk_K_46 (by decide) (by decide) rfl rfl (by decide) (by decide) (by decide) (by decide) hq rfl (wq_putF dc_K_init_103 lf_K_48 rfl hq rfl (Nat.le_of_ble_eq_true rfl) (pv_ref rfl) ?_))))
  dsimp only [List.set_cons_succ, List.set_cons_zero, List.cons_append, List.nil_append]
  refine wp_aload_n dc_K_init_106 rfl rfl (wi_iconst dc_K_init_107 (wq_put dc_K_init_108 lf_K_51 hq rfl (Nat.le_of_ble_eq_true rfl) pv_int ?_))
  dsimp only [List.set_cons_succ, List.set_cons_zero, List.cons_append, List.nil_append]
  refine wp_return dc_K_init_111 rfl hK
theorem c_V_init (hq : g.length = q) (hK : K none (g ++ [.inr (6, [.ref 1, .ref 3, .ref (q + 1), .ref (q + 3), .ref (q + 4), .ref (q + 5), .int 0, .int 0]), .inr (1, [.ref (q + 2), .int 0]), .inl (0, 1000, .inl (fun _ => 0)), .inl (1, 20, .inl (fun _ => 0)), .inl (0, 20, .inl (fun _ => 0)), .inl (0, 20, .inl (fun _ => 0))])) : ct_m l Y_V_init 5 1062 [.ref (q + 0), .ref 1, .ref 3] (g ++ [.inr (6, [.null, .null, .null, .null, .null, .null, .int 0, .int 0])]) K := by
  refine ct_of (L := [.ref (q + 0), .ref 1, .ref 3]) (by decide +kernel) (Nat.le_of_ble_eq_true rfl) rfl ?_
  refine wp_aload_n dc_V_init_0 rfl rfl (wp_objInit dc_V_init_1 lm_V_3 lo_1 lo_2 (by decide) (wp_aload_n dc_V_init_4 rfl rfl (wp_aload_n dc_V_init_5 rfl rfl (wq_putF dc_V_init_6 lf_V_9 rfl hq rfl (Nat.le_of_ble_eq_true rfl) (pv_ref rfl) ?_))))
  dsimp only [List.set_cons_succ, List.set_cons_zero, List.cons_append, List.nil_append]
  refine wp_aload_n dc_V_init_9 rfl rfl (wp_aload_n dc_V_init_10 rfl rfl (wq_putF dc_V_init_11 lf_V_15 rfl hq rfl (Nat.le_of_ble_eq_true rfl) (pv_ref rfl) ?_))
  dsimp only [List.set_cons_succ, List.set_cons_zero, List.cons_append, List.nil_append]
  refine wp_aload_n dc_V_init_14 rfl rfl (wq_new dc_V_init_15 (m := 1) (ci := 1) rfl fi_B fo_B lk_V_19 lq_B1 lq_B2 df_B rfl (by decide) (by decide) hq rfl (wp_dup dc_V_init_18 ?_))
  refine wp_callI (As := []) dc_V_init_19 lm_V_21 ls_B_init (by decide) rfl rfl (Nat.le_of_ble_eq_true rfl) (k' := 1) (n' := 1000) (by decide) (by decide) ?_
  rw [gl_ap]
  refine c_B_init (q := q + 1) (gl_len hq rfl) ?_
  rw [← gl_ap]
  refine wq_putF dc_V_init_22 lf_V_22 rfl hq rfl (Nat.le_of_ble_eq_true rfl) (pv_ref rfl) ?_
  dsimp only [List.set_cons_succ, List.set_cons_zero, List.cons_append, List.nil_append]
  refine wp_aload_n dc_V_init_25 rfl rfl (wi_bipush dc_V_init_26 (wq_newa dc_V_init_28 (m := 3) (N := 20) (t := 1) rfl rfl lq_boo (by decide) rfl (by decide) (by decide) (by decide) hq rfl (wq_putF dc_V_init_30 lf_V_25 rfl hq rfl (Nat.le_of_ble_eq_true rfl) (pv_ref rfl) ?_)))
  dsimp only [List.set_cons_succ, List.set_cons_zero, List.cons_append, List.nil_append]
  refine wp_aload_n dc_V_init_33 rfl rfl (wi_bipush dc_V_init_34 (wq_newa dc_V_init_36 (m := 4) (N := 20) (t := 0) rfl rfl lq_int (by decide) rfl (by decide) (by decide) (by decide) hq rfl (wq_putF dc_V_init_38 lf_V_29 rfl hq rfl (Nat.le_of_ble_eq_true rfl) (pv_ref rfl) ?_)))
  dsimp only [List.set_cons_succ, List.set_cons_zero, List.cons_append, List.nil_append]
  refine wp_aload_n dc_V_init_41 rfl rfl (wi_bipush dc_V_init_42 (wq_newa dc_V_init_44 (m := 5) (N := 20) (t := 0) rfl rfl lq_int (by decide) rfl (by decide) (by decide) (by decide) hq rfl (wq_putF dc_V_init_46 lf_V_33 rfl hq rfl (Nat.le_of_ble_eq_true rfl) (pv_ref rfl) ?_)))
  dsimp only [List.set_cons_succ, List.set_cons_zero, List.cons_append, List.nil_append]
  refine wp_aload_n dc_V_init_49 rfl rfl (wi_iconst dc_V_init_50 (wq_put dc_V_init_51 lf_V_36 hq rfl (Nat.le_of_ble_eq_true rfl) pv_int ?_))
  dsimp only [List.set_cons_succ, List.set_cons_zero, List.cons_append, List.nil_append]
  refine wp_aload_n dc_V_init_54 rfl rfl (wi_iconst dc_V_init_55 (wq_put dc_V_init_56 lf_V_40 hq rfl (Nat.le_of_ble_eq_true rfl) pv_int ?_))
  dsimp only [List.set_cons_succ, List.set_cons_zero, List.cons_append, List.nil_append]
  refine wp_return dc_V_init_59 rfl hK
def mh_ : mx_H := [.inr (0, [.ref 1, .ref 3, .ref 12, .ref 45, .int 0, .int 0, .int 1]), .inr (1, [.ref 2, .int 0]), .inl (0, 1000, .inl (fun _ => 0))] ++ ((.inr (2, [.ref 1, .ref 4, .int 0]) :: mu_c 4 7 20) ++ ([.inl (2, 2, .inr (.inr (.inr (.inr (va_up (va_up (fun _ => none) 0 (some 13)) 1 (some 29))))))] ++ (kt_ 13 ++ (kt_ 29 ++ [.inr (6, [.ref 1, .ref 3, .ref 46, .ref 48, .ref 49, .ref 50, .int 0, .int 0]), .inr (1, [.ref 47, .int 0]), .inl (0, 1000, .inl (fun _ => 0)), .inl (1, 20, .inl (fun _ => 0)), .inl (0, 20, .inl (fun _ => 0)), .inl (0, 20, .inl (fun _ => 0))]))))
theorem c_M_init (hK : K none mh_) : ct_m l Y_M_init 50 5910 [.ref 0] [.inr (0, [.null, .null, .null, .null, .int 0, .int 0, .int 0])] K := by
  have hq : ([] : mx_H).length = 0 := rfl
  refine ct_of (L := [.ref 0, .retAddr 0]) (by decide +kernel) (Nat.le_of_ble_eq_true rfl) rfl ?_
  show wp_m l Y_M_init none 50 5910 0 [.ref (0 + 0), .retAddr 0] [] ([] ++ [.inr (0, [.null, .null, .null, .null, .int 0, .int 0, .int 0])]) K
  refine wp_aload_n dc_M_init_0 rfl rfl (wp_objInit dc_M_init_1 lm_M_1 lo_1 lo_2 (by decide) (wp_aload_n dc_M_init_4 rfl rfl (wq_new dc_M_init_5 (m := 1) (ci := 1) rfl fi_B fo_B lk_M_7 lq_B1 lq_B2 df_B rfl (by decide) (by decide) hq rfl (wp_dup dc_M_init_8 ?_))))
  refine wp_callI (As := []) dc_M_init_9 lm_M_9 ls_B_init (by decide) rfl rfl (Nat.le_of_ble_eq_true rfl) (k' := 1) (n' := 1000) (by decide) (by decide) ?_
  rw [gl_ap]
  refine c_B_init (q := 0 + 1) (gl_len hq rfl) ?_
  rw [← gl_ap]
  refine wq_putF dc_M_init_12 lf_M_10 rfl hq rfl (Nat.le_of_ble_eq_true rfl) (pv_ref rfl) ?_
  dsimp only [List.set_cons_succ, List.set_cons_zero, List.cons_append, List.nil_append]
  refine wp_aload_n dc_M_init_15 rfl rfl (wq_new dc_M_init_16 (m := 3) (ci := 2) rfl fi_L fo_L lk_M_16 lq_L1 lq_L2 df_L rfl (by decide) (by decide) hq rfl (wp_dup dc_M_init_19 (wp_aload_n dc_M_init_20 rfl rfl (wq_get dc_M_init_21 lf_M_10 hq rfl rfl ?_))))
  refine wp_callI (As := [_]) dc_M_init_24 lm_M_18 ls_L_init (by decide) rfl rfl (Nat.le_of_ble_eq_true rfl) (k' := 8) (n' := 147) (by decide) (by decide) ?_
  rw [gl_ap]
  refine c_L_init (q := 0 + 3) (gl_len hq rfl) ?_
  rw [← gl_ap]
  refine wq_putF dc_M_init_27 lf_M_21 rfl hq rfl (Nat.le_of_ble_eq_true rfl) (pv_ref rfl) ?_
  dsimp only [List.set_cons_succ, List.set_cons_zero, List.cons_append, List.nil_append]
  refine wp_aload_n dc_M_init_30 rfl rfl (wi_iconst dc_M_init_31 (wq_anew dc_M_init_32 (m := 12) (N := 2) lk_M_25 (by decide) rfl (by decide) (by decide) (by decide) hq rfl ?_))
  refine wq_putF dc_M_init_35 lf_M_27 rfl hq rfl (Nat.le_of_ble_eq_true rfl) (pv_ref rfl) ?_
  dsimp only [List.set_cons_succ, List.set_cons_zero, List.cons_append, List.nil_append]
  refine wi_iconst dc_M_init_38 (wp_is1 dc_M_init_39 ?_)
  refine wp_iload_n dc_M_init_40 rfl rfl (wi_iconst dc_M_init_41 (wi_ic_ge dc_M_init_42 rfl (fun hc => by omega) (fun hc => ?_)))
  refine wp_aload_n dc_M_init_45 rfl rfl (wq_get dc_M_init_46 lf_M_27 hq rfl rfl (wp_iload_n dc_M_init_49 rfl rfl (wq_new dc_M_init_50 (m := 13) (ci := 5) rfl fi_K fo_K lk_M_25 lq_K1 lq_K2 df_K rfl (by decide) (by decide) hq rfl (wp_dup dc_M_init_53 (wp_aload_n dc_M_init_54 rfl rfl (wq_get dc_M_init_55 lf_M_10 hq rfl rfl (wp_aload_n dc_M_init_58 rfl rfl (wq_get dc_M_init_59 lf_M_21 hq rfl rfl ?_))))))))
  refine wp_callI (As := [_, _]) dc_M_init_62 lm_M_31 ls_K_init (by decide) rfl rfl (Nat.le_of_ble_eq_true rfl) (k' := 15) (n' := 1833) (by decide) (by decide) ?_
  rw [gl_ap]
  refine c_K_init (q := 0 + 13) (gl_len hq rfl) ?_
  rw [← gl_ap]
  refine wq_aast (a := 12) (j := 13) dc_M_init_65 hq rfl rfl (by unfold vp_in; decide) rfl rfl ?_
  dsimp only [List.set_cons_succ, List.set_cons_zero, List.cons_append, List.nil_append]
  refine wp_ii1 dc_M_init_66 (wp_goto dc_M_init_69 rfl ?_)
  refine wp_iload_n dc_M_init_40 rfl rfl (wi_iconst dc_M_init_41 (wi_ic_ge dc_M_init_42 rfl (fun hc => by omega) (fun hc => ?_)))
  refine wp_aload_n dc_M_init_45 rfl rfl (wq_get dc_M_init_46 lf_M_27 hq rfl rfl (wp_iload_n dc_M_init_49 rfl rfl (wq_new dc_M_init_50 (m := 29) (ci := 5) rfl fi_K fo_K lk_M_25 lq_K1 lq_K2 df_K rfl (by decide) (by decide) hq rfl (wp_dup dc_M_init_53 (wp_aload_n dc_M_init_54 rfl rfl (wq_get dc_M_init_55 lf_M_10 hq rfl rfl (wp_aload_n dc_M_init_58 rfl rfl (wq_get dc_M_init_59 lf_M_21 hq rfl rfl ?_))))))))
  refine wp_callI (As := [_, _]) dc_M_init_62 lm_M_31 ls_K_init (by decide) rfl rfl (Nat.le_of_ble_eq_true rfl) (k' := 15) (n' := 1833) (by decide) (by decide) ?_
  rw [gl_ap]
  refine c_K_init (q := 0 + 29) (gl_len hq rfl) ?_
  rw [← gl_ap]
  refine wq_aast (a := 12) (j := 29) dc_M_init_65 hq rfl rfl (by unfold vp_in; decide) rfl rfl ?_
  dsimp only [List.set_cons_succ, List.set_cons_zero, List.cons_append, List.nil_append]
  refine wp_ii1 dc_M_init_66 (wp_goto dc_M_init_69 rfl ?_)
  refine wp_iload_n dc_M_init_40 rfl rfl (wi_iconst dc_M_init_41 (wi_ic_ge dc_M_init_42 rfl (fun hc => ?_) (fun hc => by omega)))
  refine wp_aload_n dc_M_init_72 rfl rfl (wq_new dc_M_init_73 (m := 45) (ci := 6) rfl fi_V fo_V lk_M_34 lq_V1 lq_V2 df_V rfl (by decide) (by decide) hq rfl (wp_dup dc_M_init_76 (wp_aload_n dc_M_init_77 rfl rfl (wq_get dc_M_init_78 lf_M_10 hq rfl rfl (wp_aload_n dc_M_init_81 rfl rfl (wq_get dc_M_init_82 lf_M_21 hq rfl rfl ?_))))))
  refine wp_callI (As := [_, _]) dc_M_init_85 lm_M_36 ls_V_init (by decide) rfl rfl (Nat.le_of_ble_eq_true rfl) (k' := 5) (n' := 1062) (by decide) (by decide) ?_
  rw [gl_ap]
  refine c_V_init (q := 0 + 45) (gl_len hq rfl) ?_
  rw [← gl_ap]
  refine wq_putF dc_M_init_88 lf_M_37 rfl hq rfl (Nat.le_of_ble_eq_true rfl) (pv_ref rfl) ?_
  dsimp only [List.set_cons_succ, List.set_cons_zero, List.cons_append, List.nil_append]
  refine wp_aload_n dc_M_init_91 rfl rfl (wi_iconst dc_M_init_92 (wq_put dc_M_init_93 lf_M_41 hq rfl (Nat.le_of_ble_eq_true rfl) pv_int ?_))
  dsimp only [List.set_cons_succ, List.set_cons_zero, List.cons_append, List.nil_append]
  refine wp_aload_n dc_M_init_96 rfl rfl (wi_iconst dc_M_init_97 (wq_put dc_M_init_98 lf_M_45 hq rfl (Nat.le_of_ble_eq_true rfl) pv_int ?_))
  dsimp only [List.set_cons_succ, List.set_cons_zero, List.cons_append, List.nil_append]
  refine wp_aload_n dc_M_init_101 rfl rfl (wi_iconst dc_M_init_102 (wq_put dc_M_init_103 lf_M_48 hq rfl (Nat.le_of_ble_eq_true rfl) pv_1 ?_))
  dsimp only [List.set_cons_succ, List.set_cons_zero, List.cons_append, List.nil_append]
  refine wp_return dc_M_init_106 rfl hK
end CU
