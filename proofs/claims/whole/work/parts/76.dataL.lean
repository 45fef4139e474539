/-! the class's dataHolds -/
theorem dbx_un {n N : Int} {T : px_T} (htt : tt_ n N T) {p k k' : Int} (k0 : 0 ≤ k) (k1 : k < N) (k0' : 0 ≤ k') (k1' : k' < N) (h : DBX_ T p 0 k) (h' : DBX_ T p 0 k') : k = k' := by
  have b := htt.2.2.1 k k0 k1
  have b' := htt.2.2.1 k' k0' k1'
  unfold bx_ at b b'
  obtain ⟨x1, x2, x3, x4⟩ := h
  obtain ⟨y1, y2, y3, y4⟩ := h'
  by_cases e : k < k'
  · have := htt.2.2.2.2 k k' k0 e k1' x1 y1; omega
  by_cases e' : k' < k
  · have := htt.2.2.2.2 k' k k0' e' k1 y1 x1; omega
  omega
/-- the data box around a place -/
theorem dbx_ar {n N : Int} {T : px_T} (htt : tt_ n N T) {p m r : Int} (hm : 0 ≤ m) (hr : ff_ (DBX_ T p 0) N r) : (∃ k, 0 ≤ k ∧ k < N ∧ DBX_ T p m k) ↔ (0 ≤ r ∧ p + m ≤ T 0 r + T 1 r) := by
  constructor
  · rintro ⟨k, k0, k1, k2⟩
    have kz : DBX_ T p 0 k := ⟨k2.1, k2.2.1, k2.2.2.1, by have := k2.2.2.2; omega⟩
    rcases hr with h | h
    · exact absurd kz (h.2 k k0 k1)
    · have e := dbx_un htt k0 k1 h.1 h.2.1 kz h.2.2.1
      rw [← e]
      exact ⟨k0, k2.2.2.2⟩
  · rintro ⟨h1, h2⟩
    rcases hr with h | h
    · omega
    · exact ⟨r, h.1, h.2.1, h.2.2.1.1, h.2.2.1.2.1, h.2.2.1.2.2.1, h2⟩
theorem rwo_0 {F : Int → Int} {s : Int} (h : CK_ F s) (hs : 0 < F s) : rwo_ (fi_ F s) 0 (F s).toNat = 0 := by
  refine rwo_at h (by omega) (by omega) hs (Or.inl rfl) (fun h1 => ?_)
  have := ck_lt h (r := 0) (r' := 0 + 1) (by omega) (by omega) (by omega)
  have e : fi_ F s 0 = 1 := h.1.resolve_left (by omega)
  omega
theorem rwo_S {F : Int → Int} {s c : Int} (h : CK_ F s) (hs : 0 < F s) (hc : 1 ≤ c) : rwo_ (fi_ F s) c (F s).toNat = (if rwo_ (fi_ F s) (c - 1) (F s).toNat + 1 < F s ∧ fi_ F s (rwo_ (fi_ F s) (c - 1) (F s).toNat + 1) ≤ c then rwo_ (fi_ F s) (c - 1) (F s).toNat + 1 else rwo_ (fi_ F s) (c - 1) (F s).toNat) := by
  obtain ⟨w1, w2, w3, w4⟩ := rwo_spec (fi_ F s) (c - 1) (F s).toNat
  have w2 := w2 (by omega)
  generalize rwo_ (fi_ F s) (c - 1) (F s).toNat = x at *
  by_cases hc1 : x + 1 < F s ∧ fi_ F s (x + 1) ≤ c
  · rw [if_pos hc1]
    refine rwo_at h (by omega) (by omega) hc1.1 (Or.inr hc1.2) (fun q => ?_)
    have q1 := ck_lt h (r := x + 1) (r' := x + 1 + 1) (by omega) (by omega) q
    have q2 := w4 (x + 1) (by omega) (by omega)
    omega
  · rw [if_neg hc1]
    refine rwo_at h (by omega) w1 (by omega) ?_ (fun q => ?_)
    · rcases w3 with g | g
      · exact Or.inl g
      · exact Or.inr (by omega)
    · have : ¬ fi_ F s (x + 1) ≤ c := fun g => hc1 ⟨q, g⟩
      omega
section DL
variable {l : Launch} {σ : sg_} {K : Option Value → mx_H → Prop} {F : Int → Int} {n N : Int} {T : px_T} {b : Int} {f : Int → Int} {a : Nat}
theorem lp_L_da {p : Int} {u3 u4 : Value} (hlt : lt_ σ N T) (htt : tt_ n N T) (hn : n ≤ 1000) (hp : 0 ≤ p ∧ p ≤ 65535) (hK : ∀ r, ff_ (DBX_ T p 0) N r → K (some (.int (iI r))) (hp_ σ)) : ∀ (j : Nat) (i : Int) (u3 u4 : Value), i + j = N → 0 ≤ i → (∀ k, 0 ≤ k → k < i → ¬ DBX_ T p 0 k) → wp_m l Y_L_dataAround none 0 0 2 [.ref 3, .int (iI p), .int (iI i), u3, u4] [] (hp_ σ) K := by
  have t2 := htt.2.1
  intro j
  induction j with
  | zero =>
    intro i u3 u4 hi i0 hall
    refine wp_iload_n dc_L_dataAround_2 rfl rfl (wp_aload_n dc_L_dataAround_3 rfl rfl (wi_getE 2 (N) dc_L_dataAround_4 lf_L_20 sh_3 rfl rfl hlt.1 ?_))
    refine wi_ic_ge dc_L_dataAround_7 rfl (fun hd => ?_) (fun hd => ?_)
    · refine wi_iconst dc_L_dataAround_80 ?_
      refine wp_ireturn dc_L_dataAround_81 rfl rfl (hK _ (Or.inl ⟨rfl, fun k k0 k1 => hall k k0 (by omega)⟩))
    · omega
  | succ j ih =>
    intro i u3 u4 hi i0 hall
    have b1 := htt.2.2.1 i i0 (by omega)
    have hkd := kd_dt b1
    have hkr := kd_rg b1
    have bx := b1
    unfold bx_ at bx
    have c0 : σ 5 i = T 0 i := hlt.2.1 0 i (by decide) i0 (by omega)
    have c1 : σ 6 i = T 1 i := hlt.2.1 1 i (by decide) i0 (by omega)
    have c3 : σ 8 i = T 3 i := hlt.2.1 3 i (by decide) i0 (by omega)
    have c6 : σ 11 i = px_kind (T 2 i) (T 4 i) := hlt.2.2 i i0 (by omega)
    have nx : ¬ DBX_ T p 0 i → wp_m l Y_L_dataAround none 0 0 74 [.ref 3, .int (iI p), .int (iI i), .int (iI (T 0 i + T 3 i)), .int (iI (T 0 i + T 1 i))] [] (hp_ σ) K := fun hn => by
      refine wp_ii2 dc_L_dataAround_74 (wp_goto dc_L_dataAround_77 rfl ?_)
      refine ih (i + 1) _ _ (by omega) (by omega) (fun k k0 k1 => ?_)
      by_cases hk : k = i
      · subst hk; exact hn
      · exact hall k k0 (by omega)
    refine wp_iload_n dc_L_dataAround_2 rfl rfl (wp_aload_n dc_L_dataAround_3 rfl rfl (wi_getE 2 (N) dc_L_dataAround_4 lf_L_20 sh_3 rfl rfl hlt.1 ?_))
    refine wi_ic_ge dc_L_dataAround_7 rfl (fun hd => ?_) (fun hd => ?_)
    · omega
    refine wp_aload_n dc_L_dataAround_10 rfl rfl (wi_getR dc_L_dataAround_11 lf_L_17 sh_3 rfl (wi_iconst dc_L_dataAround_14 (wi_aald dc_L_dataAround_15 sh_4 rfl rfl (by decide) (by decide) (by decide) rfl (wp_iload_n dc_L_dataAround_16 rfl rfl (wi_aldE (T 0 i) dc_L_dataAround_17 sh_5 (by omega) (by omega) (by decide) c0 (wp_aload_n dc_L_dataAround_18 rfl rfl (wi_getR dc_L_dataAround_19 lf_L_17 sh_3 rfl (wi_iconst dc_L_dataAround_22 (wi_aald dc_L_dataAround_23 sh_4 rfl rfl (by decide) (by decide) (by decide) rfl (wp_iload_n dc_L_dataAround_24 rfl rfl (wi_aldE (T 3 i) dc_L_dataAround_25 sh_8 (by omega) (by omega) (by decide) c3 (wi_iadd dc_L_dataAround_26 (wp_is3 dc_L_dataAround_27 ?_)))))))))))))
    refine wp_aload_n dc_L_dataAround_28 rfl rfl (wi_getR dc_L_dataAround_29 lf_L_17 sh_3 rfl (wi_iconst dc_L_dataAround_32 (wi_aald dc_L_dataAround_33 sh_4 rfl rfl (by decide) (by decide) (by decide) rfl (wp_iload_n dc_L_dataAround_34 rfl rfl (wi_aldE (T 0 i) dc_L_dataAround_35 sh_5 (by omega) (by omega) (by decide) c0 (wp_aload_n dc_L_dataAround_36 rfl rfl (wi_getR dc_L_dataAround_37 lf_L_17 sh_3 rfl (wi_iconst dc_L_dataAround_40 (wi_aald dc_L_dataAround_41 sh_4 rfl rfl (by decide) (by decide) (by decide) rfl (wp_iload_n dc_L_dataAround_42 rfl rfl (wi_aldE (T 1 i) dc_L_dataAround_43 sh_6 (by omega) (by omega) (by decide) c1 (wi_iadd dc_L_dataAround_44 (wp_is4 dc_L_dataAround_45 ?_)))))))))))))
    refine wp_aload_n dc_L_dataAround_47 rfl rfl (wi_getR dc_L_dataAround_48 lf_L_17 sh_3 rfl (wi_bipush dc_L_dataAround_51 (wi_aald dc_L_dataAround_53 sh_4 rfl rfl (by decide) (by decide) (by decide) rfl (wp_iload_n dc_L_dataAround_54 rfl rfl (wi_aldE (px_kind (T 2 i) (T 4 i)) dc_L_dataAround_55 sh_11 (by omega) (by omega) (by decide) c6 (wi_bipush dc_L_dataAround_56 ?_))))))
    refine wi_ic_ne dc_L_dataAround_58 rfl (fun he => ?_) (fun he => ?_)
    · exact nx (fun h => he (hkd.mpr ⟨h.1, h.2.1⟩))
    have hde := hkd.mp he
    refine wp_iload_n dc_L_dataAround_61 rfl rfl (wp_iload_n dc_L_dataAround_62 rfl rfl ?_)
    refine wi_ic_gt dc_L_dataAround_63 rfl (fun hf => ?_) (fun hf => ?_)
    · exact nx (fun h => by have := h.2.2.1; omega)
    refine wp_iload_n dc_L_dataAround_66 rfl rfl (wp_iload dc_L_dataAround_67 rfl ?_)
    refine wi_ic_gt dc_L_dataAround_69 rfl (fun hg => ?_) (fun hg => ?_)
    · exact nx (fun h => by have := h.2.2.2; omega)
    refine wp_iload_n dc_L_dataAround_72 rfl rfl ?_
    refine wp_ireturn dc_L_dataAround_73 rfl rfl (hK _ (Or.inr ⟨i0, by omega, ⟨hde.1, hde.2, by omega, by omega⟩, hall⟩))
theorem c_L_dataAround {p : Int} (hlt : lt_ σ N T) (htt : tt_ n N T) (hn : n ≤ 1000) (hp : 0 ≤ p ∧ p ≤ 65535) (hK : ∀ r, ff_ (DBX_ T p 0) N r → K (some (.int (iI r))) (hp_ σ)) : ct_m l Y_L_dataAround 0 0 [.ref 3, .int (iI p)] (hp_ σ) K := by
  have t1 := htt.1
  refine ct_of (L := [.ref 3, .int (iI p), .retAddr 0, .retAddr 0, .retAddr 0]) (by decide +kernel) (Nat.le_of_ble_eq_true rfl) rfl ?_
  refine wi_iconst dc_L_dataAround_0 (wp_is2 dc_L_dataAround_1 ?_)
  exact lp_L_da (u3 := .retAddr 0) (u4 := .retAddr 0) hlt htt hn hp hK N.toNat 0 _ _ (by omega) (by omega) (fun k k0 k1 => by omega)
theorem c_K_chunkRow {c : Int} (hx : kk_ σ F n N T a b f) (hR : 0 < F (st_ T (f 2))) (c0 : 1 ≤ c) (c1 : c ≤ 256) (hK : K (some (.int (iI (rwo_ (fi_ F (st_ T (f 2))) c (F (st_ T (f 2))).toNat)))) (hp_ σ)) : ct_m l Y_K_chunkRow 0 0 [.ref a, .int (iI (rwo_ (fi_ F (st_ T (f 2))) (c - 1) (F (st_ T (f 2))).toNat)), .int (iI c)] (hp_ σ) K := by
  obtain ⟨y1, y2, y3, y4, x2, x4, x5, y5⟩ := kk_2 hx
  obtain ⟨hlo, hlt, htt, ⟨hKo, o1, o2, o3, o4, o5, o6, o7⟩, hkt, hrh, hkb⟩ := hx
  have a5 := hlo.2.2.2.2
  have hs2 := a5 (st_ T (f 2))
  rw [rwo_S y5 hR c0] at hK
  obtain ⟨w1, w2, w3, w4⟩ := rwo_spec (fi_ F (st_ T (f 2))) (c - 1) (F (st_ T (f 2))).toNat
  have w2 := w2 (by omega)
  generalize rwo_ (fi_ F (st_ T (f 2))) (c - 1) (F (st_ T (f 2))).toNat = x at *
  have e1 := a5 (st_ T (f 2) + (1 + 3 * (x + 1)))
  have K33 : ∀ o : Int, (o = 1 ∧ x + 1 < F (st_ T (f 2)) ∧ fi_ F (st_ T (f 2)) (x + 1) ≤ c) ∨ (o = 0 ∧ ¬ (x + 1 < F (st_ T (f 2)) ∧ fi_ F (st_ T (f 2)) (x + 1) ≤ c)) → wp_m l Y_K_chunkRow none 0 0 33 [.ref a, .int (iI x), .int (iI c), .retAddr 0] [.int (iI o)] (hp_ σ) K := fun o ho => by
    rcases ho with ⟨rfl, ho⟩ | ⟨rfl, ho⟩
    · rw [if_pos ho] at hK
      refine wp_is3 dc_K_chunkRow_33 (wp_iload_n dc_K_chunkRow_34 rfl rfl ?_)
      refine wi_if_eq dc_K_chunkRow_35 rfl (fun he => ?_) (fun he => ?_)
      · omega
      refine wp_iload_n dc_K_chunkRow_38 rfl rfl (wi_iconst dc_K_chunkRow_39 (wi_iadd dc_K_chunkRow_40 (wp_goto dc_K_chunkRow_41 rfl ?_)))
      refine wp_ireturn dc_K_chunkRow_45 rfl rfl hK
    · rw [if_neg ho] at hK
      refine wp_is3 dc_K_chunkRow_33 (wp_iload_n dc_K_chunkRow_34 rfl rfl ?_)
      refine wi_if_eq dc_K_chunkRow_35 rfl (fun he => ?_) (fun he => ?_)
      rotate_left
      · omega
      refine wp_iload_n dc_K_chunkRow_44 rfl rfl ?_
      refine wp_ireturn dc_K_chunkRow_45 rfl rfl hK
  refine ct_of (L := [.ref a, .int (iI x), .int (iI c), .retAddr 0]) (by decide +kernel) (Nat.le_of_ble_eq_true rfl) rfl ?_
  refine wp_iload_n dc_K_chunkRow_0 rfl rfl (wi_iconst dc_K_chunkRow_1 (wi_iadd dc_K_chunkRow_2 (wp_aload_n dc_K_chunkRow_3 rfl rfl (wi_getR dc_K_chunkRow_4 lf_K_27 hKo rfl ?_))))
  refine wp_callV (As := []) dc_K_chunkRow_7 lm_K_73 ls_T_rows (by decide) rfl rfl (hp_at _ o3) rfl rfl (Nat.le_of_ble_eq_true rfl) (Nat.le_refl _) (Nat.le_refl _) ?_
  refine c_T_rows o3 x5 ?_
  refine wi_ic_ge dc_K_chunkRow_10 rfl (fun hd => ?_) (fun hd => ?_)
  · refine wi_iconst dc_K_chunkRow_32 ?_
    exact K33 0 (Or.inr ⟨rfl, by omega⟩)
  refine wp_aload_n dc_K_chunkRow_13 rfl rfl (wi_getR dc_K_chunkRow_14 lf_K_27 hKo rfl (wp_iload_n dc_K_chunkRow_17 rfl rfl (wi_iconst dc_K_chunkRow_18 (wi_iadd dc_K_chunkRow_19 (wi_iconst dc_K_chunkRow_20 ?_)))))
  refine wp_callV (As := [_, _]) dc_K_chunkRow_21 lm_K_77 ls_T_value (by decide) rfl rfl (hp_at _ o3) rfl rfl (Nat.le_of_ble_eq_true rfl) (Nat.le_refl _) (Nat.le_refl _) ?_
  refine c_T_value o3 hlo x2 x4 (show st_ T (f 2) + 1 + (x + 1) * 3 + 0 = st_ T (f 2) + (1 + 3 * (x + 1)) by omega) (by omega) (by omega) ?_
  refine wp_iload_n dc_K_chunkRow_24 rfl rfl ?_
  refine wi_ic_gt dc_K_chunkRow_25 rfl (fun he => ?_) (fun he => ?_)
  · refine wi_iconst dc_K_chunkRow_32 ?_
    exact K33 0 (Or.inr ⟨rfl, fun h => by have := h.2; exact absurd this (by show ¬ F (st_ T (f 2) + (1 + 3 * (x + 1))) ≤ c; omega)⟩)
  · refine wi_iconst dc_K_chunkRow_28 (wp_goto dc_K_chunkRow_29 rfl ?_)
    exact K33 1 (Or.inl ⟨rfl, by omega, by show F (st_ T (f 2) + (1 + 3 * (x + 1))) ≤ c; omega⟩)
theorem c_K_sizeOf {k : Int} (hx : kk_ σ F n N T a b f) (k0 : 0 ≤ k) (k1 : k < SC_ F T f) (hK : K (some (.int (iI (sz_ F (st_ T (f 3)) k)))) (hp_ σ)) : ct_m l Y_Z_sizeOf 0 0 [.ref (a + 7), .int (iI k)] (hp_ σ) K := by
  obtain ⟨z1, z2, z3, z4, z5, z6, z7⟩ := kk_3 hx
  obtain ⟨hlo, hlt, htt, ⟨hKo, o1, o2, o3, o4, o5, o6, o7⟩, hkt, hrh, hkb⟩ := hx
  have esc : SC_ F T f = F (st_ T (f 3) + 1) := rfl
  refine c_Z_sizeOf o7 hlo z5 z6 (fun h => ?_) hK
  rw [if_pos h] at z4
  omega
theorem c_K_number {c : Int} (hx : kk_ σ F n N T a b f) (c0 : 1 ≤ c) (c1 : c ≤ CC_ F T f) (hK : K (some (.int (iI (pc_ F T f c)))) (hp_ σ)) : ct_m l Y_T_number 0 0 [.ref (a + 4), .int (iI (c - 1))] (hp_ σ) K := by
  obtain ⟨v2, v4, v5⟩ := kk_p hx
  obtain ⟨hlo, hlt, htt, ⟨hKo, o1, o2, o3, o4, o5, o6, o7⟩, hkt, hrh, hkb⟩ := hx
  obtain ⟨p0, p1, p2, p3, p4, p5, p6⟩ := rh_p htt hkt hrh
  have ecc : CC_ F T f = F (st_ T (pj_ f)) := rfl
  unfold pc_ at hK
  rcases p6 with ⟨q1, q2, q3, q4⟩ | ⟨q1, q2, q3, q4, q5⟩
  · rw [if_neg (by omega)] at hK
    rw [q3] at p5 v4
    exact c_T_number1 (e := st_ T (pj_ f) + c) o4 hlo v2 v4 (by omega) (by omega) (by omega) hK
  · rw [if_pos q1] at hK
    rw [q4] at p5 v4
    refine c_T_number2 (e := st_ T (pj_ f) + (2 * c - 1)) o4 hlo v2 v4 (by omega) (by omega) (by omega) ?_
    rw [show st_ T (pj_ f) + (2 * c - 1) + 1 = st_ T (pj_ f) + 2 * c by omega, Int.mul_comm]
    exact hK
theorem lp_K_by {k m : Int} (hx : kk_ σ F n N T a b f) (k0 : 0 ≤ k) (m1 : m ≤ 255) (hk : k + m ≤ SC_ F T f) (hK : K (some (.int (iI (bt_ F (st_ T (f 3)) k m.toNat)))) (hp_ σ)) : ∀ (j i : Nat), (i : Int) + j = m → wp_m l Y_K_bytesOf none 0 0 5 [.ref a, .int (iI k), .int (iI m), .int (iI (bt_ F (st_ T (f 3)) k i)), .int (iI (i : Int))] [] (hp_ σ) K := by
  obtain ⟨hlo, hlt, htt, ⟨hKo, o1, o2, o3, o4, o5, o6, o7⟩, hkt, hrh, hkb⟩ := id hx
  intro j
  induction j with
  | zero =>
    intro i hi
    refine wp_iload dc_K_bytesOf_5 rfl (wp_iload_n dc_K_bytesOf_7 rfl rfl ?_)
    refine wi_ic_ge dc_K_bytesOf_8 rfl (fun hd => ?_) (fun hd => ?_)
    · have e : i = m.toNat := by omega
      subst e
      refine wp_iload_n dc_K_bytesOf_31 rfl rfl ?_
      refine wp_ireturn dc_K_bytesOf_32 rfl rfl hK
    · omega
  | succ j ih =>
    intro i hi
    refine wp_iload dc_K_bytesOf_5 rfl (wp_iload_n dc_K_bytesOf_7 rfl rfl ?_)
    refine wi_ic_ge dc_K_bytesOf_8 rfl (fun hd => ?_) (fun hd => ?_)
    · omega
    refine wp_iload_n dc_K_bytesOf_11 rfl rfl (wp_aload_n dc_K_bytesOf_12 rfl rfl (wi_getR dc_K_bytesOf_13 lf_K_42 hKo rfl (wp_iload_n dc_K_bytesOf_16 rfl rfl (wp_iload dc_K_bytesOf_17 rfl (wi_iadd dc_K_bytesOf_19 ?_)))))
    refine wp_callV (As := [_]) dc_K_bytesOf_20 lm_K_120 ls_Z_sizeOf (by decide) rfl rfl (hp_at _ o7) rfl rfl (Nat.le_of_ble_eq_true rfl) (Nat.le_refl _) (Nat.le_refl _) ?_
    refine c_K_sizeOf hx (by omega) (by omega) ?_
    refine wi_iadd dc_K_bytesOf_23 (wp_is3 dc_K_bytesOf_24 (wp_ii4 dc_K_bytesOf_25 (wp_goto dc_K_bytesOf_28 rfl ?_)))
    exact ih (i + 1) (by omega)
theorem c_K_bytesOf {k m : Int} (hx : kk_ σ F n N T a b f) (k0 : 0 ≤ k) (m0 : 0 ≤ m) (m1 : m ≤ 255) (hk : k + m ≤ SC_ F T f) (hK : K (some (.int (iI (bt_ F (st_ T (f 3)) k m.toNat)))) (hp_ σ)) : ct_m l Y_K_bytesOf 0 0 [.ref a, .int (iI k), .int (iI m)] (hp_ σ) K := by
  refine ct_of (L := [.ref a, .int (iI k), .int (iI m), .retAddr 0, .retAddr 0]) (by decide +kernel) (Nat.le_of_ble_eq_true rfl) rfl ?_
  refine wi_iconst dc_K_bytesOf_0 (wp_is3 dc_K_bytesOf_1 (wi_iconst dc_K_bytesOf_2 (wp_is4 dc_K_bytesOf_3 ?_)))
  exact lp_K_by hx k0 m1 hk hK m.toNat 0 (by omega)
theorem lp_K_dh (hcn : CN_ F T f) (hx : kk_ σ F n N T a b f) (h1 : DA_ F N T f → K (some (.int (iI 1))) (hp_ σ)) (h0 : ¬ DA_ F N T f → K (some (.int (iI 0))) (hp_ σ)) :
    ∀ (j : Nat) (c : Int) (u4 u5 u6 : Value), c + j = CC_ F T f + 1 → 1 ≤ c → (∀ i, 1 ≤ i → i < c → ∃ k, 0 ≤ k ∧ k < N ∧ DBX_ T (pc_ F T f i) (cb_ F T f i) k) → wp_m l Y_K_dataHolds none 0 0 6 [.ref a, .int (iI (ks_ F T f c)), .int (iI (rwo_ (fi_ F (st_ T (f 2))) (c - 1) (F (st_ T (f 2))).toNat)), .int (iI c), u4, u5, u6] [] (hp_ σ) K := by
  obtain ⟨y1, y2, y3, y4, x2, x4, x5, y5⟩ := kk_2 hx
  obtain ⟨v2, v4, v5⟩ := kk_p hx
  obtain ⟨hlo, hlt, htt, ⟨hKo, o1, o2, o3, o4, o5, o6, o7⟩, hkt, hrh, hkb⟩ := id hx
  have n2 := hlo.2.1
  have a5 := hlo.2.2.2.2
  have t2 := htt.2.1
  have hs3 := a5 (st_ T (f 3) + 1)
  have hsp := a5 (st_ T (pj_ f))
  have hs2 := a5 (st_ T (f 2))
  have esc : SC_ F T f = F (st_ T (f 3) + 1) := rfl
  have ecc : CC_ F T f = F (st_ T (pj_ f)) := rfl
  intro j
  induction j with
  | zero =>
    intro c u4 u5 u6 hi c0 hall
    refine wp_iload_n dc_K_dataHolds_6 rfl rfl (wp_aload_n dc_K_dataHolds_7 rfl rfl (wi_getR dc_K_dataHolds_8 lf_K_30 hKo rfl ?_))
    refine wp_callV (As := []) dc_K_dataHolds_11 lm_K_73 ls_T_rows (by decide) rfl rfl (hp_at _ o4) rfl rfl (Nat.le_of_ble_eq_true rfl) (Nat.le_refl _) (Nat.le_refl _) ?_
    refine c_T_rows o4 v5 ?_
    refine wi_ic_gt dc_K_dataHolds_14 rfl (fun hd => ?_) (fun hd => ?_)
    · refine wi_iconst dc_K_dataHolds_99 ?_
      refine wp_ireturn dc_K_dataHolds_100 rfl rfl (h1 (fun i i0 i1 => hall i i0 (by omega)))
    · omega
  | succ j ih =>
    intro c u4 u5 u6 hi c0 hall
    have mr := mn_rg a5 (st_ T (f 2)) c
    obtain ⟨kl0, kl1⟩ := ks_le a5 hcn c0 (by omega)
    have pr := pc_rg a5 T f c
    have br := bt_rg a5 (st_ T (f 3)) (ks_ F T f c) (mn_ F (st_ T (f 2)) c).toNat
    have ecb : cb_ F T f c = bt_ F (st_ T (f 3)) (ks_ F T f c) (mn_ F (st_ T (f 2)) c).toNat := rfl
    have hR : 0 < F (st_ T (f 2)) := by have := hcn.2.2.1; omega
    have rgx : rg (pc_ F T f c + bt_ F (st_ T (f 3)) (ks_ F T f c) (mn_ F (st_ T (f 2)) c).toNat) := ⟨by omega, by omega⟩
    obtain ⟨w1, w2, -⟩ := rwo_spec (fi_ F (st_ T (f 2))) c (F (st_ T (f 2))).toNat
    have w2 := w2 (by omega)
    refine wp_iload_n dc_K_dataHolds_6 rfl rfl (wp_aload_n dc_K_dataHolds_7 rfl rfl (wi_getR dc_K_dataHolds_8 lf_K_30 hKo rfl ?_))
    refine wp_callV (As := []) dc_K_dataHolds_11 lm_K_73 ls_T_rows (by decide) rfl rfl (hp_at _ o4) rfl rfl (Nat.le_of_ble_eq_true rfl) (Nat.le_refl _) (Nat.le_refl _) ?_
    refine c_T_rows o4 v5 ?_
    refine wi_ic_gt dc_K_dataHolds_14 rfl (fun hd => ?_) (fun hd => ?_)
    · omega
    refine wp_aload_n dc_K_dataHolds_17 rfl rfl (wp_iload_n dc_K_dataHolds_18 rfl rfl (wp_iload_n dc_K_dataHolds_19 rfl rfl ?_))
    refine wp_callV (As := [_, _]) dc_K_dataHolds_20 lm_K_104 ls_K_chunkRow (by decide) rfl rfl (hp_at _ hKo) rfl rfl (Nat.le_of_ble_eq_true rfl) (Nat.le_refl _) (Nat.le_refl _) ?_
    refine c_K_chunkRow hx hR c0 (by omega) ?_
    refine wp_is2 dc_K_dataHolds_23 (wp_aload_n dc_K_dataHolds_24 rfl rfl (wi_getR dc_K_dataHolds_25 lf_K_27 hKo rfl (wp_iload_n dc_K_dataHolds_28 rfl rfl (wi_iconst dc_K_dataHolds_29 ?_))))
    refine wp_callV (As := [_, _]) dc_K_dataHolds_30 lm_K_77 ls_T_value (by decide) rfl rfl (hp_at _ o3) rfl rfl (Nat.le_of_ble_eq_true rfl) (Nat.le_refl _) (Nat.le_refl _) ?_
    refine c_T_value o3 hlo x2 x4 (show st_ T (f 2) + 1 + rwo_ (fi_ F (st_ T (f 2))) c (F (st_ T (f 2))).toNat * 3 + 1 = st_ T (f 2) + (2 + 3 * rwo_ (fi_ F (st_ T (f 2))) c (F (st_ T (f 2))).toNat) by omega) (by omega) (by omega) ?_
    rw [show F (st_ T (f 2) + (2 + 3 * rwo_ (fi_ F (st_ T (f 2))) c (F (st_ T (f 2))).toNat)) = mn_ F (st_ T (f 2)) c from rfl]
    refine wp_is4 dc_K_dataHolds_33 (wp_aload_n dc_K_dataHolds_35 rfl rfl (wi_getR dc_K_dataHolds_36 lf_K_30 hKo rfl (wp_iload_n dc_K_dataHolds_39 rfl rfl (wi_iconst dc_K_dataHolds_40 (wi_isub dc_K_dataHolds_41 ?_)))))
    refine wp_callV (As := [_]) dc_K_dataHolds_42 lm_K_107 ls_T_number (by decide) rfl rfl (hp_at _ o4) rfl rfl (Nat.le_of_ble_eq_true rfl) (Nat.le_refl _) (Nat.le_refl _) ?_
    refine c_K_number hx c0 (by omega) ?_
    refine wp_is5 dc_K_dataHolds_45 (wp_aload_n dc_K_dataHolds_47 rfl rfl (wi_getR dc_K_dataHolds_48 lf_K_9 hKo rfl (wp_iload dc_K_dataHolds_51 rfl ?_)))
    refine wp_callV (As := [_]) dc_K_dataHolds_53 lm_K_111 ls_L_dataAround (by decide) rfl rfl (hp_at _ sh_3) rfl rfl (Nat.le_of_ble_eq_true rfl) (Nat.le_refl _) (Nat.le_refl _) ?_
    refine c_L_dataAround hlt htt n2 pr (fun r hr => ?_)
    have hrN : -1 ≤ r ∧ r < N := by rcases hr with h | h <;> omega
    have ar := dbx_ar htt (m := cb_ F T f c) (by omega) hr
    have no : ¬ (0 ≤ r ∧ pc_ F T f c + cb_ F T f c ≤ T 0 r + T 1 r) → wp_m l Y_K_dataHolds none 0 0 86 [.ref a, .int (iI (ks_ F T f c)), .int (iI (rwo_ (fi_ F (st_ T (f 2))) c (F (st_ T (f 2))).toNat)), .int (iI c), .int (iI (mn_ F (st_ T (f 2)) c)), .int (iI (pc_ F T f c)), .int (iI r)] [] (hp_ σ) K := fun hn => by
      refine wi_iconst dc_K_dataHolds_86 ?_
      refine wp_ireturn dc_K_dataHolds_87 rfl rfl (h0 (fun h => hn (ar.mp (h c c0 (by omega)))))
    refine wp_is6 dc_K_dataHolds_56 (wp_iload dc_K_dataHolds_58 rfl (wi_iconst dc_K_dataHolds_60 ?_))
    refine wi_ic_eq dc_K_dataHolds_61 rfl (fun he => ?_) (fun he => ?_)
    · exact no (by omega)
    have bx := htt.2.2.1 r (by omega) (by omega)
    unfold bx_ at bx
    refine wp_iload dc_K_dataHolds_64 rfl (wp_aload_n dc_K_dataHolds_66 rfl rfl (wp_iload_n dc_K_dataHolds_67 rfl rfl (wp_iload dc_K_dataHolds_68 rfl ?_)))
    refine wp_callV (As := [_, _]) dc_K_dataHolds_70 lm_K_114 ls_K_bytesOf (by decide) rfl rfl (hp_at _ hKo) rfl rfl (Nat.le_of_ble_eq_true rfl) (Nat.le_refl _) (Nat.le_refl _) ?_
    refine c_K_bytesOf hx kl0 mr.1 mr.2 kl1 ?_
    refine wi_iadd dc_K_dataHolds_73 (wp_aload_n dc_K_dataHolds_74 rfl rfl (wi_getR dc_K_dataHolds_75 lf_K_9 hKo rfl (wp_iload dc_K_dataHolds_78 rfl ?_)))
    refine wp_callV (As := [_]) dc_K_dataHolds_80 lm_K_117 ls_L_endOf (by decide) rfl rfl (hp_at _ sh_3) rfl rfl (Nat.le_of_ble_eq_true rfl) (Nat.le_refl _) (Nat.le_refl _) ?_
    refine c_L_endOf' hlt htt (by omega) (by omega) ?_
    refine wi_ic_le dc_K_dataHolds_83 rfl (fun hf => ?_) (fun hf => ?_)
    · refine wp_iload_n dc_K_dataHolds_88 rfl rfl (wp_iload dc_K_dataHolds_89 rfl ?_)
      refine wi_iadd dc_K_dataHolds_91 ?_
      rw [← ks_S c0]
      refine wp_is1 dc_K_dataHolds_92 (wp_ii3 dc_K_dataHolds_93 (wp_goto dc_K_dataHolds_96 rfl ?_))
      have nx := ih (c + 1) (.int (iI (mn_ F (st_ T (f 2)) c))) (.int (iI (pc_ F T f c))) (.int (iI r)) (by omega) (by omega) (fun i i0 i1 => by
        by_cases e : i = c
        · rw [e]; exact ar.mpr ⟨by omega, by omega⟩
        · exact hall i i0 (by omega))
      rw [show c + 1 - 1 = c by omega] at nx
      exact nx
    · exact no (by omega)
theorem c_K_dataHolds (hcn : CN_ F T f) (hx : kk_ σ F n N T a b f) (h1 : DA_ F N T f → K (some (.int (iI 1))) (hp_ σ)) (h0 : ¬ DA_ F N T f → K (some (.int (iI 0))) (hp_ σ)) : ct_m l Y_K_dataHolds 0 0 [.ref a] (hp_ σ) K := by
  have a5 := hx.1.2.2.2.2
  have hsp := a5 (st_ T (pj_ f))
  have hs2 := a5 (st_ T (f 2))
  have ecc : CC_ F T f = F (st_ T (pj_ f)) := rfl
  have e0 : rwo_ (fi_ F (st_ T (f 2))) (1 - 1) (F (st_ T (f 2))).toNat = 0 := by
    by_cases h : 0 < F (st_ T (f 2))
    · exact rwo_0 (kk_2 hx).2.2.2.2.2.2.2 h
    · rw [show (F (st_ T (f 2))).toNat = 0 by omega]; rfl
  have h := lp_K_dh (l := l) hcn hx h1 h0 (CC_ F T f).toNat 1 (.retAddr 0) (.retAddr 0) (.retAddr 0) (by omega) (by omega) (fun i i0 i1 => by omega)
  rw [e0] at h
  refine ct_of (L := [.ref a, .retAddr 0, .retAddr 0, .retAddr 0, .retAddr 0, .retAddr 0, .retAddr 0]) (by decide +kernel) (Nat.le_of_ble_eq_true rfl) rfl ?_
  refine wi_iconst dc_K_dataHolds_0 (wp_is1 dc_K_dataHolds_1 (wi_iconst dc_K_dataHolds_2 (wp_is2 dc_K_dataHolds_3 (wi_iconst dc_K_dataHolds_4 (wp_is3 dc_K_dataHolds_5 ?_)))))
  exact h
end DL
