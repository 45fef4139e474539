/-! the class's countsHold -/
/-- a track whose tables are as they must be, on the class's side -/
def kk_ (σ : sg_) (F : Int → Int) (n N : Int) (T : px_T) (a : Nat) (b : Int) (f : Int → Int) : Prop := lo_ σ F n ∧ lt_ σ N T ∧ tt_ n N T ∧ kbo_ a ∧ KT_ N T b f ∧ RH_ F T f ∧ bdk_ σ F T a f
theorem sm_const {g : Int → Int} {v : Int} (x : Nat) : ∀ d : Nat, (∀ i : Nat, x ≤ i → i < x + d → g i = v) → sm_ g (x + d) = sm_ g x + d * v
  | 0, _ => by simp
  | d + 1, h => by
    have h1 := sm_const x d (fun i h1 h2 => h i h1 (by omega))
    have h2 := h (x + d) (by omega) (by omega)
    show sm_ g (x + d) + g ((x + d : Nat) : Int) = _
    rw [h1, h2, Int.natCast_add, Int.add_mul]
    simp [Int.add_assoc]
theorem ck_gr {F : Int → Int} {s : Int} (h : CK_ F s) : ∀ (d : Nat) (r : Int), 0 ≤ r → r + 1 + d < F s → fi_ F s r < fi_ F s (r + 1 + d) := by
  intro d
  induction d with
  | zero =>
    intro r r0 r1
    have := h.2.1 (r + 1) (by omega) (by omega)
    rw [show r + 1 - 1 = r by omega] at this
    rw [show r + 1 + ((0 : Nat) : Int) = r + 1 by omega]
    exact this
  | succ d ih =>
    intro r r0 r1
    have h1 := ih r r0 (by omega)
    have h2 := h.2.1 (r + 1 + d + 1) (by omega) (by omega)
    rw [show r + 1 + (d : Int) + 1 - 1 = r + 1 + d by omega] at h2
    rw [show r + 1 + ((d + 1 : Nat) : Int) = r + 1 + d + 1 by omega]
    exact Int.lt_trans h1 h2
theorem ck_lt {F : Int → Int} {s : Int} (h : CK_ F s) {r r' : Int} (r0 : 0 ≤ r) (hr : r < r') (r1 : r' < F s) : fi_ F s r < fi_ F s r' := by
  have := ck_gr h (r' - r - 1).toNat r r0 (by omega)
  rwa [show r + 1 + ((r' - r - 1).toNat : Int) = r' by omega] at this
/-- the row of a chunk, where the rows are as they must be -/
theorem rwo_at {F : Int → Int} {s r c : Int} (h : CK_ F s) (hs : 0 ≤ F s) (r0 : 0 ≤ r) (r1 : r < F s) (h1 : r = 0 ∨ fi_ F s r ≤ c) (h2 : r + 1 < F s → c < fi_ F s (r + 1)) : rwo_ (fi_ F s) c (F s).toNat = r := by
  refine rwo_eq r0 (by omega) h1 (fun r' q1 q2 => ?_)
  have g := h2 (by omega)
  by_cases e : r' = r + 1
  · rw [e]; exact g
  · exact Int.lt_trans g (ck_lt h (by omega) (by omega) (by omega))
def nx_ (F : Int → Int) (s CC r : Int) : Int := if r = F s then CC + 1 else fi_ F s r
section CL
variable {l : Launch} {σ : sg_} {K : Option Value → mx_H → Prop} {F : Int → Int} {n N : Int} {T : px_T} {b : Int} {f : Int → Int} {a : Nat}
theorem tb_in {x : Nat} {j w : Int} (h : tb_ σ F T x j w) (hj : 0 ≤ j) (hp : 1 ≤ pl_ T j) : σ x 1 = 1 ∧ σ x 2 = st_ T j ∧ σ x 4 = w ∧ σ x 5 = F (st_ T j) := by
  obtain ⟨h1, h2, h3, h4, h5⟩ := h
  rw [if_neg (by omega)] at h1 h2 h5
  rw [if_pos hp] at h5
  exact ⟨h1, h2, h4, h5⟩
theorem kk_2 (hx : kk_ σ F n N T a b f) : 0 ≤ f 2 ∧ f 2 < N ∧ 0 ≤ st_ T (f 2) ∧ st_ T (f 2) + 1 + 3 * F (st_ T (f 2)) ≤ n ∧ σ (a + 3) 2 = st_ T (f 2) ∧ σ (a + 3) 4 = 3 ∧ σ (a + 3) 5 = F (st_ T (f 2)) ∧ CK_ F (st_ T (f 2)) := by
  obtain ⟨hlo, hlt, htt, hk, hkt, hrh, hkb⟩ := hx
  have k2 := hkt.2.2.1
  obtain ⟨g1, g2, g3, -, g5⟩ := rh_q htt hkt hrh (q := 2) (by omega) (by omega) k2
  have g5 := g5 (by omega)
  rw [show wd_ 2 = 3 from rfl] at g5
  have h := tb_in hkb.2.2.1 k2 g5.1
  exact ⟨k2, g1, g2, by omega, h.2.1, h.2.2.1, h.2.2.2, ((ro_chk (fun i => (hlo.2.2.2.2 i).1)).mp (hrh 2 (by omega) (by omega) k2)).2⟩
theorem kk_p (hx : kk_ σ F n N T a b f) : σ (a + 4) 2 = st_ T (pj_ f) ∧ σ (a + 4) 4 = pw_ f ∧ σ (a + 4) 5 = CC_ F T f := by
  obtain ⟨hlo, hlt, htt, hk, hkt, hrh, hkb⟩ := hx
  obtain ⟨p0, p1, p2, p3, p4, p5, p6⟩ := rh_p htt hkt hrh
  have h := tb_in hkb.2.2.2.1 p0 p4
  exact ⟨h.2.1, h.2.2.1, h.2.2.2⟩
theorem kk_3 (hx : kk_ σ F n N T a b f) : 0 ≤ st_ T (f 3) ∧ st_ T (f 3) + pl_ T (f 3) ≤ n ∧ 2 ≤ pl_ T (f 3) ∧ pl_ T (f 3) = (if F (st_ T (f 3)) = 0 then 2 + F (st_ T (f 3) + 1) else 2) ∧ σ (a + 7) 1 = st_ T (f 3) ∧ σ (a + 7) 3 = F (st_ T (f 3)) ∧ σ (a + 7) 4 = SC_ F T f := by
  obtain ⟨hlo, hlt, htt, hk, hkt, hrh, hkb⟩ := hx
  have k3 := hkt.2.2.2.1
  obtain ⟨g1, g2, g3, g4, -⟩ := rh_q htt hkt hrh (q := 3) (by omega) (by omega) k3
  obtain ⟨g4, g5⟩ := g4 rfl
  obtain ⟨z1, z2, z3, z4⟩ := hkb.2.2.2.2.2.2
  rw [if_pos g4] at z3 z4
  exact ⟨g2, g3, g4, g5, z1, z3, z4⟩
theorem lp_K_crm (hx : kk_ σ F n N T a b f) (h1 : (∀ r, 0 ≤ r → r < F (st_ T (f 2)) → fi_ F (st_ T (f 2)) r ≤ CC_ F T f) → K (some (.int (iI 1))) (hp_ σ)) (h0 : ¬ (∀ r, 0 ≤ r → r < F (st_ T (f 2)) → fi_ F (st_ T (f 2)) r ≤ CC_ F T f) → K (some (.int (iI 0))) (hp_ σ)) : ∀ (m : Nat) (i : Int), i + m = F (st_ T (f 2)) → 0 ≤ i → (∀ r, 0 ≤ r → r < i → fi_ F (st_ T (f 2)) r ≤ CC_ F T f) → wp_m l Y_K_chunkRowsMeetChunks none 0 0 24 [.ref a, .int (iI i)] [] (hp_ σ) K := by
  obtain ⟨y1, y2, y3, y4, x2, x4, x5, y5⟩ := kk_2 hx
  obtain ⟨v2, v4, v5⟩ := kk_p hx
  obtain ⟨hlo, hlt, htt, ⟨hKo, o1, o2, o3, o4, o5, o6, o7⟩, hkt, hrh, hkb⟩ := hx
  have a5 := hlo.2.2.2.2
  have hs2 := a5 (st_ T (f 2))
  have hsp := a5 (st_ T (pj_ f))
  have ecc : CC_ F T f = F (st_ T (pj_ f)) := rfl
  intro m
  induction m with
  | zero =>
    intro i hi i0 hall
    have e : i = F (st_ T (f 2)) := by omega
    refine wp_iload_n dc_K_chunkRowsMeetChunks_24 rfl rfl (wp_aload_n dc_K_chunkRowsMeetChunks_25 rfl rfl (wi_getR dc_K_chunkRowsMeetChunks_26 lf_K_27 hKo rfl ?_))
    refine wp_callV (As := []) dc_K_chunkRowsMeetChunks_29 lm_K_73 ls_T_rows (by decide) rfl rfl (hp_at _ o3) rfl rfl (Nat.le_of_ble_eq_true rfl) (Nat.le_refl _) (Nat.le_refl _) ?_
    refine c_T_rows o3 x5 ?_
    refine wi_ic_ge dc_K_chunkRowsMeetChunks_32 rfl (fun hd => ?_) (fun hd => ?_)
    · refine wi_iconst dc_K_chunkRowsMeetChunks_62 ?_
      refine wp_ireturn dc_K_chunkRowsMeetChunks_63 rfl rfl (h1 (fun r r0 r1 => hall r r0 (by omega)))
    · omega
  | succ m ih =>
    intro i hi i0 hall
    have e1 := a5 (st_ T (f 2) + (1 + 3 * i))
    refine wp_iload_n dc_K_chunkRowsMeetChunks_24 rfl rfl (wp_aload_n dc_K_chunkRowsMeetChunks_25 rfl rfl (wi_getR dc_K_chunkRowsMeetChunks_26 lf_K_27 hKo rfl ?_))
    refine wp_callV (As := []) dc_K_chunkRowsMeetChunks_29 lm_K_73 ls_T_rows (by decide) rfl rfl (hp_at _ o3) rfl rfl (Nat.le_of_ble_eq_true rfl) (Nat.le_refl _) (Nat.le_refl _) ?_
    refine c_T_rows o3 x5 ?_
    refine wi_ic_ge dc_K_chunkRowsMeetChunks_32 rfl (fun hd => ?_) (fun hd => ?_)
    · omega
    refine wp_aload_n dc_K_chunkRowsMeetChunks_35 rfl rfl (wi_getR dc_K_chunkRowsMeetChunks_36 lf_K_27 hKo rfl (wp_iload_n dc_K_chunkRowsMeetChunks_39 rfl rfl (wi_iconst dc_K_chunkRowsMeetChunks_40 ?_)))
    refine wp_callV (As := [_, _]) dc_K_chunkRowsMeetChunks_41 lm_K_77 ls_T_value (by decide) rfl rfl (hp_at _ o3) rfl rfl (Nat.le_of_ble_eq_true rfl) (Nat.le_refl _) (Nat.le_refl _) ?_
    refine c_T_value o3 hlo x2 x4 (show st_ T (f 2) + 1 + i * 3 + 0 = st_ T (f 2) + (1 + 3 * i) by omega) (by omega) (by omega) ?_
    refine wp_aload_n dc_K_chunkRowsMeetChunks_44 rfl rfl (wi_getR dc_K_chunkRowsMeetChunks_45 lf_K_30 hKo rfl ?_)
    refine wp_callV (As := []) dc_K_chunkRowsMeetChunks_48 lm_K_73 ls_T_rows (by decide) rfl rfl (hp_at _ o4) rfl rfl (Nat.le_of_ble_eq_true rfl) (Nat.le_refl _) (Nat.le_refl _) ?_
    refine c_T_rows o4 v5 ?_
    refine wi_ic_le dc_K_chunkRowsMeetChunks_51 rfl (fun he => ?_) (fun he => ?_)
    · refine wp_ii1 dc_K_chunkRowsMeetChunks_56 (wp_goto dc_K_chunkRowsMeetChunks_59 rfl ?_)
      refine ih (i + 1) (by omega) (by omega) (fun r r0 r1 => ?_)
      by_cases hr : r = i
      · subst hr; exact he
      · exact hall r r0 (by omega)
    · refine wi_iconst dc_K_chunkRowsMeetChunks_54 ?_
      refine wp_ireturn dc_K_chunkRowsMeetChunks_55 rfl rfl (h0 (fun h => he (h i i0 (by omega))))
theorem c_K_chunkRowsMeetChunks (hx : kk_ σ F n N T a b f) (h1 : (¬ (0 < CC_ F T f ∧ F (st_ T (f 2)) = 0) ∧ ∀ r, 0 ≤ r → r < F (st_ T (f 2)) → fi_ F (st_ T (f 2)) r ≤ CC_ F T f) → K (some (.int (iI 1))) (hp_ σ)) (h0 : ¬ (¬ (0 < CC_ F T f ∧ F (st_ T (f 2)) = 0) ∧ ∀ r, 0 ≤ r → r < F (st_ T (f 2)) → fi_ F (st_ T (f 2)) r ≤ CC_ F T f) → K (some (.int (iI 0))) (hp_ σ)) : ct_m l Y_K_chunkRowsMeetChunks 0 0 [.ref a] (hp_ σ) K := by
  obtain ⟨y1, y2, y3, y4, x2, x4, x5, y5⟩ := kk_2 hx
  obtain ⟨v2, v4, v5⟩ := kk_p hx
  obtain ⟨hlo, hlt, htt, ⟨hKo, o1, o2, o3, o4, o5, o6, o7⟩, hkt, hrh, hkb⟩ := id hx
  have a5 := hlo.2.2.2.2
  have hs2 := a5 (st_ T (f 2))
  have hsp := a5 (st_ T (pj_ f))
  have ecc : CC_ F T f = F (st_ T (pj_ f)) := rfl
  have K22 : ¬ (0 < CC_ F T f ∧ F (st_ T (f 2)) = 0) → wp_m l Y_K_chunkRowsMeetChunks none 0 0 22 [.ref a, .retAddr 0] [] (hp_ σ) K := fun hn => by
    refine wi_iconst dc_K_chunkRowsMeetChunks_22 (wp_is1 dc_K_chunkRowsMeetChunks_23 ?_)
    exact lp_K_crm hx (fun h => h1 ⟨hn, h⟩) (fun h => h0 (fun hh => h hh.2)) (F (st_ T (f 2))).toNat 0 (by omega) (by omega) (fun r r0 r1 => by omega)
  refine ct_of (L := [.ref a, .retAddr 0]) (by decide +kernel) (Nat.le_of_ble_eq_true rfl) rfl ?_
  refine wp_aload_n dc_K_chunkRowsMeetChunks_0 rfl rfl (wi_getR dc_K_chunkRowsMeetChunks_1 lf_K_30 hKo rfl ?_)
  refine wp_callV (As := []) dc_K_chunkRowsMeetChunks_4 lm_K_73 ls_T_rows (by decide) rfl rfl (hp_at _ o4) rfl rfl (Nat.le_of_ble_eq_true rfl) (Nat.le_refl _) (Nat.le_refl _) ?_
  refine c_T_rows o4 v5 ?_
  refine wi_if_le dc_K_chunkRowsMeetChunks_7 rfl (fun hd => ?_) (fun hd => ?_)
  · exact K22 (by omega)
  refine wp_aload_n dc_K_chunkRowsMeetChunks_10 rfl rfl (wi_getR dc_K_chunkRowsMeetChunks_11 lf_K_27 hKo rfl ?_)
  refine wp_callV (As := []) dc_K_chunkRowsMeetChunks_14 lm_K_73 ls_T_rows (by decide) rfl rfl (hp_at _ o3) rfl rfl (Nat.le_of_ble_eq_true rfl) (Nat.le_refl _) (Nat.le_refl _) ?_
  refine c_T_rows o3 x5 ?_
  refine wi_if_ne dc_K_chunkRowsMeetChunks_17 rfl (fun he => ?_) (fun he => ?_)
  · exact K22 (by omega)
  · refine wi_iconst dc_K_chunkRowsMeetChunks_20 ?_
    refine wp_ireturn dc_K_chunkRowsMeetChunks_21 rfl rfl (h0 (fun h => h.1 ⟨by omega, he⟩))
abbrev smn_ (F : Int → Int) (s : Int) (m : Int) : Int := sm_ (fun c => mn_ F s (c + 1)) m.toNat
theorem smn_step {s CC r : Int} (hF : ∀ i, 0 ≤ F i ∧ F i < 256) (hck : CK_ F s) (hle : ∀ r, 0 ≤ r → r < F s → fi_ F s r ≤ CC) (r0 : 0 ≤ r) (r1 : r < F s) : smn_ F s (nx_ F s CC (r + 1) - 1) = smn_ F s (fi_ F s r - 1) + (nx_ F s CC (r + 1) - fi_ F s r) * F (s + (2 + 3 * r)) := by
  have hs := hF s
  have h1 : 1 ≤ fi_ F s r := by
    have h0 : fi_ F s 0 = 1 := hck.1.resolve_left (by omega)
    by_cases e : r = 0
    · rw [e]; omega
    · have := ck_lt hck (Int.le_refl 0) (show 0 < r by omega) r1
      omega
  have h2 : fi_ F s r < nx_ F s CC (r + 1) ∧ ∀ c, c < nx_ F s CC (r + 1) → r + 1 < F s → c < fi_ F s (r + 1) := by
    unfold nx_
    by_cases e : r + 1 = F s
    · rw [if_pos e]
      have := hle r r0 r1
      exact ⟨by omega, fun c _ h => by omega⟩
    · rw [if_neg e]
      exact ⟨ck_lt hck r0 (by omega) (by omega), fun c h _ => h⟩
  have key := sm_const (g := fun c => mn_ F s (c + 1)) (v := F (s + (2 + 3 * r))) (fi_ F s r - 1).toNat (nx_ F s CC (r + 1) - fi_ F s r).toNat (fun i i0 i1 => by
    show mn_ F s ((i : Int) + 1) = _
    unfold mn_
    rw [rwo_at hck hs.1 r0 r1 (Or.inr (by omega)) (h2.2 _ (by omega))])
  rw [show (fi_ F s r - 1).toNat + (nx_ F s CC (r + 1) - fi_ F s r).toNat = (nx_ F s CC (r + 1) - 1).toNat by omega] at key
  show sm_ _ _ = _
  rw [key, show ((nx_ F s CC (r + 1) - fi_ F s r).toNat : Int) = nx_ F s CC (r + 1) - fi_ F s r by omega]
theorem lp_K_sic (hx : kk_ σ F n N T a b f) (hle : ∀ r, 0 ≤ r → r < F (st_ T (f 2)) → fi_ F (st_ T (f 2)) r ≤ CC_ F T f) (hK : K (some (.int (iI (smn_ F (st_ T (f 2)) (CC_ F T f))))) (hp_ σ)) : ∀ (m : Nat) (i : Int) (u3 u4 : Value), i + m = F (st_ T (f 2)) → 0 ≤ i → wp_m l Y_K_samplesInChunks none 0 0 4 [.ref a, .int (iI (smn_ F (st_ T (f 2)) (nx_ F (st_ T (f 2)) (CC_ F T f) i - 1))), .int (iI i), u3, u4] [] (hp_ σ) K := by
  obtain ⟨y1, y2, y3, y4, x2, x4, x5, y5⟩ := kk_2 hx
  obtain ⟨v2, v4, v5⟩ := kk_p hx
  obtain ⟨hlo, hlt, htt, ⟨hKo, o1, o2, o3, o4, o5, o6, o7⟩, hkt, hrh, hkb⟩ := hx
  have a5 := hlo.2.2.2.2
  have hs2 := a5 (st_ T (f 2))
  have hsp := a5 (st_ T (pj_ f))
  have ecc : CC_ F T f = F (st_ T (pj_ f)) := rfl
  intro m
  induction m with
  | zero =>
    intro i u3 u4 hi i0
    have e : i = F (st_ T (f 2)) := by omega
    have e2 : nx_ F (st_ T (f 2)) (CC_ F T f) i - 1 = CC_ F T f := by unfold nx_; rw [if_pos e]; omega
    rw [e2]
    refine wp_iload_n dc_K_samplesInChunks_4 rfl rfl (wp_aload_n dc_K_samplesInChunks_5 rfl rfl (wi_getR dc_K_samplesInChunks_6 lf_K_27 hKo rfl ?_))
    refine wp_callV (As := []) dc_K_samplesInChunks_9 lm_K_73 ls_T_rows (by decide) rfl rfl (hp_at _ o3) rfl rfl (Nat.le_of_ble_eq_true rfl) (Nat.le_refl _) (Nat.le_refl _) ?_
    refine c_T_rows o3 x5 ?_
    refine wi_ic_ge dc_K_samplesInChunks_12 rfl (fun hd => ?_) (fun hd => ?_)
    · refine wp_iload_n dc_K_samplesInChunks_94 rfl rfl ?_
      refine wp_ireturn dc_K_samplesInChunks_95 rfl rfl hK
    · omega
  | succ m ih =>
    intro i u3 u4 hi i0
    have st := smn_step a5 y5 hle i0 (by omega)
    have ei : nx_ F (st_ T (f 2)) (CC_ F T f) i = fi_ F (st_ T (f 2)) i := if_neg (by omega)
    rw [ei]
    refine wp_iload_n dc_K_samplesInChunks_4 rfl rfl (wp_aload_n dc_K_samplesInChunks_5 rfl rfl (wi_getR dc_K_samplesInChunks_6 lf_K_27 hKo rfl ?_))
    refine wp_callV (As := []) dc_K_samplesInChunks_9 lm_K_73 ls_T_rows (by decide) rfl rfl (hp_at _ o3) rfl rfl (Nat.le_of_ble_eq_true rfl) (Nat.le_refl _) (Nat.le_refl _) ?_
    refine c_T_rows o3 x5 ?_
    refine wi_ic_ge dc_K_samplesInChunks_12 rfl (fun hd => ?_) (fun hd => ?_)
    · omega
    have K61 : ∀ o : Int, wp_m l Y_K_samplesInChunks none 0 0 61 [.ref a, .int (iI (smn_ F (st_ T (f 2)) (fi_ F (st_ T (f 2)) i - 1))), .int (iI i), .int (iI o), u4] [.int (iI (nx_ F (st_ T (f 2)) (CC_ F T f) (i + 1)))] (hp_ σ) K := fun o => by
      refine wp_is4 dc_K_samplesInChunks_61 (wp_iload_n dc_K_samplesInChunks_63 rfl rfl (wp_iload dc_K_samplesInChunks_64 rfl (wp_aload_n dc_K_samplesInChunks_66 rfl rfl (wi_getR dc_K_samplesInChunks_67 lf_K_27 hKo rfl (wp_iload_n dc_K_samplesInChunks_70 rfl rfl (wi_iconst dc_K_samplesInChunks_71 ?_))))))
      refine wp_callV (As := [_, _]) dc_K_samplesInChunks_72 lm_K_77 ls_T_value (by decide) rfl rfl (hp_at _ o3) rfl rfl (Nat.le_of_ble_eq_true rfl) (Nat.le_refl _) (Nat.le_refl _) ?_
      refine c_T_value o3 hlo x2 x4 (show st_ T (f 2) + 1 + i * 3 + 0 = st_ T (f 2) + (1 + 3 * i) by omega) (by omega) (by omega) ?_
      refine wi_isub dc_K_samplesInChunks_75 (wp_aload_n dc_K_samplesInChunks_76 rfl rfl (wi_getR dc_K_samplesInChunks_77 lf_K_27 hKo rfl (wp_iload_n dc_K_samplesInChunks_80 rfl rfl (wi_iconst dc_K_samplesInChunks_81 ?_))))
      refine wp_callV (As := [_, _]) dc_K_samplesInChunks_82 lm_K_77 ls_T_value (by decide) rfl rfl (hp_at _ o3) rfl rfl (Nat.le_of_ble_eq_true rfl) (Nat.le_refl _) (Nat.le_refl _) ?_
      refine c_T_value o3 hlo x2 x4 (show st_ T (f 2) + 1 + i * 3 + 1 = st_ T (f 2) + (2 + 3 * i) by omega) (by omega) (by omega) ?_
      refine wi_imul dc_K_samplesInChunks_85 ?_
      refine wi_iadd dc_K_samplesInChunks_86 ?_
      rw [← st]
      refine wp_is1 dc_K_samplesInChunks_87 (wp_ii2 dc_K_samplesInChunks_88 (wp_goto dc_K_samplesInChunks_91 rfl ?_))
      exact ih (i + 1) _ _ (by omega) (by omega)
    have K34 : ∀ o : Int, (o = 1 ∧ i + 1 = F (st_ T (f 2))) ∨ (o = 0 ∧ ¬ i + 1 = F (st_ T (f 2))) → wp_m l Y_K_samplesInChunks none 0 0 33 [.ref a, .int (iI (smn_ F (st_ T (f 2)) (fi_ F (st_ T (f 2)) i - 1))), .int (iI i), u3, u4] [.int (iI o)] (hp_ σ) K := fun o ho => by
      have ho01 : o = 0 ∨ o = 1 := by rcases ho with h | h <;> omega
      refine wp_is3 dc_K_samplesInChunks_33 (wp_iload_n dc_K_samplesInChunks_34 rfl rfl ?_)
      refine wi_if_eq dc_K_samplesInChunks_35 rfl (fun he => ?_) (fun he => ?_)
      · have e2 : nx_ F (st_ T (f 2)) (CC_ F T f) (i + 1) = F (st_ T (f 2) + (1 + 3 * (i + 1))) := if_neg (by omega)
        refine wp_aload_n dc_K_samplesInChunks_50 rfl rfl (wi_getR dc_K_samplesInChunks_51 lf_K_27 hKo rfl (wp_iload_n dc_K_samplesInChunks_54 rfl rfl (wi_iconst dc_K_samplesInChunks_55 (wi_iadd dc_K_samplesInChunks_56 (wi_iconst dc_K_samplesInChunks_57 ?_)))))
        refine wp_callV (As := [_, _]) dc_K_samplesInChunks_58 lm_K_77 ls_T_value (by decide) rfl rfl (hp_at _ o3) rfl rfl (Nat.le_of_ble_eq_true rfl) (Nat.le_refl _) (Nat.le_refl _) ?_
        refine c_T_value o3 hlo x2 x4 (show st_ T (f 2) + 1 + (i + 1) * 3 + 0 = st_ T (f 2) + (1 + 3 * (i + 1)) by omega) (by omega) (by omega) ?_
        rw [← e2]
        exact K61 _
      · have e2 : nx_ F (st_ T (f 2)) (CC_ F T f) (i + 1) = CC_ F T f + 1 := if_pos (by omega)
        refine wp_aload_n dc_K_samplesInChunks_38 rfl rfl (wi_getR dc_K_samplesInChunks_39 lf_K_30 hKo rfl ?_)
        refine wp_callV (As := []) dc_K_samplesInChunks_42 lm_K_73 ls_T_rows (by decide) rfl rfl (hp_at _ o4) rfl rfl (Nat.le_of_ble_eq_true rfl) (Nat.le_refl _) (Nat.le_refl _) ?_
        refine c_T_rows o4 v5 ?_
        refine wi_iconst dc_K_samplesInChunks_45 (wi_iadd dc_K_samplesInChunks_46 (wp_goto dc_K_samplesInChunks_47 rfl ?_))
        rw [← e2]
        exact K61 _
    refine wp_iload_n dc_K_samplesInChunks_15 rfl rfl (wi_iconst dc_K_samplesInChunks_16 (wi_iadd dc_K_samplesInChunks_17 (wp_aload_n dc_K_samplesInChunks_18 rfl rfl (wi_getR dc_K_samplesInChunks_19 lf_K_27 hKo rfl ?_))))
    refine wp_callV (As := []) dc_K_samplesInChunks_22 lm_K_73 ls_T_rows (by decide) rfl rfl (hp_at _ o3) rfl rfl (Nat.le_of_ble_eq_true rfl) (Nat.le_refl _) (Nat.le_refl _) ?_
    refine c_T_rows o3 x5 ?_
    refine wi_ic_ne dc_K_samplesInChunks_25 rfl (fun he => ?_) (fun he => ?_)
    · refine wi_iconst dc_K_samplesInChunks_32 ?_
      exact K34 0 (Or.inr ⟨rfl, he⟩)
    · refine wi_iconst dc_K_samplesInChunks_28 (wp_goto dc_K_samplesInChunks_29 rfl ?_)
      exact K34 1 (Or.inl ⟨rfl, he⟩)
theorem c_K_samplesInChunks (hx : kk_ σ F n N T a b f) (hz : ¬ (0 < CC_ F T f ∧ F (st_ T (f 2)) = 0)) (hle : ∀ r, 0 ≤ r → r < F (st_ T (f 2)) → fi_ F (st_ T (f 2)) r ≤ CC_ F T f) (hK : K (some (.int (iI (smn_ F (st_ T (f 2)) (CC_ F T f))))) (hp_ σ)) : ct_m l Y_K_samplesInChunks 0 0 [.ref a] (hp_ σ) K := by
  have a5 := hx.1.2.2.2.2
  have hs2 := a5 (st_ T (f 2))
  have hsp := a5 (st_ T (pj_ f))
  have ecc : CC_ F T f = F (st_ T (pj_ f)) := rfl
  have y5 := (kk_2 hx).2.2.2.2.2.2.2
  have e0 : nx_ F (st_ T (f 2)) (CC_ F T f) 0 - 1 = 0 := by
    unfold nx_
    by_cases e : (0 : Int) = F (st_ T (f 2))
    · rw [if_pos e]; omega
    · rw [if_neg e]
      have h0 : fi_ F (st_ T (f 2)) 0 = 1 := y5.1.resolve_left (by omega)
      omega
  have h := lp_K_sic (l := l) hx hle hK (F (st_ T (f 2))).toNat 0 (.retAddr 0) (.retAddr 0) (by omega) (by omega)
  rw [e0] at h
  refine ct_of (L := [.ref a, .retAddr 0, .retAddr 0, .retAddr 0, .retAddr 0]) (by decide +kernel) (Nat.le_of_ble_eq_true rfl) rfl ?_
  refine wi_iconst dc_K_samplesInChunks_0 (wp_is1 dc_K_samplesInChunks_1 (wi_iconst dc_K_samplesInChunks_2 (wp_is2 dc_K_samplesInChunks_3 ?_)))
  exact h
/-- a table that may be absent -/
theorem kk_o {x : Nat} {j w : Int} (h : tb_ σ F T x j w) (hj : j = -1) : σ x 1 = 0 ∧ σ x 5 = 0 := by
  obtain ⟨h1, h2, h3, h4, h5⟩ := h
  rw [if_pos hj] at h1 h5
  exact ⟨h1, h5⟩
theorem lp_K_syn {s R sc : Int} (hKo : SH[a]? = some (.inr (5, [.ref 3, .ref (a + 1), .ref (a + 2), .ref (a + 3), .ref (a + 4), .ref (a + 5), .ref (a + 6), .ref (a + 7), .ref (a + 8), .int 0]))) (o5 : tbo_ (a + 5)) (hlo : lo_ σ F n) (b5 : σ (a + 5) 5 = R) (hb : 0 < R → σ (a + 5) 2 = s ∧ σ (a + 5) 4 = 1 ∧ 0 ≤ s ∧ s + 1 + R ≤ n) (hR : R ≤ 255) (hsc : rg sc) (h1 : (∀ r, 0 ≤ r → r < R → F (s + (1 + r)) ≤ sc) → K (some (.int (iI 1))) (hp_ σ)) (h0 : ¬ (∀ r, 0 ≤ r → r < R → F (s + (1 + r)) ≤ sc) → K (some (.int (iI 0))) (hp_ σ)) : ∀ (m : Nat) (i : Int), i + m = R → 0 ≤ i → (∀ r, 0 ≤ r → r < i → F (s + (1 + r)) ≤ sc) → wp_m l Y_K_syncsStayWithin none 0 0 2 [.ref a, .int (iI sc), .int (iI i)] [] (hp_ σ) K := by
  have a5 := hlo.2.2.2.2
  intro m
  induction m with
  | zero =>
    intro i hi i0 hall
    have ei : i = R := by omega
    subst ei
    refine wp_iload_n dc_K_syncsStayWithin_2 rfl rfl (wp_aload_n dc_K_syncsStayWithin_3 rfl rfl (wi_getR dc_K_syncsStayWithin_4 lf_K_33 hKo rfl ?_))
    refine wp_callV (As := []) dc_K_syncsStayWithin_7 lm_K_73 ls_T_rows (by decide) rfl rfl (hp_at _ o5) rfl rfl (Nat.le_of_ble_eq_true rfl) (Nat.le_refl _) (Nat.le_refl _) ?_
    refine c_T_rows o5 b5 ?_
    refine wi_ic_ge dc_K_syncsStayWithin_10 rfl (fun hd => ?_) (fun hd => ?_)
    · refine wi_iconst dc_K_syncsStayWithin_34 ?_
      refine wp_ireturn dc_K_syncsStayWithin_35 rfl rfl (h1 hall)
    · omega
  | succ m ih =>
    intro i hi i0 hall
    have g := a5 (s + (1 + i))
    obtain ⟨b2, b4, s0, s1⟩ := hb (by omega)
    refine wp_iload_n dc_K_syncsStayWithin_2 rfl rfl (wp_aload_n dc_K_syncsStayWithin_3 rfl rfl (wi_getR dc_K_syncsStayWithin_4 lf_K_33 hKo rfl ?_))
    refine wp_callV (As := []) dc_K_syncsStayWithin_7 lm_K_73 ls_T_rows (by decide) rfl rfl (hp_at _ o5) rfl rfl (Nat.le_of_ble_eq_true rfl) (Nat.le_refl _) (Nat.le_refl _) ?_
    refine c_T_rows o5 b5 ?_
    refine wi_ic_ge dc_K_syncsStayWithin_10 rfl (fun hd => ?_) (fun hd => ?_)
    · omega
    refine wp_aload_n dc_K_syncsStayWithin_13 rfl rfl (wi_getR dc_K_syncsStayWithin_14 lf_K_33 hKo rfl (wp_iload_n dc_K_syncsStayWithin_17 rfl rfl (wi_iconst dc_K_syncsStayWithin_18 ?_)))
    refine wp_callV (As := [_, _]) dc_K_syncsStayWithin_19 lm_K_77 ls_T_value (by decide) rfl rfl (hp_at _ o5) rfl rfl (Nat.le_of_ble_eq_true rfl) (Nat.le_refl _) (Nat.le_refl _) ?_
    refine c_T_value o5 hlo b2 b4 (show s + 1 + i * 1 + 0 = s + (1 + i) by omega) (by omega) (by omega) ?_
    refine wp_iload_n dc_K_syncsStayWithin_22 rfl rfl ?_
    refine wi_ic_le dc_K_syncsStayWithin_23 rfl (fun hf => ?_) (fun hf => ?_)
    · refine wp_ii2 dc_K_syncsStayWithin_28 (wp_goto dc_K_syncsStayWithin_31 rfl ?_)
      refine ih (i + 1) (by omega) (by omega) (fun r r0 r1 => ?_)
      by_cases hr : r = i
      · subst hr; exact hf
      · exact hall r r0 (by omega)
    · refine wi_iconst dc_K_syncsStayWithin_26 ?_
      refine wp_ireturn dc_K_syncsStayWithin_27 rfl rfl (h0 (fun h => hf (h i i0 (by omega))))
theorem kk_6 (hx : kk_ σ F n N T a b f) (h6 : ¬ f 6 = -1) : 0 ≤ f 6 ∧ f 6 < N ∧ 0 ≤ st_ T (f 6) ∧ st_ T (f 6) + 1 + F (st_ T (f 6)) ≤ n ∧ σ (a + 5) 1 = 1 ∧ σ (a + 5) 2 = st_ T (f 6) ∧ σ (a + 5) 4 = 1 ∧ σ (a + 5) 5 = F (st_ T (f 6)) ∧ SY_ F (st_ T (f 6)) := by
  obtain ⟨hlo, hlt, htt, hk, hkt, hrh, hkb⟩ := hx
  have c6 := kt_cs hkt (q := 6) (by omega) (by omega)
  obtain ⟨g1, g2, g3, -, g5⟩ := rh_q htt hkt hrh (q := 6) (by omega) (by omega) (by omega)
  have g5 := g5 (by omega)
  rw [show wd_ 6 = 1 from rfl] at g5
  have h := tb_in hkb.2.2.2.2.1 (by omega) g5.1
  exact ⟨by omega, g1, g2, by omega, h.1, h.2.1, h.2.2.1, h.2.2.2, ((ro_syn (fun i => (hlo.2.2.2.2 i).1)).mp (hrh 6 (by omega) (by omega) (by omega))).2⟩
theorem kk_0 (hx : kk_ σ F n N T a b f) : 0 ≤ st_ T (f 0) ∧ st_ T (f 0) + 1 + 2 * F (st_ T (f 0)) ≤ n ∧ σ (a + 1) 1 = 1 ∧ σ (a + 1) 2 = st_ T (f 0) ∧ σ (a + 1) 4 = 2 ∧ σ (a + 1) 5 = F (st_ T (f 0)) := by
  obtain ⟨hlo, hlt, htt, hk, hkt, hrh, hkb⟩ := hx
  obtain ⟨g1, g2, g3, -, g5⟩ := rh_q htt hkt hrh (q := 0) (by omega) (by omega) hkt.2.1
  have g5 := g5 (by omega)
  rw [show wd_ 0 = 2 from rfl] at g5
  exact ⟨g2, by omega, tb_in hkb.1 hkt.2.1 g5.1⟩
theorem kk_1 (hx : kk_ σ F n N T a b f) (h1 : ¬ f 1 = -1) : 0 ≤ st_ T (f 1) ∧ st_ T (f 1) + 1 + 2 * F (st_ T (f 1)) ≤ n ∧ σ (a + 2) 1 = 1 ∧ σ (a + 2) 2 = st_ T (f 1) ∧ σ (a + 2) 4 = 2 ∧ σ (a + 2) 5 = F (st_ T (f 1)) := by
  obtain ⟨hlo, hlt, htt, hk, hkt, hrh, hkb⟩ := hx
  have c1 := kt_cs hkt (q := 1) (by omega) (by omega)
  obtain ⟨g1, g2, g3, -, g5⟩ := rh_q htt hkt hrh (q := 1) (by omega) (by omega) (by omega)
  have g5 := g5 (by omega)
  rw [show wd_ 1 = 2 from rfl] at g5
  exact ⟨g2, by omega, tb_in hkb.2.1 (by omega) g5.1⟩
theorem kk_7 (hx : kk_ σ F n N T a b f) (h1 : ¬ f 7 = -1) : 0 ≤ st_ T (f 7) ∧ st_ T (f 7) + 1 + 2 * F (st_ T (f 7)) ≤ n ∧ σ (a + 6) 1 = 1 ∧ σ (a + 6) 2 = st_ T (f 7) ∧ σ (a + 6) 4 = 2 ∧ σ (a + 6) 5 = F (st_ T (f 7)) := by
  obtain ⟨hlo, hlt, htt, hk, hkt, hrh, hkb⟩ := hx
  have c1 := kt_cs hkt (q := 7) (by omega) (by omega)
  obtain ⟨g1, g2, g3, -, g5⟩ := rh_q htt hkt hrh (q := 7) (by omega) (by omega) (by omega)
  have g5 := g5 (by omega)
  rw [show wd_ 7 = 2 from rfl] at g5
  exact ⟨g2, by omega, tb_in hkb.2.2.2.2.2.1 (by omega) g5.1⟩
theorem c_K_countsHold (hx : kk_ σ F n N T a b f) (h1 : CN_ F T f → K (some (.int (iI 1))) (hp_ σ)) (h0 : ¬ CN_ F T f → K (some (.int (iI 0))) (hp_ σ)) : ct_m l Y_K_countsHold 0 0 [.ref a] (hp_ σ) K := by
  obtain ⟨i0, i1, i2, i3, i4, i5⟩ := kk_0 hx
  have z3 := (kk_3 hx).2.2.2.2.2.2
  obtain ⟨hlo, hlt, htt, ⟨hKo, o1, o2, o3, o4, o5, o6, o7⟩, hkt, hrh, hkb⟩ := id hx
  have a5 := hlo.2.2.2.2
  have hs0 := a5 (st_ T (f 0))
  have hs1 := a5 (st_ T (f 1))
  have hs6 := a5 (st_ T (f 6))
  have hsp := a5 (st_ T (pj_ f))
  have hs3 := a5 (st_ T (f 3) + 1)
  have esc : SC_ F T f = F (st_ T (f 3) + 1) := rfl
  have ecc : CC_ F T f = F (st_ T (pj_ f)) := rfl
  have tr0 := tot_rg a5 (st_ T (f 0))
  have tr1 := tot_rg a5 (st_ T (f 1))
  have smr : 0 ≤ smn_ F (st_ T (f 2)) (CC_ F T f) ∧ smn_ F (st_ T (f 2)) (CC_ F T f) ≤ 255 * ((CC_ F T f).toNat : Int) := smn_rg a5 (st_ T (f 2)) (CC_ F T f).toNat
  have bad : ¬ CN_ F T f → wp_m l Y_K_countsHold none 0 0 67 [.ref a, .int (iI (SC_ F T f))] [] (hp_ σ) K := fun h => by
    refine wi_iconst dc_K_countsHold_67 ?_
    refine wp_ireturn dc_K_countsHold_68 rfl rfl (h0 h)
  have K40 : tot_ F (st_ T (f 0)) = SC_ F T f → (f 1 = -1 ∨ tot_ F (st_ T (f 1)) = SC_ F T f) → wp_m l Y_K_countsHold none 0 0 40 [.ref a, .int (iI (SC_ F T f))] [] (hp_ σ) K := fun d1 d2 => by
    refine wp_aload_n dc_K_countsHold_40 rfl rfl ?_
    refine wp_callV (As := []) dc_K_countsHold_41 lm_K_94 ls_K_chunkRowsMeetChunks (by decide) rfl rfl (hp_at _ hKo) rfl rfl (Nat.le_of_ble_eq_true rfl) (Nat.le_refl _) (Nat.le_refl _) ?_
    refine c_K_chunkRowsMeetChunks hx (fun d3 => ?_) (fun d3 => ?_)
    rotate_left
    · refine wi_if_eq dc_K_countsHold_44 rfl (fun he => ?_) (fun he => ?_)
      · exact bad (fun h => d3 ⟨h.2.2.1, h.2.2.2.1⟩)
      · omega
    refine wi_if_eq dc_K_countsHold_44 rfl (fun he => ?_) (fun he => ?_)
    · omega
    refine wp_aload_n dc_K_countsHold_47 rfl rfl ?_
    refine wp_callV (As := []) dc_K_countsHold_48 lm_K_97 ls_K_samplesInChunks (by decide) rfl rfl (hp_at _ hKo) rfl rfl (Nat.le_of_ble_eq_true rfl) (Nat.le_refl _) (Nat.le_refl _) ?_
    refine c_K_samplesInChunks hx d3.1 d3.2 ?_
    refine wp_iload_n dc_K_countsHold_51 rfl rfl ?_
    refine wi_ic_ne dc_K_countsHold_52 rfl (fun d4 => ?_) (fun d4 => ?_)
    · exact bad (fun h => d4 h.2.2.2.2.1)
    refine wp_aload_n dc_K_countsHold_55 rfl rfl (wp_iload_n dc_K_countsHold_56 rfl rfl ?_)
    refine wp_callV (As := [_]) dc_K_countsHold_57 lm_K_100 ls_K_syncsStayWithin (by decide) rfl rfl (hp_at _ hKo) rfl rfl (Nat.le_of_ble_eq_true rfl) (Nat.le_refl _) (Nat.le_refl _) ?_
    refine ct_of (L := [.ref a, .int (iI (SC_ F T f)), .retAddr 0]) (by decide +kernel) (Nat.le_of_ble_eq_true rfl) rfl ?_
    refine wi_iconst dc_K_syncsStayWithin_0 (wp_is2 dc_K_syncsStayWithin_1 ?_)
    have yes : (f 6 = -1 ∨ ∀ r, 0 ≤ r → r < F (st_ T (f 6)) → F (st_ T (f 6) + (1 + r)) ≤ SC_ F T f) → wp_m l Y_K_countsHold none 0 0 60 [.ref a, .int (iI (SC_ F T f))] [.int (iI 1)] (hp_ σ) K := fun d5 => by
      refine wi_if_eq dc_K_countsHold_60 rfl (fun hf => ?_) (fun hf => ?_)
      · omega
      refine wi_iconst dc_K_countsHold_63 (wp_goto dc_K_countsHold_64 rfl ?_)
      refine wp_ireturn dc_K_countsHold_68 rfl rfl (h1 ⟨d1, d2, d3.1, d3.2, d4, d5⟩)
    have no : ¬ (f 6 = -1 ∨ ∀ r, 0 ≤ r → r < F (st_ T (f 6)) → F (st_ T (f 6) + (1 + r)) ≤ SC_ F T f) → wp_m l Y_K_countsHold none 0 0 60 [.ref a, .int (iI (SC_ F T f))] [.int (iI 0)] (hp_ σ) K := fun d5 => by
      refine wi_if_eq dc_K_countsHold_60 rfl (fun hf => ?_) (fun hf => ?_)
      · exact bad (fun h => d5 h.2.2.2.2.2)
      · omega
    by_cases h6 : f 6 = -1
    · refine lp_K_syn (s := 0) (R := 0) hKo o5 hlo (kk_o hkb.2.2.2.2.1 h6).2 (fun h => by omega) (by omega) ⟨by omega, by omega⟩ (fun h => ?_) (fun h => ?_) 0 0 (by omega) (by omega) (fun r r0 r1 => by omega)
      · exact yes (Or.inl h6)
      · exact absurd (fun r r0 r1 => by omega) h
    · obtain ⟨v1, v2, v3, v4, v5, v6, v7, v8, v9⟩ := kk_6 hx h6
      refine lp_K_syn (s := st_ T (f 6)) (R := F (st_ T (f 6))) hKo o5 hlo v8 (fun _ => ⟨v6, v7, v3, v4⟩) (by omega) ⟨by omega, by omega⟩ (fun h => ?_) (fun h => ?_) (F (st_ T (f 6))).toNat 0 (by omega) (by omega) (fun r r0 r1 => by omega)
      · exact yes (Or.inr h)
      · exact no (fun hh => h (hh.resolve_left h6))
  refine ct_of (L := [.ref a, .retAddr 0]) (by decide +kernel) (Nat.le_of_ble_eq_true rfl) rfl ?_
  refine wp_aload_n dc_K_countsHold_0 rfl rfl (wi_getR dc_K_countsHold_1 lf_K_42 hKo rfl ?_)
  refine wp_callV (As := []) dc_K_countsHold_4 lm_K_86 ls_Z_count (by decide) rfl rfl (hp_at _ o7) rfl rfl (Nat.le_of_ble_eq_true rfl) (Nat.le_refl _) (Nat.le_refl _) ?_
  refine c_Z_count o7 z3 ?_
  refine wp_is1 dc_K_countsHold_7 (wp_aload_n dc_K_countsHold_8 rfl rfl (wi_getR dc_K_countsHold_9 lf_K_20 hKo rfl ?_))
  refine wp_callV (As := []) dc_K_countsHold_12 lm_K_88 ls_T_totalOfCounts (by decide) rfl rfl (hp_at _ o1) rfl rfl (Nat.le_of_ble_eq_true rfl) (Nat.le_refl _) (Nat.le_refl _) ?_
  refine c_T_totalOfCounts (e := fun r => st_ T (f 0) + (1 + 2 * r)) o1 hlo i3 i4 i5 (by omega) (by omega) (fun r r0 r1 => by omega) ?_
  refine wp_iload_n dc_K_countsHold_15 rfl rfl ?_
  refine wi_ic_ne dc_K_countsHold_16 rfl (fun hd => bad (fun h => hd h.1)) (fun hd => ?_) ⟨by have := tr0.1; unfold tot_ at this; omega, by have := tr0.2; unfold tot_ at this; omega⟩
  have d1 : tot_ F (st_ T (f 0)) = SC_ F T f := hd
  refine wp_aload_n dc_K_countsHold_19 rfl rfl (wi_getR dc_K_countsHold_20 lf_K_24 hKo rfl ?_)
  refine wp_callV (As := []) dc_K_countsHold_23 lm_K_91 ls_T_isPresent (by decide) rfl rfl (hp_at _ o2) rfl rfl (Nat.le_of_ble_eq_true rfl) (Nat.le_refl _) (Nat.le_refl _) ?_
  by_cases hf1 : f 1 = -1
  · refine c_T_isPresent o2 (fun _ => ?_) (fun h => by have := (kk_o hkb.2.1 hf1).1; omega) (Or.inl (kk_o hkb.2.1 hf1).1)
    refine wi_if_eq dc_K_countsHold_26 rfl (fun he => ?_) (fun he => ?_)
    · exact K40 d1 (Or.inl hf1)
    · omega
  · obtain ⟨v1, v2, v3, v4, v5, v6⟩ := kk_1 hx hf1
    refine c_T_isPresent o2 (fun h => by omega) (fun _ => ?_) (Or.inr v3)
    refine wi_if_eq dc_K_countsHold_26 rfl (fun he => ?_) (fun he => ?_)
    · omega
    refine wp_aload_n dc_K_countsHold_29 rfl rfl (wi_getR dc_K_countsHold_30 lf_K_24 hKo rfl ?_)
    refine wp_callV (As := []) dc_K_countsHold_33 lm_K_88 ls_T_totalOfCounts (by decide) rfl rfl (hp_at _ o2) rfl rfl (Nat.le_of_ble_eq_true rfl) (Nat.le_refl _) (Nat.le_refl _) ?_
    refine c_T_totalOfCounts (e := fun r => st_ T (f 1) + (1 + 2 * r)) o2 hlo v4 v5 v6 (by omega) (by omega) (fun r r0 r1 => by omega) ?_
    refine wp_iload_n dc_K_countsHold_36 rfl rfl ?_
    refine wi_ic_ne dc_K_countsHold_37 rfl (fun hd => bad (fun h => ?_)) (fun hd => K40 d1 (Or.inr hd)) ⟨by have := tr1.1; unfold tot_ at this; omega, by have := tr1.2; unfold tot_ at this; omega⟩
    rcases h.2.1 with g | g
    · exact hf1 g
    · exact hd g
end CL
