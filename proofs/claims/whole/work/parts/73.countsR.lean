/-! counts: what must hold; the reference's countsWrong -/
/-- the last row whose first chunk is not behind c -/
def rwo_ (fi : Int → Int) (c : Int) : Nat → Int
  | 0 => 0
  | m + 1 => if fi m ≤ c then m else rwo_ fi c m
theorem rwo_spec (fi : Int → Int) (c : Int) : ∀ R : Nat, 0 ≤ rwo_ fi c R ∧ (0 < R → rwo_ fi c R < R) ∧ (rwo_ fi c R = 0 ∨ fi (rwo_ fi c R) ≤ c) ∧ ∀ r, rwo_ fi c R < r → r < R → c < fi r
  | 0 => ⟨Int.le_refl _, fun h => absurd h (by decide), Or.inl rfl, fun r h1 h2 => by have : rwo_ fi c 0 = 0 := rfl; omega⟩
  | m + 1 => by
    obtain ⟨h1, h2, h3, h4⟩ := rwo_spec fi c m
    by_cases hm : fi m ≤ c
    · have e : rwo_ fi c (m + 1) = m := if_pos hm
      rw [e]
      exact ⟨by omega, fun _ => by omega, Or.inr hm, fun r r1 r2 => by omega⟩
    · have e : rwo_ fi c (m + 1) = rwo_ fi c m := if_neg hm
      rw [e]
      refine ⟨h1, fun _ => ?_, h3, fun r r1 r2 => ?_⟩
      · by_cases h : 0 < m
        · have := h2 h; omega
        · have : m = 0 := by omega
          subst this
          have : rwo_ fi c 0 = 0 := rfl
          omega
      · by_cases h : r = m
        · subst h; omega
        · exact h4 r r1 (by omega)
theorem rwo_eq {fi : Int → Int} {c m : Int} {R : Nat} (m0 : 0 ≤ m) (m1 : m < R) (h1 : m = 0 ∨ fi m ≤ c) (h2 : ∀ r, m < r → r < R → c < fi r) : rwo_ fi c R = m := by
  obtain ⟨g1, g2, g3, g4⟩ := rwo_spec fi c R
  have g2 := g2 (by omega)
  by_cases a1 : rwo_ fi c R < m
  · have := g4 m a1 m1; omega
  by_cases a2 : m < rwo_ fi c R
  · have := h2 _ a2 g2; omega
  omega
/-- the first chunk of a row; its number of samples; the number of samples of a chunk -/
abbrev fi_ (F : Int → Int) (s r : Int) : Int := F (s + (1 + 3 * r))
def mn_ (F : Int → Int) (s c : Int) : Int := F (s + (2 + 3 * rwo_ (fi_ F s) c (F s).toNat))
abbrev SC_ (F : Int → Int) (T : px_T) (f : Int → Int) : Int := F (st_ T (f 3) + 1)
abbrev CC_ (F : Int → Int) (T : px_T) (f : Int → Int) : Int := F (st_ T (pj_ f))
def tot_ (F : Int → Int) (s : Int) : Int := sm_ (fun r => F (s + (1 + 2 * r))) (F s).toNat
def CN_ (F : Int → Int) (T : px_T) (f : Int → Int) : Prop := tot_ F (st_ T (f 0)) = SC_ F T f ∧ (f 1 = -1 ∨ tot_ F (st_ T (f 1)) = SC_ F T f) ∧ ¬ (0 < CC_ F T f ∧ F (st_ T (f 2)) = 0) ∧ (∀ r, 0 ≤ r → r < F (st_ T (f 2)) → fi_ F (st_ T (f 2)) r ≤ CC_ F T f) ∧ sm_ (fun c => mn_ F (st_ T (f 2)) (c + 1)) (CC_ F T f).toNat = SC_ F T f ∧ (f 6 = -1 ∨ ∀ r, 0 ≤ r → r < F (st_ T (f 6)) → F (st_ T (f 6) + (1 + r)) ≤ SC_ F T f)
/-- a track whose tables are as they must be, on the reference's side -/
def rx_ (σ : sg_) (F : Int → Int) (n N : Int) (T : px_T) (t b : Int) (f : Int → Int) : Prop := ro_ σ F n ∧ rt_ σ N T ∧ tt_ n N T ∧ (0 ≤ t ∧ t < 2) ∧ (∀ q, 0 ≤ q → q < 8 → σ 62 (8 * t + q) = f q) ∧ KT_ N T b f ∧ RH_ F T f
theorem tot_rg {F : Int → Int} (hF : ∀ i, 0 ≤ F i ∧ F i < 256) (s : Int) : 0 ≤ tot_ F s ∧ tot_ F s ≤ 65025 := by
  have h := sm_rg (f := fun r => F (s + (1 + 2 * r))) (c := 255) (by omega) (F s).toNat (fun i _ => by have := hF (s + (1 + 2 * (i : Int))); constructor <;> omega)
  have := hF s
  unfold tot_
  omega
section CR
variable {l : Launch} {σ : sg_} {K : Option Value → mx_H → Prop} {F : Int → Int} {n N : Int} {T : px_T} {t b : Int} {f : Int → Int}
theorem rh_q (htt : tt_ n N T) (hkt : KT_ N T b f) (hrh : RH_ F T f) {q : Int} (q0 : 0 ≤ q) (q1 : q < 8) (hq : 0 ≤ f q) : f q < N ∧ 0 ≤ st_ T (f q) ∧ st_ T (f q) + pl_ T (f q) ≤ n ∧ (q = 3 → 2 ≤ pl_ T (f q) ∧ pl_ T (f q) = (if F (st_ T (f q)) = 0 then 2 + F (st_ T (f q) + 1) else 2)) ∧ (¬ q = 3 → 1 ≤ pl_ T (f q) ∧ pl_ T (f q) = 1 + wd_ q * F (st_ T (f q))) := by
  have h1 : f q < N := by rcases kt_cs hkt q0 q1 with h | h <;> omega
  have bx := htt.2.2.1 (f q) hq h1
  unfold bx_ at bx
  have ep : pl_ T (f q) = T 1 (f q) - T 3 (f q) := rfl
  have es : st_ T (f q) = T 0 (f q) + T 3 (f q) := rfl
  have h := hrh q q0 q1 hq
  exact ⟨h1, by omega, by omega, h.1, fun hn => ⟨(h.2 hn).1, (h.2 hn).2.1⟩⟩
/-- the table of places -/
theorem rh_p (htt : tt_ n N T) (hkt : KT_ N T b f) (hrh : RH_ F T f) : 0 ≤ pj_ f ∧ pj_ f < N ∧ 0 ≤ st_ T (pj_ f) ∧ st_ T (pj_ f) + pl_ T (pj_ f) ≤ n ∧ 1 ≤ pl_ T (pj_ f) ∧ pl_ T (pj_ f) = 1 + pw_ f * F (st_ T (pj_ f)) ∧ ((0 ≤ f 4 ∧ pj_ f = f 4 ∧ pw_ f = 1 ∧ T 2 (pj_ f) = 111) ∨ (f 4 = -1 ∧ 0 ≤ f 5 ∧ pj_ f = f 5 ∧ pw_ f = 2 ∧ T 2 (pj_ f) = 79)) := by
  rcases hkt.2.2.2.2 with ⟨g1, g2⟩ | ⟨g1, g2⟩
  · have e1 : pj_ f = f 4 := if_neg (by omega)
    have e2 : pw_ f = 1 := if_neg (by omega)
    obtain ⟨h1, h2, h3, -, h5⟩ := rh_q htt hkt hrh (q := 4) (by omega) (by omega) g1
    have h5 := h5 (by omega)
    have ht : T 2 (f 4) = 111 := by
      rcases hkt.1 4 (by omega) (by omega) with h | h
      · omega
      · exact h.2.2.1.2.1
    rw [e1, e2]
    exact ⟨g1, h1, h2, h3, h5.1, h5.2, Or.inl ⟨g1, rfl, rfl, ht⟩⟩
  · have e1 : pj_ f = f 5 := if_pos g1
    have e2 : pw_ f = 2 := if_pos g1
    obtain ⟨h1, h2, h3, -, h5⟩ := rh_q htt hkt hrh (q := 5) (by omega) (by omega) g2
    have h5 := h5 (by omega)
    have ht : T 2 (f 5) = 79 := by
      rcases hkt.1 5 (by omega) (by omega) with h | h
      · omega
      · exact h.2.2.1.2.1
    rw [e1, e2]
    exact ⟨g2, h1, h2, h3, h5.1, h5.2, Or.inr ⟨g1, g2, rfl, rfl, ht⟩⟩
theorem c_R_sampleCount (hx : rx_ σ F n N T t b f) (hK : K (some (.int (iI (SC_ F T f)))) (hp_ σ)) : ct_m l Y_R_sampleCount 0 0 [.ref 51, .int (iI t)] (hp_ σ) K := by
  obtain ⟨hro, hrt, htt, ht, htab, hkt, hrh⟩ := hx
  have k3 := hkt.2.2.2.1
  obtain ⟨g1, g2, g3, g4, -⟩ := rh_q htt hkt hrh (q := 3) (by omega) (by omega) k3
  have g4 := g4 rfl
  refine ct_of (L := [.ref 51, .int (iI t)]) (by decide +kernel) (Nat.le_of_ble_eq_true rfl) rfl ?_
  refine wp_aload_n dc_R_sampleCount_0 rfl rfl (wp_aload_n dc_R_sampleCount_1 rfl rfl (wi_getR dc_R_sampleCount_2 lf_R_40 sh_51 rfl (wi_bipush dc_R_sampleCount_5 (wp_iload_n dc_R_sampleCount_7 rfl rfl (wi_imul dc_R_sampleCount_8 (wi_iconst dc_R_sampleCount_9 (wi_iadd dc_R_sampleCount_10 (wi_aldE (f 3) dc_R_sampleCount_11 sh_62 (by omega) (by omega) (by decide) (htab 3 (by omega) (by omega)) (wi_iconst dc_R_sampleCount_12 ?_)))))))))
  refine wp_callV (As := [_, _]) dc_R_sampleCount_13 lm_R_106 ls_R_pay (by decide) rfl rfl (hp_at _ sh_51) rfl rfl (Nat.le_of_ble_eq_true rfl) (Nat.le_refl _) (Nat.le_refl _) ?_
  refine c_R_pay hro hrt htt k3 g1 (by omega) (by omega) ?_
  refine wp_ireturn dc_R_sampleCount_16 rfl rfl hK
theorem c_R_placesBox (hx : rx_ σ F n N T t b f) (hK : K (some (.int (iI (pj_ f)))) (hp_ σ)) : ct_m l Y_R_placesBox 0 0 [.ref 51, .int (iI t)] (hp_ σ) K := by
  obtain ⟨hro, hrt, htt, ht, htab, hkt, hrh⟩ := hx
  have t2 := htt.2.1
  have c4 := kt_cs hkt (q := 4) (by omega) (by omega)
  unfold pj_ at hK
  refine ct_of (L := [.ref 51, .int (iI t), .retAddr 0]) (by decide +kernel) (Nat.le_of_ble_eq_true rfl) rfl ?_
  refine wp_aload_n dc_R_placesBox_0 rfl rfl (wi_getR dc_R_placesBox_1 lf_R_40 sh_51 rfl (wi_bipush dc_R_placesBox_4 (wp_iload_n dc_R_placesBox_6 rfl rfl (wi_imul dc_R_placesBox_7 (wi_iconst dc_R_placesBox_8 (wi_iadd dc_R_placesBox_9 (wi_aldE (f 4) dc_R_placesBox_10 sh_62 (by omega) (by omega) (by decide) (htab 4 (by omega) (by omega)) (wp_is2 dc_R_placesBox_11 (wp_iload_n dc_R_placesBox_12 rfl rfl ?_)))))))))
  refine wi_if_lt dc_R_placesBox_13 rfl (fun hd => ?_) (fun hd => ?_)
  · rw [if_pos (by omega)] at hK
    refine wp_aload_n dc_R_placesBox_20 rfl rfl (wi_getR dc_R_placesBox_21 lf_R_40 sh_51 rfl (wi_bipush dc_R_placesBox_24 (wp_iload_n dc_R_placesBox_26 rfl rfl (wi_imul dc_R_placesBox_27 (wi_iconst dc_R_placesBox_28 (wi_iadd dc_R_placesBox_29 (wi_aldE (f 5) dc_R_placesBox_30 sh_62 (by omega) (by omega) (by decide) (htab 5 (by omega) (by omega)) ?_)))))))
    refine wp_ireturn dc_R_placesBox_31 rfl rfl hK
  · rw [if_neg (by omega)] at hK
    refine wp_iload_n dc_R_placesBox_16 rfl rfl (wp_goto dc_R_placesBox_17 rfl ?_)
    refine wp_ireturn dc_R_placesBox_31 rfl rfl hK
theorem c_R_chunkCount (hx : rx_ σ F n N T t b f) (hK : K (some (.int (iI (CC_ F T f)))) (hp_ σ)) : ct_m l Y_R_chunkCount 0 0 [.ref 51, .int (iI t)] (hp_ σ) K := by
  obtain ⟨hro, hrt, htt, ht, htab, hkt, hrh⟩ := id hx
  obtain ⟨p0, p1, p2, p3, p4, p5, p6⟩ := rh_p htt hkt hrh
  have z0 : st_ T (pj_ f) + 0 = st_ T (pj_ f) := by omega
  refine ct_of (L := [.ref 51, .int (iI t), .retAddr 0]) (by decide +kernel) (Nat.le_of_ble_eq_true rfl) rfl ?_
  refine wp_aload_n dc_R_chunkCount_0 rfl rfl (wp_iload_n dc_R_chunkCount_1 rfl rfl ?_)
  refine wp_callV (As := [_]) dc_R_chunkCount_2 lm_R_122 ls_R_placesBox (by decide) rfl rfl (hp_at _ sh_51) rfl rfl (Nat.le_of_ble_eq_true rfl) (Nat.le_refl _) (Nat.le_refl _) ?_
  refine c_R_placesBox hx ?_
  refine wp_is2 dc_R_chunkCount_5 (wp_aload_n dc_R_chunkCount_6 rfl rfl (wp_iload_n dc_R_chunkCount_7 rfl rfl (wi_iconst dc_R_chunkCount_8 ?_)))
  refine wp_callV (As := [_, _]) dc_R_chunkCount_9 lm_R_106 ls_R_pay (by decide) rfl rfl (hp_at _ sh_51) rfl rfl (Nat.le_of_ble_eq_true rfl) (Nat.le_refl _) (Nat.le_refl _) ?_
  refine c_R_pay hro hrt htt p0 p1 (by omega) (by omega) ?_
  rw [z0]
  refine wp_ireturn dc_R_chunkCount_12 rfl rfl hK
theorem lp_R_total {j : Int} (hro : ro_ σ F n) (hrt : rt_ σ N T) (htt : tt_ n N T) (j0 : 0 ≤ j) (j1 : j < N) (hp : pl_ T j = 1 + 2 * F (st_ T j)) (hK : K (some (.int (iI (tot_ F (st_ T j))))) (hp_ σ)) : ∀ (m i : Nat), (i : Int) + m = F (st_ T j) → wp_m l Y_R_total none 0 0 4 [.ref 51, .int (iI j), .int (iI (sm_ (fun r => F (st_ T j + (1 + 2 * r))) i)), .int (iI (i : Int))] [] (hp_ σ) K := by
  have a5 := hro.2.2.2.2
  have hs := a5 (st_ T j)
  have z0 : st_ T j + 0 = st_ T j := by omega
  intro m
  induction m with
  | zero =>
    intro i hi
    refine wp_iload_n dc_R_total_4 rfl rfl (wp_aload_n dc_R_total_5 rfl rfl (wp_iload_n dc_R_total_6 rfl rfl (wi_iconst dc_R_total_7 ?_)))
    refine wp_callV (As := [_, _]) dc_R_total_8 lm_R_106 ls_R_pay (by decide) rfl rfl (hp_at _ sh_51) rfl rfl (Nat.le_of_ble_eq_true rfl) (Nat.le_refl _) (Nat.le_refl _) ?_
    refine c_R_pay hro hrt htt j0 j1 (by omega) (by omega) ?_
    rw [z0]
    refine wi_ic_ge dc_R_total_11 rfl (fun hd => ?_) (fun hd => ?_)
    · have ei : i = (F (st_ T j)).toNat := by omega
      subst ei
      refine wp_iload_n dc_R_total_33 rfl rfl ?_
      refine wp_ireturn dc_R_total_34 rfl rfl hK
    · omega
  | succ m ih =>
    intro i hi
    refine wp_iload_n dc_R_total_4 rfl rfl (wp_aload_n dc_R_total_5 rfl rfl (wp_iload_n dc_R_total_6 rfl rfl (wi_iconst dc_R_total_7 ?_)))
    refine wp_callV (As := [_, _]) dc_R_total_8 lm_R_106 ls_R_pay (by decide) rfl rfl (hp_at _ sh_51) rfl rfl (Nat.le_of_ble_eq_true rfl) (Nat.le_refl _) (Nat.le_refl _) ?_
    refine c_R_pay hro hrt htt j0 j1 (by omega) (by omega) ?_
    rw [z0]
    refine wi_ic_ge dc_R_total_11 rfl (fun hd => ?_) (fun hd => ?_)
    · omega
    refine wp_iload_n dc_R_total_14 rfl rfl (wp_aload_n dc_R_total_15 rfl rfl (wp_iload_n dc_R_total_16 rfl rfl (wi_iconst dc_R_total_17 (wi_iconst dc_R_total_18 (wp_iload_n dc_R_total_19 rfl rfl (wi_imul dc_R_total_20 (wi_iadd dc_R_total_21 ?_)))))))
    refine wp_callV (As := [_, _]) dc_R_total_22 lm_R_106 ls_R_pay (by decide) rfl rfl (hp_at _ sh_51) rfl rfl (Nat.le_of_ble_eq_true rfl) (Nat.le_refl _) (Nat.le_refl _) ?_
    refine c_R_pay hro hrt htt j0 j1 (by omega) (by omega) ?_
    refine wi_iadd dc_R_total_25 (wp_is2 dc_R_total_26 (wp_ii3 dc_R_total_27 (wp_goto dc_R_total_30 rfl ?_)))
    exact ih (i + 1) (by omega)
theorem c_R_total {j : Int} (hro : ro_ σ F n) (hrt : rt_ σ N T) (htt : tt_ n N T) (j0 : 0 ≤ j) (j1 : j < N) (hp : pl_ T j = 1 + 2 * F (st_ T j)) (hK : K (some (.int (iI (tot_ F (st_ T j))))) (hp_ σ)) : ct_m l Y_R_total 0 0 [.ref 51, .int (iI j)] (hp_ σ) K := by
  have hs := hro.2.2.2.2 (st_ T j)
  refine ct_of (L := [.ref 51, .int (iI j), .retAddr 0, .retAddr 0]) (by decide +kernel) (Nat.le_of_ble_eq_true rfl) rfl ?_
  refine wi_iconst dc_R_total_0 (wp_is2 dc_R_total_1 (wi_iconst dc_R_total_2 (wp_is3 dc_R_total_3 ?_)))
  exact lp_R_total hro hrt htt j0 j1 hp hK (F (st_ T j)).toNat 0 (by omega)
theorem lp_R_rowOf {c : Int} (hc : rg c) (hx : rx_ σ F n N T t b f) (hK : K (some (.int (iI (rwo_ (fi_ F (st_ T (f 2))) c (F (st_ T (f 2))).toNat)))) (hp_ σ)) : ∀ (m i : Nat), (i : Int) + m = F (st_ T (f 2)) → wp_m l Y_R_rowOf none 0 0 18 [.ref 51, .int (iI t), .int (iI c), .int (iI (f 2)), .int (iI (rwo_ (fi_ F (st_ T (f 2))) c i)), .int (iI (i : Int))] [] (hp_ σ) K := by
  obtain ⟨hro, hrt, htt, ht, htab, hkt, hrh⟩ := hx
  have k2 := hkt.2.2.1
  obtain ⟨g1, g2, g3, -, g5⟩ := rh_q htt hkt hrh (q := 2) (by omega) (by omega) k2
  have g5 := g5 (by omega)
  rw [show wd_ 2 = 3 from rfl] at g5
  have a5 := hro.2.2.2.2
  have hs := a5 (st_ T (f 2))
  have z0 : st_ T (f 2) + 0 = st_ T (f 2) := by omega
  intro m
  induction m with
  | zero =>
    intro i hi
    refine wp_iload dc_R_rowOf_18 rfl (wp_aload_n dc_R_rowOf_20 rfl rfl (wp_iload_n dc_R_rowOf_21 rfl rfl (wi_iconst dc_R_rowOf_22 ?_)))
    refine wp_callV (As := [_, _]) dc_R_rowOf_23 lm_R_106 ls_R_pay (by decide) rfl rfl (hp_at _ sh_51) rfl rfl (Nat.le_of_ble_eq_true rfl) (Nat.le_refl _) (Nat.le_refl _) ?_
    refine c_R_pay hro hrt htt k2 g1 (by omega) (by omega) ?_
    rw [z0]
    refine wi_ic_ge dc_R_rowOf_26 rfl (fun hd => ?_) (fun hd => ?_)
    · have ei : i = (F (st_ T (f 2))).toNat := by omega
      subst ei
      refine wp_iload dc_R_rowOf_59 rfl ?_
      refine wp_ireturn dc_R_rowOf_61 rfl rfl hK
    · omega
  | succ m ih =>
    intro i hi
    have e1 := a5 (st_ T (f 2) + (1 + 3 * (i : Int)))
    refine wp_iload dc_R_rowOf_18 rfl (wp_aload_n dc_R_rowOf_20 rfl rfl (wp_iload_n dc_R_rowOf_21 rfl rfl (wi_iconst dc_R_rowOf_22 ?_)))
    refine wp_callV (As := [_, _]) dc_R_rowOf_23 lm_R_106 ls_R_pay (by decide) rfl rfl (hp_at _ sh_51) rfl rfl (Nat.le_of_ble_eq_true rfl) (Nat.le_refl _) (Nat.le_refl _) ?_
    refine c_R_pay hro hrt htt k2 g1 (by omega) (by omega) ?_
    rw [z0]
    refine wi_ic_ge dc_R_rowOf_26 rfl (fun hd => ?_) (fun hd => ?_)
    · omega
    refine wp_aload_n dc_R_rowOf_29 rfl rfl (wp_iload_n dc_R_rowOf_30 rfl rfl (wi_iconst dc_R_rowOf_31 (wi_iconst dc_R_rowOf_32 (wp_iload dc_R_rowOf_33 rfl (wi_imul dc_R_rowOf_35 (wi_iadd dc_R_rowOf_36 ?_))))))
    refine wp_callV (As := [_, _]) dc_R_rowOf_37 lm_R_106 ls_R_pay (by decide) rfl rfl (hp_at _ sh_51) rfl rfl (Nat.le_of_ble_eq_true rfl) (Nat.le_refl _) (Nat.le_refl _) ?_
    refine c_R_pay hro hrt htt k2 g1 (by omega) (by omega) ?_
    refine wp_iload_n dc_R_rowOf_40 rfl rfl ?_
    have nx := ih (i + 1) (by omega)
    refine wi_ic_gt dc_R_rowOf_41 rfl (fun he => ?_) (fun he => ?_)
    · rw [show rwo_ (fi_ F (st_ T (f 2))) c (i + 1) = rwo_ (fi_ F (st_ T (f 2))) c i from if_neg (by show ¬ F (st_ T (f 2) + (1 + 3 * (i : Int))) ≤ c; omega)] at nx
      refine wp_iload dc_R_rowOf_49 rfl (wp_is4 dc_R_rowOf_51 (wp_ii5 dc_R_rowOf_53 (wp_goto dc_R_rowOf_56 rfl ?_)))
      exact nx
    · rw [show rwo_ (fi_ F (st_ T (f 2))) c (i + 1) = i from if_pos (by show F (st_ T (f 2) + (1 + 3 * (i : Int))) ≤ c; omega)] at nx
      refine wp_iload dc_R_rowOf_44 rfl (wp_goto dc_R_rowOf_46 rfl (wp_is4 dc_R_rowOf_51 (wp_ii5 dc_R_rowOf_53 (wp_goto dc_R_rowOf_56 rfl ?_))))
      exact nx
theorem c_R_rowOf {c : Int} (hc : rg c) (hx : rx_ σ F n N T t b f) (hK : K (some (.int (iI (rwo_ (fi_ F (st_ T (f 2))) c (F (st_ T (f 2))).toNat)))) (hp_ σ)) : ct_m l Y_R_rowOf 0 0 [.ref 51, .int (iI t), .int (iI c)] (hp_ σ) K := by
  have hs := hx.1.2.2.2.2 (st_ T (f 2))
  obtain ⟨hro, hrt, htt, ht, htab, hkt, hrh⟩ := id hx
  refine ct_of (L := [.ref 51, .int (iI t), .int (iI c), .retAddr 0, .retAddr 0, .retAddr 0]) (by decide +kernel) (Nat.le_of_ble_eq_true rfl) rfl ?_
  refine wp_aload_n dc_R_rowOf_0 rfl rfl (wi_getR dc_R_rowOf_1 lf_R_40 sh_51 rfl (wi_bipush dc_R_rowOf_4 (wp_iload_n dc_R_rowOf_6 rfl rfl (wi_imul dc_R_rowOf_7 (wi_iconst dc_R_rowOf_8 (wi_iadd dc_R_rowOf_9 (wi_aldE (f 2) dc_R_rowOf_10 sh_62 (by omega) (by omega) (by decide) (htab 2 (by omega) (by omega)) (wp_is3 dc_R_rowOf_11 (wi_iconst dc_R_rowOf_12 (wp_is4 dc_R_rowOf_13 (wi_iconst dc_R_rowOf_15 (wp_is5 dc_R_rowOf_16 ?_))))))))))))
  exact lp_R_rowOf hc hx hK (F (st_ T (f 2))).toNat 0 (by omega)
theorem c_R_many {c : Int} (hc : rg c) (hx : rx_ σ F n N T t b f) (hR : 0 < F (st_ T (f 2))) (hK : K (some (.int (iI (mn_ F (st_ T (f 2)) c)))) (hp_ σ)) : ct_m l Y_R_many 0 0 [.ref 51, .int (iI t), .int (iI c)] (hp_ σ) K := by
  obtain ⟨hro, hrt, htt, ht, htab, hkt, hrh⟩ := id hx
  have k2 := hkt.2.2.1
  obtain ⟨g1, g2, g3, -, g5⟩ := rh_q htt hkt hrh (q := 2) (by omega) (by omega) k2
  have g5 := g5 (by omega)
  rw [show wd_ 2 = 3 from rfl] at g5
  obtain ⟨w1, w2, -⟩ := rwo_spec (fi_ F (st_ T (f 2))) c (F (st_ T (f 2))).toNat
  have w2 := w2 (by omega)
  refine ct_of (L := [.ref 51, .int (iI t), .int (iI c), .retAddr 0]) (by decide +kernel) (Nat.le_of_ble_eq_true rfl) rfl ?_
  refine wp_aload_n dc_R_many_0 rfl rfl (wp_iload_n dc_R_many_1 rfl rfl (wp_iload_n dc_R_many_2 rfl rfl ?_))
  refine wp_callV (As := [_, _]) dc_R_many_3 lm_R_125 ls_R_rowOf (by decide) rfl rfl (hp_at _ sh_51) rfl rfl (Nat.le_of_ble_eq_true rfl) (Nat.le_refl _) (Nat.le_refl _) ?_
  refine c_R_rowOf hc hx ?_
  refine wp_is3 dc_R_many_6 (wp_aload_n dc_R_many_7 rfl rfl (wp_aload_n dc_R_many_8 rfl rfl (wi_getR dc_R_many_9 lf_R_40 sh_51 rfl (wi_bipush dc_R_many_12 (wp_iload_n dc_R_many_14 rfl rfl (wi_imul dc_R_many_15 (wi_iconst dc_R_many_16 (wi_iadd dc_R_many_17 (wi_aldE (f 2) dc_R_many_18 sh_62 (by omega) (by omega) (by decide) (htab 2 (by omega) (by omega)) (wi_iconst dc_R_many_19 (wi_iconst dc_R_many_20 (wp_iload_n dc_R_many_21 rfl rfl (wi_imul dc_R_many_22 ?_)))))))))))))
  refine wi_iadd dc_R_many_23 ?_
  refine wp_callV (As := [_, _]) dc_R_many_24 lm_R_106 ls_R_pay (by decide) rfl rfl (hp_at _ sh_51) rfl rfl (Nat.le_of_ble_eq_true rfl) (Nat.le_refl _) (Nat.le_refl _) ?_
  refine c_R_pay hro hrt htt k2 g1 (by omega) (by omega) ?_
  refine wp_ireturn dc_R_many_27 rfl rfl hK
theorem lp_R_cw3 {x3 x9 x10 x11 : Value} {sc cc R : Int} (hcc : cc = CC_ F T f) (hRe : R = F (st_ T (f 2))) (hR : 0 < cc → 0 < R) (hx : rx_ σ F n N T t b f)
    (hK : ∀ (x8 : Value), wp_m l Y_R_countsWrong none 0 0 159 [.ref 51, .int (iI t), .int (iI sc), x3, .int (iI cc), .int (iI (f 2)), .int (iI R), .int (iI (sm_ (fun c => mn_ F (st_ T (f 2)) (c + 1)) cc.toNat)), x8, x9, x10, x11] [] (hp_ σ) K) :
    ∀ (m i : Nat), (i : Int) + m = cc → wp_m l Y_R_countsWrong none 0 0 134 [.ref 51, .int (iI t), .int (iI sc), x3, .int (iI cc), .int (iI (f 2)), .int (iI R), .int (iI (sm_ (fun c => mn_ F (st_ T (f 2)) (c + 1)) i)), .int (iI ((i : Int) + 1)), x9, x10, x11] [] (hp_ σ) K := by
  have a5 := hx.1.2.2.2.2
  have hs := a5 (st_ T (pj_ f))
  have ecc : CC_ F T f = F (st_ T (pj_ f)) := rfl
  intro m
  induction m with
  | zero =>
    intro i hi
    refine wp_iload dc_R_countsWrong_134 rfl (wp_iload dc_R_countsWrong_136 rfl ?_)
    refine wi_ic_gt dc_R_countsWrong_138 rfl (fun hd => ?_) (fun hd => ?_)
    · have ei : i = cc.toNat := by omega
      subst ei
      exact hK _
    · omega
  | succ m ih =>
    intro i hi
    refine wp_iload dc_R_countsWrong_134 rfl (wp_iload dc_R_countsWrong_136 rfl ?_)
    refine wi_ic_gt dc_R_countsWrong_138 rfl (fun hd => ?_) (fun hd => ?_)
    · omega
    refine wp_iload dc_R_countsWrong_141 rfl (wp_aload_n dc_R_countsWrong_143 rfl rfl (wp_iload_n dc_R_countsWrong_144 rfl rfl (wp_iload dc_R_countsWrong_145 rfl ?_)))
    refine wp_callV (As := [_, _]) dc_R_countsWrong_147 lm_R_119 ls_R_many (by decide) rfl rfl (hp_at _ sh_51) rfl rfl (Nat.le_of_ble_eq_true rfl) (Nat.le_refl _) (Nat.le_refl _) ?_
    refine c_R_many ⟨by omega, by omega⟩ hx (by omega) ?_
    refine wi_iadd dc_R_countsWrong_150 (wp_is7 dc_R_countsWrong_151 (wp_ii8 dc_R_countsWrong_153 (wp_goto dc_R_countsWrong_156 rfl ?_)))
    exact ih (i + 1) (by omega)
theorem lp_R_cw2 {x3 x8 x9 x10 x11 : Value} {sc cc R : Int} (hcc : cc = CC_ F T f) (hRe : R = F (st_ T (f 2))) (hx : rx_ σ F n N T t b f)
    (hK : (∀ r, 0 ≤ r → r < R → fi_ F (st_ T (f 2)) r ≤ cc) → ∀ (i : Int), wp_m l Y_R_countsWrong none 0 0 128 [.ref 51, .int (iI t), .int (iI sc), x3, .int (iI cc), .int (iI (f 2)), .int (iI R), .int (iI i), x8, x9, x10, x11] [] (hp_ σ) K) (hB : ¬ (∀ r, 0 ≤ r → r < R → fi_ F (st_ T (f 2)) r ≤ cc) → K (some (.int (iI 1))) (hp_ σ)) :
    ∀ (m : Nat) (i : Int), i + m = R → 0 ≤ i → (∀ r, 0 ≤ r → r < i → fi_ F (st_ T (f 2)) r ≤ cc) → wp_m l Y_R_countsWrong none 0 0 96 [.ref 51, .int (iI t), .int (iI sc), x3, .int (iI cc), .int (iI (f 2)), .int (iI R), .int (iI i), x8, x9, x10, x11] [] (hp_ σ) K := by
  obtain ⟨hro, hrt, htt, ht, htab, hkt, hrh⟩ := id hx
  have a5 := hro.2.2.2.2
  have hs := a5 (st_ T (pj_ f))
  have hs2 := a5 (st_ T (f 2))
  have ecc : CC_ F T f = F (st_ T (pj_ f)) := rfl
  have k2 := hkt.2.2.1
  obtain ⟨g1, g2, g3, -, g5⟩ := rh_q htt hkt hrh (q := 2) (by omega) (by omega) k2
  have g5 := g5 (by omega)
  rw [show wd_ 2 = 3 from rfl] at g5
  intro m
  induction m with
  | zero =>
    intro i hi i0 hall
    have e : i = R := by omega
    refine wp_iload dc_R_countsWrong_96 rfl (wp_iload dc_R_countsWrong_98 rfl ?_)
    refine wi_ic_ge dc_R_countsWrong_100 rfl (fun hd => ?_) (fun hd => ?_)
    · exact hK (fun r r0 r1 => hall r r0 (by omega)) i
    · omega
  | succ m ih =>
    intro i hi i0 hall
    have e1 := a5 (st_ T (f 2) + (1 + 3 * i))
    refine wp_iload dc_R_countsWrong_96 rfl (wp_iload dc_R_countsWrong_98 rfl ?_)
    refine wi_ic_ge dc_R_countsWrong_100 rfl (fun hd => ?_) (fun hd => ?_)
    · omega
    refine wp_aload_n dc_R_countsWrong_103 rfl rfl (wp_iload dc_R_countsWrong_104 rfl (wi_iconst dc_R_countsWrong_106 (wi_iconst dc_R_countsWrong_107 (wp_iload dc_R_countsWrong_108 rfl (wi_imul dc_R_countsWrong_110 (wi_iadd dc_R_countsWrong_111 ?_))))))
    refine wp_callV (As := [_, _]) dc_R_countsWrong_112 lm_R_106 ls_R_pay (by decide) rfl rfl (hp_at _ sh_51) rfl rfl (Nat.le_of_ble_eq_true rfl) (Nat.le_refl _) (Nat.le_refl _) ?_
    refine c_R_pay hro hrt htt k2 g1 (by omega) (by omega) ?_
    refine wp_iload dc_R_countsWrong_115 rfl ?_
    refine wi_ic_le dc_R_countsWrong_117 rfl (fun he => ?_) (fun he => ?_)
    · refine wp_ii7 dc_R_countsWrong_122 (wp_goto dc_R_countsWrong_125 rfl ?_)
      refine ih (i + 1) (by omega) (by omega) (fun r r0 r1 => ?_)
      by_cases hr : r = i
      · subst hr; exact he
      · exact hall r r0 (by omega)
    · refine wi_iconst dc_R_countsWrong_120 ?_
      refine wp_ireturn dc_R_countsWrong_121 rfl rfl (hB (fun h => he (h i i0 (by omega))))
theorem lp_R_cw4 {P : Prop} {x3 x4 x5 x6 x7 : Value} {sc R : Int} (hsc : sc = SC_ F T f) (hx : rx_ σ F n N T t b f) (hRe : R = (if f 6 = -1 then 0 else F (st_ T (f 6))))
    (h0 : P ∧ (f 6 = -1 ∨ ∀ r, 0 ≤ r → r < F (st_ T (f 6)) → F (st_ T (f 6) + (1 + r)) ≤ SC_ F T f) → K (some (.int (iI 0))) (hp_ σ)) (h1 : ¬ (P ∧ (f 6 = -1 ∨ ∀ r, 0 ≤ r → r < F (st_ T (f 6)) → F (st_ T (f 6) + (1 + r)) ≤ SC_ F T f)) → K (some (.int (iI 1))) (hp_ σ)) :
    ∀ (m : Nat) (i w : Int), i + m = R → 0 ≤ i → (w = 0 ∧ P ∧ (∀ r, 0 ≤ r → r < i → F (st_ T (f 6) + (1 + r)) ≤ sc)) ∨ (w = 1 ∧ ¬ (P ∧ (∀ r, 0 ≤ r → r < i → F (st_ T (f 6) + (1 + r)) ≤ sc))) → wp_m l Y_R_countsWrong none 0 0 207 [.ref 51, .int (iI t), .int (iI sc), x3, x4, x5, x6, x7, .int (iI (f 6)), .int (iI w), .int (iI R), .int (iI i)] [] (hp_ σ) K := by
  obtain ⟨hro, hrt, htt, ht, htab, hkt, hrh⟩ := id hx
  have a5 := hro.2.2.2.2
  have hs := a5 (st_ T (f 6))
  have hs3 := a5 (st_ T (f 3) + 1)
  have esc : SC_ F T f = F (st_ T (f 3) + 1) := rfl
  have c6 := kt_cs hkt (q := 6) (by omega) (by omega)
  have hR : 0 ≤ R ∧ R ≤ 255 := by rw [hRe]; split <;> omega
  intro m
  induction m with
  | zero =>
    intro i w hi i0 hw
    have e : i = R := by omega
    subst e
    have key : (f 6 = -1 ∨ ∀ r, 0 ≤ r → r < F (st_ T (f 6)) → F (st_ T (f 6) + (1 + r)) ≤ SC_ F T f) ↔ (∀ r, 0 ≤ r → r < i → F (st_ T (f 6) + (1 + r)) ≤ sc) := by
      rw [hsc, hRe]
      by_cases h6 : f 6 = -1
      · rw [if_pos h6]
        exact ⟨fun _ r r0 r1 => by omega, fun _ => Or.inl h6⟩
      · rw [if_neg h6]
        exact ⟨fun h => h.resolve_left h6, fun h => Or.inr h⟩
    rw [key] at h0 h1
    refine wp_iload dc_R_countsWrong_207 rfl (wp_iload dc_R_countsWrong_209 rfl ?_)
    refine wi_ic_ge dc_R_countsWrong_211 rfl (fun hd => ?_) (fun hd => ?_)
    · rcases hw with ⟨rfl, hw⟩ | ⟨rfl, hw⟩
      · refine wp_iload dc_R_countsWrong_246 rfl ?_
        refine wp_ireturn dc_R_countsWrong_248 rfl rfl (h0 hw)
      · refine wp_iload dc_R_countsWrong_246 rfl ?_
        refine wp_ireturn dc_R_countsWrong_248 rfl rfl (h1 hw)
    · omega
  | succ m ih =>
    intro i w hi i0 hw
    have h6 : ¬ f 6 = -1 := fun h => by rw [if_pos h] at hRe; omega
    rw [if_neg h6] at hRe
    obtain ⟨g1, g2, g3, -, g5⟩ := rh_q htt hkt hrh (q := 6) (by omega) (by omega) (by omega)
    have g5 := g5 (by omega)
    rw [show wd_ 6 = 1 from rfl] at g5
    have e1 := a5 (st_ T (f 6) + (1 + i))
    have hw01 : w = 0 ∨ w = 1 := by rcases hw with h | h <;> omega
    have nx : ∀ w' : Int, (w' = 0 ∧ w = 0 ∧ F (st_ T (f 6) + (1 + i)) ≤ sc) ∨ (w' = 1 ∧ ¬ (w = 0 ∧ F (st_ T (f 6) + (1 + i)) ≤ sc)) → wp_m l Y_R_countsWrong none 0 0 238 [.ref 51, .int (iI t), .int (iI sc), x3, x4, x5, x6, x7, .int (iI (f 6)), .int (iI w), .int (iI R), .int (iI i)] [.int (iI w')] (hp_ σ) K := fun w' h => by
      refine wp_is9 dc_R_countsWrong_238 (wp_ii11 dc_R_countsWrong_240 (wp_goto dc_R_countsWrong_243 rfl ?_))
      refine ih (i + 1) w' (by omega) (by omega) ?_
      rcases h with ⟨k1, k2, k3⟩ | ⟨k1, k2⟩
      · rcases hw with h | h
        · refine Or.inl ⟨k1, h.2.1, fun r r0 r1 => ?_⟩
          by_cases hr : r = i
          · subst hr; exact k3
          · exact h.2.2 r r0 (by omega)
        · omega
      · refine Or.inr ⟨k1, fun hh => ?_⟩
        rcases hw with h | h
        · exact k2 ⟨h.1, hh.2 i i0 (by omega)⟩
        · exact h.2 ⟨hh.1, fun r r0 r1 => hh.2 r r0 (by omega)⟩
    refine wp_iload dc_R_countsWrong_207 rfl (wp_iload dc_R_countsWrong_209 rfl ?_)
    refine wi_ic_ge dc_R_countsWrong_211 rfl (fun hd => ?_) (fun hd => ?_)
    · omega
    refine wp_iload dc_R_countsWrong_214 rfl ?_
    refine wi_if_ne dc_R_countsWrong_216 rfl (fun he => ?_) (fun he => ?_)
    · refine wi_iconst dc_R_countsWrong_233 (wp_goto dc_R_countsWrong_234 rfl ?_)
      exact nx 1 (Or.inr ⟨rfl, fun h => he h.1⟩)
    refine wp_aload_n dc_R_countsWrong_219 rfl rfl (wp_iload dc_R_countsWrong_220 rfl (wi_iconst dc_R_countsWrong_222 (wp_iload dc_R_countsWrong_223 rfl (wi_iadd dc_R_countsWrong_225 ?_))))
    refine wp_callV (As := [_, _]) dc_R_countsWrong_226 lm_R_106 ls_R_pay (by decide) rfl rfl (hp_at _ sh_51) rfl rfl (Nat.le_of_ble_eq_true rfl) (Nat.le_refl _) (Nat.le_refl _) ?_
    refine c_R_pay hro hrt htt (by omega) g1 (by omega) (by omega) ?_
    refine wp_iload_n dc_R_countsWrong_229 rfl rfl ?_
    refine wi_ic_le dc_R_countsWrong_230 rfl (fun hf => ?_) (fun hf => ?_)
    · refine wi_iconst dc_R_countsWrong_237 ?_
      exact nx 0 (Or.inl ⟨rfl, he, hf⟩)
    · refine wi_iconst dc_R_countsWrong_233 (wp_goto dc_R_countsWrong_234 rfl ?_)
      exact nx 1 (Or.inr ⟨rfl, fun h => hf h.2⟩)
theorem mn_rg (hF : ∀ i, 0 ≤ F i ∧ F i < 256) (s c : Int) : 0 ≤ mn_ F s c ∧ mn_ F s c ≤ 255 := by
  have := hF (s + (2 + 3 * rwo_ (fi_ F s) c (F s).toNat))
  unfold mn_
  omega
theorem smn_rg (hF : ∀ i, 0 ≤ F i ∧ F i < 256) (s : Int) (m : Nat) : 0 ≤ sm_ (fun c => mn_ F s (c + 1)) m ∧ sm_ (fun c => mn_ F s (c + 1)) m ≤ 255 * m := sm_rg (by omega) m (fun i _ => mn_rg hF s _)
theorem c_R_countsWrong (hx : rx_ σ F n N T t b f) (h0 : CN_ F T f → K (some (.int (iI 0))) (hp_ σ)) (h1 : ¬ CN_ F T f → K (some (.int (iI 1))) (hp_ σ)) : ct_m l Y_R_countsWrong 0 0 [.ref 51, .int (iI t)] (hp_ σ) K := by
  obtain ⟨hro, hrt, htt, ht, htab, hkt, hrh⟩ := id hx
  have a5 := hro.2.2.2.2
  have t2 := htt.2.1
  have hs3 := a5 (st_ T (f 3) + 1)
  have hs2 := a5 (st_ T (f 2))
  have hs6 := a5 (st_ T (f 6))
  have hsp := a5 (st_ T (pj_ f))
  have esc : SC_ F T f = F (st_ T (f 3) + 1) := rfl
  have ecc : CC_ F T f = F (st_ T (pj_ f)) := rfl
  have k0 := hkt.2.1
  have k2 := hkt.2.2.1
  obtain ⟨u1, u2, u3, -, u5⟩ := rh_q htt hkt hrh (q := 0) (by omega) (by omega) k0
  have u5 := u5 (by omega)
  rw [show wd_ 0 = 2 from rfl] at u5
  obtain ⟨g1, g2, g3, -, g5⟩ := rh_q htt hkt hrh (q := 2) (by omega) (by omega) k2
  have g5 := g5 (by omega)
  rw [show wd_ 2 = 3 from rfl] at g5
  have tr0 := tot_rg a5 (st_ T (f 0))
  have tr1 := tot_rg a5 (st_ T (f 1))
  have c1 := kt_cs hkt (q := 1) (by omega) (by omega)
  have c6 := kt_cs hkt (q := 6) (by omega) (by omega)
  have smr := smn_rg a5 (st_ T (f 2)) (CC_ F T f).toNat
  have z2 : st_ T (f 2) + 0 = st_ T (f 2) := by omega
  have z6 : st_ T (f 6) + 0 = st_ T (f 6) := by omega
  have bad1 : ¬ CN_ F T f → wp_m l Y_R_countsWrong none 0 0 50 [.ref 51, .int (iI t), .int (iI (SC_ F T f)), .int (iI (f 1)), .retAddr 0, .retAddr 0, .retAddr 0, .retAddr 0, .retAddr 0, .retAddr 0, .retAddr 0, .retAddr 0] [] (hp_ σ) K := fun h => by
    refine wi_iconst dc_R_countsWrong_50 ?_
    refine wp_ireturn dc_R_countsWrong_51 rfl rfl (h1 h)
  have K52 : tot_ F (st_ T (f 0)) = SC_ F T f → (f 1 = -1 ∨ tot_ F (st_ T (f 1)) = SC_ F T f) → wp_m l Y_R_countsWrong none 0 0 52 [.ref 51, .int (iI t), .int (iI (SC_ F T f)), .int (iI (f 1)), .retAddr 0, .retAddr 0, .retAddr 0, .retAddr 0, .retAddr 0, .retAddr 0, .retAddr 0, .retAddr 0] [] (hp_ σ) K := fun d1 d2 => by
    have K93 : ¬ (0 < CC_ F T f ∧ F (st_ T (f 2)) = 0) → wp_m l Y_R_countsWrong none 0 0 93 [.ref 51, .int (iI t), .int (iI (SC_ F T f)), .int (iI (f 1)), .int (iI (CC_ F T f)), .int (iI (f 2)), .int (iI (F (st_ T (f 2)))), .retAddr 0, .retAddr 0, .retAddr 0, .retAddr 0, .retAddr 0] [] (hp_ σ) K := fun d3 => by
      refine wi_iconst dc_R_countsWrong_93 (wp_is7 dc_R_countsWrong_94 ?_)
      refine lp_R_cw2 rfl rfl hx (fun d4 i => ?_) (fun d4 => h1 (fun h => d4 h.2.2.2.1)) (F (st_ T (f 2))).toNat 0 (by omega) (by omega) (fun r r0 r1 => by omega)
      refine wi_iconst dc_R_countsWrong_128 (wp_is7 dc_R_countsWrong_129 (wi_iconst dc_R_countsWrong_131 (wp_is8 dc_R_countsWrong_132 ?_)))
      refine lp_R_cw3 rfl rfl (by omega) hx (fun x8 => ?_) (CC_ F T f).toNat 0 (by omega)
      suffices K184 : ∀ w : Int, (w = 0 ∧ sm_ (fun c => mn_ F (st_ T (f 2)) (c + 1)) (CC_ F T f).toNat = SC_ F T f) ∨ (w = 1 ∧ ¬ sm_ (fun c => mn_ F (st_ T (f 2)) (c + 1)) (CC_ F T f).toNat = SC_ F T f) → wp_m l Y_R_countsWrong none 0 0 184 [.ref 51, .int (iI t), .int (iI (SC_ F T f)), .int (iI (f 1)), .int (iI (CC_ F T f)), .int (iI (f 2)), .int (iI (F (st_ T (f 2)))), .int (iI (sm_ (fun c => mn_ F (st_ T (f 2)) (c + 1)) (CC_ F T f).toNat)), .int (iI (f 6)), .retAddr 0, .retAddr 0, .retAddr 0] [.int (iI w)] (hp_ σ) K by
        refine wp_aload_n dc_R_countsWrong_159 rfl rfl (wi_getR dc_R_countsWrong_160 lf_R_40 sh_51 rfl (wi_bipush dc_R_countsWrong_163 (wp_iload_n dc_R_countsWrong_165 rfl rfl (wi_imul dc_R_countsWrong_166 (wi_bipush dc_R_countsWrong_167 (wi_iadd dc_R_countsWrong_169 (wi_aldE (f 6) dc_R_countsWrong_170 sh_62 (by omega) (by omega) (by decide) (htab 6 (by omega) (by omega)) (wp_is8 dc_R_countsWrong_171 (wp_iload dc_R_countsWrong_173 rfl (wp_iload_n dc_R_countsWrong_175 rfl rfl ?_))))))))))
        refine wi_ic_eq dc_R_countsWrong_176 rfl (fun he => ?_) (fun he => ?_)
        · refine wi_iconst dc_R_countsWrong_183 ?_
          exact K184 0 (Or.inl ⟨rfl, he⟩)
        · refine wi_iconst dc_R_countsWrong_179 (wp_goto dc_R_countsWrong_180 rfl ?_)
          exact K184 1 (Or.inr ⟨rfl, he⟩)
      intro w hw
      have hw01 : w = 0 ∨ w = 1 := by rcases hw with h | h <;> omega
      have fin : wp_m l Y_R_countsWrong none 0 0 202 [.ref 51, .int (iI t), .int (iI (SC_ F T f)), .int (iI (f 1)), .int (iI (CC_ F T f)), .int (iI (f 2)), .int (iI (F (st_ T (f 2)))), .int (iI (sm_ (fun c => mn_ F (st_ T (f 2)) (c + 1)) (CC_ F T f).toNat)), .int (iI (f 6)), .int (iI w), .retAddr 0, .retAddr 0] [.int (iI (if f 6 = -1 then 0 else F (st_ T (f 6))))] (hp_ σ) K := by
        refine wp_is10 dc_R_countsWrong_202 (wi_iconst dc_R_countsWrong_204 (wp_is11 dc_R_countsWrong_205 ?_))
        have hr0 : 0 ≤ (if f 6 = -1 then 0 else F (st_ T (f 6))) := by split <;> omega
        refine lp_R_cw4 (P := sm_ (fun c => mn_ F (st_ T (f 2)) (c + 1)) (CC_ F T f).toNat = SC_ F T f) rfl hx rfl (fun h => h0 ⟨d1, d2, d3, d4, h.1, h.2⟩) (fun h => h1 (fun hh => h ⟨hh.2.2.2.2.1, hh.2.2.2.2.2⟩)) (if f 6 = -1 then 0 else F (st_ T (f 6))).toNat 0 w (by omega) (by omega) ?_
        rcases hw with h | h
        · exact Or.inl ⟨h.1, h.2, fun r r0 r1 => by omega⟩
        · exact Or.inr ⟨h.1, fun hh => h.2 hh.1⟩
      refine wp_is9 dc_R_countsWrong_184 (wp_iload dc_R_countsWrong_186 rfl ?_)
      refine wi_if_ge dc_R_countsWrong_188 rfl (fun he => ?_) (fun he => ?_)
      · rw [if_neg (by omega)] at fin
        obtain ⟨v1, v2, v3, -, v5⟩ := rh_q htt hkt hrh (q := 6) (by omega) (by omega) he
        have v5 := v5 (by omega)
        refine wp_aload_n dc_R_countsWrong_195 rfl rfl (wp_iload dc_R_countsWrong_196 rfl (wi_iconst dc_R_countsWrong_198 ?_))
        refine wp_callV (As := [_, _]) dc_R_countsWrong_199 lm_R_106 ls_R_pay (by decide) rfl rfl (hp_at _ sh_51) rfl rfl (Nat.le_of_ble_eq_true rfl) (Nat.le_refl _) (Nat.le_refl _) ?_
        refine c_R_pay hro hrt htt he v1 (by omega) (by omega) ?_
        rw [z6]
        exact fin
      · rw [if_pos (by omega)] at fin
        refine wi_iconst dc_R_countsWrong_191 (wp_goto dc_R_countsWrong_192 rfl ?_)
        exact fin
    refine wp_aload_n dc_R_countsWrong_52 rfl rfl (wp_iload_n dc_R_countsWrong_53 rfl rfl ?_)
    refine wp_callV (As := [_]) dc_R_countsWrong_54 lm_R_116 ls_R_chunkCount (by decide) rfl rfl (hp_at _ sh_51) rfl rfl (Nat.le_of_ble_eq_true rfl) (Nat.le_refl _) (Nat.le_refl _) ?_
    refine c_R_chunkCount hx ?_
    refine wp_is4 dc_R_countsWrong_57 (wp_aload_n dc_R_countsWrong_59 rfl rfl (wi_getR dc_R_countsWrong_60 lf_R_40 sh_51 rfl (wi_bipush dc_R_countsWrong_63 (wp_iload_n dc_R_countsWrong_65 rfl rfl (wi_imul dc_R_countsWrong_66 (wi_iconst dc_R_countsWrong_67 (wi_iadd dc_R_countsWrong_68 (wi_aldE (f 2) dc_R_countsWrong_69 sh_62 (by omega) (by omega) (by decide) (htab 2 (by omega) (by omega)) (wp_is5 dc_R_countsWrong_70 (wp_aload_n dc_R_countsWrong_72 rfl rfl (wp_iload dc_R_countsWrong_73 rfl (wi_iconst dc_R_countsWrong_75 ?_))))))))))))
    refine wp_callV (As := [_, _]) dc_R_countsWrong_76 lm_R_106 ls_R_pay (by decide) rfl rfl (hp_at _ sh_51) rfl rfl (Nat.le_of_ble_eq_true rfl) (Nat.le_refl _) (Nat.le_refl _) ?_
    refine c_R_pay hro hrt htt k2 g1 (by omega) (by omega) ?_
    rw [z2]
    refine wp_is6 dc_R_countsWrong_79 (wp_iload dc_R_countsWrong_81 rfl ?_)
    refine wi_if_le dc_R_countsWrong_83 rfl (fun hd => ?_) (fun hd => ?_)
    · exact K93 (by omega)
    refine wp_iload dc_R_countsWrong_86 rfl ?_
    refine wi_if_ne dc_R_countsWrong_88 rfl (fun he => ?_) (fun he => ?_)
    · exact K93 (by omega)
    · refine wi_iconst dc_R_countsWrong_91 ?_
      refine wp_ireturn dc_R_countsWrong_92 rfl rfl (h1 (fun h => h.2.2.1 ⟨by omega, he⟩))
  refine ct_of (L := [.ref 51, .int (iI t), .retAddr 0, .retAddr 0, .retAddr 0, .retAddr 0, .retAddr 0, .retAddr 0, .retAddr 0, .retAddr 0, .retAddr 0, .retAddr 0]) (by decide +kernel) (Nat.le_of_ble_eq_true rfl) rfl ?_
  refine wp_aload_n dc_R_countsWrong_0 rfl rfl (wp_iload_n dc_R_countsWrong_1 rfl rfl ?_)
  refine wp_callV (As := [_]) dc_R_countsWrong_2 lm_R_110 ls_R_sampleCount (by decide) rfl rfl (hp_at _ sh_51) rfl rfl (Nat.le_of_ble_eq_true rfl) (Nat.le_refl _) (Nat.le_refl _) ?_
  refine c_R_sampleCount hx ?_
  refine wp_is2 dc_R_countsWrong_5 (wp_aload_n dc_R_countsWrong_6 rfl rfl (wi_getR dc_R_countsWrong_7 lf_R_40 sh_51 rfl (wi_bipush dc_R_countsWrong_10 (wp_iload_n dc_R_countsWrong_12 rfl rfl (wi_imul dc_R_countsWrong_13 (wi_iconst dc_R_countsWrong_14 (wi_iadd dc_R_countsWrong_15 (wi_aldE (f 1) dc_R_countsWrong_16 sh_62 (by omega) (by omega) (by decide) (htab 1 (by omega) (by omega)) (wp_is3 dc_R_countsWrong_17 (wp_aload_n dc_R_countsWrong_18 rfl rfl (wp_aload_n dc_R_countsWrong_19 rfl rfl (wi_getR dc_R_countsWrong_20 lf_R_40 sh_51 rfl (wi_bipush dc_R_countsWrong_23 ?_)))))))))))))
  refine wp_iload_n dc_R_countsWrong_25 rfl rfl (wi_imul dc_R_countsWrong_26 (wi_iconst dc_R_countsWrong_27 (wi_iadd dc_R_countsWrong_28 (wi_aldE (f 0) dc_R_countsWrong_29 sh_62 (by omega) (by omega) (by decide) (htab 0 (by omega) (by omega)) ?_))))
  refine wp_callV (As := [_]) dc_R_countsWrong_30 lm_R_113 ls_R_total (by decide) rfl rfl (hp_at _ sh_51) rfl rfl (Nat.le_of_ble_eq_true rfl) (Nat.le_refl _) (Nat.le_refl _) ?_
  refine c_R_total hro hrt htt k0 u1 u5.2 ?_
  refine wp_iload_n dc_R_countsWrong_33 rfl rfl ?_
  refine wi_ic_ne dc_R_countsWrong_34 rfl (fun hd => ?_) (fun hd => ?_)
  · exact bad1 (fun h => hd h.1)
  refine wp_iload_n dc_R_countsWrong_37 rfl rfl ?_
  refine wi_if_lt dc_R_countsWrong_38 rfl (fun he => ?_) (fun he => ?_)
  · exact K52 hd (Or.inl (by omega))
  obtain ⟨v1, v2, v3, -, v5⟩ := rh_q htt hkt hrh (q := 1) (by omega) (by omega) (by omega)
  have v5 := v5 (by omega)
  rw [show wd_ 1 = 2 from rfl] at v5
  refine wp_aload_n dc_R_countsWrong_41 rfl rfl (wp_iload_n dc_R_countsWrong_42 rfl rfl ?_)
  refine wp_callV (As := [_]) dc_R_countsWrong_43 lm_R_113 ls_R_total (by decide) rfl rfl (hp_at _ sh_51) rfl rfl (Nat.le_of_ble_eq_true rfl) (Nat.le_refl _) (Nat.le_refl _) ?_
  refine c_R_total hro hrt htt (by omega) v1 v5.2 ?_
  refine wp_iload_n dc_R_countsWrong_46 rfl rfl ?_
  refine wi_ic_eq dc_R_countsWrong_47 rfl (fun hf => ?_) (fun hf => ?_)
  · exact K52 hd (Or.inr hf)
  · refine bad1 (fun h => ?_)
    rcases h.2.1 with g | g
    · omega
    · exact hf g
end CR
