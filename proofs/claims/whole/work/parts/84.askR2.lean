/-! the reference's inChunk and mediaTime; the class's of and mediaTime -/
section AS
variable {l : Launch} {σ : sg_} {K : Option Value → mx_H → Prop} {F : Int → Int} {n N : Int} {T : px_T} {t b : Int} {f : Int → Int}
theorem lp_R_ic1 {k c w x6 : Int} (hx : rx_ σ F n N T t b f) (k1 : k < SC_ F T f) (s0 : 0 ≤ ks_ F T f c)
    (hK : ∀ (x8 : Int), wp_m l Y_R_inChunk none 0 0 71 [.ref 51, .int (iI t), .int (iI k), .int (iI w), .int (iI (ks_ F T f c)), .int (iI c), .int (iI x6), .int (iI (pk_ F T f c k)), .int (iI x8)] [] (hp_ σ) K) :
    ∀ (m i : Nat), ks_ F T f c + i + m = k → wp_m l Y_R_inChunk none 0 0 47 [.ref 51, .int (iI t), .int (iI k), .int (iI w), .int (iI (ks_ F T f c)), .int (iI c), .int (iI x6), .int (iI (pc_ F T f c + bt_ F (st_ T (f 3)) (ks_ F T f c) i)), .int (iI (ks_ F T f c + i))] [] (hp_ σ) K := by
  have hs := hx.1.2.2.2.2 (st_ T (f 3) + 1)
  have esc : SC_ F T f = F (st_ T (f 3) + 1) := rfl
  intro m
  induction m with
  | zero =>
    intro i hi
    have e : (k - ks_ F T f c).toNat = i := by omega
    have hh := hK (ks_ F T f c + i)
    unfold pk_ at hh
    rw [e] at hh
    refine wp_iload dc_R_inChunk_47 rfl (wp_iload_n dc_R_inChunk_49 rfl rfl ?_)
    refine wi_ic_ge dc_R_inChunk_50 rfl (fun hd => ?_) (fun hd => ?_)
    · exact hh
    · omega
  | succ m ih =>
    intro i hi
    refine wp_iload dc_R_inChunk_47 rfl (wp_iload_n dc_R_inChunk_49 rfl rfl ?_)
    refine wi_ic_ge dc_R_inChunk_50 rfl (fun hd => ?_) (fun hd => ?_)
    · omega
    refine wp_iload dc_R_inChunk_53 rfl (wp_aload_n dc_R_inChunk_55 rfl rfl (wp_iload_n dc_R_inChunk_56 rfl rfl (wp_iload dc_R_inChunk_57 rfl ?_)))
    refine wp_callV (As := [_, _]) dc_R_inChunk_59 lm_R_128 ls_R_sizeOf (by decide) rfl rfl (hp_at _ sh_51) rfl rfl (Nat.le_of_ble_eq_true rfl) (Nat.le_refl _) (Nat.le_refl _) ?_
    refine c_R_sizeOf hx (by omega) (by omega) ?_
    have nx := ih (i + 1) (by omega)
    rw [show ks_ F T f c + ((i + 1 : Nat) : Int) = ks_ F T f c + i + 1 by omega, show pc_ F T f c + bt_ F (st_ T (f 3)) (ks_ F T f c) (i + 1) = pc_ F T f c + bt_ F (st_ T (f 3)) (ks_ F T f c) i + sz_ F (st_ T (f 3)) (ks_ F T f c + i) from (Int.add_assoc _ _ _).symm] at nx
    refine wi_iadd dc_R_inChunk_62 (wp_is7 dc_R_inChunk_63 (wp_ii8 dc_R_inChunk_65 (wp_goto dc_R_inChunk_68 rfl ?_)))
    exact nx
theorem lp_R_ic {k w : Int} (hcn : CN_ F T f) (hx : rx_ σ F n N T t b f) (k0 : 0 ≤ k) (k1 : k < SC_ F T f) (hw : w = 0 ∨ w = 5) (hK : ∀ c, in_ F T f k c → K (some (.int (iI (if w = 0 then pk_ F T f c k else ds_ F T f c)))) (hp_ σ)) :
    ∀ (m : Nat) (c : Int) (u6 u7 u8 : Value), u6.category = 1 → u7.category = 1 → c + m = CC_ F T f + 1 → 1 ≤ c → ks_ F T f c ≤ k → wp_m l Y_R_inChunk none 0 0 6 [.ref 51, .int (iI t), .int (iI k), .int (iI w), .int (iI (ks_ F T f c)), .int (iI c), u6, u7, u8] [] (hp_ σ) K := by
  obtain ⟨hro, hrt, htt, ht, htab, hkt, hrh⟩ := id hx
  have a5 := hro.2.2.2.2
  have hs3 := a5 (st_ T (f 3) + 1)
  have hsp := a5 (st_ T (pj_ f))
  have hs2 := a5 (st_ T (f 2))
  have esc : SC_ F T f = F (st_ T (f 3) + 1) := rfl
  have ecc : CC_ F T f = F (st_ T (pj_ f)) := rfl
  intro m
  induction m with
  | zero =>
    intro c u6 u7 u8 hu6 hu7 hi c0 hck
    have e : ks_ F T f c = SC_ F T f := by
      show sm_ _ (c - 1).toNat = _
      rw [show c - 1 = CC_ F T f by omega]
      exact hcn.2.2.2.2.1
    omega
  | succ m ih =>
    intro c u6 u7 u8 hu6 hu7 hi c0 hck
    have mr := mn_rg a5 (st_ T (f 2)) c
    obtain ⟨kl0, kl1⟩ := ks_le a5 hcn c0 (by omega)
    have hR : 0 < F (st_ T (f 2)) := by have := hcn.2.2.1; omega
    refine wp_iload dc_R_inChunk_6 rfl (wp_aload_n dc_R_inChunk_8 rfl rfl (wp_iload_n dc_R_inChunk_9 rfl rfl ?_))
    refine wp_callV (As := [_]) dc_R_inChunk_10 lm_R_116 ls_R_chunkCount (by decide) rfl rfl (hp_at _ sh_51) rfl rfl (Nat.le_of_ble_eq_true rfl) (Nat.le_refl _) (Nat.le_refl _) ?_
    refine c_R_chunkCount hx ?_
    refine wi_ic_gt dc_R_inChunk_13 rfl (fun hd => ?_) (fun hd => ?_)
    · omega
    refine wp_aload_n dc_R_inChunk_16 rfl rfl (wp_iload_n dc_R_inChunk_17 rfl rfl (wp_iload dc_R_inChunk_18 rfl ?_))
    refine wp_callV (As := [_, _]) dc_R_inChunk_20 lm_R_119 ls_R_many (by decide) rfl rfl (hp_at _ sh_51) rfl rfl (Nat.le_of_ble_eq_true rfl) (Nat.le_refl _) (Nat.le_refl _) ?_
    refine c_R_many ⟨by omega, by omega⟩ hx hR ?_
    refine wp_is6 dc_R_inChunk_23 (wp_iload_n dc_R_inChunk_25 rfl rfl (wp_iload dc_R_inChunk_26 rfl (wp_iload dc_R_inChunk_28 rfl (wi_iadd dc_R_inChunk_30 ?_))))
    refine wi_ic_ge dc_R_inChunk_31 rfl (fun he => ?_) (fun he => ?_)
    · refine wp_iload dc_R_inChunk_111 rfl (wp_iload dc_R_inChunk_113 rfl ?_)
      refine wi_iadd dc_R_inChunk_115 ?_
      rw [← ks_S c0]
      refine wp_is4 dc_R_inChunk_116 (wp_ii5 dc_R_inChunk_118 (wp_goto dc_R_inChunk_121 rfl ?_))
      exact ih (c + 1) _ _ _ rfl hu7 (by omega) (by omega) (by rw [ks_S c0]; exact he)
    · have hin : in_ F T f k c := ⟨c0, by omega, hck, by omega⟩
      have hk := hK c hin
      refine wp_aload_n dc_R_inChunk_34 rfl rfl (wp_iload_n dc_R_inChunk_35 rfl rfl (wp_iload dc_R_inChunk_36 rfl ?_))
      refine wp_callV (As := [_, _]) dc_R_inChunk_38 lm_R_131 ls_R_chunkPlace (by decide) rfl rfl (hp_at _ sh_51) rfl rfl (Nat.le_of_ble_eq_true rfl) (Nat.le_refl _) (Nat.le_refl _) ?_
      refine c_R_chunkPlace hx c0 (by omega) ?_
      refine wp_is7 dc_R_inChunk_41 (wp_iload dc_R_inChunk_43 rfl (wp_is8 dc_R_inChunk_45 ?_))
      have h := lp_R_ic1 (l := l) (K := K) (w := w) (x6 := mn_ F (st_ T (f 2)) c) hx k1 kl0 (c := c) (fun x8 => by
        refine wp_aload_n dc_R_inChunk_71 rfl rfl (wp_iload_n dc_R_inChunk_72 rfl rfl (wp_iload dc_R_inChunk_73 rfl ?_))
        refine wp_callV (As := [_, _]) dc_R_inChunk_75 lm_R_125 ls_R_rowOf (by decide) rfl rfl (hp_at _ sh_51) rfl rfl (Nat.le_of_ble_eq_true rfl) (Nat.le_refl _) (Nat.le_refl _) ?_
        refine c_R_rowOf ⟨by omega, by omega⟩ hx ?_
        obtain ⟨w1, w2, -⟩ := rwo_spec (fi_ F (st_ T (f 2))) c (F (st_ T (f 2))).toNat
        have w2 := w2 (by omega)
        refine wp_is8 dc_R_inChunk_78 (wp_iload_n dc_R_inChunk_80 rfl rfl ?_)
        refine wi_if_ne dc_R_inChunk_81 rfl (fun hf => ?_) (fun hf => ?_)
        · rw [if_neg hf] at hk
          have k2 := hkt.2.2.1
          obtain ⟨g1, g2, g3, -, g5⟩ := rh_q htt hkt hrh (q := 2) (by omega) (by omega) k2
          have g5 := g5 (by omega)
          rw [show wd_ 2 = 3 from rfl] at g5
          refine wp_aload_n dc_R_inChunk_89 rfl rfl (wp_aload_n dc_R_inChunk_90 rfl rfl (wi_getR dc_R_inChunk_91 lf_R_40 sh_51 rfl (wi_bipush dc_R_inChunk_94 (wp_iload_n dc_R_inChunk_96 rfl rfl (wi_imul dc_R_inChunk_97 (wi_iconst dc_R_inChunk_98 (wi_iadd dc_R_inChunk_99 (wi_aldE (f 2) dc_R_inChunk_100 sh_62 (by omega) (by omega) (by decide) (htab 2 (by omega) (by omega)) (wi_iconst dc_R_inChunk_101 (wi_iconst dc_R_inChunk_102 (wp_iload dc_R_inChunk_103 rfl (wi_imul dc_R_inChunk_105 (wi_iadd dc_R_inChunk_106 ?_)))))))))))))
          refine wp_callV (As := [_, _]) dc_R_inChunk_107 lm_R_106 ls_R_pay (by decide) rfl rfl (hp_at _ sh_51) rfl rfl (Nat.le_of_ble_eq_true rfl) (Nat.le_refl _) (Nat.le_refl _) ?_
          refine c_R_pay hro hrt htt k2 g1 (by omega) (by omega) ?_
          refine wp_ireturn dc_R_inChunk_110 rfl rfl hk
        · rw [if_pos hf] at hk
          refine wp_iload dc_R_inChunk_84 rfl (wp_goto dc_R_inChunk_86 rfl ?_)
          refine wp_ireturn dc_R_inChunk_110 rfl rfl hk) (k - ks_ F T f c).toNat 0 (by omega)
      rw [show ks_ F T f c + ((0 : Nat) : Int) = ks_ F T f c by omega, show pc_ F T f c + bt_ F (st_ T (f 3)) (ks_ F T f c) 0 = pc_ F T f c from Int.add_zero _] at h
      exact h
theorem c_R_inChunk {k w : Int} (hcn : CN_ F T f) (hx : rx_ σ F n N T t b f) (k0 : 0 ≤ k) (k1 : k < SC_ F T f) (hw : w = 0 ∨ w = 5) (hK : ∀ c, in_ F T f k c → K (some (.int (iI (if w = 0 then pk_ F T f c k else ds_ F T f c)))) (hp_ σ)) : ct_m l Y_R_inChunk 0 0 [.ref 51, .int (iI t), .int (iI k), .int (iI w)] (hp_ σ) K := by
  have hsp := hx.1.2.2.2.2 (st_ T (pj_ f))
  have ecc : CC_ F T f = F (st_ T (pj_ f)) := rfl
  have e1 : ks_ F T f 1 = 0 := rfl
  refine ct_of (L := [.ref 51, .int (iI t), .int (iI k), .int (iI w), .retAddr 0, .retAddr 0, .retAddr 0, .retAddr 0, .retAddr 0]) (by decide +kernel) (Nat.le_of_ble_eq_true rfl) rfl ?_
  refine wi_iconst dc_R_inChunk_0 (wp_is4 dc_R_inChunk_1 (wi_iconst dc_R_inChunk_3 (wp_is5 dc_R_inChunk_4 ?_)))
  exact lp_R_ic hcn hx k0 k1 hw hK (CC_ F T f).toNat 1 _ _ _ rfl rfl (by omega) (by omega) (by omega)
theorem lp_R_mt {x j : Int} (hx0 : 0 ≤ x) (hx1 : x ≤ 2147483647) (hro : ro_ σ F n) (hrt : rt_ σ N T) (htt : tt_ n N T) (j0 : 0 ≤ j) (j1 : j < N) (hp : pl_ T j = 1 + 2 * F (st_ T j)) :
    ∀ (m : Nat) (r c : Int) (u6 u7 : Value), r + m = F (st_ T j) → 0 ≤ r → 0 ≤ c → c ≤ 255 * r → K (some (.int (iI (mtf_ F (st_ T j) x m r c)))) (hp_ σ) → wp_m l Y_R_mediaTime none 0 0 25 [.ref 51, .int (iI t), .int (iI x), .int (iI j), .int (iI c), .int (iI r), u6, u7] [] (hp_ σ) K := by
  have a5 := hro.2.2.2.2
  have hs := a5 (st_ T j)
  have z0 : st_ T j + 0 = st_ T j := by omega
  intro m
  induction m with
  | zero =>
    intro r c u6 u7 hi r0 c0 c1 hK
    refine wp_iload dc_R_mediaTime_25 rfl (wp_aload_n dc_R_mediaTime_27 rfl rfl (wp_iload_n dc_R_mediaTime_28 rfl rfl (wi_iconst dc_R_mediaTime_29 ?_)))
    refine wp_callV (As := [_, _]) dc_R_mediaTime_30 lm_R_106 ls_R_pay (by decide) rfl rfl (hp_at _ sh_51) rfl rfl (Nat.le_of_ble_eq_true rfl) (Nat.le_refl _) (Nat.le_refl _) ?_
    refine c_R_pay hro hrt htt j0 j1 (by omega) (by omega) ?_
    rw [z0]
    refine wi_ic_ge dc_R_mediaTime_33 rfl (fun hd => ?_) (fun hd => ?_)
    · refine wi_sipush dc_R_mediaTime_106 ?_
      refine wp_ireturn dc_R_mediaTime_109 rfl rfl hK
    · omega
  | succ m ih =>
    intro r c u6 u7 hi r0 c0 c1 hK
    have g1 := a5 (st_ T j + (1 + 2 * r))
    have g2 := a5 (st_ T j + (2 + 2 * r))
    unfold mtf_ at hK
    refine wp_iload dc_R_mediaTime_25 rfl (wp_aload_n dc_R_mediaTime_27 rfl rfl (wp_iload_n dc_R_mediaTime_28 rfl rfl (wi_iconst dc_R_mediaTime_29 ?_)))
    refine wp_callV (As := [_, _]) dc_R_mediaTime_30 lm_R_106 ls_R_pay (by decide) rfl rfl (hp_at _ sh_51) rfl rfl (Nat.le_of_ble_eq_true rfl) (Nat.le_refl _) (Nat.le_refl _) ?_
    refine c_R_pay hro hrt htt j0 j1 (by omega) (by omega) ?_
    rw [z0]
    refine wi_ic_ge dc_R_mediaTime_33 rfl (fun hd => ?_) (fun hd => ?_)
    · omega
    refine wp_aload_n dc_R_mediaTime_36 rfl rfl (wp_iload_n dc_R_mediaTime_37 rfl rfl (wi_iconst dc_R_mediaTime_38 (wi_iconst dc_R_mediaTime_39 (wp_iload dc_R_mediaTime_40 rfl (wi_imul dc_R_mediaTime_42 (wi_iadd dc_R_mediaTime_43 ?_))))))
    refine wp_callV (As := [_, _]) dc_R_mediaTime_44 lm_R_106 ls_R_pay (by decide) rfl rfl (hp_at _ sh_51) rfl rfl (Nat.le_of_ble_eq_true rfl) (Nat.le_refl _) (Nat.le_refl _) ?_
    refine c_R_pay hro hrt htt j0 j1 (by omega) (by omega) ?_
    refine wp_is6 dc_R_mediaTime_47 (wp_iload_n dc_R_mediaTime_49 rfl rfl (wp_iload dc_R_mediaTime_50 rfl (wp_iload dc_R_mediaTime_52 rfl (wi_iadd dc_R_mediaTime_54 ?_))))
    refine wi_ic_ge dc_R_mediaTime_55 rfl (fun he => ?_) (fun he => ?_)
    · rw [if_neg (by omega)] at hK
      refine wp_iload dc_R_mediaTime_93 rfl (wp_iload dc_R_mediaTime_95 rfl (wi_iadd dc_R_mediaTime_97 (wp_is4 dc_R_mediaTime_98 (wp_ii5 dc_R_mediaTime_100 (wp_goto dc_R_mediaTime_103 rfl ?_)))))
      exact ih (r + 1) _ _ _ (by omega) (by omega) (by omega) (by omega) hK
    · rw [if_pos (by omega)] at hK
      refine wp_aload_n dc_R_mediaTime_58 rfl rfl (wp_iload_n dc_R_mediaTime_59 rfl rfl (wi_iconst dc_R_mediaTime_60 (wi_iconst dc_R_mediaTime_61 (wp_iload dc_R_mediaTime_62 rfl (wi_imul dc_R_mediaTime_64 (wi_iadd dc_R_mediaTime_65 ?_))))))
      refine wp_callV (As := [_, _]) dc_R_mediaTime_66 lm_R_106 ls_R_pay (by decide) rfl rfl (hp_at _ sh_51) rfl rfl (Nat.le_of_ble_eq_true rfl) (Nat.le_refl _) (Nat.le_refl _) ?_
      refine c_R_pay hro hrt htt j0 j1 (by omega) (by omega) ?_
      refine wp_is7 dc_R_mediaTime_69 (wp_iload dc_R_mediaTime_71 rfl (wi_sipush dc_R_mediaTime_73 ?_))
      refine wi_ic_ne dc_R_mediaTime_76 rfl (fun hf => ?_) (fun hf => ?_)
      · rw [if_neg hf] at hK
        refine wp_iload dc_R_mediaTime_85 rfl (wp_iload_n dc_R_mediaTime_87 rfl rfl (wi_iadd dc_R_mediaTime_88 (wp_iload dc_R_mediaTime_89 rfl (wi_isub dc_R_mediaTime_91 ?_))))
        refine wp_ireturn dc_R_mediaTime_92 rfl rfl hK
      · rw [if_pos hf] at hK
        refine wi_sipush dc_R_mediaTime_79 (wp_goto dc_R_mediaTime_82 rfl ?_)
        refine wp_ireturn dc_R_mediaTime_92 rfl rfl hK
theorem c_R_mediaTime {x : Int} (hx0 : 0 ≤ x) (hx1 : x ≤ 2147483647) (hx : rx_ σ F n N T t b f) (hK : K (some (.int (iI (mt_ F T f x)))) (hp_ σ)) : ct_m l Y_R_mediaTime 0 0 [.ref 51, .int (iI t), .int (iI x)] (hp_ σ) K := by
  obtain ⟨hro, hrt, htt, ht, htab, hkt, hrh⟩ := id hx
  have t2 := htt.2.1
  have c7 := kt_cs hkt (q := 7) (by omega) (by omega)
  have hs := hro.2.2.2.2 (st_ T (f 7))
  unfold mt_ at hK
  refine ct_of (L := [.ref 51, .int (iI t), .int (iI x), .retAddr 0, .retAddr 0, .retAddr 0, .retAddr 0, .retAddr 0]) (by decide +kernel) (Nat.le_of_ble_eq_true rfl) rfl ?_
  refine wp_aload_n dc_R_mediaTime_0 rfl rfl (wi_getR dc_R_mediaTime_1 lf_R_40 sh_51 rfl (wi_bipush dc_R_mediaTime_4 (wp_iload_n dc_R_mediaTime_6 rfl rfl (wi_imul dc_R_mediaTime_7 (wi_bipush dc_R_mediaTime_8 (wi_iadd dc_R_mediaTime_10 (wi_aldE (f 7) dc_R_mediaTime_11 sh_62 (by omega) (by omega) (by decide) (htab 7 (by omega) (by omega)) (wp_is3 dc_R_mediaTime_12 (wp_iload_n dc_R_mediaTime_13 rfl rfl ?_)))))))))
  refine wi_if_ge dc_R_mediaTime_14 rfl (fun hd => ?_) (fun hd => ?_)
  · rw [if_neg (by omega)] at hK
    obtain ⟨g1, g2, g3, -, g5⟩ := rh_q htt hkt hrh (q := 7) (by omega) (by omega) hd
    have g5 := g5 (by omega)
    rw [show wd_ 7 = 2 from rfl] at g5
    refine wi_iconst dc_R_mediaTime_19 (wp_is4 dc_R_mediaTime_20 (wi_iconst dc_R_mediaTime_22 (wp_is5 dc_R_mediaTime_23 ?_)))
    exact lp_R_mt hx0 hx1 hro hrt htt hd g1 g5.2 (F (st_ T (f 7))).toNat 0 0 _ _ (by omega) (by omega) (by omega) (by omega) hK
  · rw [if_pos (by omega)] at hK
    refine wp_iload_n dc_R_mediaTime_17 rfl rfl ?_
    refine wp_ireturn dc_R_mediaTime_18 rfl rfl hK
end AS
section AT
variable {l : Launch} {σ : sg_} {K : Option Value → mx_H → Prop} {F : Int → Int} {n N : Int} {T : px_T} {b : Int} {f : Int → Int} {a : Nat}
theorem lp_K_mt {x : Int} (h7 : ¬ f 7 = -1) (hx0 : 0 ≤ x) (hx1 : x ≤ 2147483647) (hx : kk_ σ F n N T a b f) :
    ∀ (m : Nat) (r c : Int) (u4 u5 : Value), r + m = F (st_ T (f 7)) → 0 ≤ r → 0 ≤ c → c ≤ x → K (some (.int (iI (mtf_ F (st_ T (f 7)) x m r c)))) (hp_ σ) → wp_m l Y_K_mediaTime none 0 0 16 [.ref a, .int (iI x), .int (iI (x - c)), .int (iI r), u4, u5] [] (hp_ σ) K := by
  obtain ⟨v0, v1, v2, v3, v4, v5⟩ := kk_7 hx h7
  obtain ⟨hlo, hlt, htt, ⟨hKo, o1, o2, o3, o4, o5, o6, o7⟩, hkt, hrh, hkb⟩ := id hx
  have a5 := hlo.2.2.2.2
  have hs := a5 (st_ T (f 7))
  intro m
  induction m with
  | zero =>
    intro r c u4 u5 hi r0 c0 c1 hK
    refine wp_iload_n dc_K_mediaTime_16 rfl rfl (wp_aload_n dc_K_mediaTime_17 rfl rfl (wi_getR dc_K_mediaTime_18 lf_K_36 hKo rfl ?_))
    refine wp_callV (As := []) dc_K_mediaTime_21 lm_K_73 ls_T_rows (by decide) rfl rfl (hp_at _ o6) rfl rfl (Nat.le_of_ble_eq_true rfl) (Nat.le_refl _) (Nat.le_refl _) ?_
    refine c_T_rows o6 v5 ?_
    refine wi_ic_ge dc_K_mediaTime_24 rfl (fun hd => ?_) (fun hd => ?_)
    · refine wi_sipush dc_K_mediaTime_85 ?_
      refine wp_ireturn dc_K_mediaTime_88 rfl rfl hK
    · omega
  | succ m ih =>
    intro r c u4 u5 hi r0 c0 c1 hK
    have g1 := a5 (st_ T (f 7) + (1 + 2 * r))
    have g2 := a5 (st_ T (f 7) + (2 + 2 * r))
    unfold mtf_ at hK
    refine wp_iload_n dc_K_mediaTime_16 rfl rfl (wp_aload_n dc_K_mediaTime_17 rfl rfl (wi_getR dc_K_mediaTime_18 lf_K_36 hKo rfl ?_))
    refine wp_callV (As := []) dc_K_mediaTime_21 lm_K_73 ls_T_rows (by decide) rfl rfl (hp_at _ o6) rfl rfl (Nat.le_of_ble_eq_true rfl) (Nat.le_refl _) (Nat.le_refl _) ?_
    refine c_T_rows o6 v5 ?_
    refine wi_ic_ge dc_K_mediaTime_24 rfl (fun hd => ?_) (fun hd => ?_)
    · omega
    refine wp_aload_n dc_K_mediaTime_27 rfl rfl (wi_getR dc_K_mediaTime_28 lf_K_36 hKo rfl (wp_iload_n dc_K_mediaTime_31 rfl rfl (wi_iconst dc_K_mediaTime_32 ?_)))
    refine wp_callV (As := [_, _]) dc_K_mediaTime_33 lm_K_77 ls_T_value (by decide) rfl rfl (hp_at _ o6) rfl rfl (Nat.le_of_ble_eq_true rfl) (Nat.le_refl _) (Nat.le_refl _) ?_
    refine c_T_value o6 hlo v3 v4 (show st_ T (f 7) + 1 + r * 2 + 0 = st_ T (f 7) + (1 + 2 * r) by omega) (by omega) (by omega) ?_
    refine wp_is4 dc_K_mediaTime_36 (wp_iload_n dc_K_mediaTime_38 rfl rfl (wp_iload dc_K_mediaTime_39 rfl ?_))
    refine wi_ic_ge dc_K_mediaTime_41 rfl (fun he => ?_) (fun he => ?_)
    · rw [if_neg (by omega)] at hK
      refine wp_iload_n dc_K_mediaTime_74 rfl rfl (wp_iload dc_K_mediaTime_75 rfl (wi_isub dc_K_mediaTime_77 (wp_is2 dc_K_mediaTime_78 (wp_ii3 dc_K_mediaTime_79 (wp_goto dc_K_mediaTime_82 rfl ?_)))))
      rw [show x - c - F (st_ T (f 7) + (1 + 2 * r)) = x - (c + F (st_ T (f 7) + (1 + 2 * r))) by omega]
      exact ih (r + 1) _ _ _ (by omega) (by omega) (by omega) (by omega) hK
    · rw [if_pos (by omega)] at hK
      refine wp_aload_n dc_K_mediaTime_44 rfl rfl (wi_getR dc_K_mediaTime_45 lf_K_36 hKo rfl (wp_iload_n dc_K_mediaTime_48 rfl rfl (wi_iconst dc_K_mediaTime_49 ?_)))
      refine wp_callV (As := [_, _]) dc_K_mediaTime_50 lm_K_77 ls_T_value (by decide) rfl rfl (hp_at _ o6) rfl rfl (Nat.le_of_ble_eq_true rfl) (Nat.le_refl _) (Nat.le_refl _) ?_
      refine c_T_value o6 hlo v3 v4 (show st_ T (f 7) + 1 + r * 2 + 1 = st_ T (f 7) + (2 + 2 * r) by omega) (by omega) (by omega) ?_
      refine wp_is5 dc_K_mediaTime_53 (wp_iload dc_K_mediaTime_55 rfl (wi_sipush dc_K_mediaTime_57 ?_))
      refine wi_ic_ne dc_K_mediaTime_60 rfl (fun hf => ?_) (fun hf => ?_)
      · rw [if_neg hf, show F (st_ T (f 7) + (2 + 2 * r)) + x - c = F (st_ T (f 7) + (2 + 2 * r)) + (x - c) by omega] at hK
        refine wp_iload dc_K_mediaTime_69 rfl (wp_iload_n dc_K_mediaTime_71 rfl rfl (wi_iadd dc_K_mediaTime_72 ?_))
        refine wp_ireturn dc_K_mediaTime_73 rfl rfl hK
      · rw [if_pos hf] at hK
        refine wi_sipush dc_K_mediaTime_63 (wp_goto dc_K_mediaTime_66 rfl ?_)
        refine wp_ireturn dc_K_mediaTime_73 rfl rfl hK
theorem c_K_mediaTime {x : Int} (hx0 : 0 ≤ x) (hx1 : x ≤ 2147483647) (hx : kk_ σ F n N T a b f) (hK : K (some (.int (iI (mt_ F T f x)))) (hp_ σ)) : ct_m l Y_K_mediaTime 0 0 [.ref a, .int (iI x)] (hp_ σ) K := by
  obtain ⟨hlo, hlt, htt, ⟨hKo, o1, o2, o3, o4, o5, o6, o7⟩, hkt, hrh, hkb⟩ := id hx
  have hs := hlo.2.2.2.2 (st_ T (f 7))
  unfold mt_ at hK
  refine ct_of (L := [.ref a, .int (iI x), .retAddr 0, .retAddr 0, .retAddr 0, .retAddr 0]) (by decide +kernel) (Nat.le_of_ble_eq_true rfl) rfl ?_
  refine wp_aload_n dc_K_mediaTime_0 rfl rfl (wi_getR dc_K_mediaTime_1 lf_K_36 hKo rfl ?_)
  refine wp_callV (As := []) dc_K_mediaTime_4 lm_K_91 ls_T_isPresent (by decide) rfl rfl (hp_at _ o6) rfl rfl (Nat.le_of_ble_eq_true rfl) (Nat.le_refl _) (Nat.le_refl _) ?_
  by_cases h7 : f 7 = -1
  · have k7 := kk_o hkb.2.2.2.2.2.1 h7
    rw [if_pos h7] at hK
    refine c_T_isPresent o6 (fun _ => ?_) (fun h => by omega) (Or.inl k7.1)
    refine wi_if_ne dc_K_mediaTime_7 rfl (fun hd => ?_) (fun hd => ?_)
    · omega
    refine wp_iload_n dc_K_mediaTime_10 rfl rfl ?_
    refine wp_ireturn dc_K_mediaTime_11 rfl rfl hK
  · obtain ⟨v0, v1, v2, v3, v4, v5⟩ := kk_7 hx h7
    rw [if_neg h7] at hK
    refine c_T_isPresent o6 (fun h => by omega) (fun _ => ?_) (Or.inr v2)
    refine wi_if_ne dc_K_mediaTime_7 rfl (fun hd => ?_) (fun hd => ?_)
    rotate_left
    · omega
    have h := lp_K_mt (l := l) (K := K) h7 hx0 hx1 hx (F (st_ T (f 7))).toNat 0 0 (.retAddr 0) (.retAddr 0) (by omega) (by omega) (by omega) (by omega) hK
    rw [show x - 0 = x by omega] at h
    refine wp_iload_n dc_K_mediaTime_12 rfl rfl (wp_is2 dc_K_mediaTime_13 (wi_iconst dc_K_mediaTime_14 (wp_is3 dc_K_mediaTime_15 ?_)))
    exact h
end AT
