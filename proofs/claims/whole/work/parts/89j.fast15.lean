/-! fastStart: the class's move -/
section FR
variable {l : Launch} {K : Option Value → mx_H → Prop} {F : Int → Int} {n N : Int} {T : px_T} {mi tc : Int} {b : Int → Int} {tab : Int → Int → Int} {me : Int} {σ : sg_}
theorem me_un {me' : Int} (h : ME_ N T mi me) (h' : ME_ N T mi me') : me = me' := by
  obtain ⟨a1, a2, a3, a4⟩ := h
  obtain ⟨c1, c2, c3, c4⟩ := h'
  by_cases e : me < me'
  · have := c3 me a1 e; omega
  by_cases e' : me' < me
  · have := a3 me' c1 e'; omega
  omega
theorem rl_len (hx : fx_ F n N T mi tc b tab me) {w a : Int} (a0 : 0 ≤ a) (a1 : a ≤ T 0 mi) : ((rl_ F n N T mi tc tab me w a).length : Int) = n - T 1 mi + nL_ F T mi tc tab me w := by
  have m := fx_mi hx
  have bx := hx.2.2.1.2.2.1 mi m.1 (by omega)
  unfold bx_ at bx
  have e := bs2_len hx (w := w)
  unfold rl_
  rw [List.length_append, List.length_append, List.length_append, pt_len, pt_len, pt_len]
  omega
theorem rl_bk (hx : fx_ F n N T mi tc b tab me) {w a : Int} (hw : fp_ F N T mi tc tab me w = w) (hL : nL_ F T mi tc tab me w ≤ 1000) : bk_ (rl_ F n N T mi tc tab me w a) := by
  have m := fx_mi hx
  unfold rl_
  exact bk_app (bk_app (bk_app (bk_pt hx.1 _ _) (bk_ps _ (fun i hi => bb_bk hx hw hL (by omega) (by omega)))) (bk_pt hx.1 _ _)) (bk_pt hx.1 _ _)
theorem lp_V_mv {σ0 : sg_} {w r0 a : Int} {x3 : Value} (hx : fx_ F n N T mi tc b tab me) (hlo0 : lo_ σ0 F n) (hlt0 : lt_ σ0 N T) (h6 : σ0 45 6 = mi) (h7 : σ0 45 7 = me) (hmz : mz_ σ0 F T mi tc tab me w) (hw : fp_ F N T mi tc tab me w = w) (hL : a + nL_ F T mi tc tab me w ≤ 1000) (a0 : 0 ≤ a) 
    (hK : ∀ σ', fr_ ocW σ0 σ' → oc_ σ' (pt_ F 0 a ++ bs2_ F N T mi tc tab me w (me - mi).toNat) → wp_m l Y_V_move none 0 0 117 [.ref 45, .int (iI mi), .int (iI r0), x3, .int (iI a), .int (iI me)] [] (hp_ σ') K) :
    ∀ (j i : Nat) (σ : sg_), i + j = (me - mi).toNat → fr_ ocW σ0 σ → oc_ σ (pt_ F 0 a ++ bs2_ F N T mi tc tab me w i) → wp_m l Y_V_move none 0 0 96 [.ref 45, .int (iI mi), .int (iI r0), x3, .int (iI a), .int (iI (mi + i))] [] (hp_ σ) K := by
  have m := fx_mi hx
  have hbl := bs2_len hx (w := w)
  intro j
  induction j with
  | zero =>
    intro i σ hi hfr ho
    refine wp_iload dc_V_move_96 rfl (wp_aload_n dc_V_move_98 rfl rfl (wi_getE 7 (me) dc_V_move_99 lf_V_40 sh_45 rfl rfl ((hfr 45 7 (by unfold ocW; omega)).trans h7) ?_))
    refine wi_ic_ge dc_V_move_102 rfl (fun hd => ?_) (fun hd => ?_)
    · have := hK σ hfr (by rw [show (me - mi).toNat = i by omega]; exact ho)
      rw [show mi + (i : Int) = me by omega]
      exact this
    · omega
  | succ j ih =>
    intro i σ hi hfr ho
    have f12 := oc_12 hfr
    have le : (bs2_ F N T mi tc tab me w (i + 1)).length ≤ (bs2_ F N T mi tc tab me w (me - mi).toNat).length := ps_le _ (by omega)
    have ls : (bs2_ F N T mi tc tab me w (i + 1)).length = (bs2_ F N T mi tc tab me w i).length + (bb_ F N T mi tc tab me w (mi + i)).length := List.length_append
    have la : (pt_ F 0 a ++ bs2_ F N T mi tc tab me w i).length = (a - 0).toNat + (bs2_ F N T mi tc tab me w i).length := by rw [List.length_append, pt_len]
    refine wp_iload dc_V_move_96 rfl (wp_aload_n dc_V_move_98 rfl rfl (wi_getE 7 (me) dc_V_move_99 lf_V_40 sh_45 rfl rfl ((hfr 45 7 (by unfold ocW; omega)).trans h7) ?_))
    refine wi_ic_ge dc_V_move_102 rfl (fun hd => ?_) (fun hd => ?_)
    · omega
    refine wp_aload_n dc_V_move_105 rfl rfl (wp_iload dc_V_move_106 rfl ?_)
    refine wp_callV (As := [_]) dc_V_move_108 lm_V_71 ls_V_writeBox (by decide) rfl rfl (hp_at _ sh_45) rfl rfl (Nat.le_of_ble_eq_true rfl) (Nat.le_refl _) (Nat.le_refl _) ?_
    refine c_V_writeBox (xs := pt_ F 0 a ++ bs2_ F N T mi tc tab me w i) (w := w) hx (lo_fr f12 hlo0) (lt_fr f12 hlt0) ((hfr 45 6 (by unfold ocW; omega)).trans h6) (fun k k0 k1 => ?_) (by omega) hw (by omega) (by omega) ho (by omega) (fun σ1 f1 o1 => ?_)
    · rw [hfr 48 k (by unfold ocW; omega), hfr 49 k (by unfold ocW; omega), hfr 50 k (by unfold ocW; omega)]
      exact hmz k k0 k1
    · rw [List.append_assoc] at o1
      refine wp_ii5 dc_V_move_111 (wp_goto dc_V_move_114 rfl ?_)
      rw [show mi + (i : Int) + 1 = mi + ((i + 1 : Nat) : Int) by omega]
      exact ih (i + 1) σ1 (by omega) (hfr.tr f1) o1
def mvW (b : Nat) (_ : Int) : Prop := b = 1 ∨ b = 2 ∨ (45 ≤ b ∧ b ≤ 50)
def mvV (b : Nat) (_ : Int) : Prop := b = 45 ∨ (48 ≤ b ∧ b ≤ 50)
theorem c_V_move {r0 u : Int} (hx : fx_ F n N T mi tc b tab me) (hu : LF_ F N T mi tc tab me u) (hlo : lo_ σ F n) (hlt : lt_ σ N T) (h46 : 0 ≤ σ 46 1 ∧ σ 46 1 ≤ 1000) (r1 : 0 ≤ r0) (r2 : r0 < mi) (hr : DT_ T r0)
    (h2 : n - T 1 mi + nL_ F T mi tc tab me u > 1000 → ∀ σ', fr_ mvV σ σ' → K (some (.int (iI (-2)))) (hp_ σ'))
    (hK : n - T 1 mi + nL_ F T mi tc tab me u ≤ 1000 → ∀ σ', fr_ mvW σ σ' → σ' 1 1 = ((rl_ F n N T mi tc tab me u (T 0 r0)).length : Int) → gs_ (rl_ F n N T mi tc tab me u (T 0 r0)) (σ' 2) → σ' 46 1 = ((rl_ F n N T mi tc tab me u (T 0 r0)).length : Int) → K (some (.int (iI (nL_ F T mi tc tab me u)))) (hp_ σ')) :
    ct_m l Y_V_move 0 0 [.ref 45, .int (iI mi), .int (iI r0)] (hp_ σ) K := by
  have m := fx_mi hx
  have htt := hx.2.2.1
  have hn := hx.2.1
  have bm := htt.2.2.1 mi m.1 (by omega)
  have br := htt.2.2.1 r0 r1 (by omega)
  unfold bx_ at bm br
  have ord := htt.2.2.2.2 r0 mi r1 r2 (by omega) hr.1 m.2.2.2.2.2.1
  have hw := hu.2.1
  refine ct_of (L := [.ref 45, .int (iI mi), .int (iI r0), .retAddr 0, .retAddr 0, .retAddr 0]) (by decide +kernel) (Nat.le_of_ble_eq_true rfl) rfl ?_
  refine wp_aload_n dc_V_move_0 rfl rfl (wp_iload_n dc_V_move_1 rfl rfl (wi_putI 6 dc_V_move_2 lf_V_36 sh_45 rfl rfl pv_int (wp_aload_n dc_V_move_5 rfl rfl (wp_aload_n dc_V_move_6 rfl rfl ?_))))
  have fA : fr_ mvV σ (up_ σ 45 6 mi) := fr_.rf.up (Or.inl rfl)
  refine wp_callV (As := []) dc_V_move_7 lm_V_43 ls_V_behindMovie (by decide) rfl rfl (hp_at _ sh_45) rfl rfl (Nat.le_of_ble_eq_true rfl) (Nat.le_refl _) (Nat.le_refl _) ?_
  refine c_V_behindMovie (lt_fr (fA.mono (fun b _ h => by unfold mvV at h; omega)) hlt) htt (by omega) m.1 (up_s _ _ _ _) (fun me' hme' => ?_)
  obtain rfl := me_un hx.2.2.2.2.2.2 hme'
  refine wi_putI 7 dc_V_move_10 lf_V_40 sh_45 rfl rfl pv_int (wp_aload_n dc_V_move_13 rfl rfl ?_)
  have fB : fr_ mvV σ (up_ (up_ σ 45 6 mi) 45 7 me) := fA.up (Or.inl rfl)
  have f12B : fr_ (fun b _ => 12 ≤ b) σ (up_ (up_ σ 45 6 mi) 45 7 me) := fB.mono (fun b _ h => by unfold mvV at h; omega)
  refine wp_callV (As := []) dc_V_move_14 lm_V_47 ls_V_settleWidths (by decide) rfl rfl (hp_at _ sh_45) rfl rfl (Nat.le_of_ble_eq_true rfl) (Nat.le_refl _) (Nat.le_refl _) ?_
  refine c_V_settleWidths (u := u) hx hu (lo_fr f12B hlo) (lt_fr f12B hlt) (by rw [up_n _ _ (by omega), up_s]) (up_s _ _ _ _) (fun σ3 f3 hmz => ?_)
  have fC : fr_ mvV σ σ3 := fB.tr (f3.mono (fun b _ h => by unfold swW at h; unfold mvV; omega))
  have f12C : fr_ (fun b _ => 12 ≤ b) σ σ3 := fC.mono (fun b _ h => by unfold mvV at h; omega)
  have hlo3 := lo_fr f12C hlo
  have hlt3 := lt_fr f12C hlt
  have g6 : σ3 45 6 = mi := (f3 45 6 (by unfold swW; omega)).trans (by rw [up_n _ _ (by omega), up_s])
  have g7 : σ3 45 7 = me := (f3 45 7 (by unfold swW; omega)).trans (up_s _ _ _ _)
  have g46 : σ3 46 1 = σ 46 1 := fC 46 1 (by unfold mvV; omega)
  clear f3 f12B fB fA
  obtain ⟨p1, p2, p3⟩ := hmz mi (Int.le_refl mi) m.2.1
  have nm := fx_np hx (wk_ tc tab u) (Int.le_refl mi) m.2.1
  have eL : nL_ F T mi tc tab me u = np_ F T (wk_ tc tab u) mi me mi + hd_ T mi (np_ F T (wk_ tc tab u) mi me mi) := rfl
  refine wp_aload_n dc_V_move_17 rfl rfl (wi_getR dc_V_move_18 lf_V_15 sh_45 rfl (wp_aload_n dc_V_move_21 rfl rfl (wi_getE 6 (mi) dc_V_move_22 lf_V_36 sh_45 rfl rfl g6 (wi_iconst dc_V_move_25 ?_))))
  refine wp_callV (As := [_, _]) dc_V_move_26 lm_V_52 ls_L_of (by decide) rfl rfl (hp_at _ sh_3) rfl rfl (Nat.le_of_ble_eq_true rfl) (Nat.le_refl _) (Nat.le_refl _) ?_
  refine c_L_of (c := 1) (by decide) (by rw [hlt3.1]; omega) (by rw [hlt3.1]; omega) ⟨by omega, by omega⟩ ?_
  rw [hlt3.1, at_in m.1 (by omega), show σ3 (5 + 1) mi = T 1 mi from hlt3.2.1 1 mi (by decide) m.1 (by omega)]
  refine wp_is3 dc_V_move_29 (wp_aload_n dc_V_move_30 rfl rfl (wi_getR dc_V_move_31 lf_V_9 sh_45 rfl ?_))
  refine wp_callV (As := []) dc_V_move_34 lm_V_56 ls_B_size (by decide) rfl rfl (hp_at _ sh_1) rfl rfl (Nat.le_of_ble_eq_true rfl) (Nat.le_refl _) (Nat.le_refl _) ?_
  refine c_B_size by_1 ?_
  rw [hlo3.2.2.1]
  refine wp_iload_n dc_V_move_37 rfl rfl (wi_isub dc_V_move_38 (wp_aload_n dc_V_move_39 rfl rfl (wp_aload_n dc_V_move_40 rfl rfl (wi_getE 6 (mi) dc_V_move_41 lf_V_36 sh_45 rfl rfl g6 ?_))))
  refine wp_callV (As := [_]) dc_V_move_44 lm_V_59 ls_V_newSize (by decide) rfl rfl (hp_at _ sh_45) rfl rfl (Nat.le_of_ble_eq_true rfl) (Nat.le_refl _) (Nat.le_refl _) ?_
  refine c_V_newSize m.1 (by omega) p2 p3 ?_
  rw [← eL]
  refine wi_iadd dc_V_move_47 (wi_sipush dc_V_move_48 ?_)
  refine wi_ic_le dc_V_move_51 rfl (fun hd => ?_) (fun hd => ?_)
  rotate_left
  · refine wi_bipush dc_V_move_54 ?_
    refine wp_ireturn dc_V_move_56 rfl rfl (h2 (by omega) σ3 fC)
  have hKK := hK hd
  clear h2 hK
  have hrl := rl_len hx (w := u) (a := T 0 r0) (by omega) (by omega)
  have hrb := rl_bk hx (w := u) (a := T 0 r0) hw (by omega)
  refine wp_aload_n dc_V_move_57 rfl rfl (wi_getR dc_V_move_58 lf_V_15 sh_45 rfl (wp_iload_n dc_V_move_61 rfl rfl (wi_iconst dc_V_move_62 ?_)))
  refine wp_callV (As := [_, _]) dc_V_move_63 lm_V_52 ls_L_of (by decide) rfl rfl (hp_at _ sh_3) rfl rfl (Nat.le_of_ble_eq_true rfl) (Nat.le_refl _) (Nat.le_refl _) ?_
  refine c_L_of (c := 0) (by decide) (by rw [hlt3.1]; omega) (by rw [hlt3.1]; omega) ⟨by omega, by omega⟩ ?_
  rw [hlt3.1, at_in r1 (by omega), show σ3 (5 + 0) r0 = T 0 r0 from hlt3.2.1 0 r0 (by decide) r1 (by omega)]
  refine wp_is4 dc_V_move_66 (wp_aload_n dc_V_move_68 rfl rfl (wi_getR dc_V_move_69 lf_V_22 sh_45 rfl (wi_iconst dc_V_move_72 ?_)))
  refine wp_callV (As := [_]) dc_V_move_73 lm_V_63 ls_B_keep (by decide) rfl rfl (hp_at _ sh_46) rfl rfl (Nat.le_of_ble_eq_true rfl) (Nat.le_refl _) (Nat.le_refl _) ?_
  refine c_B_keep by_46 (by omega) (by omega) (by omega) (by omega) ?_
  have fD : fr_ ocW σ3 (up_ σ3 46 1 0) := fr_.rf.up (Or.inl ⟨rfl, rfl⟩)
  refine wp_aload_n dc_V_move_76 rfl rfl (wi_getR dc_V_move_77 lf_V_22 sh_45 rfl (wp_aload_n dc_V_move_80 rfl rfl (wi_getR dc_V_move_81 lf_V_9 sh_45 rfl (wi_iconst dc_V_move_84 (wp_iload dc_V_move_85 rfl ?_)))))
  refine wp_callV (As := [_, _, _]) dc_V_move_87 lm_V_67 ls_B_addPart (by decide) rfl rfl (hp_at _ sh_46) rfl rfl (Nat.le_of_ble_eq_true rfl) (Nat.le_refl _) (Nat.le_refl _) ?_
  refine c_O_addPart (xs := []) ⟨up_s _ _ _ _, gs_nil _⟩ (lo_fr (oc_12 fD) hlo3) (by omega) (by omega) (by omega) (by show ((0 : Nat) : Int) + (T 0 r0 - 0) ≤ 1000; omega) (fun σ4 f4 o4 => ?_)
  have fE := fD.tr f4
  clear fD f4
  rw [List.nil_append] at o4
  refine wp_aload_n dc_V_move_90 rfl rfl (wi_getE 6 (mi) dc_V_move_91 lf_V_36 sh_45 rfl rfl ((fE 45 6 (by unfold ocW; omega)).trans g6) (wp_is5 dc_V_move_94 ?_))
  have lp := lp_V_mv (l := l) (K := K) (σ0 := σ3) (w := u) (r0 := r0) (a := T 0 r0) (x3 := .int (iI (T 1 mi))) hx hlo3 hlt3 g6 g7 hmz hw (by omega) (by omega) (fun σ5 f5 o5 => by
    have hlo5 := lo_fr (oc_12 f5) hlo3
    have hlt5 := lt_fr (oc_12 f5) hlt3
    have l5 : ((pt_ F 0 (T 0 r0) ++ bs2_ F N T mi tc tab me u (me - mi).toNat).length : Int) = T 0 r0 + nL_ F T mi tc tab me u := by
      rw [List.length_append, pt_len, ← bs2_len hx (w := u)]
      omega
    have e6 := (f5 45 6 (by unfold ocW; omega)).trans g6
    refine wp_aload_n dc_V_move_117 rfl rfl (wi_getR dc_V_move_118 lf_V_22 sh_45 rfl (wp_aload_n dc_V_move_121 rfl rfl (wi_getR dc_V_move_122 lf_V_9 sh_45 rfl (wp_iload dc_V_move_125 rfl (wp_aload_n dc_V_move_127 rfl rfl (wi_getR dc_V_move_128 lf_V_15 sh_45 rfl (wp_aload_n dc_V_move_131 rfl rfl (wi_getE 6 (mi) dc_V_move_132 lf_V_36 sh_45 rfl rfl e6 (wi_iconst dc_V_move_135 ?_)))))))))
    refine wp_callV (As := [_, _]) dc_V_move_136 lm_V_52 ls_L_of (by decide) rfl rfl (hp_at _ sh_3) rfl rfl (Nat.le_of_ble_eq_true rfl) (Nat.le_refl _) (Nat.le_refl _) ?_
    refine c_L_of (c := 0) (by decide) (by rw [hlt5.1]; omega) (by rw [hlt5.1]; omega) ⟨by omega, by omega⟩ ?_
    rw [hlt5.1, at_in m.1 (by omega), show σ5 (5 + 0) mi = T 0 mi from hlt5.2.1 0 mi (by decide) m.1 (by omega)]
    refine wp_callV (As := [_, _, _]) dc_V_move_139 lm_V_67 ls_B_addPart (by decide) rfl rfl (hp_at _ sh_46) rfl rfl (Nat.le_of_ble_eq_true rfl) (Nat.le_refl _) (Nat.le_refl _) ?_
    refine c_O_addPart o5 hlo5 (by omega) (by omega) (by omega) (by omega) (fun σ6 f6 o6 => ?_)
    have f56 := f5.tr f6
    have hlo6 := lo_fr (oc_12 f56) hlo3
    have hlt6 := lt_fr (oc_12 f56) hlt3
    have l6 : (((pt_ F 0 (T 0 r0) ++ bs2_ F N T mi tc tab me u (me - mi).toNat) ++ pt_ F (T 0 r0) (T 0 mi)).length : Int) = T 0 mi + nL_ F T mi tc tab me u := by
      rw [List.length_append, pt_len]
      omega
    refine wp_aload_n dc_V_move_142 rfl rfl (wi_getR dc_V_move_143 lf_V_22 sh_45 rfl (wp_aload_n dc_V_move_146 rfl rfl (wi_getR dc_V_move_147 lf_V_9 sh_45 rfl (wp_aload_n dc_V_move_150 rfl rfl (wi_getR dc_V_move_151 lf_V_15 sh_45 rfl (wp_aload_n dc_V_move_154 rfl rfl (wi_getE 6 (mi) dc_V_move_155 lf_V_36 sh_45 rfl rfl ((f56 45 6 (by unfold ocW; omega)).trans g6) ?_)))))))
    refine wp_callV (As := [_]) dc_V_move_158 lm_V_74 ls_L_endOf (by decide) rfl rfl (hp_at _ sh_3) rfl rfl (Nat.le_of_ble_eq_true rfl) (Nat.le_refl _) (Nat.le_refl _) ?_
    refine c_L_endOf' hlt6 htt m.1 (by omega) ?_
    refine wp_aload_n dc_V_move_161 rfl rfl (wi_getR dc_V_move_162 lf_V_9 sh_45 rfl ?_)
    refine wp_callV (As := []) dc_V_move_165 lm_V_56 ls_B_size (by decide) rfl rfl (hp_at _ sh_1) rfl rfl (Nat.le_of_ble_eq_true rfl) (Nat.le_refl _) (Nat.le_refl _) ?_
    refine c_B_size by_1 ?_
    rw [hlo6.2.2.1]
    refine wp_callV (As := [_, _, _]) dc_V_move_168 lm_V_67 ls_B_addPart (by decide) rfl rfl (hp_at _ sh_46) rfl rfl (Nat.le_of_ble_eq_true rfl) (Nat.le_refl _) (Nat.le_refl _) ?_
    refine c_O_addPart o6 hlo6 (by omega) (by omega) (by omega) (by omega) (fun σ7 f7 o7 => ?_)
    have f57 := f56.tr f7
    have hlo7 := lo_fr (oc_12 f57) hlo3
    have e67 := (f57 45 6 (by unfold ocW; omega)).trans g6
    have o7' : oc_ σ7 (rl_ F n N T mi tc tab me u (T 0 r0)) := o7
    clear o7 o6 o5
    refine wp_aload_n dc_V_move_171 rfl rfl (wp_aload_n dc_V_move_172 rfl rfl (wi_getE 6 (mi) dc_V_move_173 lf_V_36 sh_45 rfl rfl e67 ?_))
    refine wp_callV (As := [_]) dc_V_move_176 lm_V_59 ls_V_newSize (by decide) rfl rfl (hp_at _ sh_45) rfl rfl (Nat.le_of_ble_eq_true rfl) (Nat.le_refl _) (Nat.le_refl _) ?_
    refine c_V_newSize m.1 (by omega) ((f57 49 mi (by unfold ocW; omega)).trans p2) ((f57 50 mi (by unfold ocW; omega)).trans p3) ?_
    rw [← eL]
    refine wp_is5 dc_V_move_179 (wp_aload_n dc_V_move_181 rfl rfl (wi_getR dc_V_move_182 lf_V_9 sh_45 rfl (wp_aload_n dc_V_move_185 rfl rfl (wi_getR dc_V_move_186 lf_V_22 sh_45 rfl ?_))))
    refine wp_callV (As := [_]) dc_V_move_189 lm_V_77 ls_B_become (by decide) rfl rfl (hp_at _ sh_1) rfl rfl (Nat.le_of_ble_eq_true rfl) (Nat.le_refl _) (Nat.le_refl _) ?_
    refine c_B_become by_1 by_46 (by decide) (by decide) (by decide) (by rw [hlo7.2.2.1]; exact hlo7.1) (by rw [hlo7.2.2.1]; exact hn) (by rw [o7'.1]; omega) (by rw [o7'.1]; omega) (fun i i0 i1 => bk_gs hrb o7'.2 i0 (by rw [← o7'.1]; exact i1)) ?_
    refine wp_iload dc_V_move_192 rfl ?_
    refine wp_ireturn dc_V_move_194 rfl rfl (hKK _ (fun b j hb => ?_) ?_ ?_ ?_)
    · unfold mvW at hb
      have c1 := fC b j (by unfold mvV; omega)
      have c2 := f57 b j (by unfold ocW; omega)
      unfold ap_
      rw [if_neg (by omega), if_neg (by omega), up_n _ _ (by omega), c2, c1]
    · rw [ap_n, up_s, o7'.1]
      omega
    · refine gs_congr o7'.2 (fun i hi => ?_)
      unfold ap_
      rw [up_s, o7'.1, if_pos (by omega), up_n _ _ (by omega)]
      show σ7 47 i = σ7 47 (0 + ((i : Int) - 0))
      rw [show (0 : Int) + ((i : Int) - 0) = i by omega]
    · rw [← o7'.1]
      unfold ap_
      rw [if_neg (by omega), if_neg (by omega), up_n _ _ (by omega)]) (me - mi).toNat 0 σ4 (by omega) fE (by
        show oc_ σ4 (pt_ F 0 (T 0 r0) ++ [])
        rw [List.append_nil]
        exact o4)
  rw [show mi + ((0 : Nat) : Int) = mi by omega] at lp
  exact lp
end FR
