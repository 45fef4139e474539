/-! fastStart: the new lengths, as numbers -/
/-- the new header of box k over a payload of p bytes -/
def hd_ (T : px_T) (k p : Int) : Int := if T 3 k = 2 ∧ p + 2 ≤ 255 then 2 else 4
/-- the payload of box k but for the boxes that it holds; W k = 1: its places become wide -/
def ow_ (F : Int → Int) (T : px_T) (W : Int → Int) (k : Int) : Int := if (T 4 k = 0 ∧ T 2 k = 77) ∨ (T 4 k = 1 ∧ T 2 k = 84) then 0 else if W k = 1 then pl_ T k + F (st_ T k) else pl_ T k
/-- the payloads when the m last boxes before me have been added to their holders -/
def ly_ (F : Int → Int) (T : px_T) (W : Int → Int) (me : Int) : Nat → Int → Int
  | 0 => ow_ F T W
  | m + 1 => fun j => if j = T 5 (me - 1 - m) then ly_ F T W me m j + (ly_ F T W me m (me - 1 - m) + hd_ T (me - 1 - m) (ly_ F T W me m (me - 1 - m))) else ly_ F T W me m j
theorem hd_mono {T : px_T} {k p p' : Int} (h : p ≤ p') : hd_ T k p ≤ hd_ T k p' ∧ (hd_ T k p = 2 ∨ hd_ T k p = 4) := by
  unfold hd_
  by_cases h1 : T 3 k = 2 ∧ p + 2 ≤ 255
  · rw [if_pos h1]
    split <;> omega
  · rw [if_neg h1, if_neg (by omega)]
    omega
theorem ow_mono {F : Int → Int} {T : px_T} {W W' : Int → Int} (hF : ∀ i, 0 ≤ F i ∧ F i < 256) (hW : ∀ k, W k = 1 → W' k = 1) (k : Int) : ow_ F T W k ≤ ow_ F T W' k := by
  unfold ow_
  have := hF (st_ T k)
  by_cases h : (T 4 k = 0 ∧ T 2 k = 77) ∨ (T 4 k = 1 ∧ T 2 k = 84)
  · rw [if_pos h, if_pos h]; omega
  · rw [if_neg h, if_neg h]
    by_cases h1 : W k = 1
    · rw [if_pos h1, if_pos (hW k h1)]; omega
    · rw [if_neg h1]
      split <;> omega
theorem ly_mono {F : Int → Int} {T : px_T} {W W' : Int → Int} {me : Int} (hF : ∀ i, 0 ≤ F i ∧ F i < 256) (hW : ∀ k, W k = 1 → W' k = 1) : ∀ (m : Nat) (j : Int), ly_ F T W me m j ≤ ly_ F T W' me m j := by
  intro m
  induction m with
  | zero => intro j; exact ow_mono hF hW j
  | succ m ih =>
    intro j
    have h1 := ih j
    have h2 := ih (me - 1 - m)
    have h3 := (hd_mono (T := T) (k := me - 1 - m) h2).1
    unfold ly_
    split <;> omega
/-- a box is not changed by the boxes from it on downwards -/
theorem ly_keep {F : Int → Int} {n N : Int} {T : px_T} {W : Int → Int} {me : Int} (htt : tt_ n N T) (hme : me ≤ N) {j : Int} : ∀ (d m : Nat), (m : Int) + d ≤ me → me - 1 - m ≤ j → ly_ F T W me (m + d) j = ly_ F T W me m j := by
  intro d
  induction d with
  | zero => intro m _ _; rfl
  | succ d ih =>
    intro m h1 h2
    have bx := htt.2.2.1 (me - 1 - ((m + d : Nat) : Int)) (by omega) (by omega)
    unfold bx_ at bx
    have e : ly_ F T W me (m + d + 1) j = ly_ F T W me (m + d) j := by
      show (if j = T 5 (me - 1 - ((m + d : Nat) : Int)) then _ else _) = _
      rw [if_neg (by omega)]
    show ly_ F T W me (m + d + 1) j = _
    rw [e]
    exact ih m (by omega) h2
/-- the new payload and the new length of box k -/
def np_ (F : Int → Int) (T : px_T) (W : Int → Int) (mi me k : Int) : Int := ly_ F T W me (me - mi).toNat k
def nl_ (F : Int → Int) (T : px_T) (W : Int → Int) (mi me k : Int) : Int := np_ F T W mi me k + hd_ T k (np_ F T W mi me k)
theorem nl_mono {F : Int → Int} {T : px_T} {W W' : Int → Int} {mi me : Int} (hF : ∀ i, 0 ≤ F i ∧ F i < 256) (hW : ∀ k, W k = 1 → W' k = 1) (k : Int) : nl_ F T W mi me k ≤ nl_ F T W' mi me k := by
  have h := ly_mono (F := F) (T := T) (me := me) hF hW (me - mi).toNat k
  have h3 := (hd_mono (T := T) (k := k) h).1
  unfold nl_ np_
  omega
section FB
variable {l : Launch} {σ : sg_} {K : Option Value → mx_H → Prop} {F : Int → Int} {n N : Int} {T : px_T} {mi : Int}
theorem lp_V_bm (hlt : lt_ σ N T) (htt : tt_ n N T) (hm : mi < N) (m0 : 0 ≤ mi) (hK : ∀ me, ME_ N T mi me → K (some (.int (iI me))) (hp_ σ)) : ∀ (j : Nat) (i : Int), i + j = N → mi < i → (∀ k, mi < k → k < i → 1 ≤ T 4 k) → wp_m l Y_V_behindMovie none 0 0 7 [.ref 45, .int (iI i)] [] (hp_ σ) K := by
  have t2 := htt.2.1
  intro j
  induction j with
  | zero =>
    intro i hi i0 hall
    obtain rfl : i = N := by omega
    refine wp_iload_n dc_V_behindMovie_7 rfl rfl (wp_aload_n dc_V_behindMovie_8 rfl rfl (wi_getR dc_V_behindMovie_9 lf_V_15 sh_45 rfl ?_))
    refine wp_callV (As := []) dc_V_behindMovie_12 lm_V_81 ls_L_size (by decide) rfl rfl (hp_at _ sh_3) rfl rfl (Nat.le_of_ble_eq_true rfl) (Nat.le_refl _) (Nat.le_refl _) ?_
    refine c_L_size ?_
    rw [hlt.1]
    refine wi_ic_ge dc_V_behindMovie_15 rfl (fun hd => ?_) (fun hd => ?_)
    · refine wp_aload_n dc_V_behindMovie_38 rfl rfl (wi_getR dc_V_behindMovie_39 lf_V_15 sh_45 rfl ?_)
      refine wp_callV (As := []) dc_V_behindMovie_42 lm_V_81 ls_L_size (by decide) rfl rfl (hp_at _ sh_3) rfl rfl (Nat.le_of_ble_eq_true rfl) (Nat.le_refl _) (Nat.le_refl _) ?_
      refine c_L_size ?_
      rw [hlt.1]
      refine wp_ireturn dc_V_behindMovie_45 rfl rfl (hK i ⟨i0, Int.le_refl _, hall, Or.inl rfl⟩)
    · omega
  | succ j ih =>
    intro i hi i0 hall
    have bx := htt.2.2.1 i (by omega) (by omega)
    unfold bx_ at bx
    refine wp_iload_n dc_V_behindMovie_7 rfl rfl (wp_aload_n dc_V_behindMovie_8 rfl rfl (wi_getR dc_V_behindMovie_9 lf_V_15 sh_45 rfl ?_))
    refine wp_callV (As := []) dc_V_behindMovie_12 lm_V_81 ls_L_size (by decide) rfl rfl (hp_at _ sh_3) rfl rfl (Nat.le_of_ble_eq_true rfl) (Nat.le_refl _) (Nat.le_refl _) ?_
    refine c_L_size ?_
    rw [hlt.1]
    refine wi_ic_ge dc_V_behindMovie_15 rfl (fun hd => ?_) (fun hd => ?_)
    · omega
    refine wp_aload_n dc_V_behindMovie_18 rfl rfl (wi_getR dc_V_behindMovie_19 lf_V_15 sh_45 rfl (wp_iload_n dc_V_behindMovie_22 rfl rfl (wi_iconst dc_V_behindMovie_23 ?_)))
    refine wp_callV (As := [_, _]) dc_V_behindMovie_24 lm_V_52 ls_L_of (by decide) rfl rfl (hp_at _ sh_3) rfl rfl (Nat.le_of_ble_eq_true rfl) (Nat.le_refl _) (Nat.le_refl _) ?_
    refine c_L_of (c := 4) (by decide) (by rw [hlt.1]; omega) (by rw [hlt.1]; omega) ⟨by omega, by omega⟩ ?_
    rw [hlt.1, at_in (by omega) (by omega), show σ (5 + 4) i = T 4 i from hlt.2.1 4 i (by decide) (by omega) (by omega)]
    refine wi_if_ne dc_V_behindMovie_27 rfl (fun he => ?_) (fun he => ?_)
    · refine wp_ii1 dc_V_behindMovie_32 (wp_goto dc_V_behindMovie_35 rfl ?_)
      refine ih (i + 1) (by omega) (by omega) (fun k k0 k1 => ?_)
      by_cases e : k = i
      · rw [e]; omega
      · exact hall k k0 (by omega)
    · refine wp_iload_n dc_V_behindMovie_30 rfl rfl ?_
      refine wp_ireturn dc_V_behindMovie_31 rfl rfl (hK i ⟨i0, by omega, hall, Or.inr he⟩)
theorem c_V_behindMovie (hlt : lt_ σ N T) (htt : tt_ n N T) (hm : mi < N) (m0 : 0 ≤ mi) (h6 : σ 45 6 = mi) (hK : ∀ me, ME_ N T mi me → K (some (.int (iI me))) (hp_ σ)) : ct_m l Y_V_behindMovie 0 0 [.ref 45] (hp_ σ) K := by
  refine ct_of (L := [.ref 45, .retAddr 0]) (by decide +kernel) (Nat.le_of_ble_eq_true rfl) rfl ?_
  refine wp_aload_n dc_V_behindMovie_0 rfl rfl (wi_getE 6 (mi) dc_V_behindMovie_1 lf_V_36 sh_45 rfl rfl h6 (wi_iconst dc_V_behindMovie_4 (wi_iadd dc_V_behindMovie_5 (wp_is1 dc_V_behindMovie_6 ?_))))
  exact lp_V_bm hlt htt hm m0 hK (N - (mi + 1)).toNat (mi + 1) (by omega) (by omega) (fun k k0 k1 => by omega)
theorem c_V_newSize {k p h : Int} (k0 : 0 ≤ k) (k1 : k < 20) (hp : σ 49 k = p) (hh : σ 50 k = h) (hK : K (some (.int (iI (p + h)))) (hp_ σ)) : ct_m l Y_V_newSize 0 0 [.ref 45, .int (iI k)] (hp_ σ) K := by
  refine ct_of (L := [.ref 45, .int (iI k)]) (by decide +kernel) (Nat.le_of_ble_eq_true rfl) rfl ?_
  refine wp_aload_n dc_V_newSize_0 rfl rfl (wi_getR dc_V_newSize_1 lf_V_29 sh_45 rfl (wp_iload_n dc_V_newSize_4 rfl rfl (wi_aldE (p) dc_V_newSize_5 sh_49 (by omega) (by omega) (by decide) hp (wp_aload_n dc_V_newSize_6 rfl rfl (wi_getR dc_V_newSize_7 lf_V_33 sh_45 rfl (wp_iload_n dc_V_newSize_10 rfl rfl (wi_aldE (h) dc_V_newSize_11 sh_50 (by omega) (by omega) (by decide) hh (wi_iadd dc_V_newSize_12 ?_))))))))
  refine wp_ireturn dc_V_newSize_13 rfl rfl hK
theorem c_V_rowsOf {k : Int} (hlo : lo_ σ F n) (hlt : lt_ σ N T) (htt : tt_ n N T) (k0 : 0 ≤ k) (k1 : k < N) (hpl : 1 ≤ pl_ T k) (hK : K (some (.int (iI (F (st_ T k))))) (hp_ σ)) : ct_m l Y_V_rowsOf 0 0 [.ref 45, .int (iI k)] (hp_ σ) K := by
  have bx := htt.2.2.1 k k0 k1
  unfold bx_ at bx
  have ep : pl_ T k = T 1 k - T 3 k := rfl
  have es : st_ T k = T 0 k + T 3 k := rfl
  refine ct_of (L := [.ref 45, .int (iI k)]) (by decide +kernel) (Nat.le_of_ble_eq_true rfl) rfl ?_
  refine wp_aload_n dc_V_rowsOf_0 rfl rfl (wi_getR dc_V_rowsOf_1 lf_V_9 sh_45 rfl (wp_aload_n dc_V_rowsOf_4 rfl rfl (wi_getR dc_V_rowsOf_5 lf_V_15 sh_45 rfl (wp_iload_n dc_V_rowsOf_8 rfl rfl ?_))))
  refine wp_callV (As := [_]) dc_V_rowsOf_9 lm_V_105 ls_L_payloadOf (by decide) rfl rfl (hp_at _ sh_3) rfl rfl (Nat.le_of_ble_eq_true rfl) (Nat.le_refl _) (Nat.le_refl _) ?_
  refine c_L_payloadOf' hlt htt k0 k1 ?_
  refine wp_callV (As := [_]) dc_V_rowsOf_12 lm_V_108 ls_B_at (by decide) rfl rfl (hp_at _ sh_1) rfl rfl (Nat.le_of_ble_eq_true rfl) (Nat.le_refl _) (Nat.le_refl _) ?_
  refine c_B_at' hlo (by omega) (by omega) ?_
  refine wp_ireturn dc_V_rowsOf_15 rfl rfl hK
end FB
