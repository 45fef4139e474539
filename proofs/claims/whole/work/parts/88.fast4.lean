/-! fastStart: the class's measure -/
def bn_ : Nat → Int
  | 0 => 1255
  | m + 1 => 2 * bn_ m + 4
theorem bn_mono : ∀ (d m : Nat), bn_ m ≤ bn_ (m + d) ∧ 0 ≤ bn_ m := by
  have pos : ∀ m, 0 ≤ bn_ m := fun m => by
    induction m with
    | zero => decide
    | succ m ih => show 0 ≤ 2 * bn_ m + 4; omega
  intro d
  induction d with
  | zero => exact fun m => ⟨Int.le_refl _, pos m⟩
  | succ d ih =>
    intro m
    have h := ih m
    have h2 : bn_ (m + d + 1) = 2 * bn_ (m + d) + 4 := rfl
    have h3 := pos (m + d)
    exact ⟨by show bn_ m ≤ bn_ (m + d + 1); omega, pos m⟩
theorem bn_20 {m : Nat} (h : m ≤ 20) : bn_ m ≤ 1500000000 := by
  have h1 := (bn_mono (20 - m) m).1
  rw [show m + (20 - m) = 20 by omega] at h1
  have : bn_ 20 ≤ 1500000000 := by decide
  omega
theorem ly_rg {F W : Int → Int} {n N : Int} {T : px_T} {me : Int} (hF : ∀ i, 0 ≤ F i ∧ F i < 256) (hn : n ≤ 1000) (htt : tt_ n N T) (hme : me ≤ N) : ∀ (m : Nat), (m : Int) ≤ me → ∀ j, 0 ≤ j → j < N → 0 ≤ ly_ F T W me m j ∧ ly_ F T W me m j ≤ bn_ m := by
  intro m
  induction m with
  | zero =>
    intro _ j j0 j1
    have bx := htt.2.2.1 j j0 j1
    unfold bx_ at bx
    have ep : pl_ T j = T 1 j - T 3 j := rfl
    have := hF (st_ T j)
    show 0 ≤ ow_ F T W j ∧ ow_ F T W j ≤ 1255
    unfold ow_
    split
    · omega
    · split <;> omega
  | succ m ih =>
    intro hm j j0 j1
    have h1 := ih (by omega) j j0 j1
    have h2 := ih (by omega) (me - 1 - m) (by omega) (by omega)
    have h3 := (hd_mono (T := T) (k := me - 1 - m) (Int.le_refl (ly_ F T W me m (me - 1 - m)))).2
    have e : bn_ (m + 1) = 2 * bn_ m + 4 := rfl
    unfold ly_
    split <;> omega
section FD
variable {l : Launch} {K : Option Value → mx_H → Prop} {F W : Int → Int} {n N : Int} {T : px_T} {mi me : Int} {σ0 : sg_}
def msW (b : Nat) (_ : Int) : Prop := b = 49 ∨ b = 50
theorem lp_V_me2 (hlo0 : lo_ σ0 F n) (hlt0 : lt_ σ0 N T) (htt : tt_ n N T) (m0 : 0 ≤ mi) (hm : mi < me) (hme : me ≤ N) (h6 : σ0 45 6 = mi) (hh : ∀ k, mi < k → k < me → mi ≤ T 5 k) (hmm : T 5 mi = -1) (hK : ∀ σ', fr_ msW σ0 σ' → (∀ k, mi ≤ k → k < me → σ' 49 k = np_ F T W mi me k ∧ σ' 50 k = hd_ T k (np_ F T W mi me k)) → K none (hp_ σ')) :
    ∀ (j m : Nat) (σ : sg_) (u2 : Value), (m : Int) + j = me - mi → fr_ msW σ0 σ → (∀ k, mi ≤ k → k < me → σ 49 k = ly_ F T W me m k) → (∀ k, me - m ≤ k → k < me → σ 50 k = hd_ T k (np_ F T W mi me k)) → wp_m l Y_V_measure none 0 0 37 [.ref 45, .int (iI (me - 1 - m)), u2] [] (hp_ σ) K := by
  have t2 := htt.2.1
  have hF := hlo0.2.2.2.2
  intro j
  induction j with
  | zero =>
    intro m σ u2 hi hfr h49 h50
    have e : (me - mi).toNat = m := by omega
    refine wp_iload_n dc_V_measure_37 rfl rfl (wp_aload_n dc_V_measure_38 rfl rfl (wi_getE 6 (mi) dc_V_measure_39 lf_V_36 sh_45 rfl rfl ((hfr 45 6 (by unfold msW; omega)).trans h6) ?_))
    refine wi_ic_lt dc_V_measure_42 rfl (fun hd => ?_) (fun hd => ?_)
    · refine wp_return dc_V_measure_99 rfl (hK σ hfr (fun k k0 k1 => ⟨?_, h50 k (by omega) k1⟩))
      unfold np_
      rw [e]
      exact h49 k k0 k1
    · omega
  | succ j ih =>
    intro m σ u2 hi hfr h49 h50
    have f12 : fr_ (fun b _ => 12 ≤ b) σ0 σ := hfr.mono (fun b _ h => by unfold msW at h; omega)
    have hlt := lt_fr f12 hlt0
    have lr := ly_rg (W := W) hF hlo0.2.1 htt hme m (by omega) (me - 1 - m) (by omega) (by omega)
    have b20 := bn_20 (show m ≤ 20 by omega)
    have hdr := (hd_mono (T := T) (k := me - 1 - m) (Int.le_refl (ly_ F T W me m (me - 1 - m)))).2
    have bx := htt.2.2.1 (me - 1 - m) (by omega) (by omega)
    unfold bx_ at bx
    have enp : np_ F T W mi me (me - 1 - m) = ly_ F T W me m (me - 1 - m) := by
      unfold np_
      have := ly_keep (F := F) (W := W) htt hme (j := me - 1 - m) ((me - mi).toNat - m) m (by omega) (by omega)
      rwa [show m + ((me - mi).toNat - m) = (me - mi).toNat by omega] at this
    have e49 := h49 (me - 1 - m) (by omega) (by omega)
    refine wp_iload_n dc_V_measure_37 rfl rfl (wp_aload_n dc_V_measure_38 rfl rfl (wi_getE 6 (mi) dc_V_measure_39 lf_V_36 sh_45 rfl rfl ((hfr 45 6 (by unfold msW; omega)).trans h6) ?_))
    refine wi_ic_lt dc_V_measure_42 rfl (fun hd => ?_) (fun hd => ?_)
    · omega
    refine wp_aload_n dc_V_measure_45 rfl rfl (wi_getR dc_V_measure_46 lf_V_33 sh_45 rfl (wp_iload_n dc_V_measure_49 rfl rfl (wp_aload_n dc_V_measure_50 rfl rfl (wp_iload_n dc_V_measure_51 rfl rfl ?_))))
    refine wp_callV (As := [_]) dc_V_measure_52 lm_V_92 ls_V_newHeader (by decide) rfl rfl (hp_at _ sh_45) rfl rfl (Nat.le_of_ble_eq_true rfl) (Nat.le_refl _) (Nat.le_refl _) ?_
    refine c_V_newHeader hlt htt (by omega) (by omega) e49 (by omega) ?_
    refine wi_ast dc_V_measure_55 sh_50 (by omega) (by omega) (by decide) (wp_aload_n dc_V_measure_56 rfl rfl (wi_getR dc_V_measure_57 lf_V_15 sh_45 rfl (wp_iload_n dc_V_measure_60 rfl rfl (wi_iconst dc_V_measure_61 ?_))))
    have f2 : fr_ msW σ0 (up_ σ 50 (me - 1 - m) (hd_ T (me - 1 - m) (ly_ F T W me m (me - 1 - m)))) := hfr.up (Or.inr rfl)
    have hlt2 := lt_fr (f2.mono (P' := fun b _ => 12 ≤ b) (fun b _ h => by unfold msW at h; omega)) hlt0
    refine wp_callV (As := [_, _]) dc_V_measure_62 lm_V_52 ls_L_of (by decide) rfl rfl (hp_at _ sh_3) rfl rfl (Nat.le_of_ble_eq_true rfl) (Nat.le_refl _) (Nat.le_refl _) ?_
    refine c_L_of (c := 5) (by decide) (by rw [hlt2.1]; omega) (by rw [hlt2.1]; omega) ⟨by omega, by omega⟩ ?_
    rw [hlt2.1, at_in (by omega) (by omega), show up_ σ 50 (me - 1 - m) (hd_ T (me - 1 - m) (ly_ F T W me m (me - 1 - m))) (5 + 5) (me - 1 - m) = T 5 (me - 1 - m) from hlt2.2.1 5 _ (by decide) (by omega) (by omega)]
    have q50 : ∀ k, me - ((m + 1 : Nat) : Int) ≤ k → k < me → up_ σ 50 (me - 1 - m) (hd_ T (me - 1 - m) (ly_ F T W me m (me - 1 - m))) 50 k = hd_ T k (np_ F T W mi me k) := fun k k0 k1 => by
      by_cases e : k = me - 1 - m
      · rw [e, up_s, enp]
      · rw [up_n _ _ (by omega)]; exact h50 k (by omega) k1
    refine wp_is2 dc_V_measure_65 (wp_iload_n dc_V_measure_66 rfl rfl (wp_aload_n dc_V_measure_67 rfl rfl (wi_getE 6 (mi) dc_V_measure_68 lf_V_36 sh_45 rfl rfl ((f2 45 6 (by unfold msW; omega)).trans h6) ?_)))
    refine wi_ic_lt dc_V_measure_71 rfl (fun he => ?_) (fun he => ?_)
    · -- the movie itself: it is held by nothing
      have em : me - 1 - m = mi := by
        by_cases e : me - 1 - m = mi
        · exact e
        · have := hh (me - 1 - m) (by omega) (by omega); omega
      refine wp_ii1 dc_V_measure_93 (wp_goto dc_V_measure_96 rfl ?_)
      have nx := ih (m + 1) _ (.int (iI (T 5 (me - 1 - m)))) (by omega) f2 (fun k k0 k1 => by
        rw [up_n _ _ (by omega), h49 k k0 k1]
        show _ = if k = T 5 (me - 1 - m) then _ else _
        rw [if_neg (by omega)]) q50
      rw [show me - 1 - ((m + 1 : Nat) : Int) = me - 1 - m - 1 by omega] at nx
      exact nx
    refine wp_iload_n dc_V_measure_74 rfl rfl (wp_iload_n dc_V_measure_75 rfl rfl ?_)
    refine wi_ic_ge dc_V_measure_76 rfl (fun hf => ?_) (fun hf => ?_)
    · omega
    refine wp_aload_n dc_V_measure_79 rfl rfl (wi_getR dc_V_measure_80 lf_V_29 sh_45 rfl (wp_iload_n dc_V_measure_83 rfl rfl (wp_dup2 dc_V_measure_84 (wi_aldE (ly_ F T W me m (T 5 (me - 1 - m))) dc_V_measure_85 sh_49 (by omega) (by omega) (by decide) (by rw [up_n _ _ (by omega)]; exact h49 _ (by omega) (by omega)) (wp_aload_n dc_V_measure_86 rfl rfl (wp_iload_n dc_V_measure_87 rfl rfl ?_))))))
    refine wp_callV (As := [_]) dc_V_measure_88 lm_V_59 ls_V_newSize (by decide) rfl rfl (hp_at _ sh_45) rfl rfl (Nat.le_of_ble_eq_true rfl) (Nat.le_refl _) (Nat.le_refl _) ?_
    refine c_V_newSize (by omega) (by omega) (p := ly_ F T W me m (me - 1 - m)) (h := hd_ T (me - 1 - m) (ly_ F T W me m (me - 1 - m))) (by rw [up_n _ _ (by omega)]; exact e49) (up_s _ _ _ _) ?_
    refine wi_iadd dc_V_measure_91 (wi_ast dc_V_measure_92 sh_49 (by omega) (by omega) (by decide) (wp_ii1 dc_V_measure_93 (wp_goto dc_V_measure_96 rfl ?_)))
    have nx := ih (m + 1) _ (.int (iI (T 5 (me - 1 - m)))) (by omega) (f2.up (k := T 5 (me - 1 - m)) (v := ly_ F T W me m (T 5 (me - 1 - m)) + (ly_ F T W me m (me - 1 - m) + hd_ T (me - 1 - m) (ly_ F T W me m (me - 1 - m)))) (Or.inl rfl)) (fun k k0 k1 => by
      show _ = if k = T 5 (me - 1 - m) then _ else _
      by_cases e : k = T 5 (me - 1 - m)
      · rw [if_pos e, e, up_s]
      · rw [if_neg e, up_n _ _ (by omega), up_n _ _ (by omega)]; exact h49 k k0 k1) (fun k k0 k1 => by rw [up_n _ _ (by omega)]; exact q50 k k0 k1)
    rw [show me - 1 - ((m + 1 : Nat) : Int) = me - 1 - m - 1 by omega] at nx
    exact nx
end FD
