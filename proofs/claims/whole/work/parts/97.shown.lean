/-! shown on both sides -/
def fs_ (P : Int → Prop) (N r : Int) : Prop := (r = -1000 ∧ ∀ j, 0 ≤ j → j < N → ¬ P j) ∨ (0 ≤ r ∧ r < N ∧ P r ∧ ∀ j, 0 ≤ j → j < r → ¬ P j)
theorem fs_un {P : Int → Prop} {N r r' : Int} (h : fs_ P N r) (h' : fs_ P N r') : r = r' := by
  rcases h with ⟨a1, a2⟩ | ⟨a1, a2, a3, a4⟩ <;> rcases h' with ⟨b1, b2⟩ | ⟨b1, b2, b3, b4⟩
  · omega
  · exact absurd b3 (a2 _ b1 b2)
  · exact absurd a3 (b2 _ a1 a2)
  · by_cases e : r < r'
    · exact absurd a3 (b4 r a1 e)
    by_cases e' : r' < r
    · exact absurd b3 (a4 r' b1 e')
    omega
theorem fs_ex (P : Int → Prop) (N : Int) : ∃ r, fs_ P N r := by
  have h : ∀ m : Nat, (∃ r, 0 ≤ r ∧ r < (m : Int) ∧ P r ∧ ∀ j, 0 ≤ j → j < r → ¬ P j) ∨ ∀ j, 0 ≤ j → j < (m : Int) → ¬ P j := by
    intro m
    induction m with
    | zero => exact Or.inr (fun j j0 j1 => by omega)
    | succ m ih =>
      rcases ih with ⟨r, r0, r1, r2, r3⟩ | h
      · exact Or.inl ⟨r, r0, by omega, r2, r3⟩
      · by_cases hp : P m
        · exact Or.inl ⟨m, by omega, by omega, hp, h⟩
        · refine Or.inr (fun j j0 j1 => ?_)
          by_cases e : j = m
          · rw [e]; exact hp
          · exact h j j0 (by omega)
  rcases h N.toNat with ⟨r, r0, r1, r2, r3⟩ | h
  · exact ⟨r, Or.inr ⟨r0, by omega, r2, r3⟩⟩
  · exact ⟨-1000, Or.inl ⟨rfl, fun j j0 j1 => h j j0 (by omega)⟩⟩
/-- sample k is shown at the time m of the media -/
def sw_ (F : Int → Int) (T : px_T) (f : Int → Int) (m k : Int) : Prop := dt_ F (st_ T (f 0)) k.toNat + sh_ F T f k ≤ m ∧ m < dt_ F (st_ T (f 0)) k.toNat + sh_ F T f k + rv_ F (st_ T (f 0)) k
section SH
variable {l : Launch} {σ : sg_} {K : Option Value → mx_H → Prop} {F : Int → Int} {n N : Int} {T : px_T} {f : Int → Int} {a : Nat} {b t p : Int}
theorem lp_K_sa {x m : Int} (hm : -1000 ≤ m ∧ m ≤ 2147483647) (hKo : SH[a]? = some (.inr (5, [.ref 3, .ref (a + 1), .ref (a + 2), .ref (a + 3), .ref (a + 4), .ref (a + 5), .ref (a + 6), .ref (a + 7), .ref (a + 8), .int 0]))) (hg : kgo_ a) (hF : ∀ i, 0 ≤ F i ∧ F i < 256) (hc : cx_ σ F T f a) (hK : ∀ r, fs_ (sw_ F T f m) (SC_ F T f) r → K (some (.int (iI r))) (hp_ σ)) :
    ∀ (j k : Nat) (u4 : Value), (k : Int) + j = SC_ F T f → (∀ i, 0 ≤ i → i < (k : Int) → ¬ sw_ F T f m i) → wp_m l Y_K_shownAt none 0 0 19 [.ref a, .int (iI x), .int (iI m), .int (iI (k : Int)), u4] [] (hp_ σ) K := by
  obtain ⟨hG, g0, g1, g2, g3, g4, g5, g6⟩ := hg
  obtain ⟨c1, -, c3, c4, c5⟩ := hc
  have hs3 := hF (st_ T (f 3) + 1)
  have esc : SC_ F T f = F (st_ T (f 3) + 1) := rfl
  intro j
  induction j with
  | zero =>
    intro k u4 hi hall
    refine wp_iload_n dc_K_shownAt_19 rfl rfl (wp_aload_n dc_K_shownAt_20 rfl rfl (wi_getE 9 ((SC_ F T f)) dc_K_shownAt_21 lf_K_51 hKo rfl rfl c1 ?_))
    refine wi_ic_ge dc_K_shownAt_24 rfl (fun hd => ?_) (fun hd => ?_)
    · refine wi_sipush dc_K_shownAt_67 ?_
      refine wp_ireturn dc_K_shownAt_70 rfl rfl (hK _ (Or.inl ⟨rfl, fun i i0 i1 => hall i i0 (by omega)⟩))
    · omega
  | succ j ih =>
    intro k u4 hi hall
    obtain ⟨q15, q11, q12⟩ := c3 k (by omega)
    have r1 := dt_rg hF (st_ T (f 0)) k
    have r2 := sh_rg hF T f k
    have r3 := rv_rg hF (st_ T (f 0)) k
    have ek : ((k : Int)).toNat = k := by omega
    have nx : ¬ sw_ F T f m k → wp_m l Y_K_shownAt none 0 0 61 [.ref a, .int (iI x), .int (iI m), .int (iI (k : Int)), .int (iI (dt_ F (st_ T (f 0)) k + sh_ F T f k))] [] (hp_ σ) K := fun hn => by
      refine wp_ii3 dc_K_shownAt_61 (wp_goto dc_K_shownAt_64 rfl ?_)
      refine ih (k + 1) _ (by omega) (fun i i0 i1 => ?_)
      by_cases e : i = k
      · rw [e]; exact hn
      · exact hall i i0 (by omega)
    refine wp_iload_n dc_K_shownAt_19 rfl rfl (wp_aload_n dc_K_shownAt_20 rfl rfl (wi_getE 9 ((SC_ F T f)) dc_K_shownAt_21 lf_K_51 hKo rfl rfl c1 ?_))
    refine wi_ic_ge dc_K_shownAt_24 rfl (fun hd => ?_) (fun hd => ?_)
    · omega
    refine wp_aload_n dc_K_shownAt_27 rfl rfl (wi_getR dc_K_shownAt_28 lf_K_48 hKo rfl (wi_iconst dc_K_shownAt_31 (wi_aald dc_K_shownAt_32 hG rfl rfl (by decide) (by decide) (by decide) (show _ = some (a + 12) from rfl) (wp_iload_n dc_K_shownAt_33 rfl rfl (wi_aldE (dt_ F (st_ T (f 0)) k + sh_ F T f k) dc_K_shownAt_34 g3 (by omega) (by omega) (by decide) q12 (wp_is4 dc_K_shownAt_35 (wp_iload_n dc_K_shownAt_37 rfl rfl (wp_iload dc_K_shownAt_38 rfl ?_))))))))
    refine wi_ic_lt dc_K_shownAt_40 rfl (fun he => ?_) (fun he => ?_)
    · exact nx (fun h => by have := h.1; rw [ek] at this; omega)
    refine wp_iload_n dc_K_shownAt_43 rfl rfl (wp_iload dc_K_shownAt_44 rfl (wp_aload_n dc_K_shownAt_46 rfl rfl (wi_getR dc_K_shownAt_47 lf_K_48 hKo rfl (wi_bipush dc_K_shownAt_50 (wi_aald dc_K_shownAt_52 hG rfl rfl (by decide) (by decide) (by decide) (show _ = some (a + 15) from rfl) (wp_iload_n dc_K_shownAt_53 rfl rfl (wi_aldE (rv_ F (st_ T (f 0)) k) dc_K_shownAt_54 g6 (by omega) (by omega) (by decide) q15 (wi_iadd dc_K_shownAt_55 ?_))))))))
    refine wi_ic_ge dc_K_shownAt_56 rfl (fun hf => ?_) (fun hf => ?_)
    · exact nx (fun h => by have := h.2; rw [ek] at this; omega)
    refine wp_iload_n dc_K_shownAt_59 rfl rfl ?_
    refine wp_ireturn dc_K_shownAt_60 rfl rfl (hK _ (Or.inr ⟨by omega, by omega, ⟨by rw [ek]; omega, by rw [ek]; omega⟩, hall⟩))
theorem c_K_shownAt {x : Int} (x0 : 0 ≤ x) (x1 : x ≤ 2147483647) (hx : kk_ σ F n N T a b f) (hg : kgo_ a) (hc : cx_ σ F T f a) (h0 : mt_ F T f x = -1000 → K (some (.int (iI (-1000)))) (hp_ σ)) (h1 : ¬ mt_ F T f x = -1000 → ∀ r, fs_ (sw_ F T f (mt_ F T f x)) (SC_ F T f) r → K (some (.int (iI r))) (hp_ σ)) : ct_m l Y_K_shownAt 0 0 [.ref a, .int (iI x)] (hp_ σ) K := by
  have hF := hx.1.2.2.2.2
  have hKo := hx.2.2.2.1.1
  have mr := mt_rg hF T f x0 x1
  have hs3 := hF (st_ T (f 3) + 1)
  have esc : SC_ F T f = F (st_ T (f 3) + 1) := rfl
  refine ct_of (L := [.ref a, .int (iI x), .retAddr 0, .retAddr 0, .retAddr 0]) (by decide +kernel) (Nat.le_of_ble_eq_true rfl) rfl ?_
  refine wp_aload_n dc_K_shownAt_0 rfl rfl (wp_iload_n dc_K_shownAt_1 rfl rfl ?_)
  refine wp_callV (As := [_]) dc_K_shownAt_2 lm_K_140 ls_K_mediaTime (by decide) rfl rfl (hp_at _ hKo) rfl rfl (Nat.le_of_ble_eq_true rfl) (Nat.le_refl _) (Nat.le_refl _) ?_
  refine c_K_mediaTime x0 x1 hx ?_
  refine wp_is2 dc_K_shownAt_5 (wp_iload_n dc_K_shownAt_6 rfl rfl (wi_sipush dc_K_shownAt_7 ?_))
  refine wi_ic_ne dc_K_shownAt_10 rfl (fun hd => ?_) (fun hd => ?_)
  · refine wi_iconst dc_K_shownAt_17 (wp_is3 dc_K_shownAt_18 ?_)
    exact lp_K_sa mr hKo hg hF hc (h1 hd) (SC_ F T f).toNat 0 _ (by omega) (fun i i0 i1 => by omega)
  · refine wi_sipush dc_K_shownAt_13 ?_
    refine wp_ireturn dc_K_shownAt_16 rfl rfl (h0 hd)
theorem lp_R_sa {x m : Int} (hm : -1000 ≤ m ∧ m ≤ 2147483647) (hx : rx_ σ F n N T t b f) (hK : ∀ r, fs_ (sw_ F T f m) (SC_ F T f) r → K (some (.int (iI r))) (hp_ σ)) :
    ∀ (j k : Nat) (u6 u7 : Value), u6.category = 1 → (k : Int) + j = SC_ F T f → (∀ i, 0 ≤ i → i < (k : Int) → ¬ sw_ F T f m i) → wp_m l Y_R_shown none 0 0 40 [.ref 51, .int (iI t), .int (iI x), .int (iI m), .int (iI (dt_ F (st_ T (f 0)) k)), .int (iI (k : Int)), u6, u7] [] (hp_ σ) K := by
  have hF := hx.1.2.2.2.2
  have hs3 := hF (st_ T (f 3) + 1)
  have esc : SC_ F T f = F (st_ T (f 3) + 1) := rfl
  intro j
  induction j with
  | zero =>
    intro k u6 u7 hu hi hall
    refine wp_iload dc_R_shown_40 rfl (wp_aload_n dc_R_shown_42 rfl rfl (wp_iload_n dc_R_shown_43 rfl rfl ?_))
    refine wp_callV (As := [_]) dc_R_shown_44 lm_R_110 ls_R_sampleCount (by decide) rfl rfl (hp_at _ sh_51) rfl rfl (Nat.le_of_ble_eq_true rfl) (Nat.le_refl _) (Nat.le_refl _) ?_
    refine c_R_sampleCount hx ?_
    refine wi_ic_ge dc_R_shown_47 rfl (fun hd => ?_) (fun hd => ?_)
    · refine wi_sipush dc_R_shown_102 ?_
      refine wp_ireturn dc_R_shown_105 rfl rfl (hK _ (Or.inl ⟨rfl, fun i i0 i1 => hall i i0 (by omega)⟩))
    · omega
  | succ j ih =>
    intro k u6 u7 hu hi hall
    have r1 := dt_rg hF (st_ T (f 0)) k
    have r2 := sh_rg hF T f k
    have r3 := rv_rg hF (st_ T (f 0)) k
    have ek : ((k : Int)).toNat = k := by omega
    have nx : ¬ sw_ F T f m k → wp_m l Y_R_shown none 0 0 89 [.ref 51, .int (iI t), .int (iI x), .int (iI m), .int (iI (dt_ F (st_ T (f 0)) k)), .int (iI (k : Int)), .int (iI (dt_ F (st_ T (f 0)) k + sh_ F T f k)), .int (iI (rv_ F (st_ T (f 0)) k))] [] (hp_ σ) K := fun hn => by
      refine wp_iload dc_R_shown_89 rfl (wp_iload dc_R_shown_91 rfl (wi_iadd dc_R_shown_93 (wp_is4 dc_R_shown_94 (wp_ii5 dc_R_shown_96 (wp_goto dc_R_shown_99 rfl ?_)))))
      refine ih (k + 1) _ _ rfl (by omega) (fun i i0 i1 => ?_)
      by_cases e : i = k
      · rw [e]; exact hn
      · exact hall i i0 (by omega)
    refine wp_iload dc_R_shown_40 rfl (wp_aload_n dc_R_shown_42 rfl rfl (wp_iload_n dc_R_shown_43 rfl rfl ?_))
    refine wp_callV (As := [_]) dc_R_shown_44 lm_R_110 ls_R_sampleCount (by decide) rfl rfl (hp_at _ sh_51) rfl rfl (Nat.le_of_ble_eq_true rfl) (Nat.le_refl _) (Nat.le_refl _) ?_
    refine c_R_sampleCount hx ?_
    refine wi_ic_ge dc_R_shown_47 rfl (fun hd => ?_) (fun hd => ?_)
    · omega
    refine wp_iload dc_R_shown_50 rfl (wp_aload_n dc_R_shown_52 rfl rfl (wp_iload_n dc_R_shown_53 rfl rfl (wp_iload dc_R_shown_54 rfl ?_)))
    refine wp_callV (As := [_, _]) dc_R_shown_56 lm_R_156 ls_R_shiftOf (by decide) rfl rfl (hp_at _ sh_51) rfl rfl (Nat.le_of_ble_eq_true rfl) (Nat.le_refl _) (Nat.le_refl _) ?_
    refine c_R_shiftOf hx ⟨by omega, by omega⟩ ?_
    refine wi_iadd dc_R_shown_59 (wp_is6 dc_R_shown_60 (wp_aload_n dc_R_shown_62 rfl rfl (wp_iload_n dc_R_shown_63 rfl rfl (wp_iload dc_R_shown_64 rfl ?_))))
    refine wp_callV (As := [_, _]) dc_R_shown_66 lm_R_146 ls_R_durationOf (by decide) rfl rfl (hp_at _ sh_51) rfl rfl (Nat.le_of_ble_eq_true rfl) (Nat.le_refl _) (Nat.le_refl _) ?_
    refine c_R_durationOf hx ⟨by omega, by omega⟩ ?_
    refine wp_is7 dc_R_shown_69 (wp_iload_n dc_R_shown_71 rfl rfl (wp_iload dc_R_shown_72 rfl ?_))
    refine wi_ic_lt dc_R_shown_74 rfl (fun he => ?_) (fun he => ?_)
    · exact nx (fun h => by have := h.1; rw [ek] at this; omega)
    refine wp_iload_n dc_R_shown_77 rfl rfl (wp_iload dc_R_shown_78 rfl (wp_iload dc_R_shown_80 rfl (wi_iadd dc_R_shown_82 ?_)))
    refine wi_ic_ge dc_R_shown_83 rfl (fun hf => ?_) (fun hf => ?_)
    · exact nx (fun h => by have := h.2; rw [ek] at this; omega)
    refine wp_iload dc_R_shown_86 rfl ?_
    refine wp_ireturn dc_R_shown_88 rfl rfl (hK _ (Or.inr ⟨by omega, by omega, ⟨by rw [ek]; omega, by rw [ek]; omega⟩, hall⟩))
end SH
section SI
variable {l : Launch} {σ : sg_}
theorem op_shown (h : Inv_ σ) (x0 x1 : Int32) : op_ok l Inv_ Y_M_shown Y_R_shown [.int x0, .int x1] σ := by
  obtain ⟨F, n, hf, h46, hs⟩ := id h
  obtain ⟨p, hp, rfl⟩ := iI_of x0
  obtain ⟨x, hxr, rfl⟩ := iI_of x1
  have hF := fo_F hf
  have hs3 := hF (st_ (px_ F n).2.2 (tab_ (px_ F n).2.1 (px_ F n).2.2 p 3) + 1)
  have esc : SC_ F (px_ F n).2.2 (tab_ (px_ F n).2.1 (px_ F n).2.2 p) = F (st_ (px_ F n).2.2 (tab_ (px_ F n).2.1 (px_ F n).2.2 p 3) + 1) := rfl
  obtain ⟨r, hr1, hr0⟩ : ∃ r : Int, ((tr_ F n p ∧ 0 ≤ x ∧ ¬ mt_ F (px_ F n).2.2 (tab_ (px_ F n).2.1 (px_ F n).2.2 p) x = -1000) → fs_ (sw_ F (px_ F n).2.2 (tab_ (px_ F n).2.1 (px_ F n).2.2 p) (mt_ F (px_ F n).2.2 (tab_ (px_ F n).2.1 (px_ F n).2.2 p) x)) (SC_ F (px_ F n).2.2 (tab_ (px_ F n).2.1 (px_ F n).2.2 p)) r) ∧ (¬ (tr_ F n p ∧ 0 ≤ x ∧ ¬ mt_ F (px_ F n).2.2 (tab_ (px_ F n).2.1 (px_ F n).2.2 p) x = -1000) → r = -1000) := by
    by_cases hall : tr_ F n p ∧ 0 ≤ x ∧ ¬ mt_ F (px_ F n).2.2 (tab_ (px_ F n).2.1 (px_ F n).2.2 p) x = -1000
    · obtain ⟨v, hv⟩ := fs_ex (sw_ F (px_ F n).2.2 (tab_ (px_ F n).2.1 (px_ F n).2.2 p) (mt_ F (px_ F n).2.2 (tab_ (px_ F n).2.1 (px_ F n).2.2 p) x)) (SC_ F (px_ F n).2.2 (tab_ (px_ F n).2.1 (px_ F n).2.2 p))
      exact ⟨v, fun _ => hv, fun h => absurd hall h⟩
    · exact ⟨-1000, fun h => absurd h hall, fun _ => rfl⟩
  refine ⟨iI r, fun s => md_ s F n, fun K hK => ?_, fun s hs K hK => ?_⟩
  · refine ct_of (L := [.ref 0, .int (iI p), .int (iI x), .retAddr 0]) (by decide +kernel) (Nat.le_of_ble_eq_true rfl) rfl ?_
    refine wp_aload_n dc_M_shown_0 rfl rfl ?_
    refine wp_callV (As := []) dc_M_shown_1 lm_M_75 ls_M_look (by decide) rfl rfl (hp_at _ sh_0) rfl rfl (Nat.le_of_ble_eq_true rfl) (Nat.le_refl _) (Nat.le_refl _) ?_
    refine c_M_look (fo_lo hf) hs (fun σ' f1 h6 hc => ?_)
    have hm := md_lk hf h46 f1 h6 hc
    have hk := hK σ' hm
    have no : ∀ u : Value, ¬ (tr_ F n p ∧ 0 ≤ x ∧ ¬ mt_ F (px_ F n).2.2 (tab_ (px_ F n).2.1 (px_ F n).2.2 p) x = -1000) → wp_m l Y_M_shown none 0 0 18 [.ref 0, .int (iI p), .int (iI x), u] [] (hp_ σ') K := fun u hn => by
      rw [hr0 hn] at hk
      refine wi_sipush dc_M_shown_18 ?_
      refine wp_ireturn dc_M_shown_21 rfl rfl hk
    refine wp_aload_n dc_M_shown_4 rfl rfl (wp_iload_n dc_M_shown_5 rfl rfl ?_)
    refine wp_callV (As := [_]) dc_M_shown_6 lm_M_87 ls_M_soundTrack (by decide) rfl rfl (hp_at _ sh_0) rfl rfl (Nat.le_of_ble_eq_true rfl) (Nat.le_refl _) (Nat.le_refl _) ?_
    refine c_M_soundTrack hp hF hf.1 hc (fun ht => ?_) (fun ht => ?_)
    rotate_left
    · refine wp_an3 dc_M_shown_9 (wp_aload_nN dc_M_shown_10 rfl rfl ?_)
      refine wp_ifnullN dc_M_shown_11 rfl ?_
      exact no _ (fun g => ht g.1)
    obtain ⟨k1, k2, k3, k4⟩ := tr_kk hm.1 hc ht
    refine wp_as3 dc_M_shown_9 (wp_aload_n dc_M_shown_10 rfl rfl ?_)
    refine wp_ifnullR dc_M_shown_11 ?_
    refine wp_iload_n dc_M_shown_14 rfl rfl ?_
    refine wi_if_ge dc_M_shown_15 rfl (fun hd => ?_) (fun hd => ?_)
    rotate_left
    · exact no _ (by omega)
    refine wp_aload_n dc_M_shown_22 rfl rfl (wp_iload_n dc_M_shown_23 rfl rfl ?_)
    refine wp_callV (As := [_]) dc_M_shown_24 lm_M_95 ls_K_shownAt (by decide) rfl rfl (hp_at _ k2.2.2.2.1.1) rfl rfl (Nat.le_of_ble_eq_true rfl) (Nat.le_refl _) (Nat.le_refl _) ?_
    refine c_K_shownAt hd hxr.2 k2 (ta_g ht.2.1 k1) k4 (fun hz => ?_) (fun hz v hv => ?_)
    · rw [hr0 (fun g => g.2.2 hz)] at hk
      refine wp_ireturn dc_M_shown_27 rfl rfl hk
    · rw [fs_un (hr1 ⟨ht, hd, hz⟩) hv] at hk
      refine wp_ireturn dc_M_shown_27 rfl rfl hk
  · have no : ∀ σ', fr_ ckW s σ' → ¬ (tr_ F n p ∧ 0 ≤ x ∧ ¬ mt_ F (px_ F n).2.2 (tab_ (px_ F n).2.1 (px_ F n).2.2 p) x = -1000) → wp_m l Y_R_shown none 0 0 12 [.ref 51, .int (iI p), .int (iI x), .retAddr 0, .retAddr 0, .retAddr 0, .retAddr 0, .retAddr 0] [] (hp_ σ') K := fun σ' f1 hn => by
      have hk := hK σ' (md_ck hs f1)
      rw [hr0 hn] at hk
      refine wi_sipush dc_R_shown_12 ?_
      refine wp_ireturn dc_R_shown_15 rfl rfl hk
    refine ct_of (L := [.ref 51, .int (iI p), .int (iI x), .retAddr 0, .retAddr 0, .retAddr 0, .retAddr 0, .retAddr 0]) (by decide +kernel) (Nat.le_of_ble_eq_true rfl) rfl ?_
    refine wp_iload_n dc_R_shown_0 rfl rfl ?_
    refine wi_if_lt dc_R_shown_1 rfl (fun hd => ?_) (fun hd => ?_)
    · exact no s fr_.rf (by omega)
    refine wp_aload_n dc_R_shown_4 rfl rfl (wp_iload_n dc_R_shown_5 rfl rfl ?_)
    refine wp_callV (As := [_]) dc_R_shown_6 lm_R_140 ls_R_isTrack (by decide) rfl rfl (hp_at _ sh_51) rfl rfl (Nat.le_of_ble_eq_true rfl) (Nat.le_refl _) (Nat.le_refl _) ?_
    refine c_R_isTrack hp (fo_ro hs.1) (fun ht σ' f1 hx hcn => ?_) (fun ht σ' f1 => ?_)
    rotate_left
    · refine wi_if_ne dc_R_shown_9 rfl (fun he => ?_) (fun he => ?_)
      · omega
      · exact no σ' f1 (fun g => ht g.1)
    have hk := hK σ' (md_ck hs f1)
    have mr := mt_rg hF (px_ F n).2.2 (tab_ (px_ F n).2.1 (px_ F n).2.2 p) (show 0 ≤ x by omega) hxr.2
    refine wi_if_ne dc_R_shown_9 rfl (fun he => ?_) (fun he => ?_)
    rotate_left
    · omega
    refine wp_aload_n dc_R_shown_16 rfl rfl (wp_iload_n dc_R_shown_17 rfl rfl (wp_iload_n dc_R_shown_18 rfl rfl ?_))
    refine wp_callV (As := [_, _]) dc_R_shown_19 lm_R_162 ls_R_mediaTime (by decide) rfl rfl (hp_at _ sh_51) rfl rfl (Nat.le_of_ble_eq_true rfl) (Nat.le_refl _) (Nat.le_refl _) ?_
    refine c_R_mediaTime (by omega) hxr.2 hx ?_
    refine wp_is3 dc_R_shown_22 (wp_iload_n dc_R_shown_23 rfl rfl (wi_sipush dc_R_shown_24 ?_))
    refine wi_ic_ne dc_R_shown_27 rfl (fun hz => ?_) (fun hz => ?_)
    · refine wi_iconst dc_R_shown_34 (wp_is4 dc_R_shown_35 (wi_iconst dc_R_shown_37 (wp_is5 dc_R_shown_38 ?_)))
      refine lp_R_sa mr hx (fun v hv => ?_) (SC_ F (px_ F n).2.2 (tab_ (px_ F n).2.1 (px_ F n).2.2 p)).toNat 0 _ _ rfl (by omega) (fun i i0 i1 => by omega)
      rw [← fs_un (hr1 ⟨ht, by omega, hz⟩) hv]
      exact hk
    · rw [hr0 (fun g => g.2.2 hz)] at hk
      refine wi_sipush dc_R_shown_30 ?_
      refine wp_ireturn dc_R_shown_33 rfl rfl hk
end SI
