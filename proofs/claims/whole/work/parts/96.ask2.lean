/-! samples, sample on both sides -/
theorem vt_0 {F : Int → Int} {N : Int} {T : px_T} {tc : Int} {tab : Int → Int → Int} (h : vt_ F N T tc tab 0) : AR_ F T tc tab ∧ AC_ F T tc tab ∧ AD_ F N T tc tab := by
  rcases h with h | h | h | h
  · omega
  · omega
  · omega
  · exact h.2
/-- every sample lies in a chunk -/
theorem in_ex {F : Int → Int} {T : px_T} {f : Int → Int} (hF : ∀ i, 0 ≤ F i ∧ F i < 256) (hcn : CN_ F T f) {k : Int} (k0 : 0 ≤ k) (k1 : k < SC_ F T f) : ∃ c, in_ F T f k c := by
  have hsp := hF (st_ T (pj_ f))
  have ecc : CC_ F T f = F (st_ T (pj_ f)) := rfl
  have h : ∀ m : Nat, (m : Int) ≤ CC_ F T f → k < sm_ (fun c => mn_ F (st_ T (f 2)) (c + 1)) m → ∃ c, in_ F T f k c := by
    intro m
    induction m with
    | zero => intro _ h; have : sm_ (fun c => mn_ F (st_ T (f 2)) (c + 1)) 0 = 0 := rfl; omega
    | succ m ih =>
      intro hm hk
      by_cases hl : k < sm_ (fun c => mn_ F (st_ T (f 2)) (c + 1)) m
      · exact ih (by omega) hl
      · have e : ks_ F T f ((m : Int) + 1) = sm_ (fun c => mn_ F (st_ T (f 2)) (c + 1)) m := by
          show sm_ _ ((m : Int) + 1 - 1).toNat = _
          rw [show ((m : Int) + 1 - 1).toNat = m by omega]
        have e2 : sm_ (fun c => mn_ F (st_ T (f 2)) (c + 1)) (m + 1) = sm_ (fun c => mn_ F (st_ T (f 2)) (c + 1)) m + mn_ F (st_ T (f 2)) ((m : Int) + 1) := rfl
        exact ⟨(m : Int) + 1, by omega, by omega, by omega, by omega⟩
  refine h (CC_ F T f).toNat (by omega) ?_
  rw [hcn.2.2.2.2.1]
  exact k1
/-- what sample answers -/
def sv_ (F : Int → Int) (T : px_T) (f : Int → Int) (k w v : Int) : Prop := (w = 0 → ∃ c, in_ F T f k c ∧ v = pk_ F T f c k) ∧ (w = 1 → v = sz_ F (st_ T (f 3)) k) ∧ (w = 2 → v = dt_ F (st_ T (f 0)) k.toNat) ∧ (w = 3 → v = dt_ F (st_ T (f 0)) k.toNat + sh_ F T f k) ∧ (w = 4 → sy_ F T f k v) ∧ (w = 5 → ∃ c, in_ F T f k c ∧ v = ds_ F T f c)
theorem sy_un {F : Int → Int} {T : px_T} {f : Int → Int} {k v v' : Int} (h : sy_ F T f k v) (h' : sy_ F T f k v') : v = v' := by
  rcases h with ⟨e, h⟩ | ⟨e, h⟩ <;> rcases h' with ⟨e', h'⟩ | ⟨e', h'⟩
  · omega
  · exact absurd h h'
  · exact absurd h' h
  · omega
theorem sv_un {F : Int → Int} {T : px_T} {f : Int → Int} (hF : ∀ i, 0 ≤ F i ∧ F i < 256) {k w v v' : Int} (w0 : 0 ≤ w) (w1 : w ≤ 5) (h : sv_ F T f k w v) (h' : sv_ F T f k w v') : v = v' := by
  obtain ⟨a0, a1, a2, a3, a4, a5⟩ := h
  obtain ⟨b0, b1, b2, b3, b4, b5⟩ := h'
  have hw : w = 0 ∨ w = 1 ∨ w = 2 ∨ w = 3 ∨ w = 4 ∨ w = 5 := by omega
  rcases hw with hw | hw | hw | hw | hw | hw
  · obtain ⟨c, q1, q2⟩ := a0 hw
    obtain ⟨c', q1', q2'⟩ := b0 hw
    rw [q2, q2', in_un hF q1 q1']
  · rw [a1 hw, b1 hw]
  · rw [a2 hw, b2 hw]
  · rw [a3 hw, b3 hw]
  · exact sy_un (a4 hw) (b4 hw)
  · obtain ⟨c, q1, q2⟩ := a5 hw
    obtain ⟨c', q1', q2'⟩ := b5 hw
    rw [q2, q2', in_un hF q1 q1']
theorem sv_ex {F : Int → Int} {T : px_T} {f : Int → Int} (hF : ∀ i, 0 ≤ F i ∧ F i < 256) (hcn : CN_ F T f) {k w : Int} (k0 : 0 ≤ k) (k1 : k < SC_ F T f) : ∃ v, sv_ F T f k w v := by
  obtain ⟨c, hc⟩ := in_ex hF hcn k0 k1
  by_cases h0 : w = 0
  · exact ⟨pk_ F T f c k, fun _ => ⟨c, hc, rfl⟩, fun h => by omega, fun h => by omega, fun h => by omega, fun h => by omega, fun h => by omega⟩
  by_cases h1 : w = 1
  · exact ⟨_, fun h => by omega, fun _ => rfl, fun h => by omega, fun h => by omega, fun h => by omega, fun h => by omega⟩
  by_cases h2 : w = 2
  · exact ⟨_, fun h => by omega, fun h => by omega, fun _ => rfl, fun h => by omega, fun h => by omega, fun h => by omega⟩
  by_cases h3 : w = 3
  · exact ⟨_, fun h => by omega, fun h => by omega, fun h => by omega, fun _ => rfl, fun h => by omega, fun h => by omega⟩
  by_cases h4 : w = 4
  · by_cases hs : f 6 = -1 ∨ ls_ F (st_ T (f 6)) k (F (st_ T (f 6)))
    · exact ⟨1, fun h => by omega, fun h => by omega, fun h => by omega, fun h => by omega, fun _ => Or.inl ⟨rfl, hs⟩, fun h => by omega⟩
    · exact ⟨0, fun h => by omega, fun h => by omega, fun h => by omega, fun h => by omega, fun _ => Or.inr ⟨rfl, hs⟩, fun h => by omega⟩
  · exact ⟨ds_ F T f c, fun h => by omega, fun h => by omega, fun h => by omega, fun h => by omega, fun h => by omega, fun _ => ⟨c, hc, rfl⟩⟩
section QB
variable {l : Launch} {σ : sg_} {K : Option Value → mx_H → Prop} {F : Int → Int} {n p q x : Int}
/-- p is a track of a file without a fault -/
def tr_ (F : Int → Int) (n p : Int) : Prop := cv_ F n = 0 ∧ 0 ≤ p ∧ p < tc_ (px_ F n).2.1 (px_ F n).2.2
theorem tr_2 (hF : ∀ i, 0 ≤ F i ∧ F i < 256) (h : KO_ (px_ F n).2.1 (px_ F n).2.2) (h2 : p < tc_ (px_ F n).2.1 (px_ F n).2.2) : p < 2 := by
  have := (ks_can h).2.1.1
  omega
theorem c_M_soundTrack (hp : rg p) (hF : ∀ i, 0 ≤ F i ∧ F i < 256) (hn : 0 ≤ n) (hc : ca_ σ F n) (h1 : tr_ F n p → K (some (.ref (ta_ p))) (hp_ σ)) (h0 : ¬ tr_ F n p → K (some .null) (hp_ σ)) : ct_m l Y_M_soundTrack 0 0 [.ref 0, .int (iI p)] (hp_ σ) K := by
  obtain ⟨c1, c2, c3⟩ := cv_rg hF hn
  have no : ¬ tr_ F n p → wp_m l Y_M_soundTrack none 0 0 19 [.ref 0, .int (iI p)] [] (hp_ σ) K := fun h => by
    refine wp_null dc_M_soundTrack_19 ?_
    refine wp_areturnN dc_M_soundTrack_20 rfl (Or.inl ⟨_, rfl⟩) (h0 h)
  refine ct_of (L := [.ref 0, .int (iI p)]) (by decide +kernel) (Nat.le_of_ble_eq_true rfl) rfl ?_
  refine wp_aload_n dc_M_soundTrack_0 rfl rfl (wi_getE 5 ((cv_ F n)) dc_M_soundTrack_1 lf_M_45 sh_0 rfl rfl (ca_5 hc) ?_)
  refine wi_if_ne dc_M_soundTrack_4 rfl (fun hd => ?_) (fun hd => ?_)
  · exact no (fun h => hd h.1)
  obtain ⟨z1, z2, z3, z4, z5⟩ := ca_z hc hd hF hn
  have htc := (ks_can z2).2.1.1
  refine wp_iload_n dc_M_soundTrack_7 rfl rfl ?_
  refine wi_if_lt dc_M_soundTrack_8 rfl (fun he => ?_) (fun he => ?_)
  · exact no (fun h => by have := h.2.1; omega)
  refine wp_iload_n dc_M_soundTrack_11 rfl rfl (wp_aload_n dc_M_soundTrack_12 rfl rfl (wi_getE 4 ((tc_ (px_ F n).2.1 (px_ F n).2.2)) dc_M_soundTrack_13 lf_M_41 sh_0 rfl rfl z3 ?_))
  refine wi_ic_lt dc_M_soundTrack_16 rfl (fun hf => ?_) (fun hf => no (fun h => hf h.2.2)) hp ⟨by omega, by omega⟩
  have hp2 : p < 2 := tr_2 hF z2 hf
  refine wp_aload_n dc_M_soundTrack_21 rfl rfl (wi_getR dc_M_soundTrack_22 lf_M_27 sh_0 rfl (wp_iload_n dc_M_soundTrack_25 rfl rfl (wi_aald dc_M_soundTrack_26 sh_12 rfl rfl (by omega) (by omega) (by decide) (ta_r (by omega) (by omega)) ?_)))
  refine wp_areturn dc_M_soundTrack_27 rfl (Or.inl ⟨_, rfl⟩) (h1 ⟨hd, by omega, hf⟩)
theorem tr_kk (hf : fo_ σ F n) (hc : ca_ σ F n) (h : tr_ F n p) : p < 2 ∧ kk_ σ F n (px_ F n).2.1 (px_ F n).2.2 (ta_ p) (b_ (px_ F n).2.1 (px_ F n).2.2 p) (tab_ (px_ F n).2.1 (px_ F n).2.2 p) ∧ CN_ F (px_ F n).2.2 (tab_ (px_ F n).2.1 (px_ F n).2.2 p) ∧ cx_ σ F (px_ F n).2.2 (tab_ (px_ F n).2.1 (px_ F n).2.2 p) (ta_ p) := by
  obtain ⟨z1, z2, z3, z4, z5⟩ := ca_z hc h.1 (fo_F hf) hf.1
  obtain ⟨a1, a2, a3⟩ := vt_0 z4
  have hp2 : p < 2 := tr_2 (fo_F hf) z2 h.2.2
  obtain ⟨y1, y2⟩ := z5 p h.2.1 h.2.2
  exact ⟨hp2, ⟨fo_lo hf, hc.1, px_tt (fo_F hf) hf.1, ta_k h.2.1 hp2, ks_of (ks_can z2) h.2.1 h.2.2, a1 p h.2.1 h.2.2, y1⟩, a2 p h.2.1 h.2.2, y2⟩
theorem c_R_isTrack (hp : rg p) (hro : ro_ σ F n) (h1 : tr_ F n p → ∀ σ', fr_ ckW σ σ' → rx_ σ' F n (px_ F n).2.1 (px_ F n).2.2 p (b_ (px_ F n).2.1 (px_ F n).2.2 p) (tab_ (px_ F n).2.1 (px_ F n).2.2 p) → CN_ F (px_ F n).2.2 (tab_ (px_ F n).2.1 (px_ F n).2.2 p) → K (some (.int (iI 1))) (hp_ σ')) (h0 : ¬ tr_ F n p → ∀ σ', fr_ ckW σ σ' → K (some (.int (iI 0))) (hp_ σ')) : ct_m l Y_R_isTrack 0 0 [.ref 51, .int (iI p)] (hp_ σ) K := by
  obtain ⟨c1, c2, c3⟩ := cv_rg hro.2.2.2.2 hro.1
  refine ct_of (L := [.ref 51, .int (iI p), .retAddr 0]) (by decide +kernel) (Nat.le_of_ble_eq_true rfl) rfl ?_
  refine wp_aload_n dc_R_isTrack_0 rfl rfl ?_
  refine wp_callV (As := []) dc_R_isTrack_1 lm_R_137 ls_R_check (by decide) rfl rfl (hp_at _ sh_51) rfl rfl (Nat.le_of_ble_eq_true rfl) (Nat.le_refl _) (Nat.le_refl _) ?_
  refine c_R_check hro (fun σ' f1 hr hz => ?_)
  have no : ¬ tr_ F n p → wp_m l Y_R_isTrack none 0 0 25 [.ref 51, .int (iI p), .int (iI (cv_ F n))] [] (hp_ σ') K := fun h => by
    refine wi_iconst dc_R_isTrack_25 ?_
    refine wp_ireturn dc_R_isTrack_26 rfl rfl (h0 h σ' f1)
  refine wp_is2 dc_R_isTrack_4 (wp_iload_n dc_R_isTrack_5 rfl rfl ?_)
  refine wi_if_ne dc_R_isTrack_6 rfl (fun hd => ?_) (fun hd => ?_)
  · exact no (fun h => hd h.1)
  obtain ⟨z1, z2, z3, z4, z5⟩ := hz hd
  have htc := (ks_can z2).2.1.1
  refine wp_iload_n dc_R_isTrack_9 rfl rfl ?_
  refine wi_if_lt dc_R_isTrack_10 rfl (fun he => ?_) (fun he => ?_)
  · exact no (fun h => by have := h.2.1; omega)
  refine wp_iload_n dc_R_isTrack_13 rfl rfl (wp_aload_n dc_R_isTrack_14 rfl rfl (wi_getE 12 ((tc_ (px_ F n).2.1 (px_ F n).2.2)) dc_R_isTrack_15 lf_R_83 sh_51 rfl rfl z4.2.2.1 ?_))
  refine wi_ic_ge dc_R_isTrack_18 rfl (fun hf => no (fun h => by have := h.2.2; omega)) (fun hf => ?_) hp ⟨by omega, by omega⟩
  refine wi_iconst dc_R_isTrack_21 (wp_goto dc_R_isTrack_22 rfl ?_)
  obtain ⟨a1, a2, a3⟩ := vt_0 z3
  have hro' : ro_ σ' F n := hro.fr f1 (by unfold ckW rdW kwW; omega) (fun j => by unfold ckW rdW kwW; omega)
  refine wp_ireturn dc_R_isTrack_26 rfl rfl (h1 ⟨hd, by omega, by omega⟩ σ' f1 (rs_rx hro' (px_tt hro.2.2.2.2 hro.1) (ks_can z2) z4 (by omega) (by omega) (a1 p (by omega) (by omega))) (a2 p (by omega) (by omega)))
theorem op_samples (h : Inv_ σ) (x0 : Int32) : op_ok l Inv_ Y_M_samples Y_R_samples [.int x0] σ := by
  obtain ⟨F, n, hf, h46, hs⟩ := id h
  obtain ⟨p, hp, rfl⟩ := iI_of x0
  have hF := fo_F hf
  classical
  refine ⟨iI (if tr_ F n p then SC_ F (px_ F n).2.2 (tab_ (px_ F n).2.1 (px_ F n).2.2 p) else -1000), fun s => md_ s F n, fun K hK => ?_, fun s hs K hK => ?_⟩
  · refine ct_of (L := [.ref 0, .int (iI p), .retAddr 0]) (by decide +kernel) (Nat.le_of_ble_eq_true rfl) rfl ?_
    refine wp_aload_n dc_M_samples_0 rfl rfl ?_
    refine wp_callV (As := []) dc_M_samples_1 lm_M_75 ls_M_look (by decide) rfl rfl (hp_at _ sh_0) rfl rfl (Nat.le_of_ble_eq_true rfl) (Nat.le_refl _) (Nat.le_refl _) ?_
    refine c_M_look (fo_lo hf) hs (fun σ' f1 h6 hc => ?_)
    have hm := md_lk hf h46 f1 h6 hc
    have hk := hK σ' hm
    refine wp_aload_n dc_M_samples_4 rfl rfl (wp_iload_n dc_M_samples_5 rfl rfl ?_)
    refine wp_callV (As := [_]) dc_M_samples_6 lm_M_87 ls_M_soundTrack (by decide) rfl rfl (hp_at _ sh_0) rfl rfl (Nat.le_of_ble_eq_true rfl) (Nat.le_refl _) (Nat.le_refl _) ?_
    refine c_M_soundTrack hp hF hf.1 hc (fun ht => ?_) (fun ht => ?_)
    · rw [if_pos ht] at hk
      obtain ⟨k1, k2, k3, k4⟩ := tr_kk hm.1 hc ht
      have hKo := k2.2.2.2.1.1
      refine wp_as2 dc_M_samples_9 (wp_aload_n dc_M_samples_10 rfl rfl ?_)
      refine wp_ifnonnullR dc_M_samples_11 rfl ?_
      refine wp_aload_n dc_M_samples_20 rfl rfl ?_
      refine wp_callV (As := []) dc_M_samples_21 lm_M_91 ls_K_sampleCount (by decide) rfl rfl (hp_at _ hKo) rfl rfl (Nat.le_of_ble_eq_true rfl) (Nat.le_refl _) (Nat.le_refl _) ?_
      refine ct_of (L := [.ref (ta_ p)]) (by decide +kernel) (Nat.le_of_ble_eq_true rfl) rfl ?_
      refine wp_aload_n dc_K_sampleCount_0 rfl rfl (wi_getE 9 ((SC_ F (px_ F n).2.2 (tab_ (px_ F n).2.1 (px_ F n).2.2 p))) dc_K_sampleCount_1 lf_K_51 hKo rfl rfl k4.1 ?_)
      refine wp_ireturn dc_K_sampleCount_4 rfl rfl ?_
      refine wp_ireturn dc_M_samples_24 rfl rfl hk
    · rw [if_neg ht] at hk
      refine wp_an2 dc_M_samples_9 (wp_aload_nN dc_M_samples_10 rfl rfl ?_)
      refine wp_ifnonnullN dc_M_samples_11 ?_
      refine wi_sipush dc_M_samples_14 (wp_goto dc_M_samples_17 rfl ?_)
      refine wp_ireturn dc_M_samples_24 rfl rfl hk
  · refine ct_of (L := [.ref 51, .int (iI p)]) (by decide +kernel) (Nat.le_of_ble_eq_true rfl) rfl ?_
    refine wp_aload_n dc_R_samples_0 rfl rfl (wp_iload_n dc_R_samples_1 rfl rfl ?_)
    refine wp_callV (As := [_]) dc_R_samples_2 lm_R_140 ls_R_isTrack (by decide) rfl rfl (hp_at _ sh_51) rfl rfl (Nat.le_of_ble_eq_true rfl) (Nat.le_refl _) (Nat.le_refl _) ?_
    refine c_R_isTrack hp (fo_ro hs.1) (fun ht σ' f1 hx _ => ?_) (fun ht σ' f1 => ?_)
    · have hk := hK σ' (md_ck hs f1)
      rw [if_pos ht] at hk
      refine wi_if_eq dc_R_samples_5 rfl (fun hd => ?_) (fun hd => ?_)
      · omega
      refine wp_aload_n dc_R_samples_8 rfl rfl (wp_iload_n dc_R_samples_9 rfl rfl ?_)
      refine wp_callV (As := [_]) dc_R_samples_10 lm_R_110 ls_R_sampleCount (by decide) rfl rfl (hp_at _ sh_51) rfl rfl (Nat.le_of_ble_eq_true rfl) (Nat.le_refl _) (Nat.le_refl _) ?_
      refine c_R_sampleCount hx ?_
      refine wp_goto dc_R_samples_13 rfl ?_
      refine wp_ireturn dc_R_samples_19 rfl rfl hk
    · have hk := hK σ' (md_ck hs f1)
      rw [if_neg ht] at hk
      refine wi_if_eq dc_R_samples_5 rfl (fun hd => ?_) (fun hd => ?_)
      rotate_left
      · omega
      refine wi_sipush dc_R_samples_16 ?_
      refine wp_ireturn dc_R_samples_19 rfl rfl hk
theorem c_K_of {a : Nat} {k w v : Int} {T : px_T} {f : Int → Int} (hKo : SH[a]? = some (.inr (5, [.ref 3, .ref (a + 1), .ref (a + 2), .ref (a + 3), .ref (a + 4), .ref (a + 5), .ref (a + 6), .ref (a + 7), .ref (a + 8), .int 0]))) (hg : kgo_ a) (hk : rg k) (w0 : 0 ≤ w) (w1 : w ≤ 5) (hF : ∀ i, 0 ≤ F i ∧ F i < 256) (hc : cx_ σ F T f a) (h0 : ¬ (0 ≤ k ∧ k < SC_ F T f) → K (some (.int (iI (-1000)))) (hp_ σ)) (h1 : 0 ≤ k → k < SC_ F T f → ∀ v, sv_ F T f k w v → K (some (.int (iI v))) (hp_ σ)) : ct_m l Y_K_of 0 0 [.ref a, .int (iI k), .int (iI w)] (hp_ σ) K := by
  obtain ⟨hG, g0, g1, g2, g3, g4, g5, g6⟩ := hg
  obtain ⟨c1, -, c3, c4, c5⟩ := hc
  have hs3 := hF (st_ T (f 3) + 1)
  have esc : SC_ F T f = F (st_ T (f 3) + 1) := rfl
  have no : ¬ (0 ≤ k ∧ k < SC_ F T f) → wp_m l Y_K_of none 0 0 22 [.ref a, .int (iI k), .int (iI w)] [] (hp_ σ) K := fun h => by
    refine wi_sipush dc_K_of_22 ?_
    refine wp_ireturn dc_K_of_25 rfl rfl (h0 h)
  refine ct_of (L := [.ref a, .int (iI k), .int (iI w)]) (by decide +kernel) (Nat.le_of_ble_eq_true rfl) rfl ?_
  refine wp_iload_n dc_K_of_0 rfl rfl ?_
  refine wi_if_lt dc_K_of_1 rfl (fun hd => ?_) (fun hd => ?_)
  · exact no (by omega)
  refine wp_iload_n dc_K_of_4 rfl rfl (wp_aload_n dc_K_of_5 rfl rfl (wi_getE 9 ((SC_ F T f)) dc_K_of_6 lf_K_51 hKo rfl rfl c1 ?_))
  refine wi_ic_ge dc_K_of_9 rfl (fun he => ?_) (fun he => ?_)
  · exact no (by omega)
  refine wp_iload_n dc_K_of_12 rfl rfl ?_
  refine wi_if_lt dc_K_of_13 rfl (fun hf => ?_) (fun hf => ?_)
  · omega
  refine wp_iload_n dc_K_of_16 rfl rfl (wi_bipush dc_K_of_17 ?_)
  refine wi_ic_lt dc_K_of_19 rfl (fun hg => ?_) (fun hg => ?_)
  rotate_left
  · omega
  have h1 := h1 (by omega) (by omega)
  have ek : ((k.toNat : Nat) : Int) = k := by omega
  obtain ⟨q15, q11, q12⟩ := c3 k.toNat (by omega)
  have q13 := c4 k (by omega) (by omega)
  obtain ⟨c, i1, i2, i3, i4⟩ := c5 k (by omega) (by omega)
  rw [ek] at q11 q12
  have hw : w = 0 ∨ w = 1 ∨ w = 2 ∨ w = 3 ∨ w = 4 ∨ w = 5 := by omega
  rcases hw with rfl | rfl | rfl | rfl | rfl | rfl
  · refine wp_aload_n dc_K_of_26 rfl rfl (wi_getR dc_K_of_27 lf_K_48 hKo rfl (wp_iload_n dc_K_of_30 rfl rfl (wi_aald dc_K_of_31 hG rfl rfl (by decide) (by decide) (by decide) (show _ = some (a + 9) from rfl) (wp_iload_n dc_K_of_32 rfl rfl (wi_ald dc_K_of_33 g0 (by omega) (by omega) (by decide) ?_)))))
    refine wp_ireturn dc_K_of_34 rfl rfl (h1 _ ⟨fun _ => ⟨c, i1, i2⟩, fun h => by omega, fun h => by omega, fun h => by omega, fun h => by omega, fun h => by omega⟩)
  · refine wp_aload_n dc_K_of_26 rfl rfl (wi_getR dc_K_of_27 lf_K_48 hKo rfl (wp_iload_n dc_K_of_30 rfl rfl (wi_aald dc_K_of_31 hG rfl rfl (by decide) (by decide) (by decide) (show _ = some (a + 10) from rfl) (wp_iload_n dc_K_of_32 rfl rfl (wi_ald dc_K_of_33 g1 (by omega) (by omega) (by decide) ?_)))))
    refine wp_ireturn dc_K_of_34 rfl rfl (h1 _ ⟨fun h => by omega, fun _ => i4, fun h => by omega, fun h => by omega, fun h => by omega, fun h => by omega⟩)
  · refine wp_aload_n dc_K_of_26 rfl rfl (wi_getR dc_K_of_27 lf_K_48 hKo rfl (wp_iload_n dc_K_of_30 rfl rfl (wi_aald dc_K_of_31 hG rfl rfl (by decide) (by decide) (by decide) (show _ = some (a + 11) from rfl) (wp_iload_n dc_K_of_32 rfl rfl (wi_ald dc_K_of_33 g2 (by omega) (by omega) (by decide) ?_)))))
    refine wp_ireturn dc_K_of_34 rfl rfl (h1 _ ⟨fun h => by omega, fun h => by omega, fun _ => q11, fun h => by omega, fun h => by omega, fun h => by omega⟩)
  · refine wp_aload_n dc_K_of_26 rfl rfl (wi_getR dc_K_of_27 lf_K_48 hKo rfl (wp_iload_n dc_K_of_30 rfl rfl (wi_aald dc_K_of_31 hG rfl rfl (by decide) (by decide) (by decide) (show _ = some (a + 12) from rfl) (wp_iload_n dc_K_of_32 rfl rfl (wi_ald dc_K_of_33 g3 (by omega) (by omega) (by decide) ?_)))))
    refine wp_ireturn dc_K_of_34 rfl rfl (h1 _ ⟨fun h => by omega, fun h => by omega, fun h => by omega, fun _ => q12, fun h => by omega, fun h => by omega⟩)
  · refine wp_aload_n dc_K_of_26 rfl rfl (wi_getR dc_K_of_27 lf_K_48 hKo rfl (wp_iload_n dc_K_of_30 rfl rfl (wi_aald dc_K_of_31 hG rfl rfl (by decide) (by decide) (by decide) (show _ = some (a + 13) from rfl) (wp_iload_n dc_K_of_32 rfl rfl (wi_ald dc_K_of_33 g4 (by omega) (by omega) (by decide) ?_)))))
    refine wp_ireturn dc_K_of_34 rfl rfl (h1 _ ⟨fun h => by omega, fun h => by omega, fun h => by omega, fun h => by omega, fun _ => q13, fun h => by omega⟩)
  · refine wp_aload_n dc_K_of_26 rfl rfl (wi_getR dc_K_of_27 lf_K_48 hKo rfl (wp_iload_n dc_K_of_30 rfl rfl (wi_aald dc_K_of_31 hG rfl rfl (by decide) (by decide) (by decide) (show _ = some (a + 14) from rfl) (wp_iload_n dc_K_of_32 rfl rfl (wi_ald dc_K_of_33 g5 (by omega) (by omega) (by decide) ?_)))))
    refine wp_ireturn dc_K_of_34 rfl rfl (h1 _ ⟨fun h => by omega, fun h => by omega, fun h => by omega, fun h => by omega, fun h => by omega, fun _ => ⟨c, i1, i3⟩⟩)
theorem op_sample (h : Inv_ σ) (x0 x1 x2 : Int32) : op_ok l Inv_ Y_M_sample Y_R_sample [.int x0, .int x1, .int x2] σ := by
  obtain ⟨F, n, hf, h46, hs⟩ := id h
  obtain ⟨p, hp, rfl⟩ := iI_of x0
  obtain ⟨k, hkr, rfl⟩ := iI_of x1
  obtain ⟨w, hwr, rfl⟩ := iI_of x2
  have hF := fo_F hf
  have hs3 := hF (st_ (px_ F n).2.2 (tab_ (px_ F n).2.1 (px_ F n).2.2 p 3) + 1)
  have esc : SC_ F (px_ F n).2.2 (tab_ (px_ F n).2.1 (px_ F n).2.2 p) = F (st_ (px_ F n).2.2 (tab_ (px_ F n).2.1 (px_ F n).2.2 p 3) + 1) := rfl
  -- the answer
  obtain ⟨r, hr1, hr0⟩ : ∃ r : Int, ((tr_ F n p ∧ CN_ F (px_ F n).2.2 (tab_ (px_ F n).2.1 (px_ F n).2.2 p) ∧ 0 ≤ k ∧ k < SC_ F (px_ F n).2.2 (tab_ (px_ F n).2.1 (px_ F n).2.2 p) ∧ 0 ≤ w ∧ w ≤ 5) → sv_ F (px_ F n).2.2 (tab_ (px_ F n).2.1 (px_ F n).2.2 p) k w r) ∧ (¬ (tr_ F n p ∧ CN_ F (px_ F n).2.2 (tab_ (px_ F n).2.1 (px_ F n).2.2 p) ∧ 0 ≤ k ∧ k < SC_ F (px_ F n).2.2 (tab_ (px_ F n).2.1 (px_ F n).2.2 p) ∧ 0 ≤ w ∧ w ≤ 5) → r = -1000) := by
    by_cases hall : tr_ F n p ∧ CN_ F (px_ F n).2.2 (tab_ (px_ F n).2.1 (px_ F n).2.2 p) ∧ 0 ≤ k ∧ k < SC_ F (px_ F n).2.2 (tab_ (px_ F n).2.1 (px_ F n).2.2 p) ∧ 0 ≤ w ∧ w ≤ 5
    · obtain ⟨v, hv⟩ := sv_ex (w := w) hF hall.2.1 hall.2.2.1 hall.2.2.2.1
      exact ⟨v, fun _ => hv, fun h => absurd hall h⟩
    · exact ⟨-1000, fun h => absurd h hall, fun _ => rfl⟩
  refine ⟨iI r, fun s => md_ s F n, fun K hK => ?_, fun s hs K hK => ?_⟩
  · refine ct_of (L := [.ref 0, .int (iI p), .int (iI k), .int (iI w), .retAddr 0]) (by decide +kernel) (Nat.le_of_ble_eq_true rfl) rfl ?_
    refine wp_aload_n dc_M_sample_0 rfl rfl ?_
    refine wp_callV (As := []) dc_M_sample_1 lm_M_75 ls_M_look (by decide) rfl rfl (hp_at _ sh_0) rfl rfl (Nat.le_of_ble_eq_true rfl) (Nat.le_refl _) (Nat.le_refl _) ?_
    refine c_M_look (fo_lo hf) hs (fun σ' f1 h6 hc => ?_)
    have hm := md_lk hf h46 f1 h6 hc
    have hk := hK σ' hm
    have no : ∀ u : Value, ¬ (tr_ F n p ∧ CN_ F (px_ F n).2.2 (tab_ (px_ F n).2.1 (px_ F n).2.2 p) ∧ 0 ≤ k ∧ k < SC_ F (px_ F n).2.2 (tab_ (px_ F n).2.1 (px_ F n).2.2 p) ∧ 0 ≤ w ∧ w ≤ 5) → wp_m l Y_M_sample none 0 0 25 [.ref 0, .int (iI p), .int (iI k), .int (iI w), u] [] (hp_ σ') K := fun u hn => by
      rw [hr0 hn] at hk
      refine wi_sipush dc_M_sample_25 ?_
      refine wp_ireturn dc_M_sample_28 rfl rfl hk
    refine wp_aload_n dc_M_sample_4 rfl rfl (wp_iload_n dc_M_sample_5 rfl rfl ?_)
    refine wp_callV (As := [_]) dc_M_sample_6 lm_M_87 ls_M_soundTrack (by decide) rfl rfl (hp_at _ sh_0) rfl rfl (Nat.le_of_ble_eq_true rfl) (Nat.le_refl _) (Nat.le_refl _) ?_
    refine c_M_soundTrack hp hF hf.1 hc (fun ht => ?_) (fun ht => ?_)
    rotate_left
    · refine wp_an4 dc_M_sample_9 (wp_aloadN dc_M_sample_11 rfl ?_)
      refine wp_ifnullN dc_M_sample_13 rfl ?_
      exact no _ (fun g => ht g.1)
    obtain ⟨k1, k2, k3, k4⟩ := tr_kk hm.1 hc ht
    refine wp_as4 dc_M_sample_9 (wp_aload dc_M_sample_11 rfl ?_)
    refine wp_ifnullR dc_M_sample_13 ?_
    refine wp_iload_n dc_M_sample_16 rfl rfl ?_
    refine wi_if_lt dc_M_sample_17 rfl (fun hd => ?_) (fun hd => ?_)
    · exact no _ (by omega)
    refine wp_iload_n dc_M_sample_20 rfl rfl (wi_iconst dc_M_sample_21 ?_)
    refine wi_ic_le dc_M_sample_22 rfl (fun he => ?_) (fun he => ?_)
    rotate_left
    · exact no _ (by omega)
    refine wp_aload dc_M_sample_29 rfl (wp_iload_n dc_M_sample_31 rfl rfl (wp_iload_n dc_M_sample_32 rfl rfl ?_))
    refine wp_callV (As := [_, _]) dc_M_sample_33 lm_M_94 ls_K_of (by decide) rfl rfl (hp_at _ k2.2.2.2.1.1) rfl rfl (Nat.le_of_ble_eq_true rfl) (Nat.le_refl _) (Nat.le_refl _) ?_
    refine c_K_of (v := 0) k2.2.2.2.1.1 (ta_g ht.2.1 k1) hkr (by omega) he hF k4 (fun hn => ?_) (fun a1 a2 v hv => ?_)
    · rw [hr0 (fun g => hn ⟨g.2.2.1, g.2.2.2.1⟩)] at hk
      refine wp_ireturn dc_M_sample_36 rfl rfl hk
    · rw [sv_un hF (by omega) he (hr1 ⟨ht, k3, a1, a2, by omega, he⟩) hv] at hk
      refine wp_ireturn dc_M_sample_36 rfl rfl hk
  · refine ct_of (L := [.ref 51, .int (iI p), .int (iI k), .int (iI w)]) (by decide +kernel) (Nat.le_of_ble_eq_true rfl) rfl ?_
    refine wp_aload_n dc_R_sample_0 rfl rfl (wp_iload_n dc_R_sample_1 rfl rfl ?_)
    refine wp_callV (As := [_]) dc_R_sample_2 lm_R_140 ls_R_isTrack (by decide) rfl rfl (hp_at _ sh_51) rfl rfl (Nat.le_of_ble_eq_true rfl) (Nat.le_refl _) (Nat.le_refl _) ?_
    refine c_R_isTrack hp (fo_ro hs.1) (fun ht σ' f1 hx hcn => ?_) (fun ht σ' f1 => ?_)
    rotate_left
    · have hk := hK σ' (md_ck hs f1)
      rw [hr0 (fun g => ht g.1)] at hk
      refine wi_if_eq dc_R_sample_5 rfl (fun hd => ?_) (fun hd => ?_)
      rotate_left
      · omega
      refine wi_sipush dc_R_sample_21 ?_
      refine wp_ireturn dc_R_sample_24 rfl rfl hk
    have hk := hK σ' (md_ck hs f1)
    have no : ¬ (0 ≤ k ∧ k < SC_ F (px_ F n).2.2 (tab_ (px_ F n).2.1 (px_ F n).2.2 p)) → wp_m l Y_R_sample none 0 0 21 [.ref 51, .int (iI p), .int (iI k), .int (iI w)] [] (hp_ σ') K := fun hn => by
      rw [hr0 (fun g => hn ⟨g.2.2.1, g.2.2.2.1⟩)] at hk
      refine wi_sipush dc_R_sample_21 ?_
      refine wp_ireturn dc_R_sample_24 rfl rfl hk
    refine wi_if_eq dc_R_sample_5 rfl (fun hd => ?_) (fun hd => ?_)
    · omega
    refine wp_iload_n dc_R_sample_8 rfl rfl ?_
    refine wi_if_lt dc_R_sample_9 rfl (fun he => ?_) (fun he => ?_)
    · exact no (by omega)
    refine wp_iload_n dc_R_sample_12 rfl rfl (wp_aload_n dc_R_sample_13 rfl rfl (wp_iload_n dc_R_sample_14 rfl rfl ?_))
    refine wp_callV (As := [_]) dc_R_sample_15 lm_R_110 ls_R_sampleCount (by decide) rfl rfl (hp_at _ sh_51) rfl rfl (Nat.le_of_ble_eq_true rfl) (Nat.le_refl _) (Nat.le_refl _) ?_
    refine c_R_sampleCount hx ?_
    refine wi_ic_lt dc_R_sample_18 rfl (fun hg => ?_) (fun hg => no (by omega)) hkr ⟨by omega, by omega⟩
    refine wp_iload_n dc_R_sample_25 rfl rfl ?_
    have eqt : (iI w).toInt = w := iI_t hwr
    by_cases hw5 : 0 ≤ w ∧ w ≤ 5
    rotate_left
    · rw [hr0 (fun g => hw5 ⟨g.2.2.2.2.1, g.2.2.2.2.2⟩)] at hk
      refine wp_tabOut dc_R_sample_26 (by omega) rfl ?_
      refine wi_sipush dc_R_sample_107 ?_
      refine wp_ireturn dc_R_sample_110 rfl rfl hk
    have hk2 : ∀ v, sv_ F (px_ F n).2.2 (tab_ (px_ F n).2.1 (px_ F n).2.2 p) k w v → K (some (.int (iI v))) (hp_ σ') := fun v hv => by
      rw [← sv_un hF hw5.1 hw5.2 (hr1 ⟨ht, hcn, by omega, hg, hw5.1, hw5.2⟩) hv]
      exact hk
    have ek : ((k.toNat : Nat) : Int) = k := by omega
    have hw : w = 0 ∨ w = 1 ∨ w = 2 ∨ w = 3 ∨ w = 4 ∨ w = 5 := by omega
    rcases hw with rfl | rfl | rfl | rfl | rfl | rfl
    · refine wp_tabIn dc_R_sample_26 (by decide) (by decide) rfl rfl ?_
      refine wp_aload_n dc_R_sample_64 rfl rfl (wp_iload_n dc_R_sample_65 rfl rfl (wp_iload_n dc_R_sample_66 rfl rfl (wp_iload_n dc_R_sample_67 rfl rfl ?_)))
      refine wp_callV (As := [_, _, _]) dc_R_sample_68 lm_R_149 ls_R_inChunk (by decide) rfl rfl (hp_at _ sh_51) rfl rfl (Nat.le_of_ble_eq_true rfl) (Nat.le_refl _) (Nat.le_refl _) ?_
      refine c_R_inChunk hcn hx (by omega) hg (by omega) (fun c hc => ?_)
      rw [if_pos rfl]
      refine wp_ireturn dc_R_sample_71 rfl rfl (hk2 _ ⟨fun _ => ⟨c, hc, rfl⟩, fun h => by omega, fun h => by omega, fun h => by omega, fun h => by omega, fun h => by omega⟩)
    · refine wp_tabIn dc_R_sample_26 (by decide) (by decide) rfl rfl ?_
      refine wp_aload_n dc_R_sample_72 rfl rfl (wp_iload_n dc_R_sample_73 rfl rfl (wp_iload_n dc_R_sample_74 rfl rfl ?_))
      refine wp_callV (As := [_, _]) dc_R_sample_75 lm_R_128 ls_R_sizeOf (by decide) rfl rfl (hp_at _ sh_51) rfl rfl (Nat.le_of_ble_eq_true rfl) (Nat.le_refl _) (Nat.le_refl _) ?_
      refine c_R_sizeOf hx (by omega) hg ?_
      refine wp_ireturn dc_R_sample_78 rfl rfl (hk2 _ ⟨fun h => by omega, fun _ => rfl, fun h => by omega, fun h => by omega, fun h => by omega, fun h => by omega⟩)
    · refine wp_tabIn dc_R_sample_26 (by decide) (by decide) rfl rfl ?_
      refine wp_aload_n dc_R_sample_79 rfl rfl (wp_iload_n dc_R_sample_80 rfl rfl (wp_iload_n dc_R_sample_81 rfl rfl ?_))
      refine wp_callV (As := [_, _]) dc_R_sample_82 lm_R_153 ls_R_decodeTime (by decide) rfl rfl (hp_at _ sh_51) rfl rfl (Nat.le_of_ble_eq_true rfl) (Nat.le_refl _) (Nat.le_refl _) ?_
      rw [← ek]
      refine c_R_decodeTime hx (by omega) ?_
      refine wp_ireturn dc_R_sample_85 rfl rfl (hk2 _ ⟨fun h => by omega, fun h => by omega, fun _ => rfl, fun h => by omega, fun h => by omega, fun h => by omega⟩)
    · refine wp_tabIn dc_R_sample_26 (by decide) (by decide) rfl rfl ?_
      refine wp_aload_n dc_R_sample_86 rfl rfl (wp_iload_n dc_R_sample_87 rfl rfl (wp_iload_n dc_R_sample_88 rfl rfl ?_))
      refine wp_callV (As := [_, _]) dc_R_sample_89 lm_R_153 ls_R_decodeTime (by decide) rfl rfl (hp_at _ sh_51) rfl rfl (Nat.le_of_ble_eq_true rfl) (Nat.le_refl _) (Nat.le_refl _) ?_
      have ek2 : iI k = iI ((k.toNat : Nat) : Int) := by rw [ek]
      rw [ek2]
      refine c_R_decodeTime hx (by omega) ?_
      rw [ek]
      refine wp_aload_n dc_R_sample_92 rfl rfl (wp_iload_n dc_R_sample_93 rfl rfl (wp_iload_n dc_R_sample_94 rfl rfl ?_))
      refine wp_callV (As := [_, _]) dc_R_sample_95 lm_R_156 ls_R_shiftOf (by decide) rfl rfl (hp_at _ sh_51) rfl rfl (Nat.le_of_ble_eq_true rfl) (Nat.le_refl _) (Nat.le_refl _) ?_
      refine c_R_shiftOf hx ⟨by omega, by omega⟩ ?_
      refine wi_iadd dc_R_sample_98 ?_
      refine wp_ireturn dc_R_sample_99 rfl rfl (hk2 _ ⟨fun h => by omega, fun h => by omega, fun h => by omega, fun _ => rfl, fun h => by omega, fun h => by omega⟩)
    · refine wp_tabIn dc_R_sample_26 (by decide) (by decide) rfl rfl ?_
      refine wp_aload_n dc_R_sample_100 rfl rfl (wp_iload_n dc_R_sample_101 rfl rfl (wp_iload_n dc_R_sample_102 rfl rfl ?_))
      refine wp_callV (As := [_, _]) dc_R_sample_103 lm_R_159 ls_R_isSync (by decide) rfl rfl (hp_at _ sh_51) rfl rfl (Nat.le_of_ble_eq_true rfl) (Nat.le_refl _) (Nat.le_refl _) ?_
      refine c_R_isSync hx ⟨by omega, by omega⟩ (fun v hv => ?_)
      refine wp_ireturn dc_R_sample_106 rfl rfl (hk2 _ ⟨fun h => by omega, fun h => by omega, fun h => by omega, fun h => by omega, fun _ => hv, fun h => by omega⟩)
    · refine wp_tabIn dc_R_sample_26 (by decide) (by decide) rfl rfl ?_
      refine wp_aload_n dc_R_sample_64 rfl rfl (wp_iload_n dc_R_sample_65 rfl rfl (wp_iload_n dc_R_sample_66 rfl rfl (wp_iload_n dc_R_sample_67 rfl rfl ?_)))
      refine wp_callV (As := [_, _, _]) dc_R_sample_68 lm_R_149 ls_R_inChunk (by decide) rfl rfl (hp_at _ sh_51) rfl rfl (Nat.le_of_ble_eq_true rfl) (Nat.le_refl _) (Nat.le_refl _) ?_
      refine c_R_inChunk hcn hx (by omega) hg (by omega) (fun c hc => ?_)
      rw [if_neg (by omega)]
      refine wp_ireturn dc_R_sample_71 rfl rfl (hk2 _ ⟨fun h => by omega, fun h => by omega, fun h => by omega, fun h => by omega, fun h => by omega, fun _ => ⟨c, hc, rfl⟩⟩)
end QB
