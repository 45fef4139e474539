/-! the class's spread: chunks; spread -/
/-- sample k lies in chunk c -/
def in_ (F : Int → Int) (T : px_T) (f : Int → Int) (k c : Int) : Prop := 1 ≤ c ∧ c ≤ CC_ F T f ∧ ks_ F T f c ≤ k ∧ k < ks_ F T f c + mn_ F (st_ T (f 2)) c
abbrev ro2_ (F : Int → Int) (T : px_T) (f : Int → Int) (c : Int) : Int := rwo_ (fi_ F (st_ T (f 2))) c (F (st_ T (f 2))).toNat
abbrev ds_ (F : Int → Int) (T : px_T) (f : Int → Int) (c : Int) : Int := F (st_ T (f 2) + (3 + 3 * ro2_ F T f c))
abbrev pk_ (F : Int → Int) (T : px_T) (f : Int → Int) (c k : Int) : Int := pc_ F T f c + bt_ F (st_ T (f 3)) (ks_ F T f c) (k - ks_ F T f c).toNat
def g1_ (σ : sg_) (F : Int → Int) (T : px_T) (f : Int → Int) (a : Nat) (k : Int) : Prop := ∀ i, 0 ≤ i → i < k → ∃ c, in_ F T f i c ∧ σ (a + 9) i = pk_ F T f c i ∧ σ (a + 14) i = ds_ F T f c ∧ σ (a + 10) i = sz_ F (st_ T (f 3)) i
def wch (a : Nat) (b : Nat) (_ : Int) : Prop := b = a + 9 ∨ b = a + 10 ∨ b = a + 14
theorem in_un {F : Int → Int} {T : px_T} {f : Int → Int} (hF : ∀ i, 0 ≤ F i ∧ F i < 256) {k c c' : Int} (h : in_ F T f k c) (h' : in_ F T f k c') : c = c' := by
  have aux : ∀ c c' : Int, 1 ≤ c → c < c' → ks_ F T f c + mn_ F (st_ T (f 2)) c ≤ ks_ F T f c' := fun c c' h1 h2 => by
    rw [← ks_S h1]
    have := sm_mono (g := fun c => mn_ F (st_ T (f 2)) (c + 1)) (fun i => (mn_rg hF _ _).1) (c + 1 - 1).toNat (c' - 1 - c).toNat
    rwa [show (c + 1 - 1).toNat + (c' - 1 - c).toNat = (c' - 1).toNat by omega] at this
  obtain ⟨h1, h2, h3, h4⟩ := h
  obtain ⟨k1, k2, k3, k4⟩ := h'
  by_cases e : c < c'
  · have := aux c c' h1 e; omega
  by_cases e' : c' < c
  · have := aux c' c k1 e'; omega
  omega
/-- as ct_of, where the class is not plainly named and there is no native row -/
theorem ct_ofF {l : Launch} {Y : mx_Y} {k n : Nat} {args L : List Value} {h : mx_H} {K : Option Value → mx_H → Prop} (hpl : plainFor Y.1 = true) (hle : (mx_en args).length ≤ Y.2.2.1) (hL : mx_en args ++ List.replicate (Y.2.2.1 - (mx_en args).length) (.retAddr 0) = L) (kk : wp_m l Y none k n 0 L [] h K) : ct_m l Y k n args h K := by
  intro D ty b as ws args' sz hty hrc hs
  refine MetFree.of_bodyRF (S := headSpec (mx_ws Y) (mx_rm Y k n)) (code := Y.2.1) (maxLocals := Y.2.2.1) (ret := Y.2.2.2.1) hpl (fun a0 s m h hn => ?_) (fun p e s m args0 below meth c s₁ B hml hv _ hst => ?_)
  · obtain ⟨me, co, q1, q2, q3, q4, q5, q6, -⟩ := Cond.code_spec hn (atoms_spec (ws := mx_ws Y) h (Cond.code Y.1 Y.2.1 Y.2.2.1 Y.2.2.2.1) List.mem_cons_self)
    exact ⟨me, co, q1, q2, q3, q4, q5, q6⟩
  suffices hW : W p l e (headSpec (mx_ws Y) (mx_rm Y k n)).room s m args0 below meth c s.heap [] 0 0 (MQ below (ct_Q D ty b as K (va_A ws sz)) args0 s k n (va_A ws sz)) (entryFrame m args0 Y.2.2.1) by
    obtain ⟨t, q1, o, q2, q3, q4, q5⟩ := hW s₁ (by rw [B.state]; rfl) (Stand.of_body B)
    exact ⟨t, o, hst.trans q1, q2, q3, q4, q5⟩
  obtain ⟨rfl, hsz, hP, hK, hD0⟩ := hv
  have hts0 := atoms_spec (ws := mx_ws Y) B.pre
  have hts : ∀ w ∈ WS, w.before args'.toArray s = true := fun w hw => hts0 w (List.mem_cons_of_mem _ hw)
  subst hsz
  have hD := hD0.self (sz := s.heap.size)
  generalize hAe : va_A ws s.heap.size = A at hD ⊢
  have hA : ∀ q : Nat, s.heap.size ≤ q → A q := fun q h => by rw [← hAe]; exact Or.inr h
  have hS : va_S A s.heap s.heap [] := va_S.rf
  have hl := en_rl hs hle hL
  rw [lg_entry_eq]
  have hlocks := B.notSynchronized
  have hret := B.returns
  refine kk D ty A s.heap b as k n p e _ s m _ below meth c _ ⟨B.exec, B.bytes, hret, hml, findClass_of_methodNamed B.named, hlocks, fun hin => ((name_of_methodNamed B.named B.method).1).trans hin, hts, hK, hty, Nat.le_refl _, Nat.le_refl _, Nat.le_refl _, Nat.le_refl _, hA, fun x hx => by cases hx⟩ ?_ as s.heap [] _ [] 0 0 ⟨ws, hrc, hP, hD, hS⟩ (List.prefix_refl _) hl rfl (by omega) (by omega)
  intro as' h' H locs pc' ls v v' hw' hpre' hR ho hq
  obtain ⟨ws', hrc', hP', hD', hS'⟩ := hw'
  have fin : ∀ t : State, t.heap = H → s.WarmedH t.vm → ct_Q D ty b as K A args'.toArray s (.returned v') t := fun t ht hW =>
    ⟨⟨v, v', h', as', ws', rfl, ho, hpre', hrc', by rw [ht]; exact hP', hD', hq⟩, hS'.F ht⟩
  match v', hR, fin with
  | none, hR, fin => exact W.vret B.exec B.bytes (hret.trans hR.2) fin hS'.2.2 hR.1
  | some (.int x), ⟨hR1, t, hR2, hR3⟩, fin => exact W.zret B.exec B.bytes (hret.trans hR2) hR3 fin hS'.2.2 hR1
  | some .null, ⟨hR1, t, hR2, hR3, hR4⟩, fin => exact W.aret B.exec B.bytes (hret.trans hR2) hR3 hR4 fin hS'.2.2 hR1
  | some (.ref a), ⟨hR1, t, hR2, hR3, hR4⟩, fin => exact W.aret B.exec B.bytes (hret.trans hR2) hR3 hR4 fin hS'.2.2 hR1
  | some (.long a), ⟨hR1, t, hR2, hR3, hR4⟩, fin => exact W.aret B.exec B.bytes (hret.trans hR2) hR3 hR4 fin hS'.2.2 hR1
  | some (.float a), ⟨hR1, t, hR2, hR3, hR4⟩, fin => exact W.aret B.exec B.bytes (hret.trans hR2) hR3 hR4 fin hS'.2.2 hR1
  | some (.double a), ⟨hR1, t, hR2, hR3, hR4⟩, fin => exact W.aret B.exec B.bytes (hret.trans hR2) hR3 hR4 fin hS'.2.2 hR1
  | some (.retAddr a), ⟨hR1, t, hR2, hR3, hR4⟩, fin => exact W.aret B.exec B.bytes (hret.trans hR2) hR3 hR4 fin hS'.2.2 hR1
section SR
variable {l : Launch} {σ : sg_} {K : Option Value → mx_H → Prop} {F : Int → Int} {n N : Int} {T : px_T} {b : Int} {f : Int → Int} {a : Nat}
theorem lp_K_sc1 (ha : 12 ≤ a) (hg : kgo_ a) {σ0 : sg_} (hx0 : kk_ σ0 F n N T a b f) (h9 : σ0 a 9 = SC_ F T f) (hcn : CN_ F T f) {c : Int} (c0 : 1 ≤ c) (c1 : c ≤ CC_ F T f)
    (hK : ∀ (σ' : sg_) (u4 u5 : Value), fr_ (wch a) σ0 σ' → g1_ σ' F T f a (ks_ F T f c + mn_ F (st_ T (f 2)) c) → wp_m l Y_K_spreadChunks none 0 0 126 [.ref a, .int (iI (ks_ F T f c + mn_ F (st_ T (f 2)) c)), .int (iI (ro2_ F T f c)), .int (iI c), u4, u5] [] (hp_ σ') K) :
    ∀ (m i : Nat) (σ : sg_), (i : Int) + m = mn_ F (st_ T (f 2)) c → fr_ (wch a) σ0 σ → g1_ σ F T f a (ks_ F T f c + i) → wp_m l Y_K_spreadChunks none 0 0 39 [.ref a, .int (iI (ks_ F T f c + i)), .int (iI (ro2_ F T f c)), .int (iI c), .int (iI (pc_ F T f c + bt_ F (st_ T (f 3)) (ks_ F T f c) i)), .int (iI (i : Int))] [] (hp_ σ) K := by
  have a5 := hx0.1.2.2.2.2
  have hs3 := a5 (st_ T (f 3) + 1)
  have hs2 := a5 (st_ T (f 2))
  have hsp := a5 (st_ T (pj_ f))
  have esc : SC_ F T f = F (st_ T (f 3) + 1) := rfl
  have ecc : CC_ F T f = F (st_ T (pj_ f)) := rfl
  have mr := mn_rg a5 (st_ T (f 2)) c
  obtain ⟨kl0, kl1⟩ := ks_le a5 hcn c0 c1
  have hR : 0 < F (st_ T (f 2)) := by have := hcn.2.2.1; omega
  obtain ⟨w1, w2, -⟩ := rwo_spec (fi_ F (st_ T (f 2))) c (F (st_ T (f 2))).toNat
  have w2 := w2 (by omega)
  have ero : ro2_ F T f c = rwo_ (fi_ F (st_ T (f 2))) c (F (st_ T (f 2))).toNat := rfl
  have emn : F (st_ T (f 2) + (2 + 3 * ro2_ F T f c)) = mn_ F (st_ T (f 2)) c := rfl
  obtain ⟨hG, g0, g1, g2, g3, g4, g5, g6⟩ := hg
  intro m
  induction m with
  | zero =>
    intro i σ hi hfr hd
    have hx := kk_fr ha hx0 hfr (fun b j h => by unfold wch at h; omega)
    obtain ⟨y1, y2, y3, y4, x2, x4, x5, y5⟩ := kk_2 hx
    obtain ⟨hlo, hlt, htt, ⟨hKo, o1, o2, o3, o4, o5, o6, o7⟩, hkt, hrh, hkb⟩ := id hx
    have ei : (i : Int) = mn_ F (st_ T (f 2)) c := by omega
    rw [ei] at hd
    have hh := hK σ (.int (iI (pc_ F T f c + bt_ F (st_ T (f 3)) (ks_ F T f c) i))) (.int (iI (i : Int))) hfr hd
    rw [← ei] at hh
    refine wp_iload dc_K_spreadChunks_39 rfl (wp_aload_n dc_K_spreadChunks_41 rfl rfl (wi_getR dc_K_spreadChunks_42 lf_K_27 hKo rfl (wp_iload_n dc_K_spreadChunks_45 rfl rfl (wi_iconst dc_K_spreadChunks_46 ?_))))
    refine wp_callV (As := [_, _]) dc_K_spreadChunks_47 lm_K_77 ls_T_value (by decide) rfl rfl (hp_at _ o3) rfl rfl (Nat.le_of_ble_eq_true rfl) (Nat.le_refl _) (Nat.le_refl _) ?_
    refine c_T_value o3 hlo x2 x4 (show st_ T (f 2) + 1 + ro2_ F T f c * 3 + 1 = st_ T (f 2) + (2 + 3 * ro2_ F T f c) by omega) (by omega) (by omega) ?_
    rw [emn]
    refine wi_ic_ge dc_K_spreadChunks_50 rfl (fun hd1 => ?_) (fun hd1 => ?_)
    · exact hh
    · omega
  | succ m ih =>
    intro i σ hi hfr hd
    have hx := kk_fr ha hx0 hfr (fun b j h => by unfold wch at h; omega)
    obtain ⟨y1, y2, y3, y4, x2, x4, x5, y5⟩ := kk_2 hx
    obtain ⟨hlo, hlt, htt, ⟨hKo, o1, o2, o3, o4, o5, o6, o7⟩, hkt, hrh, hkb⟩ := id hx
    have h9' : σ a 9 = SC_ F T f := (hfr a 9 (by unfold wch; omega)).trans h9
    refine wp_iload dc_K_spreadChunks_39 rfl (wp_aload_n dc_K_spreadChunks_41 rfl rfl (wi_getR dc_K_spreadChunks_42 lf_K_27 hKo rfl (wp_iload_n dc_K_spreadChunks_45 rfl rfl (wi_iconst dc_K_spreadChunks_46 ?_))))
    refine wp_callV (As := [_, _]) dc_K_spreadChunks_47 lm_K_77 ls_T_value (by decide) rfl rfl (hp_at _ o3) rfl rfl (Nat.le_of_ble_eq_true rfl) (Nat.le_refl _) (Nat.le_refl _) ?_
    refine c_T_value o3 hlo x2 x4 (show st_ T (f 2) + 1 + ro2_ F T f c * 3 + 1 = st_ T (f 2) + (2 + 3 * ro2_ F T f c) by omega) (by omega) (by omega) ?_
    rw [emn]
    refine wi_ic_ge dc_K_spreadChunks_50 rfl (fun hd1 => ?_) (fun hd1 => ?_)
    · omega
    refine wp_iload_n dc_K_spreadChunks_53 rfl rfl (wp_aload_n dc_K_spreadChunks_54 rfl rfl (wi_getE 9 ((SC_ F T f)) dc_K_spreadChunks_55 lf_K_51 hKo rfl rfl h9' ?_))
    refine wi_ic_ge dc_K_spreadChunks_58 rfl (fun hd2 => ?_) (fun hd2 => ?_)
    · omega
    refine wp_aload_n dc_K_spreadChunks_61 rfl rfl (wi_getR dc_K_spreadChunks_62 lf_K_48 hKo rfl (wi_iconst dc_K_spreadChunks_65 (wi_aald dc_K_spreadChunks_66 hG rfl rfl (by decide) (by decide) (by decide) (show _ = some (a + 9) from rfl) (wp_iload_n dc_K_spreadChunks_67 rfl rfl (wp_iload dc_K_spreadChunks_68 rfl (wi_ast dc_K_spreadChunks_70 g0 (by omega) (by omega) (by decide) (wp_aload_n dc_K_spreadChunks_71 rfl rfl (wi_getR dc_K_spreadChunks_72 lf_K_48 hKo rfl (wi_iconst dc_K_spreadChunks_75 (wi_aald dc_K_spreadChunks_76 hG rfl rfl (by decide) (by decide) (by decide) (show _ = some (a + 10) from rfl) (wp_iload_n dc_K_spreadChunks_77 rfl rfl (wp_aload_n dc_K_spreadChunks_78 rfl rfl (wi_getR dc_K_spreadChunks_79 lf_K_42 hKo rfl ?_)))))))))))))
    refine wp_iload_n dc_K_spreadChunks_82 rfl rfl ?_
    have f1 : fr_ (wch a) σ0 (up_ σ (a + 9) (ks_ F T f c + i) (pc_ F T f c + bt_ F (st_ T (f 3)) (ks_ F T f c) i)) := hfr.up (Or.inl rfl)
    have hx1 := kk_fr ha hx0 f1 (fun b j h => by unfold wch at h; omega)
    refine wp_callV (As := [_]) dc_K_spreadChunks_83 lm_K_120 ls_Z_sizeOf (by decide) rfl rfl (hp_at _ o7) rfl rfl (Nat.le_of_ble_eq_true rfl) (Nat.le_refl _) (Nat.le_refl _) ?_
    refine c_K_sizeOf hx1 (by omega) (by omega) ?_
    refine wi_ast dc_K_spreadChunks_86 g1 (by omega) (by omega) (by decide) (wp_aload_n dc_K_spreadChunks_87 rfl rfl (wi_getR dc_K_spreadChunks_88 lf_K_48 hKo rfl (wi_iconst dc_K_spreadChunks_91 (wi_aald dc_K_spreadChunks_92 hG rfl rfl (by decide) (by decide) (by decide) (show _ = some (a + 14) from rfl) (wp_iload_n dc_K_spreadChunks_93 rfl rfl (wp_aload_n dc_K_spreadChunks_94 rfl rfl (wi_getR dc_K_spreadChunks_95 lf_K_27 hKo rfl (wp_iload_n dc_K_spreadChunks_98 rfl rfl (wi_iconst dc_K_spreadChunks_99 ?_)))))))))
    have f2 : fr_ (wch a) σ0 (up_ (up_ σ (a + 9) (ks_ F T f c + i) (pc_ F T f c + bt_ F (st_ T (f 3)) (ks_ F T f c) i)) (a + 10) (ks_ F T f c + i) (sz_ F (st_ T (f 3)) (ks_ F T f c + i))) := f1.up (Or.inr (Or.inl rfl))
    have hx2 := kk_fr ha hx0 f2 (fun b j h => by unfold wch at h; omega)
    obtain ⟨-, -, -, -, x2', x4', x5', -⟩ := kk_2 hx2
    refine wp_callV (As := [_, _]) dc_K_spreadChunks_100 lm_K_77 ls_T_value (by decide) rfl rfl (hp_at _ o3) rfl rfl (Nat.le_of_ble_eq_true rfl) (Nat.le_refl _) (Nat.le_refl _) ?_
    refine c_T_value o3 hx2.1 x2' x4' (show st_ T (f 2) + 1 + ro2_ F T f c * 3 + 2 = st_ T (f 2) + (3 + 3 * ro2_ F T f c) by omega) (by omega) (by omega) ?_
    refine wi_ast dc_K_spreadChunks_103 g5 (by omega) (by omega) (by decide) (wp_iload dc_K_spreadChunks_104 rfl (wp_aload_n dc_K_spreadChunks_106 rfl rfl (wi_getR dc_K_spreadChunks_107 lf_K_48 hKo rfl (wi_iconst dc_K_spreadChunks_110 (wi_aald dc_K_spreadChunks_111 hG rfl rfl (by decide) (by decide) (by decide) (show _ = some (a + 10) from rfl) (wp_iload_n dc_K_spreadChunks_112 rfl rfl (wi_aldE (sz_ F (st_ T (f 3)) (ks_ F T f c + i)) dc_K_spreadChunks_113 g1 (by omega) (by omega) (by decide) (by rw [up_n _ _ (by omega), up_s]) (wi_iadd dc_K_spreadChunks_114 (wp_is4 dc_K_spreadChunks_115 (wp_ii1 dc_K_spreadChunks_117 (wp_ii5 dc_K_spreadChunks_120 (wp_goto dc_K_spreadChunks_123 rfl ?_))))))))))))
    rw [show ks_ F T f c + (i : Int) + 1 = ks_ F T f c + ((i + 1 : Nat) : Int) by omega, Int.add_assoc]
    refine ih (i + 1) _ (by omega) (f2.up (Or.inr (Or.inr rfl))) (fun j j0 j1 => ?_)
    by_cases e : j = ks_ F T f c + i
    · refine ⟨c, ⟨c0, c1, by omega, by omega⟩, ?_, ?_, ?_⟩
      · rw [e, up_n _ _ (by omega), up_n _ _ (by omega), up_s]
        show _ = pc_ F T f c + bt_ F (st_ T (f 3)) (ks_ F T f c) (ks_ F T f c + i - ks_ F T f c).toNat
        rw [show (ks_ F T f c + (i : Int) - ks_ F T f c).toNat = i by omega]
      · rw [e, up_s]
      · rw [e, up_n _ _ (by omega), up_s]
    · obtain ⟨c', q1, q2, q3, q4⟩ := hd j j0 (by omega)
      refine ⟨c', q1, ?_, ?_, ?_⟩
      · rw [up_n _ _ (by omega), up_n _ _ (by omega), up_n _ _ (by omega)]; exact q2
      · rw [up_n _ _ (by omega), up_n _ _ (by omega), up_n _ _ (by omega)]; exact q3
      · rw [up_n _ _ (by omega), up_n _ _ (by omega), up_n _ _ (by omega)]; exact q4
theorem lp_K_sc (ha : 12 ≤ a) (hg : kgo_ a) {σ0 : sg_} (hx0 : kk_ σ0 F n N T a b f) (h9 : σ0 a 9 = SC_ F T f) (hcn : CN_ F T f) (hK : ∀ σ', fr_ (wch a) σ0 σ' → g1_ σ' F T f a (SC_ F T f) → K none (hp_ σ')) :
    ∀ (m : Nat) (c : Int) (σ : sg_) (u4 u5 : Value), c + m = CC_ F T f + 1 → 1 ≤ c → fr_ (wch a) σ0 σ → g1_ σ F T f a (ks_ F T f c) → wp_m l Y_K_spreadChunks none 0 0 6 [.ref a, .int (iI (ks_ F T f c)), .int (iI (ro2_ F T f (c - 1))), .int (iI c), u4, u5] [] (hp_ σ) K := by
  have a5 := hx0.1.2.2.2.2
  have hs2 := a5 (st_ T (f 2))
  have hsp := a5 (st_ T (pj_ f))
  have ecc : CC_ F T f = F (st_ T (pj_ f)) := rfl
  intro m
  induction m with
  | zero =>
    intro c σ u4 u5 hi c0 hfr hd
    have hx := kk_fr ha hx0 hfr (fun b j h => by unfold wch at h; omega)
    obtain ⟨v2, v4, v5⟩ := kk_p hx
    obtain ⟨hlo, hlt, htt, ⟨hKo, o1, o2, o3, o4, o5, o6, o7⟩, hkt, hrh, hkb⟩ := id hx
    have e : ks_ F T f c = SC_ F T f := by
      show sm_ _ (c - 1).toNat = _
      rw [show c - 1 = CC_ F T f by omega]
      exact hcn.2.2.2.2.1
    refine wp_iload_n dc_K_spreadChunks_6 rfl rfl (wp_aload_n dc_K_spreadChunks_7 rfl rfl (wi_getR dc_K_spreadChunks_8 lf_K_30 hKo rfl ?_))
    refine wp_callV (As := []) dc_K_spreadChunks_11 lm_K_73 ls_T_rows (by decide) rfl rfl (hp_at _ o4) rfl rfl (Nat.le_of_ble_eq_true rfl) (Nat.le_refl _) (Nat.le_refl _) ?_
    refine c_T_rows o4 v5 ?_
    refine wi_ic_gt dc_K_spreadChunks_14 rfl (fun hd1 => ?_) (fun hd1 => ?_)
    · refine wp_return dc_K_spreadChunks_132 rfl (hK σ hfr (e ▸ hd))
    · omega
  | succ m ih =>
    intro c σ u4 u5 hi c0 hfr hd
    have hx := kk_fr ha hx0 hfr (fun b j h => by unfold wch at h; omega)
    obtain ⟨v2, v4, v5⟩ := kk_p hx
    obtain ⟨hlo, hlt, htt, ⟨hKo, o1, o2, o3, o4, o5, o6, o7⟩, hkt, hrh, hkb⟩ := id hx
    have mr := mn_rg a5 (st_ T (f 2)) c
    have hR : 0 < F (st_ T (f 2)) := by have := hcn.2.2.1; omega
    refine wp_iload_n dc_K_spreadChunks_6 rfl rfl (wp_aload_n dc_K_spreadChunks_7 rfl rfl (wi_getR dc_K_spreadChunks_8 lf_K_30 hKo rfl ?_))
    refine wp_callV (As := []) dc_K_spreadChunks_11 lm_K_73 ls_T_rows (by decide) rfl rfl (hp_at _ o4) rfl rfl (Nat.le_of_ble_eq_true rfl) (Nat.le_refl _) (Nat.le_refl _) ?_
    refine c_T_rows o4 v5 ?_
    refine wi_ic_gt dc_K_spreadChunks_14 rfl (fun hd1 => ?_) (fun hd1 => ?_)
    · omega
    refine wp_aload_n dc_K_spreadChunks_17 rfl rfl (wp_iload_n dc_K_spreadChunks_18 rfl rfl (wp_iload_n dc_K_spreadChunks_19 rfl rfl ?_))
    refine wp_callV (As := [_, _]) dc_K_spreadChunks_20 lm_K_104 ls_K_chunkRow (by decide) rfl rfl (hp_at _ hKo) rfl rfl (Nat.le_of_ble_eq_true rfl) (Nat.le_refl _) (Nat.le_refl _) ?_
    refine c_K_chunkRow hx hR c0 (by omega) ?_
    refine wp_is2 dc_K_spreadChunks_23 (wp_aload_n dc_K_spreadChunks_24 rfl rfl (wi_getR dc_K_spreadChunks_25 lf_K_30 hKo rfl (wp_iload_n dc_K_spreadChunks_28 rfl rfl (wi_iconst dc_K_spreadChunks_29 (wi_isub dc_K_spreadChunks_30 ?_)))))
    refine wp_callV (As := [_]) dc_K_spreadChunks_31 lm_K_107 ls_T_number (by decide) rfl rfl (hp_at _ o4) rfl rfl (Nat.le_of_ble_eq_true rfl) (Nat.le_refl _) (Nat.le_refl _) ?_
    refine c_K_number hx c0 (by omega) ?_
    refine wp_is4 dc_K_spreadChunks_34 (wi_iconst dc_K_spreadChunks_36 (wp_is5 dc_K_spreadChunks_37 ?_))
    have h := lp_K_sc1 (l := l) (K := K) ha hg hx0 h9 hcn c0 (by omega) (fun σ' u4 u5 fr' hd' => by
      rw [← ks_S c0] at hd' ⊢
      refine wp_ii3 dc_K_spreadChunks_126 (wp_goto dc_K_spreadChunks_129 rfl ?_)
      have nx := ih (c + 1) σ' u4 u5 (by omega) (by omega) fr' hd'
      rw [show c + 1 - 1 = c by omega] at nx
      exact nx) (mn_ F (st_ T (f 2)) c).toNat 0 σ (by omega) hfr (by rw [show ks_ F T f c + ((0 : Nat) : Int) = ks_ F T f c by omega]; exact hd)
    rw [show ks_ F T f c + ((0 : Nat) : Int) = ks_ F T f c by omega, show pc_ F T f c + bt_ F (st_ T (f 3)) (ks_ F T f c) 0 = pc_ F T f c from Int.add_zero _] at h
    exact h
theorem c_K_spreadChunks (ha : 12 ≤ a) (hg : kgo_ a) (hx : kk_ σ F n N T a b f) (h9 : σ a 9 = SC_ F T f) (hcn : CN_ F T f) (hK : ∀ σ', fr_ (wch a) σ σ' → g1_ σ' F T f a (SC_ F T f) → K none (hp_ σ')) : ct_m l Y_K_spreadChunks 0 0 [.ref a] (hp_ σ) K := by
  have a5 := hx.1.2.2.2.2
  have hsp := a5 (st_ T (pj_ f))
  have hs2 := a5 (st_ T (f 2))
  have ecc : CC_ F T f = F (st_ T (pj_ f)) := rfl
  have e0 : ro2_ F T f (1 - 1) = 0 := by
    by_cases h : 0 < F (st_ T (f 2))
    · exact rwo_0 (kk_2 hx).2.2.2.2.2.2.2 h
    · show rwo_ _ _ (F (st_ T (f 2))).toNat = 0
      rw [show (F (st_ T (f 2))).toNat = 0 by omega]; rfl
  have e1 : ks_ F T f 1 = 0 := rfl
  have h := lp_K_sc (l := l) ha hg hx h9 hcn hK (CC_ F T f).toNat 1 σ (.retAddr 0) (.retAddr 0) (by omega) (by omega) fr_.rf (fun i i0 i1 => by omega)
  rw [e0] at h
  refine ct_of (L := [.ref a, .retAddr 0, .retAddr 0, .retAddr 0, .retAddr 0, .retAddr 0]) (by decide +kernel) (Nat.le_of_ble_eq_true rfl) rfl ?_
  refine wi_iconst dc_K_spreadChunks_0 (wp_is1 dc_K_spreadChunks_1 (wi_iconst dc_K_spreadChunks_2 (wp_is2 dc_K_spreadChunks_3 (wi_iconst dc_K_spreadChunks_4 (wp_is3 dc_K_spreadChunks_5 ?_)))))
  exact h
/-- a track whose samples are written out -/
def cx_ (σ : sg_) (F : Int → Int) (T : px_T) (f : Int → Int) (a : Nat) : Prop := σ a 9 = SC_ F T f ∧ d1_ σ F (st_ T (f 0)) a 0 ∧ (∀ i : Nat, (i : Int) < SC_ F T f → σ (a + 15) i = rv_ F (st_ T (f 0)) i ∧ σ (a + 11) i = dt_ F (st_ T (f 0)) i ∧ σ (a + 12) i = dt_ F (st_ T (f 0)) i + sh_ F T f i) ∧ (∀ i, 0 ≤ i → i < SC_ F T f → sy_ F T f i (σ (a + 13) i)) ∧ g1_ σ F T f a (SC_ F T f)
theorem c_J_min {x y : Int} (hx : rg x) (hy : rg y) (h : x ≤ y) (hK : K (some (.int (iI x))) (hp_ σ)) : ct_m l Y_J_min 0 0 [.int (iI x), .int (iI y)] (hp_ σ) K := by
  refine ct_ofF (L := [.int (iI x), .int (iI y)]) (by decide +kernel) (Nat.le_of_ble_eq_true rfl) rfl ?_
  refine wp_iload_n dc_J_min_0 rfl rfl (wp_iload_n dc_J_min_1 rfl rfl ?_)
  refine wi_ic_gt dc_J_min_2 rfl (fun hd => ?_) (fun hd => ?_)
  · omega
  · refine wp_iload_n dc_J_min_5 rfl rfl (wp_goto dc_J_min_6 rfl ?_)
    refine wp_ireturn dc_J_min_10 rfl rfl hK
def spW (a : Nat) (b : Nat) (j : Int) : Prop := (b = a ∧ j = 9) ∨ (a + 9 ≤ b ∧ b ≤ a + 15)
theorem c_K_spread (ha : 12 ≤ a) (hg : kgo_ a) (hx : kk_ σ F n N T a b f) (hcn : CN_ F T f) (hK : ∀ σ', fr_ (spW a) σ σ' → cx_ σ' F T f a → K none (hp_ σ')) : ct_m l Y_K_spread 0 0 [.ref a] (hp_ σ) K := by
  have z3 := (kk_3 hx).2.2.2.2.2.2
  obtain ⟨hlo, hlt, htt, ⟨hKo, o1, o2, o3, o4, o5, o6, o7⟩, hkt, hrh, hkb⟩ := id hx
  have a5 := hlo.2.2.2.2
  have hs3 := a5 (st_ T (f 3) + 1)
  have esc : SC_ F T f = F (st_ T (f 3) + 1) := rfl
  refine ct_of (L := [.ref a]) (by decide +kernel) (Nat.le_of_ble_eq_true rfl) rfl ?_
  refine wp_aload_n dc_K_spread_0 rfl rfl (wp_aload_n dc_K_spread_1 rfl rfl (wi_getR dc_K_spread_2 lf_K_42 hKo rfl ?_))
  refine wp_callV (As := []) dc_K_spread_5 lm_K_86 ls_Z_count (by decide) rfl rfl (hp_at _ o7) rfl rfl (Nat.le_of_ble_eq_true rfl) (Nat.le_refl _) (Nat.le_refl _) ?_
  refine c_Z_count o7 z3 ?_
  refine wi_sipush dc_K_spread_8 ?_
  refine wp_callS (As := [_, _]) dc_K_spread_11 lm_K_123 ls_J_min (by decide) rfl rfl (Nat.le_of_ble_eq_true rfl) (Nat.le_refl _) (Nat.le_refl _) ?_
  refine c_J_min ⟨by omega, by omega⟩ ⟨by omega, by omega⟩ (by omega) ?_
  refine wi_putI 9 dc_K_spread_14 lf_K_51 hKo rfl rfl pv_int (wp_aload_n dc_K_spread_17 rfl rfl ?_)
  have f0 : fr_ (spW a) σ (up_ σ a 9 (SC_ F T f)) := fr_.rf.up (Or.inl ⟨rfl, rfl⟩)
  have h9 : up_ σ a 9 (SC_ F T f) a 9 = SC_ F T f := up_s _ _ _ _
  have hx0 := kk_fr ha hx f0 (fun b j h => by unfold spW at h; omega)
  refine wp_callV (As := []) dc_K_spread_18 lm_K_128 ls_K_spreadDurations (by decide) rfl rfl (hp_at _ hKo) rfl rfl (Nat.le_of_ble_eq_true rfl) (Nat.le_refl _) (Nat.le_refl _) ?_
  refine c_K_spreadDurations ha hg hx0 h9 hcn (fun σ1 f1 e1 => ?_)
  have h91 := (f1 a 9 (by unfold sdW; omega)).trans h9
  have hx1 := kk_fr ha hx0 f1 (fun b j h => by unfold sdW at h; omega)
  refine wp_aload_n dc_K_spread_21 rfl rfl ?_
  refine wp_callV (As := []) dc_K_spread_22 lm_K_131 ls_K_spreadShifts (by decide) rfl rfl (hp_at _ hKo) rfl rfl (Nat.le_of_ble_eq_true rfl) (Nat.le_refl _) (Nat.le_refl _) ?_
  refine c_K_spreadShifts ha hg hx1 h91 hcn (fun i hi => (e1 i (by omega)).2.2) (fun σ2 f2 e2 => ?_)
  have h92 := (f2 a 9 (by unfold w12; omega)).trans h91
  have hx2 := kk_fr ha hx1 f2 (fun b j h => by unfold w12 at h; omega)
  refine wp_aload_n dc_K_spread_25 rfl rfl ?_
  refine wp_callV (As := []) dc_K_spread_26 lm_K_134 ls_K_spreadSyncs (by decide) rfl rfl (hp_at _ hKo) rfl rfl (Nat.le_of_ble_eq_true rfl) (Nat.le_refl _) (Nat.le_refl _) ?_
  refine c_K_spreadSyncs ha hg hx2 h92 (fun σ3 f3 e3 => ?_)
  have h93 := (f3 a 9 (by unfold w13; omega)).trans h92
  have hx3 := kk_fr ha hx2 f3 (fun b j h => by unfold w13 at h; omega)
  refine wp_aload_n dc_K_spread_29 rfl rfl ?_
  refine wp_callV (As := []) dc_K_spread_30 lm_K_137 ls_K_spreadChunks (by decide) rfl rfl (hp_at _ hKo) rfl rfl (Nat.le_of_ble_eq_true rfl) (Nat.le_refl _) (Nat.le_refl _) ?_
  refine c_K_spreadChunks ha hg hx3 h93 hcn (fun σ4 f4 e4 => ?_)
  have h94 := (f4 a 9 (by unfold wch; omega)).trans h93
  refine wp_return dc_K_spread_33 rfl (hK σ4 ((((f0.tr (f1.mono (fun b j h => by unfold sdW at h; unfold spW; omega))).tr (f2.mono (fun b j h => by unfold w12 at h; unfold spW; omega))).tr (f3.mono (fun b j h => by unfold w13 at h; unfold spW; omega))).tr (f4.mono (fun b j h => by unfold wch at h; unfold spW; omega))) ⟨h94, fun i hi => absurd hi (Nat.not_lt_zero _), fun i hi => ?_, fun i i0 i1 => ?_, e4⟩)
  · have q := e1 i (by omega)
    refine ⟨?_, ?_, ?_⟩
    · rw [f4 (a + 15) i (by unfold wch; omega), f3 (a + 15) i (by unfold w13; omega), f2 (a + 15) i (by unfold w12; omega)]; exact q.1
    · rw [f4 (a + 11) i (by unfold wch; omega), f3 (a + 11) i (by unfold w13; omega), f2 (a + 11) i (by unfold w12; omega)]; exact q.2.1
    · rw [f4 (a + 12) i (by unfold wch; omega), f3 (a + 12) i (by unfold w13; omega)]; exact e2 i hi
  · rw [f4 (a + 13) i (by unfold wch; omega)]; exact e3 i i0 i1
end SR
