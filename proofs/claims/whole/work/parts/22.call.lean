/-! contracts and calls -/
def ct_Q (D : va_G) (ty : mx_T) (b : Nat) (as : List Nat) (K : Option Value → mx_H → Prop) (A : Nat → Prop) : Array Value → State → Outcome → State → Prop := fun _ st oc t =>
  (∃ (v v' : Option Value) (h' : mx_H) (as' : List Nat) (ws' : va_W), oc = .returned v' ∧ rl_o b as' v v' ∧ as <+: as' ∧ rl_c b as' ty h' ws' ∧ va_P D classes ws' t.heap ∧ va_D A ws' ∧ K v h') ∧ va_F A st t
def ct_P (D : va_G) (ty : mx_T) (ws : va_W) (args' : List Value) (sz : Nat) : Array Value → State → Prop := va_Pc args' (fun U => U.heap.size = sz ∧ va_P D classes ws U.heap ∧ mx_K D ty U ∧ va_D (fun _ => True) ws)
/-- the contract of a method: from any heap that holds h it returns, and K holds of its answer and of the heap then; at most k cells of n slots are made -/
def ct_m (l : Launch) (Y : mx_Y) (k n : Nat) (args : List Value) (h : mx_H) (K : Option Value → mx_H → Prop) : Prop :=
  ∀ (D : va_G) (ty : mx_T) (b : Nat) (as : List Nat) (ws : va_W) (args' : List Value) (sz : Nat), ty.map (·.2) = TY → rl_c b as ty h ws → rl_s b as args args' →
    Met l Y.1 (mx_ws Y) (mx_rm Y k n) (ct_P D ty ws args' sz) (ct_Q D ty b as K (va_A ws sz)) k n (va_A ws sz)
def mx_en : List Value → List Value
  | [] => []
  | v :: t => match v with
    | .long x => .long x :: .retAddr 0 :: mx_en t
    | .double x => .double x :: .retAddr 0 :: mx_en t
    | v => v :: mx_en t
theorem rl_cat2 {b : Nat} {as : List Nat} {v v' : Value} (h : rl_v b as v v') : v'.category = v.category := by
  cases v <;> first | (obtain ⟨_, _, rfl⟩ := h; rfl) | (obtain ⟨_, rfl⟩ := h; rfl) | (cases (show v' = _ from h); rfl)
theorem mx_en1 {v : Value} (h : v.category = 1) (t : List Value) : mx_en (v :: t) = v :: mx_en t := by
  cases v <;> first | rfl | (simp [Value.category] at h)
theorem mx_en2 {v : Value} (h : v.category = 2) (t : List Value) : mx_en (v :: t) = v :: .retAddr 0 :: mx_en t := by
  cases v <;> first | rfl | (simp [Value.category] at h)
theorem en_len {b : Nat} {as : List Nat} : ∀ {s s' : List Value}, rl_s b as s s' → (lg_sl s').length = (mx_en s).length
  | [], _, h => by cases (show _ = [] from h); rfl
  | x :: t, _, ⟨w', t', e, h1, h2⟩ => by
    subst e
    have ih := en_len h2
    have hc := rl_cat2 h1
    rcases lv_cat x with h | h
    · rw [mx_en1 h]
      have e1 : lg_sl (w' :: t') = .val w' :: lg_sl t' := by simp [lg_sl, hc, h]
      rw [e1, List.length_cons, List.length_cons, ih]
    · rw [mx_en2 h]
      have e1 : lg_sl (w' :: t') = .val w' :: .second :: lg_sl t' := by simp [lg_sl, hc, h]
      rw [e1, List.length_cons, List.length_cons, List.length_cons, List.length_cons, ih]
theorem en_has {b : Nat} {as : List Nat} : ∀ {s s' : List Value} (i0 : Nat), rl_s b as s s' → ∀ (j : Nat) (v : Value), (mx_en s)[j]? = some v → v ≠ .retAddr 0 → ∃ v', rl_v b as v v' ∧ (i0 + j, v') ∈ lv_args i0 s'
  | [], _, i0, h, j, v, hv, _ => by simp [mx_en] at hv
  | x :: t, _, i0, ⟨w', t', e, h1, h2⟩, j, v, hv, hne => by
    subst e
    have hc := rl_cat2 h1
    rcases lv_cat x with h | h
    · rw [mx_en1 h] at hv
      have e1 : lv_args i0 (w' :: t') = (i0, w') :: lv_args (i0 + 1) t' := by simp [lv_args, hc, h]
      rw [e1]
      cases j with
      | zero =>
        rw [List.getElem?_cons_zero] at hv
        cases hv
        exact ⟨w', h1, List.mem_cons_self⟩
      | succ j =>
        rw [List.getElem?_cons_succ] at hv
        obtain ⟨v', a1, a2⟩ := en_has (i0 + 1) h2 j v hv hne
        exact ⟨v', a1, List.mem_cons_of_mem _ (by rw [show i0 + (j + 1) = i0 + 1 + j by omega]; exact a2)⟩
    · rw [mx_en2 h] at hv
      have e1 : lv_args i0 (w' :: t') = (i0, w') :: lv_args (i0 + 2) t' := by simp [lv_args, hc, h]
      rw [e1]
      match j, hv with
      | 0, hv =>
        rw [List.getElem?_cons_zero] at hv
        cases hv
        exact ⟨w', h1, List.mem_cons_self⟩
      | 1, hv =>
        rw [List.getElem?_cons_succ, List.getElem?_cons_zero] at hv
        cases hv
        exact absurd rfl hne
      | j + 2, hv =>
        rw [List.getElem?_cons_succ, List.getElem?_cons_succ] at hv
        obtain ⟨v', a1, a2⟩ := en_has (i0 + 2) h2 j v hv hne
        exact ⟨v', a1, List.mem_cons_of_mem _ (by rw [show i0 + (j + 2) = i0 + 2 + j by omega]; exact a2)⟩
theorem en_rl {b : Nat} {as : List Nat} {s s' L : List Value} {nL : Nat} (h : rl_s b as s s') (hle : (mx_en s).length ≤ nL) (hL : mx_en s ++ List.replicate (nL - (mx_en s).length) (.retAddr 0) = L) : rl_l b as L ((lg_sl s' ++ List.replicate (nL - (lg_sl s').length) Slot.unset).toArray) nL := by
  subst hL
  refine ⟨by simp; omega, lv_args 0 s', lv_entry s' (by rw [en_len h]; exact hle), fun i v hv hne => ?_⟩
  by_cases hi : i < (mx_en s).length
  · rw [List.getElem?_append_left hi] at hv
    obtain ⟨v', a1, a2⟩ := en_has 0 h i v hv hne
    exact ⟨v', a1, by rw [Nat.zero_add] at a2; exact a2⟩
  · rw [List.getElem?_append_right (by omega), List.getElem?_replicate] at hv
    split at hv
    · cases hv; exact absurd rfl hne
    · cases hv
theorem ct_of {l : Launch} {Y : mx_Y} {k n : Nat} {args L : List Value} {h : mx_H} {K : Option Value → mx_H → Prop} (hpl : plainName Y.1.cls = true) (hle : (mx_en args).length ≤ Y.2.2.1) (hL : mx_en args ++ List.replicate (Y.2.2.1 - (mx_en args).length) (.retAddr 0) = L) (kk : wp_m l Y none k n 0 L [] h K) : ct_m l Y k n args h K := by
  intro D ty b as ws args' sz hty hrc hs
  refine Met.ofW (cc := Y.2.1) (maxL := Y.2.2.1) (ret := Y.2.2.2.1) hpl rfl ?_
  intro p e s m args0 below meth c s₁ B hml hv
  obtain ⟨rfl, hsz, hP, hK, hD0⟩ := hv
  have hts0 := atoms_spec (ws := mx_ws Y) B.pre
  have hts : ∀ w ∈ WS, w.before args'.toArray s = true := fun w hw => hts0 w (List.mem_cons_of_mem _ hw)
  subst hsz
  have hD := hD0.self (sz := s.heap.size)
  generalize hAe : va_A ws s.heap.size = A at hD ⊢
  have hA : ∀ q : Nat, s.heap.size ≤ q → A q := fun q h => by rw [← hAe]; exact Or.inr h
  have hS : va_S A s.heap s.heap [] := va_S.rf
  have hl := en_rl hs hle hL
  rw [lg_entry_eq]
  have hlocks := B.notSynchronized
  have hret := B.returns
  refine kk D ty A s.heap b as k n p e _ s m _ below meth c _ ⟨B.exec, B.bytes, hret, hml, findClass_of_methodNamed B.named, hlocks, fun hin => ((name_of_methodNamed B.named B.method).1).trans hin, hts, hK, hty, Nat.le_refl _, Nat.le_refl _, Nat.le_refl _, Nat.le_refl _, hA, fun x hx => by cases hx⟩ ?_ as s.heap [] _ [] 0 0 ⟨ws, hrc, hP, hD, hS⟩ (List.prefix_refl _) hl rfl (by omega) (by omega)
  intro as' h' H locs pc' ls v v' hw' hpre' hR ho hq
  obtain ⟨ws', hrc', hP', hD', hS'⟩ := hw'
  have fin : ∀ t : State, t.heap = H → s.WarmedH t.vm → ct_Q D ty b as K A args'.toArray s (.returned v') t := fun t ht hW =>
    ⟨⟨v, v', h', as', ws', rfl, ho, hpre', hrc', by rw [ht]; exact hP', hD', hq⟩, hS'.F ht⟩
  match v', hR, fin with
  | none, hR, fin => exact W.vret B.exec B.bytes (hret.trans hR.2) fin hS'.2.2 hR.1
  | some (.int x), ⟨hR1, t, hR2, hR3⟩, fin => exact W.zret B.exec B.bytes (hret.trans hR2) hR3 fin hS'.2.2 hR1
  | some .null, ⟨hR1, t, hR2, hR3, hR4⟩, fin => exact W.aret B.exec B.bytes (hret.trans hR2) hR3 hR4 fin hS'.2.2 hR1
  | some (.ref a), ⟨hR1, t, hR2, hR3, hR4⟩, fin => exact W.aret B.exec B.bytes (hret.trans hR2) hR3 hR4 fin hS'.2.2 hR1
  | some (.long a), ⟨hR1, t, hR2, hR3, hR4⟩, fin => exact W.aret B.exec B.bytes (hret.trans hR2) hR3 hR4 fin hS'.2.2 hR1
  | some (.float a), ⟨hR1, t, hR2, hR3, hR4⟩, fin => exact W.aret B.exec B.bytes (hret.trans hR2) hR3 hR4 fin hS'.2.2 hR1
  | some (.double a), ⟨hR1, t, hR2, hR3, hR4⟩, fin => exact W.aret B.exec B.bytes (hret.trans hR2) hR3 hR4 fin hS'.2.2 hR1
  | some (.retAddr a), ⟨hR1, t, hR2, hR3, hR4⟩, fin => exact W.aret B.exec B.bytes (hret.trans hR2) hR3 hR4 fin hS'.2.2 hR1
section MC
variable {p : Program} {l : Launch} {e : Env} {R : Room} {s : State} {m : MethodId} {args : Array Value} {below : List Frame} {meth : Method} {c : Code} {H : Heap} {locs : List Loc} {cells slots : Nat} {Q : State → Prop}
variable {pc : Nat} {ls : Array Slot} {rest st0 : List Value} {a : Array Value} {A0 A1 : Nat → Prop} {H0 : Heap} {mc ms : Nat} {free : Addr → Prop}
theorem mx_back {D : va_G} {ty : mx_T} {b : Nat} {as : List Nat} {K : Option Value → mx_H → Prop} (hr : va_Run p l e R s m args below meth c H locs cells slots mc ms (F0 m pc ls st0) rest (ct_Q D ty b as K A1 a) free) (hS : va_S A0 H0 H locs) (hA : ∀ q, q < H.size → A1 q → A0 q) (hf : ∀ q, free q → A0 q)
    (kk : ∀ (v v' : Option Value) (h' : mx_H) (as' : List Nat) (ws' : va_W) (H1 : Heap) (locs1 : List Loc), rl_o b as' v v' → as <+: as' → rl_c b as' ty h' ws' → va_P D classes ws' H1 → va_D A1 ws' → K v h' → va_S A0 H0 H1 locs1 → W p l e R s m args below meth c H1 locs1 (cells + mc) (slots + ms) Q (F0 m (pc + 3) ls (v'.toList ++ rest))) : W p l e R s m args below meth c H locs cells slots Q (F0 m pc ls st0) := by
  intro T hT X
  obtain ⟨v0, st₀, t, T', L, h0, X', hL, e1, e2, ⟨⟨v, v', h', as', ws', hv, ho, hpre, hrc, hP, hD, hk⟩, hz, hk2⟩, st⟩ := hr T hT X
  cases hv
  rw [h0] at hz hk2
  obtain ⟨t2, a1, b1⟩ := kk v v0 h' as' ws' T'.heap (locs ++ L) ho hpre hrc (by rw [e1]; exact hP) hD hk
    ⟨Nat.le_trans hS.1 (by rw [e1]; exact hz), fun q h1 h2 => by rw [e1, hk2 q (Nat.lt_of_lt_of_le h1 hS.1) (fun z => h2 (hA q (Nat.lt_of_lt_of_le h1 hS.1) z))]; exact hS.2.1 q h1 h2, fun q hq => by
      rcases List.mem_append.mp hq with h | h
      · exact hS.2.2 q h
      · exact hf _ (hL q h)⟩ T' rfl X'
  exact ⟨t2, st t2 a1, b1⟩
end MC
theorem ct_blind {D : va_G} {ty : mx_T} {ws : va_W} {args' : List Value} {sz : Nat} : FrameBlind (ct_P D ty ws args' sz) := fun a U g mk q => by
  obtain ⟨q0, q1, qP, qK, qD⟩ := q
  exact ⟨q0, q1, qP, mx_K.moved (u := U) (U := U.calling g mk a) (Vm.Alike.refl U.vm) qK, qD⟩
/-- a method by its place in a class's pool; nP its parameters -/
def mx_L (own : String) (idx : Nat) (Y : mx_Y) (nP : Nat) : Prop := Cond.methodLink own idx Y.1 ∈ WS ∧ Cond.initialized Y.1.cls ∈ WS ∧ Cond.code Y.1 Y.2.1 Y.2.2.1 Y.2.2.2.1 ∈ WS ∧ (Y.1.cls ≠ "java/lang/invoke/MethodHandle" ∧ Y.1.cls ≠ "java/lang/invoke/VarHandle" ∧ (parseMethodDescriptor Y.1.desc).map (fun d => d.parameters.length) = some nP) ∧ Y.2.2.1 ≤ 21
theorem ws_in {Y : mx_Y} (h : Cond.code Y.1 Y.2.1 Y.2.2.1 Y.2.2.2.1 ∈ WS) : GoodIn WS (mx_ws Y) := by
  intro w hw
  rcases List.mem_cons.mp hw with rfl | hw
  · exact ⟨h, ws_good _ h⟩
  · exact ⟨hw, ws_good _ hw⟩
section MD
variable {l : Launch} {Y : mx_Y} {sc : mx_S} {k n : Nat} {pc : Nat} {L st : List Value} {h : mx_H} {Q : Option Value → mx_H → Prop}
/-- what stands behind a call, whatever its kind -/
theorem wp_after {k' n' : Nat} {D : va_G} {ty : mx_T} {A : Nat → Prop} {H0 : Heap} {b : Nat} {as0 : List Nat} {mcT msT : Nat} {p : Program} {e : Env} {R : Room} {s : State} {m : MethodId} {args : Array Value} {below : List Frame} {meth : Method} {c : Code} {Z : State → Prop} {as : List Nat} {H : Heap} {locs : List Loc} {ls : Array Slot} {rest st0 : List Value} {cells slots : Nat} {ws : va_W} {a : Array Value}
    (hC : fx_C Y sc D ty A H0 b mcT msT p R s m args meth c)
    (hR : ∀ (as : List Nat) (h' : mx_H) (H : Heap) (locs : List Loc) (pc' : Nat) (ls : Array Slot) (v v' : Option Value), rl_w D ty A H0 b as h' H locs → as0 <+: as → fx_R Y pc' v' → rl_o b as v v' → Q v h' → W p l e R s m args below meth c H locs mcT msT Z (F0 m pc' ls v'.toList))
    (hrc : rl_c b as ty h ws) (hP : va_P D classes ws H) (hD : va_D A ws) (hS : va_S A H0 H locs) (hpre : as0 <+: as) (hl : rl_l b as L ls Y.2.2.1) (hs : rl_s b as st rest) (hk : cells + k ≤ mcT) (hn : slots + n ≤ msT) (hk' : k' ≤ k) (hn' : n' ≤ n)
    (hr : va_Run p l e R s m args below meth c H locs cells slots k' n' (F0 m pc ls st0) rest (ct_Q D ty b as (fun v h' => wp_m l Y sc (k - k') (n - n') (pc + 3) L (mx_pu v st) h' Q) (va_A ws H.size) a) (va_A ws H.size)) :
    W p l e R s m args below meth c H locs cells slots Z (F0 m pc ls st0) := by
  have hA := hC.2.2.2.2.2.2.2.2.2.2.2.2.2.2.1
  have hin : ∀ q, va_A ws H.size q → A q := fun q hq => by
    rcases hq with ⟨i, e, hq⟩ | hq
    · exact hD.2 i _ hq
    · exact hA q (Nat.le_trans hS.1 hq)
  refine mx_back hr hS (fun q _ h => hin q h) hin fun v v' h' as' ws' H1 locs1 ho hp hrc' hP' hD' hw hS' => ?_
  refine hw D ty A H0 b as0 mcT msT p e R s m args below meth c Z hC hR as' H1 locs1 ls _ _ _ ⟨ws', hrc', hP', hD'.weaken (fun _ q _ h => hin q.1 h), hS'⟩ (hpre.trans hp) (hl.up hp) ?_ (by omega) (by omega)
  have hs' := hs.up hp
  match v, v', ho with
  | none, _, rfl => exact hs'
  | some x, _, ⟨x', rfl, hx⟩ => exact ⟨x', rest, rfl, hx, hs'⟩
theorem wp_callV {Y' : mx_Y} {k' n' idx nP a ci : Nat} {As S fs : List Value} {q : vw_C} (hi : decode Y.2.1 pc = .ok (.invokevirtual idx, 3)) (hM : mx_L Y.1.cls idx Y' nP) (hV : Cond.instanceMethod Y'.1 ∈ WS ∧ Cond.selects Y'.1.cls Y'.1 Y'.1 ∈ WS) (hrk : Y'.2.2.2.2 < Y.2.2.2.2) (hst : S = As.reverse ++ .ref a :: st) (hnP : As.length = nP) (ha : h[a]? = some (.inr (ci, fs))) (hc : classes[ci]? = some q) (hq : q.1 = Y'.1.cls) (hcat : (st.map fun v => v.category).sum ≤ 8) (hk' : k' ≤ k) (hn' : n' ≤ n)
    (hct : ct_m l Y' k' n' (.ref a :: As) h (fun v h' => wp_m l Y sc (k - k') (n - n') (pc + 3) L (mx_pu v st) h' Q)) : wp_m l Y sc k n pc L S h Q := by
  intro D ty A H0 b as0 mcT msT p e R s m args below meth c Z hC hR as H locs ls st' cells slots hw hpre hl hs hk hn
  subst hst
  obtain ⟨s1, s2, rfl, hs1, hs2⟩ := hs.split
  obtain ⟨_, rest, rfl, ⟨a', ha', rfl⟩, hs3⟩ := hs2
  obtain ⟨ws, hrc, hP, hD, hS⟩ := id hw
  obtain ⟨c', g1, fs', rfl, g2⟩ := hrc.at ha ha'
  have hts := hC.2.2.2.2.2.2.2.1
  have hK := hC.2.2.2.2.2.2.2.2.1
  have hsr : rl_s b as As s1.reverse := by
    have e1 := hs1.rev
    rwa [List.reverse_reverse] at e1
  obtain ⟨m1, m2, m3, m4, m5⟩ := hM
  have hf := hC.2.2.2.2.2.2.2.2.2.2.1
  have hlo := hC.2.2.2.2.2.2.2.2.2.2.2.1
  have hmc := hC.2.2.2.2.2.2.2.2.2.2.2.2.1
  have hms := hC.2.2.2.2.2.2.2.2.2.2.2.2.2.1
  have cb := callB_of (R := R) (own := Y.1.cls) (index := idx) (y := Y'.1) (bytes := Y'.2.1) (maxL := Y'.2.2.1) (ret := Y'.2.2.2.1) (ws := mx_ws Y') (rm := mx_rm Y' k' n') (mc := k') (ms := n') nP hts (ws_in m3) rfl rfl rfl (hts _ m2) (hts _ m1) m4 ⟨by show Y'.2.2.2.2 + 1 ≤ _; omega, by show 8 + (Y'.2.2.1 + 11) + 40 * Y'.2.2.2.2 ≤ _; omega⟩
  refine wp_after hC hR hrc hP hD hS hpre hl hs3 hk hn hk' hn' (va_runV (C := Y'.1.cls) (As := s1.reverse) (rest := rest) (b := a') ⟨hC.1, hC.2.1, hC.2.2.2.1, hC.2.2.2.2.1, hts⟩ (hct D ty b as ws (.ref a' :: s1.reverse) H.size hC.2.2.2.2.2.2.2.2.2.1 hrc ⟨_, _, rfl, ⟨a', ha', rfl⟩, hsr⟩) ⟨cb, hts _ hV.1, hts _ hV.2⟩ ⟨ct_blind, hq ▸ va_recv hK.1 hP hc g1, fun U hU hW => ⟨rfl, by rw [hU], by rw [hU]; exact hP, hK.moved hW.alike, hD.weaken (fun _ _ _ _ => trivial)⟩⟩ rfl (by rw [List.length_reverse, hs1.len, List.length_reverse]; exact hnP) hl.2.choose_spec.1.1 (by rw [List.reverse_reverse]) (lv_room (by rw [hs3.cat]; exact hcat)) hi ⟨by omega, by omega⟩)
theorem wp_callS {Y' : mx_Y} {k' n' idx nP : Nat} {As S : List Value} (hi : decode Y.2.1 pc = .ok (.invokestatic idx, 3)) (hM : mx_L Y.1.cls idx Y' nP) (hV : Cond.static Y'.1 ∈ WS) (hrk : Y'.2.2.2.2 < Y.2.2.2.2) (hst : S = As.reverse ++ st) (hnP : As.length = nP) (hcat : (st.map fun v => v.category).sum ≤ 8) (hk' : k' ≤ k) (hn' : n' ≤ n)
    (hct : ct_m l Y' k' n' As h (fun v h' => wp_m l Y sc (k - k') (n - n') (pc + 3) L (mx_pu v st) h' Q)) : wp_m l Y sc k n pc L S h Q := by
  intro D ty A H0 b as0 mcT msT p e R s m args below meth c Z hC hR as H locs ls st' cells slots hw hpre hl hs hk hn
  subst hst
  obtain ⟨s1, rest, rfl, hs1, hs3⟩ := hs.split
  obtain ⟨ws, hrc, hP, hD, hS⟩ := id hw
  have hts := hC.2.2.2.2.2.2.2.1
  have hK := hC.2.2.2.2.2.2.2.2.1
  have hsr : rl_s b as As s1.reverse := by
    have e1 := hs1.rev
    rwa [List.reverse_reverse] at e1
  obtain ⟨m1, m2, m3, m4, m5⟩ := hM
  have hf := hC.2.2.2.2.2.2.2.2.2.2.1
  have hlo := hC.2.2.2.2.2.2.2.2.2.2.2.1
  have hmc := hC.2.2.2.2.2.2.2.2.2.2.2.2.1
  have hms := hC.2.2.2.2.2.2.2.2.2.2.2.2.2.1
  have cb := callB_of (R := R) (own := Y.1.cls) (index := idx) (y := Y'.1) (bytes := Y'.2.1) (maxL := Y'.2.2.1) (ret := Y'.2.2.2.1) (ws := mx_ws Y') (rm := mx_rm Y' k' n') (mc := k') (ms := n') nP hts (ws_in m3) rfl rfl rfl (hts _ m2) (hts _ m1) m4 ⟨by show Y'.2.2.2.2 + 1 ≤ _; omega, by show 8 + (Y'.2.2.1 + 11) + 40 * Y'.2.2.2.2 ≤ _; omega⟩
  refine wp_after hC hR hrc hP hD hS hpre hl hs3 hk hn hk' hn' (va_runS (As := s1.reverse) (rest := rest) ⟨hC.1, hC.2.1, hC.2.2.2.1, hC.2.2.2.2.1, hts⟩ (hct D ty b as ws s1.reverse H.size hC.2.2.2.2.2.2.2.2.2.1 hrc hsr) ⟨cb, hts _ hV⟩ ⟨ct_blind, fun U hU hW => ⟨rfl, by rw [hU], by rw [hU]; exact hP, hK.moved hW.alike, hD.weaken (fun _ _ _ _ => trivial)⟩⟩ rfl (by rw [List.length_reverse, hs1.len, List.length_reverse]; exact hnP) hl.2.choose_spec.1.1 (by rw [List.reverse_reverse]) (lv_room (by rw [hs3.cat]; exact hcat)) hi ⟨by omega, by omega⟩)
theorem wp_callI {Y' : mx_Y} {k' n' idx nP a : Nat} {As S : List Value} (hi : decode Y.2.1 pc = .ok (.invokespecial idx, 3)) (hM : mx_L Y.1.cls idx Y' nP) (hV : Cond.instanceMethod Y'.1 ∈ WS ∧ Y'.1.name = "<init>" ∧ Y'.2.2.2.1 = none) (hrk : Y'.2.2.2.2 < Y.2.2.2.2) (hst : S = As.reverse ++ .ref a :: st) (hnP : As.length = nP) (hcat : (st.map fun v => v.category).sum ≤ 8) (hk' : k' ≤ k) (hn' : n' ≤ n)
    (hct : ct_m l Y' k' n' (.ref a :: As) h (fun v h' => wp_m l Y sc (k - k') (n - n') (pc + 3) L (mx_pu v st) h' Q)) : wp_m l Y sc k n pc L S h Q := by
  intro D ty A H0 b as0 mcT msT p e R s m args below meth c Z hC hR as H locs ls st' cells slots hw hpre hl hs hk hn
  subst hst
  obtain ⟨s1, s2, rfl, hs1, hs2⟩ := hs.split
  obtain ⟨_, rest, rfl, ⟨a', ha', rfl⟩, hs3⟩ := hs2
  obtain ⟨ws, hrc, hP, hD, hS⟩ := id hw
  have hts := hC.2.2.2.2.2.2.2.1
  have hK := hC.2.2.2.2.2.2.2.2.1
  have hsr : rl_s b as As s1.reverse := by
    have e1 := hs1.rev
    rwa [List.reverse_reverse] at e1
  obtain ⟨m1, m2, m3, m4, m5⟩ := hM
  have hf := hC.2.2.2.2.2.2.2.2.2.2.1
  have hlo := hC.2.2.2.2.2.2.2.2.2.2.2.1
  have hmc := hC.2.2.2.2.2.2.2.2.2.2.2.2.1
  have hms := hC.2.2.2.2.2.2.2.2.2.2.2.2.2.1
  obtain ⟨v1, v2, v3⟩ := hV
  have hws : mx_ws Y' = Cond.code Y'.1 Y'.2.1 Y'.2.2.1 none :: WS := by unfold mx_ws; rw [v3]
  have cb := callB_of (R := R) (own := Y.1.cls) (index := idx) (y := Y'.1) (bytes := Y'.2.1) (maxL := Y'.2.2.1) (ret := none) (ws := mx_ws Y') (rm := mx_rm Y' k' n') (mc := k') (ms := n') nP hts (ws_in m3) hws rfl rfl (hts _ m2) (hts _ m1) m4 ⟨by show Y'.2.2.2.2 + 1 ≤ _; omega, by show 8 + (Y'.2.2.1 + 11) + 40 * Y'.2.2.2.2 ≤ _; omega⟩
  refine wp_after hC hR hrc hP hD hS hpre hl hs3 hk hn hk' hn' (va_runI (As := s1.reverse) (rest := rest) (b := a') ⟨hC.1, hC.2.1, hC.2.2.2.1, hC.2.2.2.2.1, hts⟩ (hct D ty b as ws (.ref a' :: s1.reverse) H.size hC.2.2.2.2.2.2.2.2.2.1 hrc ⟨_, _, rfl, ⟨a', ha', rfl⟩, hsr⟩) ⟨cb, v2, hts _ v1⟩ ⟨ct_blind, fun U hU hW => ⟨rfl, by rw [hU], by rw [hU]; exact hP, hK.moved hW.alike, hD.weaken (fun _ _ _ _ => trivial)⟩⟩ rfl (by rw [List.length_reverse, hs1.len, List.length_reverse]; exact hnP) hl.2.choose_spec.1.1 (by rw [List.reverse_reverse]) (lv_room (by rw [hs3.cat]; exact hcat)) hi ⟨by omega, by omega⟩)
theorem wp_objInit {idx a : Nat} (hi : decode Y.2.1 pc = .ok (.invokespecial idx, 3)) (hl1 : Cond.methodLink Y.1.cls idx objectInit ∈ WS) (hl2 : Cond.instanceMethod objectInit ∈ WS) (hl3 : Cond.code objectInit ⟨#[0xb1]⟩ 1 none ∈ WS) (hrk : 1 ≤ Y.2.2.2.2) (kk : wp_m l Y sc k n (pc + 3) L [] h Q) : wp_m l Y sc k n pc L [.ref a] h Q := by
  intro D ty A H0 b as0 mcT msT p e R s m args below meth c Z hC hR as H locs ls st' cells slots hw hpre hl hs hk hn
  obtain ⟨_, _, rfl, ⟨a', ha', rfl⟩, hs⟩ := hs
  cases (show _ = [] from hs)
  have hts := hC.2.2.2.2.2.2.2.1
  have hf := hC.2.2.2.2.2.2.2.2.2.2.1
  have hlo := hC.2.2.2.2.2.2.2.2.2.2.2.1
  refine W.objInit hC.1 hC.2.1 hC.2.2.2.2.1 (hts _ hl1) (hts _ hl2) (hts _ hl3) rfl (hl.2.choose_spec.1.1.trans hC.2.2.2.1.symm) rfl hi (by omega) ?_ ?_
  · have e1 : 2 * (F0 m pc ls [.ref a']).monitorRoom + (([] : List Value).map fun v => v.category).sum ≤ 8 := lv_room (by simp)
    omega
  · exact kk D ty A H0 b as0 mcT msT p e R s m args below meth c Z hC hR as H locs ls _ cells slots hw hpre hl rfl hk hn
end MD
