/-! the mirror goes on: fields, arrays, new cells, returns, calls -/
def mx_pu (v : Option Value) (st : List Value) : List Value := match v with
  | none => st
  | some x => x :: st
theorem rl_up {as as' : List Nat} {i a : Nat} (hp : as <+: as') (h : as[i]? = some a) : as'[i]? = some a := by
  obtain ⟨t, rfl⟩ := hp
  rw [List.getElem?_append_left (List.getElem?_eq_some_iff.mp h).1]
  exact h
theorem rl_v.up {b : Nat} {as as' : List Nat} {v v' : Value} (hp : as <+: as') (h : rl_v b as v v') : rl_v b as' v v' := by
  cases v with
  | ref i =>
    obtain ⟨a, h1, h2⟩ := h
    exact ⟨a, rl_up hp h1, h2⟩
  | _ => exact h
theorem rl_s.up {b : Nat} {as as' : List Nat} (hp : as <+: as') : ∀ {s s' : List Value}, rl_s b as s s' → rl_s b as' s s'
  | [], _, h => h
  | _ :: _, _, ⟨v', t', e, h1, h2⟩ => ⟨v', t', e, h1.up hp, rl_s.up hp h2⟩
theorem rl_r.up {as as' : List Nat} {x x' : Option Nat} (hp : as <+: as') (h : rl_r as x x') : rl_r as' x x' := by
  cases x with
  | none => exact h
  | some i =>
    obtain ⟨a, h1, h2⟩ := h
    exact ⟨a, rl_up hp h1, h2⟩
theorem rl_e.up {b : Nat} {as as' : List Nat} {ty : mx_T} {c c' : va_E} (hp : as <+: as') (h : rl_e b as ty c c') : rl_e b as' ty c c' := by
  match c, h with
  | .inr (ci, fs), ⟨fs', e, h1⟩ => exact ⟨fs', e, h1.up hp⟩
  | .inl (t, n, .inl f), h => exact h
  | .inl (t, n, .inr (.inr (.inr (.inr f)))), ⟨q, f', h1, h2, h3⟩ => exact ⟨q, f', h1, h2, fun i => (h3 i).up hp⟩
theorem rl_l.up {b : Nat} {as as' : List Nat} {L : List Value} {ls : Array Slot} {nL : Nat} (hp : as <+: as') (h : rl_l b as L ls nL) : rl_l b as' L ls nL := by
  obtain ⟨h1, lv, h2, h3⟩ := h
  exact ⟨h1, lv, h2, fun i v hv hn => by obtain ⟨v', a1, a2⟩ := h3 i v hv hn; exact ⟨v', a1.up hp, a2⟩⟩
theorem rl_s.at {b : Nat} {as : List Nat} : ∀ {s s' : List Value} {i : Nat} {v : Value}, rl_s b as s s' → s[i]? = some v → ∃ v', s'[i]? = some v' ∧ rl_v b as v v'
  | [], _, i, v, _, hv => by simp at hv
  | x :: t, _, 0, v, ⟨v', t', e, h1, h2⟩, hv => by subst e; simp at hv; subst hv; exact ⟨v', by simp, h1⟩
  | x :: t, _, i + 1, v, ⟨v', t', e, h1, h2⟩, hv => by
    subst e
    obtain ⟨u, a1, a2⟩ := rl_s.at (i := i) h2 (by simpa using hv)
    exact ⟨u, by simpa using a1, a2⟩
theorem rl_s.len {b : Nat} {as : List Nat} : ∀ {s s' : List Value}, rl_s b as s s' → s'.length = s.length
  | [], _, h => by cases (show _ = [] from h); rfl
  | _ :: _, _, ⟨v', t', e, h1, h2⟩ => by subst e; simp [rl_s.len h2]
theorem rl_s.set {b : Nat} {as : List Nat} {v v' : Value} (hv : rl_v b as v v') : ∀ {s s' : List Value} {i : Nat}, rl_s b as s s' → rl_s b as (s.set i v) (s'.set i v')
  | [], _, _, h => by cases (show _ = [] from h); exact rfl
  | x :: t, _, 0, ⟨w', t', e, h1, h2⟩ => by subst e; exact ⟨v', t', rfl, hv, h2⟩
  | x :: t, _, i + 1, ⟨w', t', e, h1, h2⟩ => by subst e; exact ⟨w', t'.set i v', rfl, h1, rl_s.set hv h2⟩
theorem rl_s.app {b : Nat} {as : List Nat} {u u' : List Value} (hu : rl_s b as u u') : ∀ {s s' : List Value}, rl_s b as s s' → rl_s b as (s ++ u) (s' ++ u')
  | [], _, h => by cases (show _ = [] from h); exact hu
  | x :: t, _, ⟨w', t', e, h1, h2⟩ => by subst e; exact ⟨w', t' ++ u', rfl, h1, rl_s.app hu h2⟩
theorem rl_s.split {b : Nat} {as : List Nat} : ∀ {s u r : List Value}, rl_s b as (s ++ u) r → ∃ s' u', r = s' ++ u' ∧ rl_s b as s s' ∧ rl_s b as u u'
  | [], _, r, h => ⟨[], r, rfl, rfl, h⟩
  | x :: t, u, _, ⟨w', t', e, h1, h2⟩ => by
    subst e
    obtain ⟨s', u', e, h3, h4⟩ := rl_s.split (s := t) (u := u) h2
    subst e
    exact ⟨w' :: s', u', rfl, ⟨w', s', rfl, h1, h3⟩, h4⟩
theorem rl_s.rev {b : Nat} {as : List Nat} : ∀ {s s' : List Value}, rl_s b as s s' → rl_s b as s.reverse s'.reverse
  | [], _, h => by cases (show _ = [] from h); exact rfl
  | x :: t, _, ⟨w', t', e, h1, h2⟩ => by
    subst e
    rw [List.reverse_cons, List.reverse_cons]
    exact rl_s.app (u := [x]) (u' := [w']) ⟨w', [], rfl, h1, rfl⟩ (rl_s.rev h2)
theorem rl_s.cat {b : Nat} {as : List Nat} : ∀ {s s' : List Value}, rl_s b as s s' → (s'.map fun v => v.category).sum = (s.map fun v => v.category).sum
  | [], _, h => by cases (show _ = [] from h); rfl
  | x :: t, _, ⟨w', t', e, h1, h2⟩ => by
    subst e
    have hc : w'.category = x.category := by
      cases x <;> first | (obtain ⟨_, _, rfl⟩ := h1; rfl) | (obtain ⟨_, rfl⟩ := h1; rfl) | (cases (show w' = _ from h1); rfl)
    simp [rl_s.cat h2, hc]
theorem rl_c.at {b : Nat} {as : List Nat} {ty : mx_T} {h : mx_H} {ws : va_W} {i a : Nat} {c : va_E} (hc : rl_c b as ty h ws) (hi : h[i]? = some c) (ha : as[i]? = some a) : ∃ c', ws[i]? = some (a, c') ∧ rl_e b as ty c c' := by
  obtain ⟨h1, h2, h3⟩ := hc
  obtain ⟨a', c', h4, h5⟩ := h3 i c hi
  have e : as[i]? = some a' := by rw [← h1, List.getElem?_map, h4]; rfl
  cases ha.symm.trans e
  exact ⟨c', h4, h5⟩
theorem rl_c.set {b : Nat} {as : List Nat} {ty : mx_T} {h : mx_H} {ws : va_W} {i a : Nat} {c c0 c' : va_E} (hc : rl_c b as ty h ws) (hw : ws[i]? = some (a, c0)) (he : rl_e b as ty c c') : rl_c b as ty (h.set i c) (ws.set i (a, c')) := by
  obtain ⟨h1, h2, h3⟩ := hc
  have hlt : i < ws.length := (List.getElem?_eq_some_iff.mp hw).1
  have e : (ws.set i (a, c')).map (·.1) = ws.map (·.1) := by
    apply List.ext_getElem?
    intro j
    rw [List.getElem?_map, List.getElem?_map]
    by_cases hj : j = i
    · subst hj
      rw [List.getElem?_set_self hlt, hw]; rfl
    · rw [List.getElem?_set_ne (Ne.symm hj)]
  refine ⟨by rw [e]; exact h1, by rw [List.length_set]; exact h2, fun j x hx => ?_⟩
  by_cases hj : j = i
  · subst hj
    have hl : j < h.length := by rw [← h2, ← h1, List.length_map]; exact hlt
    rw [List.getElem?_set_self hl] at hx
    cases hx
    exact ⟨a, c', List.getElem?_set_self hlt, he⟩
  · rw [List.getElem?_set_ne (Ne.symm hj)] at hx
    obtain ⟨a1, c1, h4, h5⟩ := h3 j x hx
    exact ⟨a1, c1, by rw [List.getElem?_set_ne (Ne.symm hj)]; exact h4, h5⟩
theorem rl_c.push {b : Nat} {as : List Nat} {ty : mx_T} {h : mx_H} {ws : va_W} {q : Nat} {c c' : va_E} (hc : rl_c b as ty h ws) (he : rl_e b (as ++ [q]) ty c c') : rl_c b (as ++ [q]) ty (h ++ [c]) (ws ++ [(q, c')]) := by
  obtain ⟨h1, h2, h3⟩ := hc
  have hl : ws.length = h.length := by rw [← h2, ← h1, List.length_map]
  refine ⟨by rw [List.map_append, h1]; rfl, by rw [List.length_append, List.length_append, h2]; rfl, fun j x hx => ?_⟩
  by_cases hj : j < h.length
  · rw [List.getElem?_append_left hj] at hx
    obtain ⟨a1, c1, h4, h5⟩ := h3 j x hx
    exact ⟨a1, c1, by rw [List.getElem?_append_left (by omega)]; exact h4, h5.up (List.prefix_append _ _)⟩
  · rw [List.getElem?_append_right (by omega)] at hx
    have hz : j - h.length < 1 := (List.getElem?_eq_some_iff.mp hx).1
    have hj0 : j = h.length := by omega
    subst hj0
    rw [Nat.sub_self] at hx
    cases hx
    exact ⟨q, c', by rw [List.getElem?_append_right (by omega), hl, Nat.sub_self]; rfl, he⟩
theorem rl_ty {ty : mx_T} {t : Nat} {q : ClassId × FieldType} {f : FieldType} (h : ty.map (·.2) = TY) (hq : ty[t]? = some q) (hf : TY[t]? = some f) : q.2 = f := by
  have e : (ty.map (·.2))[t]? = some q.2 := by rw [List.getElem?_map, hq]; rfl
  rw [h, hf] at e
  exact (Option.some.inj e).symm
/-- a field by its place in a class's pool: class number, slot, final, type -/
def mx_F (own : String) (idx ci kf : Nat) (fin : Bool) (ft : FieldType) : Prop := ∃ (C : String) (T : u_T) (N : Nat) (ty0 : Nat → FieldType), classes[ci]? = some (C, T, N) ∧ kf < N ∧ (∀ w ∈ u_ws C T N, w ∈ WS) ∧ (∀ k, k < N → parseFieldDescriptor (T k).2.2.1 = some (ty0 k)) ∧ (∀ a, a < N → ∀ b, b < N → a ≠ b → (T a).2.1 ≠ (T b).2.1) ∧ Cond.fieldLink own idx (T kf).1 (T kf).2.1 (T kf).2.2.1 ∈ WS ∧ (T kf).2.2.2 = fin ∧ parseFieldDescriptor (T kf).2.2.1 = some ft ∧ (T kf).1 = own
theorem mx_refn {t : FieldType} (h : t.isReference = true) (a : Nat) : narrow t (.ref a) = .ref a ∧ fits t (.ref a) = true := by
  cases t <;> first | (exact ⟨rfl, rfl⟩) | (simp [FieldType.isReference] at h)
section MH
variable {l : Launch} {Y : mx_Y} {sc : mx_S} {k n : Nat} {pc : Nat} {L st : List Value} {h : mx_H} {Q : Option Value → mx_H → Prop}
theorem wp_getf {idx ci kf a : Nat} {fin : Bool} {ft : FieldType} {fs : List Value} {v : Value} (hi : decode Y.2.1 pc = .ok (.getfield idx, 3)) (hF : mx_F Y.1.cls idx ci kf fin ft) (ha : h[a]? = some (.inr (ci, fs))) (hv : fs[kf]? = some v) (kk : wp_m l Y sc k n (pc + 3) L (v :: st) h Q) : wp_m l Y sc k n pc L (.ref a :: st) h Q := by
  intro D ty A H0 b as0 mcT msT p e R s m args below meth c Z hC hR as H locs ls st' cells slots hw hpre hl hs hk hn
  obtain ⟨_, _, rfl, ⟨q, hq, rfl⟩, hs⟩ := hs
  obtain ⟨C, T, N, ty0, f1, f2, f3, f4, f5, f6, f7, f8, f9⟩ := hF
  obtain ⟨ws, hrc, hP, hD, hS⟩ := id hw
  obtain ⟨c', g1, fs', rfl, g2⟩ := hrc.at ha hq
  obtain ⟨v', g3, g4⟩ := g2.at hv
  have hts := hC.2.2.2.2.2.2.2.1
  have hK := hC.2.2.2.2.2.2.2.2.1.1
  exact va_get hC.1 hC.2.1 hts f3 hC.2.2.2.2.1 hK hP a g1 f1 kf f2 (hts _ f6) (fun _ h9 => h9) g3 hi (kk D ty A H0 b as0 mcT msT p e R s m args below meth c Z hC hR as H locs ls _ cells slots hw hpre hl ⟨_, _, rfl, g4, hs⟩ hk hn)
theorem wp_putf {idx ci kf a : Nat} {ft : FieldType} {fs : List Value} {v : Value} (hi : decode Y.2.1 pc = .ok (.putfield idx, 3)) (hF : mx_F Y.1.cls idx ci kf false ft) (ha : h[a]? = some (.inr (ci, fs))) (hkf : kf < fs.length) (hv : ∀ (b : Nat) (as : List Nat) (v' : Value), rl_v b as v v' → narrow ft v' = v' ∧ fits ft v' = true) (kk : wp_m l Y sc k n (pc + 3) L st (h.set a (.inr (ci, fs.set kf v))) Q) : wp_m l Y sc k n pc L (v :: .ref a :: st) h Q := by
  intro D ty A H0 b as0 mcT msT p e R s m args below meth c Z hC hR as H locs ls st' cells slots hw hpre hl hs hk hn
  obtain ⟨v', _, rfl, hvv, _, _, rfl, ⟨q, hq, rfl⟩, hs⟩ := hs
  obtain ⟨C, T, N, ty0, f1, f2, f3, f4, f5, f6, f7, f8, f9⟩ := hF
  obtain ⟨ws, hrc, hP, hD, hS⟩ := id hw
  obtain ⟨c', g1, fs', rfl, g2⟩ := hrc.at ha hq
  have hts := hC.2.2.2.2.2.2.2.1
  have hK := hC.2.2.2.2.2.2.2.2.1.1
  exact va_put hC.1 hC.2.1 hts f3 ty0 f4 f5 hC.2.2.2.2.1 hK hP hD hS a g1 f1 kf f2 (hts _ f6) (fun _ h9 => h9) f7 f8 (hv b as v' hvv).1 (hv b as v' hvv).2 (by rw [g2.len]; exact hkf) hi (fun H1 locs1 hP1 hD1 hS1 => kk D ty A H0 b as0 mcT msT p e R s m args below meth c Z hC hR as H1 locs1 ls _ cells slots ⟨_, hrc.set g1 ⟨_, rfl, g2.set hvv⟩, hP1, hD1, hS1⟩ hpre hl hs hk hn)
theorem wp_putF {idx ci kf a : Nat} {ft : FieldType} {fs : List Value} {v : Value} (hi : decode Y.2.1 pc = .ok (.putfield idx, 3)) (hF : mx_F Y.1.cls idx ci kf true ft) (hin : Y.1.name = "<init>") (ha : h[a]? = some (.inr (ci, fs))) (hkf : kf < fs.length) (hv : ∀ (b : Nat) (as : List Nat) (v' : Value), rl_v b as v v' → narrow ft v' = v' ∧ fits ft v' = true) (kk : wp_m l Y sc k n (pc + 3) L st (h.set a (.inr (ci, fs.set kf v))) Q) : wp_m l Y sc k n pc L (v :: .ref a :: st) h Q := by
  intro D ty A H0 b as0 mcT msT p e R s m args below meth c Z hC hR as H locs ls st' cells slots hw hpre hl hs hk hn
  obtain ⟨v', _, rfl, hvv, _, _, rfl, ⟨q, hq, rfl⟩, hs⟩ := hs
  obtain ⟨C, T, N, ty0, f1, f2, f3, f4, f5, f6, f7, f8, f9⟩ := hF
  obtain ⟨ws, hrc, hP, hD, hS⟩ := id hw
  obtain ⟨c', g1, fs', rfl, g2⟩ := hrc.at ha hq
  have hts := hC.2.2.2.2.2.2.2.1
  have hK := hC.2.2.2.2.2.2.2.2.1.1
  exact va_putF hC.1 hC.2.1 hts f3 ty0 f4 f5 hC.2.2.2.2.1 hK hP hD hS a g1 f1 kf f2 (hts _ f6) (fun _ h9 => h9) f7 (hC.2.2.2.2.2.2.1 hin) f9 f8 (hv b as v' hvv).1 (hv b as v' hvv).2 (by rw [g2.len]; exact hkf) hi (fun H1 locs1 hP1 hD1 hS1 => kk D ty A H0 b as0 mcT msT p e R s m args below meth c Z hC hR as H1 locs1 ls _ cells slots ⟨_, hrc.set g1 ⟨_, rfl, g2.set hvv⟩, hP1, hD1, hS1⟩ hpre hl hs hk hn)
theorem pv_int {x : Int32} : ∀ (b : Nat) (as : List Nat) (v' : Value), rl_v b as (.int x) v' → narrow .int v' = v' ∧ fits .int v' = true := fun b as v' h => by
  cases (show v' = _ from h)
  exact ⟨rfl, rfl⟩
theorem pv_0 : ∀ (b : Nat) (as : List Nat) (v' : Value), rl_v b as (.int 0) v' → narrow .boolean v' = v' ∧ fits .boolean v' = true := fun b as v' h => by
  cases (show v' = _ from h)
  exact ⟨rfl, rfl⟩
theorem pv_1 : ∀ (b : Nat) (as : List Nat) (v' : Value), rl_v b as (.int 1) v' → narrow .boolean v' = v' ∧ fits .boolean v' = true := fun b as v' h => by
  cases (show v' = _ from h)
  exact ⟨rfl, rfl⟩
theorem pv_ref {i : Nat} {t : FieldType} (ht : t.isReference = true) : ∀ (b : Nat) (as : List Nat) (v' : Value), rl_v b as (.ref i) v' → narrow t v' = v' ∧ fits t v' = true := fun b as v' h => by
  obtain ⟨a, -, rfl⟩ := h
  exact mx_refn ht a
theorem wp_iaload {a N : Nat} {f : Nat → Int32} {i : Int32} (hi : decode Y.2.1 pc = .ok (.iaload, 1)) (ha : h[a]? = some (.inl (0, N, .inl f))) (hin : vp_in i N) (kk : wp_m l Y sc k n (pc + 1) L (.int (f i.toNatClampNeg) :: st) h Q) : wp_m l Y sc k n pc L (.int i :: .ref a :: st) h Q := by
  intro D ty A H0 b as0 mcT msT p e R s m args below meth c Z hC hR as H locs ls st' cells slots hw hpre hl hs hk hn
  obtain ⟨_, _, rfl, rfl, _, _, rfl, ⟨q, hq, rfl⟩, hs⟩ := hs
  obtain ⟨ws, hrc, hP, hD, hS⟩ := id hw
  obtain ⟨c', g1, ⟨cA, ft⟩, g2, rfl⟩ := hrc.at ha hq
  have hK := hC.2.2.2.2.2.2.2.2.1.1
  have e2 : ft = .int := rl_ty hC.2.2.2.2.2.2.2.2.2.1 g2 rfl
  subst e2
  exact va_iald hC.1 hC.2.1 hK hP a 0 g1 g2 hin hi (kk D ty A H0 b as0 mcT msT p e R s m args below meth c Z hC hR as H locs ls _ cells slots hw hpre hl ⟨_, _, rfl, rfl, hs⟩ hk hn)
theorem wp_baload {a N : Nat} {f : Nat → Int32} {i : Int32} (hi : decode Y.2.1 pc = .ok (.baload, 1)) (ha : h[a]? = some (.inl (1, N, .inl f))) (hin : vp_in i N) (kk : wp_m l Y sc k n (pc + 1) L (.int (f i.toNatClampNeg) :: st) h Q) : wp_m l Y sc k n pc L (.int i :: .ref a :: st) h Q := by
  intro D ty A H0 b as0 mcT msT p e R s m args below meth c Z hC hR as H locs ls st' cells slots hw hpre hl hs hk hn
  obtain ⟨_, _, rfl, rfl, _, _, rfl, ⟨q, hq, rfl⟩, hs⟩ := hs
  obtain ⟨ws, hrc, hP, hD, hS⟩ := id hw
  obtain ⟨c', g1, ⟨cA, ft⟩, g2, rfl⟩ := hrc.at ha hq
  have hK := hC.2.2.2.2.2.2.2.2.1.1
  have e2 : ft = .boolean := rl_ty hC.2.2.2.2.2.2.2.2.2.1 g2 rfl
  subst e2
  exact va_zald hC.1 hC.2.1 hK hP a 1 g1 g2 hin hi (kk D ty A H0 b as0 mcT msT p e R s m args below meth c Z hC hR as H locs ls _ cells slots hw hpre hl ⟨_, _, rfl, rfl, hs⟩ hk hn)
theorem wp_iastore {a N : Nat} {f : Nat → Int32} {i x : Int32} (hi : decode Y.2.1 pc = .ok (.iastore, 1)) (ha : h[a]? = some (.inl (0, N, .inl f))) (hin : vp_in i N) (kk : wp_m l Y sc k n (pc + 1) L st (h.set a (.inl (0, N, .inl (upd f i.toNatClampNeg x)))) Q) : wp_m l Y sc k n pc L (.int x :: .int i :: .ref a :: st) h Q := by
  intro D ty A H0 b as0 mcT msT p e R s m args below meth c Z hC hR as H locs ls st' cells slots hw hpre hl hs hk hn
  obtain ⟨_, _, rfl, rfl, _, _, rfl, rfl, _, _, rfl, ⟨q, hq, rfl⟩, hs⟩ := hs
  obtain ⟨ws, hrc, hP, hD, hS⟩ := id hw
  obtain ⟨c', g1, ⟨cA, ft⟩, g2, rfl⟩ := hrc.at ha hq
  have hK := hC.2.2.2.2.2.2.2.2.1.1
  have e2 : ft = .int := rl_ty hC.2.2.2.2.2.2.2.2.2.1 g2 rfl
  subst e2
  exact va_iast hC.1 hC.2.1 hK hP hD hS a 0 g1 g2 hin hi (fun H1 locs1 hP1 hD1 hS1 => kk D ty A H0 b as0 mcT msT p e R s m args below meth c Z hC hR as H1 locs1 ls _ cells slots ⟨_, hrc.set g1 ⟨_, g2, rfl⟩, hP1, hD1, hS1⟩ hpre hl hs hk hn)
theorem wp_bastore {a N : Nat} {f : Nat → Int32} {i x : Int32} (hi : decode Y.2.1 pc = .ok (.bastore, 1)) (ha : h[a]? = some (.inl (1, N, .inl f))) (hin : vp_in i N) (hx : vp_nar .boolean x = x) (kk : wp_m l Y sc k n (pc + 1) L st (h.set a (.inl (1, N, .inl (upd f i.toNatClampNeg x)))) Q) : wp_m l Y sc k n pc L (.int x :: .int i :: .ref a :: st) h Q := by
  intro D ty A H0 b as0 mcT msT p e R s m args below meth c Z hC hR as H locs ls st' cells slots hw hpre hl hs hk hn
  obtain ⟨_, _, rfl, rfl, _, _, rfl, rfl, _, _, rfl, ⟨q, hq, rfl⟩, hs⟩ := hs
  obtain ⟨ws, hrc, hP, hD, hS⟩ := id hw
  obtain ⟨c', g1, ⟨cA, ft⟩, g2, rfl⟩ := hrc.at ha hq
  have hK := hC.2.2.2.2.2.2.2.2.1.1
  have e2 : ft = .boolean := rl_ty hC.2.2.2.2.2.2.2.2.2.1 g2 rfl
  subst e2
  exact va_zast hC.1 hC.2.1 hK hP hD hS a 1 g1 g2 hin hi (fun H1 locs1 hP1 hD1 hS1 => by
    rw [hx] at hP1 hD1
    exact kk D ty A H0 b as0 mcT msT p e R s m args below meth c Z hC hR as H1 locs1 ls _ cells slots ⟨_, hrc.set g1 ⟨_, g2, rfl⟩, hP1, hD1, hS1⟩ hpre hl hs hk hn)
theorem wp_aaload {a t N j : Nat} {ft : FieldType} {f : Nat → Option Nat} {i : Int32} (hi : decode Y.2.1 pc = .ok (.aaload, 1)) (ha : h[a]? = some (.inl (t, N, .inr (.inr (.inr (.inr f)))))) (hT : TY[t]? = some ft) (hft : ft.isReference = true) (hin : vp_in i N) (hj : f i.toNatClampNeg = some j) (kk : wp_m l Y sc k n (pc + 1) L (.ref j :: st) h Q) : wp_m l Y sc k n pc L (.int i :: .ref a :: st) h Q := by
  intro D ty A H0 b as0 mcT msT p e R s m args below meth c Z hC hR as H locs ls st' cells slots hw hpre hl hs hk hn
  obtain ⟨_, _, rfl, rfl, _, _, rfl, ⟨q, hq, rfl⟩, hs⟩ := hs
  obtain ⟨ws, hrc, hP, hD, hS⟩ := id hw
  obtain ⟨c', g1, ⟨cA, ft2⟩, f', g2, rfl, g3⟩ := hrc.at ha hq
  have hK := hC.2.2.2.2.2.2.2.2.1.1
  have e2 : ft2 = ft := rl_ty hC.2.2.2.2.2.2.2.2.2.1 g2 hT
  subst e2
  have g4 := g3 i.toNatClampNeg
  rw [hj] at g4
  obtain ⟨a', g5, g6⟩ := g4
  have hlt : i.toNatClampNeg < N := Nat.not_le.mp fun q => hin (Or.inr q)
  exact W.aald (v := va_rf (f' i.toNatClampNeg)) (ty := ft2) hC.1 hC.2.1 (hP a _ g1) ((hK.2 t _ g2).1 N (fun j => va_rf (f' j))) hft (fun q => by cases q) (by show ¬ (i < 0 ∨ (arrV _ _ _).slots.size ≤ _); rw [arrV_size]; exact hin) (by show (arrV _ _ _).slots[_]? = _; rw [arrV_read _ _ hlt]) rfl rfl hi (by
    rw [g6]
    exact kk D ty A H0 b as0 mcT msT p e R s m args below meth c Z hC hR as H locs ls _ cells slots hw hpre hl ⟨_, _, rfl, ⟨a', g5, rfl⟩, hs⟩ hk hn)
theorem wp_aastore {a t N j ci : Nat} {r : vw_C} {f : Nat → Option Nat} {i : Int32} {fs : List Value} (hi : decode Y.2.1 pc = .ok (.aastore, 1)) (ha : h[a]? = some (.inl (t, N, .inr (.inr (.inr (.inr f)))))) (hT : TY[t]? = some (.object r.1)) (hin : vp_in i N) (hj : h[j]? = some (.inr (ci, fs))) (hc : classes[ci]? = some r) (kk : wp_m l Y sc k n (pc + 1) L st (h.set a (.inl (t, N, .inr (.inr (.inr (.inr (va_up f i.toNatClampNeg (some j)))))))) Q) : wp_m l Y sc k n pc L (.ref j :: .int i :: .ref a :: st) h Q := by
  intro D ty A H0 b as0 mcT msT p e R s m args below meth c Z hC hR as H locs ls st' cells slots hw hpre hl hs hk hn
  obtain ⟨_, _, rfl, ⟨q2, hq2, rfl⟩, _, _, rfl, rfl, _, _, rfl, ⟨q, hq, rfl⟩, hs⟩ := hs
  obtain ⟨ws, hrc, hP, hD, hS⟩ := id hw
  obtain ⟨c', g1, ⟨cA, ft2⟩, f', g2, rfl, g3⟩ := hrc.at ha hq
  obtain ⟨c2, g7, fs', rfl, g8⟩ := hrc.at hj hq2
  have hK := hC.2.2.2.2.2.2.2.2.1.1
  have e2 : ft2 = .object r.1 := rl_ty hC.2.2.2.2.2.2.2.2.2.1 g2 hT
  subst e2
  exact va_astq hC.1 hC.2.1 hK hP hD hS a t j ci g1 g2 g7 hc hin hi (fun H1 locs1 hP1 hD1 hS1 => kk D ty A H0 b as0 mcT msT p e R s m args below meth c Z hC hR as H1 locs1 ls _ cells slots ⟨_, hrc.set g1 ⟨_, _, g2, rfl, fun x => by
    by_cases hx : x = i.toNatClampNeg
    · subst hx
      simp only [va_up_self]
      exact ⟨q2, hq2, rfl⟩
    · rw [va_up_ne _ _ hx, va_up_ne _ _ hx]
      exact g3 x⟩, hP1, hD1, hS1⟩ hpre hl hs hk hn)
theorem wp_salen {x : Nat × (Nat → Int32)} (hi : decode Y.2.1 pc = .ok (.arraylength, 1)) (kk : wp_m l Y (some x) k n (pc + 1) L (.int (Int32.ofNat x.1) :: st) h Q) : wp_m l Y (some x) k n pc L (.retAddr 1 :: st) h Q := by
  intro D ty A H0 b as0 mcT msT p e R s m args below meth c Z hC hR as H locs ls st' cells slots hw hpre hl hs hk hn
  obtain ⟨_, _, rfl, ⟨-, rfl⟩, hs⟩ := hs
  obtain ⟨ws, hrc, hP, hD, hS⟩ := id hw
  obtain ⟨hX, hb, hA⟩ := hC.2.2.2.2.2.2.2.2.2.2.2.2.2.2.2 x rfl
  exact va_slen hC.1 hC.2.1 hX hb hA hS hi (kk D ty A H0 b as0 mcT msT p e R s m args below meth c Z hC hR as H locs ls _ cells slots hw hpre hl ⟨_, _, rfl, rfl, hs⟩ hk hn)
theorem wp_saload {x : Nat × (Nat → Int32)} {i : Int32} (hi : decode Y.2.1 pc = .ok (.iaload, 1)) (hin : vp_in i x.1) (kk : wp_m l Y (some x) k n (pc + 1) L (.int (x.2 i.toNatClampNeg) :: st) h Q) : wp_m l Y (some x) k n pc L (.int i :: .retAddr 1 :: st) h Q := by
  intro D ty A H0 b as0 mcT msT p e R s m args below meth c Z hC hR as H locs ls st' cells slots hw hpre hl hs hk hn
  obtain ⟨_, _, rfl, rfl, _, _, rfl, ⟨-, rfl⟩, hs⟩ := hs
  obtain ⟨ws, hrc, hP, hD, hS⟩ := id hw
  obtain ⟨hX, hb, hA⟩ := hC.2.2.2.2.2.2.2.2.2.2.2.2.2.2.2 x rfl
  exact va_sld hC.1 hC.2.1 hX hb hA hS hin hi (kk D ty A H0 b as0 mcT msT p e R s m args below meth c Z hC hR as H locs ls _ cells slots hw hpre hl ⟨_, _, rfl, rfl, hs⟩ hk hn)
-- returns
theorem wp_ireturn {x : Int32} {t : FieldType} (hi : decode Y.2.1 pc = .ok (.ireturn, 1)) (ht : Y.2.2.2.1 = some t) (hx : narrow t (.int x) = .int x) (hq : Q (some (.int x)) h) : wp_m l Y sc k n pc L [.int x] h Q := by
  intro D ty A H0 b as0 mcT msT p e R s m args below meth c Z hC hR as H locs ls st' cells slots hw hpre hl hs hk hn
  obtain ⟨_, _, rfl, rfl, hs⟩ := hs
  cases (show _ = [] from hs)
  exact W.widen (by omega) (by omega) (hR as h H locs pc ls (some (.int x)) (some (.int x)) hw hpre ⟨hi, t, ht, hx⟩ ⟨_, rfl, rfl⟩ hq)
theorem wp_return (hi : decode Y.2.1 pc = .ok (.return_, 1)) (ht : Y.2.2.2.1 = none) (hq : Q none h) : wp_m l Y sc k n pc L [] h Q := by
  intro D ty A H0 b as0 mcT msT p e R s m args below meth c Z hC hR as H locs ls st' cells slots hw hpre hl hs hk hn
  cases (show _ = [] from hs)
  exact W.widen (by omega) (by omega) (hR as h H locs pc ls none none hw hpre ⟨hi, ht⟩ rfl hq)
theorem wp_areturn {i : Nat} {t : FieldType} (hi : decode Y.2.1 pc = .ok (.areturn, 1)) (ht : Y.2.2.2.1 = some t) (hr : (∃ n, t = .object n) ∨ ∃ u, t = .array u) (hq : Q (some (.ref i)) h) : wp_m l Y sc k n pc L [.ref i] h Q := by
  intro D ty A H0 b as0 mcT msT p e R s m args below meth c Z hC hR as H locs ls st' cells slots hw hpre hl hs hk hn
  obtain ⟨_, _, rfl, ⟨a, ha, rfl⟩, hs⟩ := hs
  cases (show _ = [] from hs)
  exact W.widen (by omega) (by omega) (hR as h H locs pc ls (some (.ref i)) (some (.ref a)) hw hpre ⟨hi, t, ht, hr, Or.inr ⟨a, rfl⟩⟩ ⟨_, rfl, a, ha, rfl⟩ hq)
theorem wp_areturnN {t : FieldType} (hi : decode Y.2.1 pc = .ok (.areturn, 1)) (ht : Y.2.2.2.1 = some t) (hr : (∃ n, t = .object n) ∨ ∃ u, t = .array u) (hq : Q (some .null) h) : wp_m l Y sc k n pc L [.null] h Q := by
  intro D ty A H0 b as0 mcT msT p e R s m args below meth c Z hC hR as H locs ls st' cells slots hw hpre hl hs hk hn
  obtain ⟨_, _, rfl, rfl, hs⟩ := hs
  cases (show _ = [] from hs)
  exact W.widen (by omega) (by omega) (hR as h H locs pc ls (some .null) (some .null) hw hpre ⟨hi, t, ht, hr, Or.inl rfl⟩ ⟨_, rfl, rfl⟩ hq)
end MH
