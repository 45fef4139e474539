/-! the mirror: cells that are made -/
def mx_z : List Value → Bool
  | [] => true
  | .int _ :: t => mx_z t
  | .null :: t => mx_z t
  | _ => false
theorem rl_z {b : Nat} {as : List Nat} : ∀ {s : List Value}, mx_z s = true → rl_s b as s s
  | [], _ => rfl
  | .int _ :: t, h => ⟨_, t, rfl, rfl, rl_z (s := t) h⟩
  | .null :: t, h => ⟨_, t, rfl, rfl, rl_z (s := t) h⟩
theorem rl_new {as : List Nat} {h : mx_H} {q : Nat} (hl : as.length = h.length) : (as ++ [q])[h.length]? = some q := by
  rw [← hl]
  simp
theorem mx_push {D : va_G} {A : Nat → Prop} {H0 H H1 : Heap} {locs : List Loc} {ws : va_W} {cA : ClassId} {x : vp_A} (hP : va_P D classes ws H) (hD : va_D A ws) (hS : va_S A H0 H locs) (hA : ∀ q, H0.size ≤ q → A q) (z1 : H1.size = H.size + 1) (o1 : ∀ q : Nat, q < H.size → H1[q]? = H[q]?) (e1 : H1[H.size]? = some (vp_cell cA x)) :
    va_P D classes (ws ++ [(H.size, .inl (cA, x))]) H1 ∧ va_D A (ws ++ [(H.size, .inl (cA, x))]) ∧ va_S A H0 H1 locs := by
  have hk : ∀ (k : Nat) (x : Nat × va_E), ws[k]? = some x → H1[x.1]? = H[x.1]? := fun k x hx => o1 x.1 ((hP k x hx).lt)
  refine ⟨(hP.kept hk).app (fun k y hy => ?_), hD.push hP rfl (hA _ hS.1), ⟨Nat.le_trans hS.1 (by omega), fun x h1 h2 => (o1 x (Nat.lt_of_lt_of_le h1 hS.1)).trans (hS.2.1 x h1 h2), hS.2.2⟩⟩
  have hz : k < 1 := (List.getElem?_eq_some_iff.mp hy).1
  rw [show k = 0 by omega] at hy
  cases hy
  exact e1
section MA
variable {l : Launch} {Y : mx_Y} {sc : mx_S} {k n : Nat} {pc : Nat} {L st : List Value} {h : mx_H} {Q : Option Value → mx_H → Prop}
theorem wp_new {idx ci N : Nat} {C : String} {T : u_T} {ty0 : Nat → FieldType} {fs : List Value} (hi : decode Y.2.1 pc = .ok (.new idx, 3)) (hc : classes[ci]? = some (C, T, N)) (hin : ∀ w ∈ u_ws C T N, w ∈ WS) (hty : ∀ k, k < N → parseFieldDescriptor (T k).2.2.1 = some (ty0 k)) (hcl : Cond.classLink Y.1.cls idx C ∈ WS) (hins : Cond.instantiable C N ∈ WS) (hini : Cond.initialized C ∈ WS) (hfs : ∀ j, j < N → defaultValue (ty0 j) = vp_V fs j) (hz : mx_z fs = true) (hk1 : 1 ≤ k) (hn1 : N ≤ n)
    (kk : wp_m l Y sc (k - 1) (n - N) (pc + 3) L (.ref h.length :: st) (h ++ [.inr (ci, fs)]) Q) : wp_m l Y sc k n pc L st h Q := by
  intro D ty A H0 b as0 mcT msT p e R s m args below meth c Z hC hR as H locs ls st' cells slots hw hpre hl hs hk hn
  obtain ⟨ws, hrc, hP, hD, hS⟩ := id hw
  have hts := hC.2.2.2.2.2.2.2.1
  have hK := hC.2.2.2.2.2.2.2.2.1.1
  have hmc := hC.2.2.2.2.2.2.2.2.2.2.2.2.1
  have hms := hC.2.2.2.2.2.2.2.2.2.2.2.2.2.1
  have hA := hC.2.2.2.2.2.2.2.2.2.2.2.2.2.2.1
  refine va_new (fs := fs) hC.1 hC.2.1 hts hin ty0 hty hC.2.2.2.2.1 (hts _ hcl) (hts _ hins) (hts _ hini) hK hP hD hS hA hc hfs (by omega) (by omega) hi (fun q H1 hP1 hD1 hS1 => ?_)
  have hp : as <+: as ++ [q] := List.prefix_append _ _
  exact kk D ty A H0 b as0 mcT msT p e R s m args below meth c Z hC hR (as ++ [q]) H1 locs ls _ (cells + 1) (slots + N) ⟨_, hrc.push ⟨fs, rfl, rl_z hz⟩, hP1, hD1, hS1⟩ (hpre.trans hp) (hl.up hp) ⟨_, _, rfl, ⟨q, rl_new hrc.2.1, rfl⟩, hs.up hp⟩ (by omega) (by omega)
theorem wp_newarray {t N : Nat} {at0 : ArrayType} {i : Int32} (hi : decode Y.2.1 pc = .ok (.newarray at0, 2)) (hT : TY[t]? = some (newarray.typeOf at0)) (hd : defaultValue (newarray.typeOf at0) = .int 0) (hwd : Cond.arrayClass (newarray.typeOf at0) ∈ WS) (hi0 : ¬ i < 0) (hN : i.toNatClampNeg = N) (hb : N * componentBytes (newarray.typeOf at0) ≤ 536870912) (hk1 : 1 ≤ k) (hn1 : N ≤ n)
    (kk : wp_m l Y sc (k - 1) (n - N) (pc + 2) L (.ref h.length :: st) (h ++ [.inl (t, N, .inl (fun _ => 0))]) Q) : wp_m l Y sc k n pc L (.int i :: st) h Q := by
  intro D ty A H0 b as0 mcT msT p e R s m args below meth c Z hC hR as H locs ls st' cells slots hw hpre hl hs hk hn
  obtain ⟨_, _, rfl, rfl, hs⟩ := hs
  obtain ⟨ws, hrc, hP, hD, hS⟩ := id hw
  have hts := hC.2.2.2.2.2.2.2.1
  have hK := hC.2.2.2.2.2.2.2.2.1.1
  have hty := hC.2.2.2.2.2.2.2.2.2.1
  have hmc := hC.2.2.2.2.2.2.2.2.2.2.2.2.1
  have hms := hC.2.2.2.2.2.2.2.2.2.2.2.2.2.1
  have hA := hC.2.2.2.2.2.2.2.2.2.2.2.2.2.2.1
  have ht : ∃ q, ty[t]? = some q ∧ q.2 = newarray.typeOf at0 := by
    rw [← hty, List.getElem?_map] at hT
    cases hq : ty[t]? with
    | none => rw [hq] at hT; cases hT
    | some q => rw [hq] at hT; exact ⟨q, rfl, Option.some.inj hT⟩
  obtain ⟨⟨cQ, fQ⟩, ht1, ht2⟩ := ht
  dsimp only at ht2
  subst ht2
  refine va_newaK hC.1 hC.2.1 (hts _ hwd) rfl hi rfl hi0 hN hb (by omega) (by omega) rfl (fun H1 cA e1 z1 o1 hAr hNm => ?_)
  have hRA : s.vm.findClass ("[" ++ (newarray.typeOf at0).toString) = some cQ := by
    have h2 := (hK.2 t _ ht1).2
    cases at0 <;> exact h2
  cases hNm.symm.trans hRA
  rw [hd] at e1
  obtain ⟨hP1, hD1, hS1⟩ := mx_push (x := (N, .inl (fun _ => 0))) hP hD hS hA z1 o1 e1
  have hp : as <+: as ++ [H.size] := List.prefix_append _ _
  exact kk D ty A H0 b as0 mcT msT p e R s m args below meth c Z hC hR (as ++ [H.size]) H1 locs ls _ (cells + 1) (slots + N) ⟨_, hrc.push ⟨_, ht1, rfl⟩, hP1, hD1, hS1⟩ (hpre.trans hp) (hl.up hp) ⟨_, _, rfl, ⟨_, rl_new hrc.2.1, rfl⟩, hs.up hp⟩ (by omega) (by omega)
theorem wp_anewarray {idx N : Nat} {i : Int32} (hi : decode Y.2.1 pc = .ok (.anewarray idx, 3)) (hT : TY[2]? = some (.object TR)) (hcl : Cond.classLink Y.1.cls idx TR ∈ WS) (hi0 : ¬ i < 0) (hN : i.toNatClampNeg = N) (hb : N * 4 ≤ 536870912) (hk1 : 1 ≤ k) (hn1 : N ≤ n)
    (kk : wp_m l Y sc (k - 1) (n - N) (pc + 3) L (.ref h.length :: st) (h ++ [.inl (2, N, .inr (.inr (.inr (.inr (fun _ => none)))))]) Q) : wp_m l Y sc k n pc L (.int i :: st) h Q := by
  intro D ty A H0 b as0 mcT msT p e R s m args below meth c Z hC hR as H locs ls st' cells slots hw hpre hl hs hk hn
  obtain ⟨_, _, rfl, rfl, hs⟩ := hs
  obtain ⟨ws, hrc, hP, hD, hS⟩ := id hw
  have hts := hC.2.2.2.2.2.2.2.1
  have hK := hC.2.2.2.2.2.2.2.2.1.1
  have hX := hC.2.2.2.2.2.2.2.2.1.2.1
  have hty := hC.2.2.2.2.2.2.2.2.2.1
  have hmc := hC.2.2.2.2.2.2.2.2.2.2.2.2.1
  have hms := hC.2.2.2.2.2.2.2.2.2.2.2.2.2.1
  have hA := hC.2.2.2.2.2.2.2.2.2.2.2.2.2.2.1
  have ht : ∃ q, ty[2]? = some q ∧ q.2 = .object TR := by
    rw [← hty, List.getElem?_map] at hT
    cases hq : ty[2]? with
    | none => rw [hq] at hT; cases hT
    | some q => rw [hq] at hT; exact ⟨q, rfl, Option.some.inj hT⟩
  obtain ⟨⟨cQ, fQ⟩, ht1, ht2⟩ := ht
  dsimp only at ht2
  subst ht2
  subst hN
  refine W.anew hC.1 hC.2.1 hC.2.2.2.2.1 (hts _ hcl) (va_AO.use hX) rfl hi rfl hi0 hb (by omega) (by omega) fun cA kA comp f1 f2 f3 f4 => ?_
  obtain ⟨kA', comp', r1, r2, r3, r4⟩ := (hK.2 2 _ ht1).2
  have ecA : cQ = cA := Option.some.inj (r4.symm.trans f1)
  subst ecA
  generalize hH1 : H.push ({ cls := cQ, slots := Array.replicate i.toNatClampNeg .null, vm := .none } : Cell) = H1
  have z1 : H1.size = H.size + 1 := by rw [← hH1, Array.size_push]
  have e1 : H1[H.size]? = some (vp_cell cQ (i.toNatClampNeg, .inr (.inr (.inr (.inr (fun _ => none)))))) := by rw [← hH1, Array.getElem?_push_size, vp_cell_q]; exact congrArg some (arrV_new cQ _ .null)
  have o1 : ∀ q : Nat, q < H.size → H1[q]? = H[q]? := fun q hq => by rw [← hH1, Array.getElem?_push, if_neg (Nat.ne_of_lt hq)]
  obtain ⟨hP1, hD1, hS1⟩ := mx_push hP hD hS hA z1 o1 e1
  have hp : as <+: as ++ [H.size] := List.prefix_append _ _
  exact kk D ty A H0 b as0 mcT msT p e R s m args below meth c Z hC hR (as ++ [H.size]) H1 locs ls _ (cells + 1) (slots + i.toNatClampNeg) ⟨_, hrc.push ⟨_, _, ht1, rfl, fun _ => rfl⟩, hP1, hD1, hS1⟩ (hpre.trans hp) (hl.up hp) ⟨_, _, rfl, ⟨_, rl_new hrc.2.1, rfl⟩, hs.up hp⟩ (by omega) (by omega)
end MA
