/-! the mirror: a grid -/
theorem rl_c.app {b : Nat} {as bs : List Nat} {ty : mx_T} {h cs : mx_H} {ws vs : va_W} (hc : rl_c b as ty h ws) (h1 : vs.map (·.1) = bs) (h2 : bs.length = cs.length) (h3 : ∀ (i : Nat) (c : va_E), cs[i]? = some c → ∃ a c', vs[i]? = some (a, c') ∧ rl_e b (as ++ bs) ty c c') : rl_c b (as ++ bs) ty (h ++ cs) (ws ++ vs) := by
  obtain ⟨g1, g2, g3⟩ := hc
  have hl : ws.length = h.length := by rw [← g2, ← g1, List.length_map]
  refine ⟨by rw [List.map_append, g1, h1], by rw [List.length_append, List.length_append, g2, h2], fun j x hx => ?_⟩
  by_cases hj : j < h.length
  · rw [List.getElem?_append_left hj] at hx
    obtain ⟨a1, c1, h4, h5⟩ := g3 j x hx
    exact ⟨a1, c1, by rw [List.getElem?_append_left (by omega)]; exact h4, h5.up (List.prefix_append _ _)⟩
  · rw [List.getElem?_append_right (by omega)] at hx
    obtain ⟨a1, c1, h4, h5⟩ := h3 _ x hx
    exact ⟨a1, c1, by rw [List.getElem?_append_right (by omega), hl]; exact h4, h5⟩
def mu_v (q0 : Nat) (cA dI : ClassId) (N M : Nat) : va_W := (q0, .inl (cA, N, .inr (.inr (.inr (.inr (fun j => if j < N then some (q0 + 1 + j) else none)))))) :: (List.range N).map (fun j => (q0 + 1 + j, .inl (dI, M, .inl (fun _ => 0))))
theorem mu_vat {q0 : Nat} {cA dI : ClassId} {N M : Nat} (k : Nat) (q : Nat × va_E) (h : (mu_v q0 cA dI N M)[k]? = some q) : (k = 0 ∧ q = (q0, .inl (cA, N, .inr (.inr (.inr (.inr (fun j => if j < N then some (q0 + 1 + j) else none))))))) ∨ ∃ j, j < N ∧ k = j + 1 ∧ q = (q0 + 1 + j, .inl (dI, M, .inl (fun _ => 0))) := by
  cases k with
  | zero =>
    unfold mu_v at h
    rw [List.getElem?_cons_zero] at h
    exact Or.inl ⟨rfl, (Option.some.inj h).symm⟩
  | succ j =>
    unfold mu_v at h
    rw [List.getElem?_cons_succ, List.getElem?_map] at h
    cases hj : (List.range N)[j]? with
    | none => rw [hj] at h; cases h
    | some x =>
      rw [hj] at h
      obtain ⟨h1, h2⟩ := List.getElem?_eq_some_iff.mp hj
      rw [List.getElem_range] at h2
      subst h2
      rw [List.length_range] at h1
      exact Or.inr ⟨j, h1, rfl, (Option.some.inj h).symm⟩
def mu_c (q N M : Nat) : mx_H := .inl (3, N, .inr (.inr (.inr (.inr (fun j => if j < N then some (q + 1 + j) else none))))) :: List.replicate N (.inl (0, M, .inl (fun _ => 0)))
section MG
variable {l : Launch} {Y : mx_Y} {sc : mx_S} {k n : Nat} {pc : Nat} {L st : List Value} {h : mx_H} {Q : Option Value → mx_H → Prop}
theorem wp_multi {idx N M : Nat} {i j : Int32} (hi : decode Y.2.1 pc = .ok (.multianewarray idx 2, 4)) (hcl : Cond.classLink Y.1.cls idx "[[I" ∈ WS) (hi0 : ¬ i < 0) (hj0 : ¬ j < 0) (hN : i.toNatClampNeg = N) (hM : j.toNatClampNeg = M) (hb1 : N ≤ 1000) (hb2 : M ≤ 1000) (hk1 : 1 + N ≤ k) (hn1 : N + N * M ≤ n)
    (kk : wp_m l Y sc (k - (1 + N)) (n - (N + N * M)) (pc + 4) L (.ref h.length :: st) (h ++ mu_c h.length N M) Q) : wp_m l Y sc k n pc L (.int j :: .int i :: st) h Q := by
  intro D ty A H0 b as0 mcT msT p e R s m args below meth c Z hC hR as H locs ls st' cells slots hw hpre hl hs hk hn
  obtain ⟨_, _, rfl, rfl, _, _, rfl, rfl, hs⟩ := hs
  obtain ⟨ws, hrc, hP, hD, hS⟩ := id hw
  have hts := hC.2.2.2.2.2.2.2.1
  have hK := hC.2.2.2.2.2.2.2.2.1.1
  obtain ⟨-, qI, qG, kA, x1, x2, x3, x4⟩ := hC.2.2.2.2.2.2.2.2.1.2
  have hty := hC.2.2.2.2.2.2.2.2.2.1
  have hmc := hC.2.2.2.2.2.2.2.2.2.2.2.2.1
  have hms := hC.2.2.2.2.2.2.2.2.2.2.2.2.2.1
  have hA := hC.2.2.2.2.2.2.2.2.2.2.2.2.2.2.1
  obtain ⟨cI, fI⟩ := qI
  obtain ⟨cG, fG⟩ := qG
  have eI : fI = .int := rl_ty hty x1 rfl
  have eG : fG = .array .int := rl_ty hty x2 rfl
  subst eI; subst eG
  obtain ⟨-, kC, hkC, cC, hkindC⟩ := (hK.2 0 _ x1).1 0 (fun _ => .null)
  have hfA : s.vm.findClass "[[I" = some cG := (hK.2 3 _ x2).2
  refine mu_W hC.1 hC.2.1 hC.2.2.2.2.1 (hts _ hcl) hfA x3 x4 hkC hkindC hi hi0 hj0 hN hM hb1 hb2 (by omega) (by omega) fun H1 Lc hLc z1 o1 e1 r1 => ?_
  have hp : as <+: as ++ (H.size :: (List.range N).map (fun j => H.size + 1 + j)) := List.prefix_append _ _
  have hin : ∀ (k : Nat) (q : Nat × va_E), (mu_v H.size cG cI N M)[k]? = some q → H.size ≤ q.1 := fun k q hq => by
    rcases mu_vat k q hq with ⟨-, rfl⟩ | ⟨j, -, -, rfl⟩
    · exact Nat.le_refl _
    · show H.size ≤ H.size + 1 + j
      omega
  have hold : ∀ (k : Nat) (x : Nat × va_E), ws[k]? = some x → H1[x.1]? = H[x.1]? := fun k x hx => o1 x.1 ((hP k x hx).lt)
  have hP1 : va_P D classes (ws ++ mu_v H.size cG cI N M) H1 := (hP.kept hold).app (fun k q hq => by
    rcases mu_vat k q hq with ⟨-, rfl⟩ | ⟨j, hj, -, rfl⟩
    · show H1[H.size]? = some (vp_cell _ _)
      rw [e1, vp_cell_q]
      unfold mu_o
      congr 2
      funext x
      by_cases hx : x < N
      · simp [hx, va_rf]
      · simp [hx, va_rf]
    · show H1[H.size + 1 + j]? = some (vp_cell _ _)
      rw [r1 j hj, vp_cell_i]
      exact congrArg some (arrV_new cI M (.int 0)))
  have hD2 : va_D A (mu_v H.size cG cI N M) := ⟨fun i j x y hx hy hxy => by
    rcases mu_vat i x hx with ⟨rfl, rfl⟩ | ⟨i', hi', rfl, rfl⟩ <;> rcases mu_vat j y hy with ⟨rfl, rfl⟩ | ⟨j', hj', rfl, rfl⟩
    · rfl
    · have hxy' : H.size = H.size + 1 + j' := hxy
      omega
    · have hxy' : H.size + 1 + i' = H.size := hxy
      omega
    · have hxy' : H.size + 1 + i' = H.size + 1 + j' := hxy
      omega, fun k q hq => hA _ (Nat.le_trans hS.1 (hin k q hq))⟩
  have hD1 : va_D A (ws ++ mu_v H.size cG cI N M) := va_D.app hD hD2 (fun i j x y hx hy hxy => by
    have h1 := (hP i x hx).lt
    have h2 := hin j y hy
    omega)
  have hS1 : va_S A H0 H1 (locs ++ Lc) := ⟨Nat.le_trans hS.1 (by omega), fun x h1 h2 => (o1 x (Nat.lt_of_lt_of_le h1 hS.1)).trans (hS.2.1 x h1 h2), fun q hq => by
    rcases List.mem_append.mp hq with h | h
    · exact hS.2.2 q h
    · rw [hLc q h]
      exact hA _ hS.1⟩
  have hrc1 : rl_c b (as ++ (H.size :: (List.range N).map (fun j => H.size + 1 + j))) ty (h ++ mu_c h.length N M) (ws ++ mu_v H.size cG cI N M) := by
    refine hrc.app ?_ (by simp [mu_c]) fun i c hc => ?_
    · unfold mu_v
      simp [List.map_map, Function.comp_def]
    · cases i with
      | zero =>
        unfold mu_c at hc
        rw [List.getElem?_cons_zero] at hc
        cases hc
        refine ⟨_, _, rfl, (cG, .array .int), _, x2, rfl, fun x => ?_⟩
        by_cases hx : x < N
        · show rl_r _ (if x < N then some (h.length + 1 + x) else none) (if x < N then some (H.size + 1 + x) else none)
          rw [if_pos hx, if_pos hx]
          refine ⟨_, ?_, rfl⟩
          rw [List.getElem?_append_right (by rw [hrc.2.1]; omega), hrc.2.1, show h.length + 1 + x - h.length = x + 1 by omega, List.getElem?_cons_succ, List.getElem?_map, List.getElem?_range hx]
          rfl
        · show rl_r _ (if x < N then some (h.length + 1 + x) else none) (if x < N then some (H.size + 1 + x) else none)
          rw [if_neg hx, if_neg hx]
          rfl
      | succ i =>
        unfold mu_c at hc
        rw [List.getElem?_cons_succ, List.getElem?_replicate] at hc
        by_cases hx : i < N
        · rw [if_pos hx] at hc
          cases hc
          refine ⟨H.size + 1 + i, _, ?_, (cI, .int), x1, rfl⟩
          unfold mu_v
          rw [List.getElem?_cons_succ, List.getElem?_map, List.getElem?_range hx]
          rfl
        · rw [if_neg hx] at hc
          cases hc
  exact kk D ty A H0 b as0 mcT msT p e R s m args below meth c Z hC hR _ H1 _ ls _ _ _ ⟨_, hrc1, hP1, hD1, hS1⟩ (hpre.trans hp) (hl.up hp) ⟨_, _, rfl, ⟨H.size, by rw [← hrc.2.1]; simp, rfl⟩, hs.up hp⟩ (by omega) (by omega)
end MG
