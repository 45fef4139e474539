/-! multianewarray of two dimensions: the outer row, then each inner one, in order -/
def mu_o (c : ClassId) (N q0 i : Nat) : Cell := arrV c N (fun j => if j < i then .ref (q0 + 1 + j) else .null)
def mu_i (c : ClassId) (M : Nat) (v : Value) : Cell := { cls := c, slots := Array.replicate M v, vm := .none }
def mu_s (s : State) (c d : ClassId) (N M : Nat) (v : Value) : Nat → State
  | 0 => s.pushCell (mu_o c N s.heap.size 0)
  | i + 1 => ((mu_s s c d N M v i).pushCell (mu_i d M v)).setCell s.heap.size (mu_o c N s.heap.size (i + 1))
theorem mu_o0 (c : ClassId) (N q0 : Nat) : mu_o c N q0 0 = { cls := c, slots := Array.replicate N .null, vm := .none } := by
  rw [arrV_new]
  unfold mu_o
  congr 1
theorem mu_oS (c : ClassId) (N q0 i : Nat) : (mu_o c N q0 i).setSlot i (.ref (q0 + 1 + i)) = mu_o c N q0 (i + 1) := by
  unfold mu_o
  rw [arrV_store]
  congr 1
  funext j
  unfold updV
  by_cases hj : j = i
  · subst hj
    rw [if_pos rfl, if_pos (Nat.lt_succ_self _)]
  · rw [if_neg hj]
    show (if j < i then Value.ref (q0 + 1 + j) else Value.null) = _
    by_cases h2 : j < i
    · rw [if_pos h2, if_pos (by omega)]
    · rw [if_neg h2, if_neg (by omega)]
theorem mu_oN (c : ClassId) (N q0 i : Nat) : (mu_o c N q0 i).slots.size = N := arrV_size _ _ _
theorem mu_at (s : State) (c d : ClassId) (N M : Nat) (v : Value) : ∀ i, (mu_s s c d N M v i).heap.size = s.heap.size + 1 + i ∧ (mu_s s c d N M v i).heap[s.heap.size]? = some (mu_o c N s.heap.size i) ∧ (mu_s s c d N M v i).vm = s.vm ∧ (mu_s s c d N M v i).slotsUsed = s.slotsUsed + N + i * M
  | 0 => ⟨by simp [mu_s], by simp [mu_s], rfl, by simp [mu_s, mu_oN]⟩
  | i + 1 => by
    obtain ⟨a1, a2, a3, a4⟩ := mu_at s c d N M v i
    have h0 : s.heap.size < (mu_s s c d N M v i).heap.size := by omega
    have h1 : ((mu_s s c d N M v i).pushCell (mu_i d M v)).heap[s.heap.size]? = some (mu_o c N s.heap.size i) := by
      rw [State.heap_pushCell_of_lt (h := h0)]
      exact a2
    refine ⟨?_, State.heap_setCell_self h1, by simp [mu_s, a3], ?_⟩
    · simp [mu_s, State.setCell, a1]
      omega
    · simp [mu_s, a4, mu_i, Nat.succ_mul]
      omega
theorem mu_top (s : State) (f : JFrame) (c d : ClassId) (N M : Nat) (v : Value) : ∀ i, mu_s (s.setTop f) c d N M v i = (mu_s s c d N M v i).setTop f
  | 0 => rfl
  | i + 1 => by simp only [mu_s, mu_top s f c d N M v i, State.heap_setTop, State.pushCell_setTop, State.setCell_setTop]
theorem mu_old (s : State) (c d : ClassId) (N M : Nat) (v : Value) {a : Nat} (ha : a < s.heap.size) : ∀ i, (mu_s s c d N M v i).heap[a]? = s.heap[a]?
  | 0 => State.heap_pushCell_of_lt _ _ ha
  | i + 1 => by
    have h0 := (mu_at s c d N M v i).1
    have h1 : a < (mu_s s c d N M v i).heap.size := by rw [h0]; have ha' : a < Array.size s.heap := ha; omega
    show (((mu_s s c d N M v i).pushCell (mu_i d M v)).setCell s.heap.size _).heap[a]? = _
    rw [State.heap_setCell_other (Nat.ne_of_gt ha), State.heap_pushCell_of_lt (h := h1)]
    exact mu_old s c d N M v ha i
theorem mu_row (s : State) (c d : ClassId) (N M : Nat) (v : Value) : ∀ i j, j < i → (mu_s s c d N M v i).heap[s.heap.size + 1 + j]? = some (mu_i d M v)
  | 0, _, h => absurd h (Nat.not_lt_zero _)
  | i + 1, j, h => by
    have h0 := (mu_at s c d N M v i).1
    show (((mu_s s c d N M v i).pushCell (mu_i d M v)).setCell s.heap.size _).heap[s.heap.size + 1 + j]? = _
    rw [State.heap_setCell_other (show s.heap.size ≠ s.heap.size + 1 + j by omega)]
    by_cases hj : j < i
    · have h5 : s.heap.size + 1 + j < (mu_s s c d N M v i).heap.size := by rw [h0]; omega
      rw [State.heap_pushCell_of_lt (h := h5)]
      exact mu_row s c d N M v i j hj
    · have e : s.heap.size + 1 + j = (mu_s s c d N M v i).heap.size := by omega
      rw [e]
      exact State.heap_pushCell_size _ _
section MU
variable {E : CtlPost} {e : Env} {d : Bool} {acts : List Action} {s : State}
theorem mu_new {c comp : ClassId} {k : Class} {t : FieldType} {len : Nat} {v : Value} (hk : s.vm.classes[c]? = some k) (hkind : k.kind = .array comp t) (h1 : ¬ len > e.platform.arrayLengthLimit) (h2 : ¬ len * componentBytes t > e.platform.maxHeapBytes) (hf : fits t v = true) (hd : v.isDefault = true) {Q : Addr → Pre} (h3 : s.heap.size < e.platform.maxCells) (h4 : s.slotsUsed + len ≤ e.platform.maxSlots)
    (hq : Q s.heap.size d acts (s.pushCell { cls := c, slots := Array.replicate len v, vm := .none })) : Sem.wp (Jvm.newArray c len v) Q E e d acts s := by
  have g1 : ∀ i x, (Array.replicate len v)[i]? = some x → s.fitsSlot c .none i x = true := by
    intro i x hx
    rw [Array.getElem?_replicate] at hx
    by_cases hi : i < len
    · rw [if_pos hi] at hx
      cases hx
      simp [State.fitsSlot, State.slotType?, hk, hkind, hf]
    · rw [if_neg hi] at hx
      cases hx
  have g2 : allocActs (Array.replicate len v) s.heap.size acts = acts := by
    have g3 : ((Array.replicate len v).all (·.isDefault)) = true := by
      rw [Array.all_replicate]
      split <;> simp [hd]
    unfold allocActs
    rw [if_pos g3]
  simp only [Jvm.newArray, Jvm.arrayFits, wp_bind', W.ask, W.ite, h1, if_false, wp_pure', W.theClass, hk, hkind, h2, W.alloc, W.stop, Option.some.injEq, exists_eq_left', Array.size_replicate, g2]
  rw [if_neg (by omega)]
  exact ⟨h3, h4, g1, hq⟩
theorem mu_rf {t : FieldType} (h : t.isReference = true) (v : Value) (hv : v = .null ∨ ∃ a, v = .ref a) : fits t v = true := by
  rcases hv with rfl | ⟨a, rfl⟩ <;> cases t <;> first | rfl | (simp [FieldType.isReference] at h)
theorem mu_make {c dI cc : ClassId} {k kc : Class} {t0 t : FieldType} {n m : Int32} (hk : s.vm.classes[c]? = some k) (hkind : k.kind = .array dI t0) (href : t0.isReference = true) (hkc : s.vm.classes[dI]? = some kc) (hkindc : kc.kind = .array cc t) (hn : ¬ n < 0) (hm : ¬ m < 0)
    (hl1 : ¬ n.toNatClampNeg > e.platform.arrayLengthLimit) (hh1 : ¬ n.toNatClampNeg * componentBytes t0 > e.platform.maxHeapBytes) (hl2 : ¬ m.toNatClampNeg > e.platform.arrayLengthLimit) (hh2 : ¬ m.toNatClampNeg * componentBytes t > e.platform.maxHeapBytes) (hdf : fits t (defaultValue t) = true) (hdd : (defaultValue t).isDefault = true)
    (hc : s.heap.size + 1 + n.toNatClampNeg ≤ e.platform.maxCells) (hs : s.slotsUsed + n.toNatClampNeg + n.toNatClampNeg * m.toNatClampNeg ≤ e.platform.maxSlots)
    {Q : Addr → Pre} (hq : ∀ d' acts', Q s.heap.size d' acts' (mu_s s c dI n.toNatClampNeg m.toNatClampNeg (defaultValue t) n.toNatClampNeg)) : Sem.wp (multianewarray.make c [n, m]) Q E e d acts s := by
  have hfind : ([m].find? (· < 0)) = none := by simp [hm]
  rw [multianewarray.make]
  simp only [wp_bind', W.ite, hn, if_false, wp_pure', W.theClass, hk, hkind, Option.some.injEq, exists_eq_left']
  have hz := Nat.zero_le (n.toNatClampNeg * m.toNatClampNeg)
  refine mu_new hk hkind hl1 hh1 (mu_rf href _ (Or.inl rfl)) rfl (by omega) (by omega) ?_
  rw [← mu_o0 c n.toNatClampNeg s.heap.size]
  simp only [hfind]
  rw [ite_self, wp_bind', Std.Legacy.Range.forIn_eq_forIn_range']
  have hsz : ([:n.toNatClampNeg] : Std.Legacy.Range).size = n.toNatClampNeg := by simp [Std.Legacy.Range.size]
  rw [hsz]
  show Sem.wp (forIn (List.range' 0 n.toNatClampNeg 1) PUnit.unit _) _ E e d acts _
  refine wp_forIn_inv (fun rest s' => ∃ i, i ≤ n.toNatClampNeg ∧ rest = List.range' i (n.toNatClampNeg - i) ∧ s' = mu_s s c dI n.toNatClampNeg m.toNatClampNeg (defaultValue t) i) _ _ ⟨0, Nat.zero_le _, rfl, rfl⟩ ?_ ?_
  · rintro x rest s' d' acts' Q' ⟨i, hi, hl, rfl⟩ hnext
    have hlt : i < n.toNatClampNeg := Nat.lt_of_not_le fun h => by
      rw [show n.toNatClampNeg - i = 0 by omega] at hl
      simp at hl
    have hsp : x :: rest = i :: List.range' (i + 1) (n.toNatClampNeg - (i + 1)) := by
      rw [hl, show n.toNatClampNeg - i = (n.toNatClampNeg - (i + 1)) + 1 by omega, List.range'_succ]
    obtain ⟨rfl, hrest⟩ := List.cons.inj hsp
    obtain ⟨f1, f2, f3, f4⟩ := mu_at s c dI n.toNatClampNeg m.toNatClampNeg (defaultValue t) x
    have hmul : x * m.toNatClampNeg + m.toNatClampNeg ≤ n.toNatClampNeg * m.toNatClampNeg := by
      have h5 := Nat.mul_le_mul_right m.toNatClampNeg (show x + 1 ≤ n.toNatClampNeg from hlt)
      rw [Nat.succ_mul] at h5
      exact h5
    simp only [wp_bind']
    rw [multianewarray.make]
    simp only [wp_bind', W.ite, hm, if_false, wp_pure', W.theClass, f3, hkc, hkindc, Option.some.injEq, exists_eq_left']
    refine mu_new (by rw [f3]; exact hkc) hkindc hl2 hh2 hdf hdd (by omega) (by omega) ?_
    have h0 : s.heap.size < (mu_s s c dI n.toNatClampNeg m.toNatClampNeg (defaultValue t) x).heap.size := by omega
    simp only [wp_bind', W.writeLoc, wp_pure']
    refine ⟨mu_o c n.toNatClampNeg s.heap.size x, by rw [State.heap_pushCell_of_lt (h := h0)]; exact f2, (fun h => by cases h), by rw [mu_oN]; exact hlt, ?_, hnext _ _ _ ⟨x + 1, hlt, hrest, ?_⟩⟩
    · show State.fitsSlot _ c .none x _ = true
      simp [State.fitsSlot, State.slotType?, f3, hk, hkind, mu_rf href _ (Or.inr ⟨_, rfl⟩)]
    · rw [f1, mu_oS]
      rfl
  · rintro s' d' acts' ⟨i, hi, hl, rfl⟩
    have hiN : i = n.toNatClampNeg := by
      by_cases h5 : i < n.toNatClampNeg
      · rw [show n.toNatClampNeg - i = (n.toNatClampNeg - (i + 1)) + 1 by omega, List.range'_succ] at hl
        cases hl
      · omega
    subst hiN
    simp only [wp_pure']
    exact hq _ _
end MU
section MV
variable {p : Program} {l : Launch} {e : Env} {R : Room} {s : State} {m : MethodId} {args : Array Value} {below : List Frame} {meth : Method} {c : Code} {T : State} {locs : List Loc} {cells slots : Nat}
theorem mu_stand (X : Stand p l e R s m args below meth c T locs cells slots) (cA dI : ClassId) (N M : Nat) (v : Value) : ∀ i, Stand p l e R s m args below meth c (mu_s T cA dI N M v i) (locs ++ (List.range i).map fun j => ⟨T.heap.size, j⟩) (cells + 1 + i) (slots + N + i * M)
  | 0 => by
    have h := X.pushed (mu_o cA N T.heap.size 0)
    rw [mu_oN] at h
    simpa [mu_s] using h
  | i + 1 => by
    have Xi := mu_stand X cA dI N M v i
    obtain ⟨f1, f2, f3, f4⟩ := mu_at T cA dI N M v i
    have h0 : T.heap.size < (mu_s T cA dI N M v i).heap.size := by omega
    have hcell : ((mu_s T cA dI N M v i).pushCell (mu_i dI M v)).heap[T.heap.size]? = some (mu_o cA N T.heap.size i) := by
      rw [State.heap_pushCell_of_lt (h := h0)]
      exact f2
    have h := (Xi.pushed (mu_i dI M v)).stored hcell i (.ref (T.heap.size + 1 + i))
    rw [mu_oS] at h
    have e1 : (mu_i dI M v).slots.size = M := by simp [mu_i]
    rw [e1] at h
    have e2 : (locs ++ (List.range (i + 1)).map fun j => (⟨T.heap.size, j⟩ : Loc)) = (locs ++ (List.range i).map fun j => (⟨T.heap.size, j⟩ : Loc)) ++ [⟨T.heap.size, i⟩] := by simp [List.range_succ, List.append_assoc]
    have e3 : slots + N + (i + 1) * M = slots + N + i * M + M := by rw [Nat.succ_mul]; omega
    rw [e2, e3]
    exact h
variable {H : Heap} {Q : State → Prop}
theorem mu_W {cc : ByteArray} (hexec : p.tables.exec = Jvm.exec) (hb : c.code = cc) {own : String} {index : Nat} {cA dI : ClassId} {kA kC : Class} {cC : ClassId} {N M : Nat} (hown : s.vm.findClass own = some m.cls) (hclink : (Cond.classLink own index "[[I").before args s = true) (hfA : s.vm.findClass "[[I" = some cA) (hkA : s.vm.classes[cA]? = some kA) (hkindA : kA.kind = .array dI (.array .int)) (hkC : s.vm.classes[dI]? = some kC) (hkindC : kC.kind = .array cC .int)
    {pc : Nat} {ls : Array Slot} (hdg : decode cc pc = .ok (.multianewarray index 2, 4)) {n k : Int32} {rest : List Value} (hn : ¬ n < 0) (hk : ¬ k < 0) (hN : n.toNatClampNeg = N) (hM : k.toNatClampNeg = M) (hb1 : N ≤ 1000) (hb2 : M ≤ 1000) (hcells : cells + (1 + N) ≤ R.cells) (hslots : slots + (N + N * M) ≤ R.slots)
    (kk : ∀ (H1 : Heap) (L : List Loc), (∀ q ∈ L, q.base = H.size) → H1.size = H.size + 1 + N → (∀ q, q < H.size → H1[q]? = H[q]?) → H1[H.size]? = some (mu_o cA N H.size N) → (∀ j, j < N → H1[H.size + 1 + j]? = some (mu_i dI M (.int 0))) →
      W p l e R s m args below meth c H1 (locs ++ L) (cells + 1 + N) (slots + N + N * M) Q (F0 m (pc + 4) ls (.ref H.size :: rest))) : W p l e R s m args below meth c H locs cells slots Q (F0 m pc ls (.int k :: .int n :: rest)) := by
  intro T hT X
  subst hT; subst hb; subst hN; subst hM
  have hpl : e.platform.magicAccessors = ({} : Platform).magicAccessors := by rw [X.admits.platform]
  obtain ⟨c0, hfc0, hcl⟩ := Cond.classLink_spec hown hclink e.platform hpl
  cases hfA.symm.trans hfc0
  obtain ⟨hg₁, hwarm₁, hready₁⟩ := State.classEntry (e := e) X.warmed hcl
  generalize T.vm.noted m.cls index (.cls cA) = vm₁ at hg₁ hwarm₁ hready₁
  have hal : s.vm.Alike vm₁ := hwarm₁.alike
  obtain ⟨kA₁, hkA₁, heA⟩ := hal.2.2 _ _ hkA
  obtain ⟨kC₁, hkC₁, heC⟩ := hal.2.2 _ _ hkC
  have hkindA₁ : kA₁.kind = .array dI (.array .int) := by rw [heA]; exact hkindA
  have hkindC₁ : kC₁.kind = .array cC .int := by rw [heC]; exact hkindC
  have X₁ := X.noted hwarm₁
  obtain ⟨hr1, hr2⟩ := X.roomAbove hcells hslots
  have XF := mu_stand X₁ cA dI n.toNatClampNeg k.toNatClampNeg (defaultValue .int) n.toNatClampNeg
  obtain ⟨f1, f2, f3, f4⟩ := mu_at (T.setVm vm₁) cA dI n.toNatClampNeg k.toNatClampNeg (defaultValue .int) n.toNatClampNeg
  obtain ⟨t', a1, b1⟩ := kk _ _ (fun q hq => by obtain ⟨j, -, rfl⟩ := List.mem_map.mp hq; rfl) f1 (fun q hq => mu_old (T.setVm vm₁) cA dI _ _ _ hq _) f2 (fun j hj => mu_row (T.setVm vm₁) cA dI _ _ _ _ j hj) _ rfl XF
  refine ⟨t', ?_, b1⟩
  have hl1 : ¬ n.toNatClampNeg > e.platform.arrayLengthLimit := by rw [Launch.admits_arrayLengthLimit X.admits]; omega
  have hh1 : ¬ n.toNatClampNeg * componentBytes (.array .int) > e.platform.maxHeapBytes := by
    rw [Launch.admits_maxHeapBytes X.admits]
    show ¬ n.toNatClampNeg * 4 > 536870912
    omega
  have hl2 : ¬ k.toNatClampNeg > e.platform.arrayLengthLimit := by rw [Launch.admits_arrayLengthLimit X.admits]; omega
  have hh2 : ¬ k.toNatClampNeg * componentBytes .int > e.platform.maxHeapBytes := by
    rw [Launch.admits_maxHeapBytes X.admits]
    show ¬ k.toNatClampNeg * 4 > 536870912
    omega
  jvm_step X.here [hexec, hdg]
  simp only [multianewarray.sem, wp_bind', W.resolveClassAt_links (State.method?_setTop (F0 m pc ls (.int k :: .int n :: rest)) X.here.top) hg₁]
  rw [W.popN, if_neg (by decide)]
  refine ⟨F0 m pc ls (.int k :: .int n :: rest), State.topJava?_setTop' (s := T.setVm vm₁) _ X.here.top, [.int n, .int k], rest, rfl, rfl, ?_⟩
  simp only [List.mapM_cons, List.mapM_nil, wp_bind', wp_pure']
  refine mu_make (k := kA₁) (kc := kC₁) (dI := dI) (cc := cC) (t0 := .array .int) (t := .int) hkA₁ hkindA₁ rfl hkC₁ hkindC₁ hn hk hl1 hh1 hl2 hh2 rfl rfl (by show T.heap.size + 1 + _ ≤ _; omega) (by show T.slotsUsed + _ + _ ≤ _; omega) (fun d' acts' => ?_)
  have eS : ((T.setTop (F0 m pc ls (.int k :: .int n :: rest))).setVm vm₁).setTop (F0 m pc ls rest) = (T.setVm vm₁).setTop (F0 m pc ls rest) := by
    show ((T.setVm vm₁).setTop _).setTop _ = _
    rw [State.setTop_setTop]
  have eT : ({ F0 m pc ls (.int k :: .int n :: rest) with stack := rest } : JFrame) = F0 m pc ls rest := rfl
  rw [eT, eS, mu_top]
  simp only [wp_bind', W.mark, W.pushRef, State.topJava?_setTop' _ XF.here.top, Option.some.injEq, exists_eq_left', State.setTop_setTop, State.heap_setTop]
  intro acts
  simp [jvm, XF.here.top]
  exact a1
end MV
