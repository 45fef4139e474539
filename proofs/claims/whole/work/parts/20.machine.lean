/-! A mirror of the machine over an abstract heap: cells have numbers (places in a list), values that are references are numbers; the script is .retAddr 1, a local that isn't set .retAddr 0. wp: from such a state the method comes to its return, and there Q holds. ct: the contract of a method. -/
abbrev mx_H : Type := List va_E
abbrev mx_T : Type := List (ClassId × FieldType)
abbrev mx_S : Type := Option (Nat × (Nat → Int32))
def mx_ws (Y : mx_Y) : List Cond := Cond.code Y.1 Y.2.1 Y.2.2.1 Y.2.2.2.1 :: WS
def mx_rm (Y : mx_Y) (k n : Nat) : Room := { frames := Y.2.2.2.2, cells := k, slots := n, locals := 40 * Y.2.2.2.2 }
/-- what is known of the tables: classes, array classes, and the two array classes over others -/
def mx_X (ty : mx_T) (U : State) : Prop := va_AO TR U ∧ ∃ qI qG kA, ty[0]? = some qI ∧ ty[3]? = some qG ∧ U.vm.classes[qG.1]? = some kA ∧ kA.kind = .array qI.1 (.array .int)
def mx_K (D : va_G) (ty : mx_T) (U : State) : Prop := va_K D classes ty U ∧ mx_X ty U
theorem mx_K.moved {D : va_G} {ty : mx_T} {u U : State} (hvm : u.vm.Alike U.vm) (h : mx_K D ty u) : mx_K D ty U := by
  obtain ⟨h1, h2, qI, qG, kA, a1, a2, a3, a4⟩ := h
  obtain ⟨k', hk', he⟩ := hvm.2.2 _ _ a3
  exact ⟨va_K.moved hvm h1, h2.moved hvm, qI, qG, k', a1, a2, hk', by rw [he]; exact a4⟩
def rl_v (b : Nat) (as : List Nat) (v v' : Value) : Prop := match v with
  | .ref i => ∃ a, as[i]? = some a ∧ v' = .ref a
  | .retAddr n => n = 1 ∧ v' = .ref b
  | v => v' = v
def rl_s (b : Nat) (as : List Nat) : List Value → List Value → Prop
  | [], l => l = []
  | v :: t, l => ∃ v' t', l = v' :: t' ∧ rl_v b as v v' ∧ rl_s b as t t'
def rl_r (as : List Nat) (x x' : Option Nat) : Prop := match x with
  | none => x' = none
  | some i => ∃ a, as[i]? = some a ∧ x' = some a
def rl_o (b : Nat) (as : List Nat) (v v' : Option Value) : Prop := match v with
  | none => v' = none
  | some x => ∃ x', v' = some x' ∧ rl_v b as x x'
def rl_e (b : Nat) (as : List Nat) (ty : mx_T) (c c' : va_E) : Prop := match c with
  | .inr (ci, fs) => ∃ fs', c' = .inr (ci, fs') ∧ rl_s b as fs fs'
  | .inl (t, n, .inl f) => ∃ q, ty[t]? = some q ∧ c' = .inl (q.1, n, .inl f)
  | .inl (t, n, .inr (.inr (.inr (.inr f)))) => ∃ q f', ty[t]? = some q ∧ c' = .inl (q.1, n, .inr (.inr (.inr (.inr f')))) ∧ ∀ i, rl_r as (f i) (f' i)
  | _ => False
def rl_c (b : Nat) (as : List Nat) (ty : mx_T) (h : mx_H) (ws : va_W) : Prop := ws.map (·.1) = as ∧ as.length = h.length ∧ ∀ (i : Nat) (c : va_E), h[i]? = some c → ∃ a c', ws[i]? = some (a, c') ∧ rl_e b as ty c c'
def rl_w (D : va_G) (ty : mx_T) (A : Nat → Prop) (H0 : Heap) (b : Nat) (as : List Nat) (h : mx_H) (H : Heap) (locs : List Loc) : Prop := ∃ ws : va_W, rl_c b as ty h ws ∧ va_P D classes ws H ∧ va_D A ws ∧ va_S A H0 H locs
def rl_l (b : Nat) (as : List Nat) (L : List Value) (ls : Array Slot) (nL : Nat) : Prop := L.length = nL ∧ ∃ lv, lv_has ls nL lv ∧ ∀ (i : Nat) (v : Value), L[i]? = some v → v ≠ .retAddr 0 → ∃ v', rl_v b as v v' ∧ (i, v') ∈ lv
def fx_R (Y : mx_Y) (pc : Nat) (v' : Option Value) : Prop := match v' with
  | none => decode Y.2.1 pc = .ok (.return_, 1) ∧ Y.2.2.2.1 = none
  | some (.int x) => decode Y.2.1 pc = .ok (.ireturn, 1) ∧ ∃ t, Y.2.2.2.1 = some t ∧ narrow t (.int x) = .int x
  | some v => decode Y.2.1 pc = .ok (.areturn, 1) ∧ ∃ t, Y.2.2.2.1 = some t ∧ ((∃ n, t = .object n) ∨ ∃ u, t = .array u) ∧ (v = .null ∨ ∃ a, v = .ref a)
def fx_C (Y : mx_Y) (sc : mx_S) (D : va_G) (ty : mx_T) (A : Nat → Prop) (H0 : Heap) (b mcT msT : Nat) (p : Program) (R : Room) (s : State) (m : MethodId) (args : Array Value) (meth : Method) (c : Code) : Prop :=
  p.tables.exec = Jvm.exec ∧ c.code = Y.2.1 ∧ meth.sig.returnType = Y.2.2.2.1 ∧ c.maxLocals = Y.2.2.1 ∧ s.vm.findClass Y.1.cls = some m.cls ∧ meth.locks = false ∧ (Y.1.name = "<init>" → meth.name = "<init>") ∧ (∀ w ∈ WS, w.before args s = true) ∧ mx_K D ty s ∧ ty.map (·.2) = TY ∧ Y.2.2.2.2 ≤ R.frames ∧ 40 * Y.2.2.2.2 ≤ R.locals ∧ mcT ≤ R.cells ∧ msT ≤ R.slots ∧ (∀ q, H0.size ≤ q → A q) ∧ (∀ x, sc = some x → va_X b x.1 x.2 s H0 ∧ b < H0.size ∧ ¬ A b)
/-- from this state of method Y (k cells and n slots may still be made) the method returns, and Q holds of its answer and the heap then -/
def wp_m (l : Launch) (Y : mx_Y) (sc : mx_S) (k n : Nat) (pc : Nat) (L st : List Value) (h : mx_H) (Q : Option Value → mx_H → Prop) : Prop :=
  ∀ (D : va_G) (ty : mx_T) (A : Nat → Prop) (H0 : Heap) (b : Nat) (as0 : List Nat) (mcT msT : Nat) (p : Program) (e : Env) (R : Room) (s : State) (m : MethodId) (args : Array Value) (below : List Frame) (meth : Method) (c : Code) (Z : State → Prop),
    fx_C Y sc D ty A H0 b mcT msT p R s m args meth c →
    (∀ (as : List Nat) (h' : mx_H) (H : Heap) (locs : List Loc) (pc' : Nat) (ls : Array Slot) (v v' : Option Value), rl_w D ty A H0 b as h' H locs → as0 <+: as → fx_R Y pc' v' → rl_o b as v v' → Q v h' → W p l e R s m args below meth c H locs mcT msT Z (F0 m pc' ls v'.toList)) →
    ∀ (as : List Nat) (H : Heap) (locs : List Loc) (ls : Array Slot) (st' : List Value) (cells slots : Nat), rl_w D ty A H0 b as h H locs → as0 <+: as → rl_l b as L ls Y.2.2.1 → rl_s b as st st' → cells + k ≤ mcT → slots + n ≤ msT →
    W p l e R s m args below meth c H locs cells slots Z (F0 m pc ls st')
section MX
variable {l : Launch} {Y : mx_Y} {sc : mx_S} {k n : Nat} {pc : Nat} {L st : List Value} {h : mx_H} {Q : Option Value → mx_H → Prop}

theorem wp_iconst {i : Int} {v : Int32} (hi : decode Y.2.1 pc = .ok (.iconst i, 1)) (hv : Int32.ofInt i = v) (kk : wp_m l Y sc k n (pc + 1) L (.int v :: st) h Q) : wp_m l Y sc k n pc L (st) h Q := by
  intro D ty A H0 b as0 mcT msT p e R s m args below meth c Z hC hR as H locs ls st' cells slots hw hpre hl hs hk hn
  exact lv_iconst hC.1 hC.2.1 hi hv (kk D ty A H0 b as0 mcT msT p e R s m args below meth c Z hC hR as H locs ls _ cells slots hw hpre hl ⟨_, _, rfl, rfl, hs⟩ hk hn)
theorem wp_bipush {i : Int} {v : Int32} (hi : decode Y.2.1 pc = .ok (.bipush i, 2)) (hv : (Int8.ofInt i).toInt32 = v) (kk : wp_m l Y sc k n (pc + 2) L (.int v :: st) h Q) : wp_m l Y sc k n pc L (st) h Q := by
  intro D ty A H0 b as0 mcT msT p e R s m args below meth c Z hC hR as H locs ls st' cells slots hw hpre hl hs hk hn
  exact lv_bipush hC.1 hC.2.1 hi hv (kk D ty A H0 b as0 mcT msT p e R s m args below meth c Z hC hR as H locs ls _ cells slots hw hpre hl ⟨_, _, rfl, rfl, hs⟩ hk hn)
theorem wp_sipush {i : Int} {v : Int32} (hi : decode Y.2.1 pc = .ok (.sipush i, 3)) (hv : (Int16.ofInt i).toInt32 = v) (kk : wp_m l Y sc k n (pc + 3) L (.int v :: st) h Q) : wp_m l Y sc k n pc L (st) h Q := by
  intro D ty A H0 b as0 mcT msT p e R s m args below meth c Z hC hR as H locs ls st' cells slots hw hpre hl hs hk hn
  exact lv_sipush hC.1 hC.2.1 hi hv (kk D ty A H0 b as0 mcT msT p e R s m args below meth c Z hC hR as H locs ls _ cells slots hw hpre hl ⟨_, _, rfl, rfl, hs⟩ hk hn)
theorem wp_null  (hi : decode Y.2.1 pc = .ok (.aconst_null, 1)) (kk : wp_m l Y sc k n (pc + 1) L (.null :: st) h Q) : wp_m l Y sc k n pc L (st) h Q := by
  intro D ty A H0 b as0 mcT msT p e R s m args below meth c Z hC hR as H locs ls st' cells slots hw hpre hl hs hk hn
  exact lv_null hC.1 hC.2.1 hi (kk D ty A H0 b as0 mcT msT p e R s m args below meth c Z hC hR as H locs ls _ cells slots hw hpre hl ⟨_, _, rfl, rfl, hs⟩ hk hn)
theorem wp_iadd {x y : Int32} (hi : decode Y.2.1 pc = .ok (.iadd, 1)) (kk : wp_m l Y sc k n (pc + 1) L (.int (x + y) :: st) h Q) : wp_m l Y sc k n pc L (.int y :: .int x :: st) h Q := by
  intro D ty A H0 b as0 mcT msT p e R s m args below meth c Z hC hR as H locs ls st' cells slots hw hpre hl hs hk hn
  obtain ⟨_, _, rfl, rfl, hs⟩ := hs
  obtain ⟨_, _, rfl, rfl, hs⟩ := hs
  exact lv_iadd hC.1 hC.2.1 hi (kk D ty A H0 b as0 mcT msT p e R s m args below meth c Z hC hR as H locs ls _ cells slots hw hpre hl ⟨_, _, rfl, rfl, hs⟩ hk hn)
theorem wp_isub {x y : Int32} (hi : decode Y.2.1 pc = .ok (.isub, 1)) (kk : wp_m l Y sc k n (pc + 1) L (.int (x - y) :: st) h Q) : wp_m l Y sc k n pc L (.int y :: .int x :: st) h Q := by
  intro D ty A H0 b as0 mcT msT p e R s m args below meth c Z hC hR as H locs ls st' cells slots hw hpre hl hs hk hn
  obtain ⟨_, _, rfl, rfl, hs⟩ := hs
  obtain ⟨_, _, rfl, rfl, hs⟩ := hs
  exact lv_isub hC.1 hC.2.1 hi (kk D ty A H0 b as0 mcT msT p e R s m args below meth c Z hC hR as H locs ls _ cells slots hw hpre hl ⟨_, _, rfl, rfl, hs⟩ hk hn)
theorem wp_imul {x y : Int32} (hi : decode Y.2.1 pc = .ok (.imul, 1)) (kk : wp_m l Y sc k n (pc + 1) L (.int (x * y) :: st) h Q) : wp_m l Y sc k n pc L (.int y :: .int x :: st) h Q := by
  intro D ty A H0 b as0 mcT msT p e R s m args below meth c Z hC hR as H locs ls st' cells slots hw hpre hl hs hk hn
  obtain ⟨_, _, rfl, rfl, hs⟩ := hs
  obtain ⟨_, _, rfl, rfl, hs⟩ := hs
  exact lv_imul hC.1 hC.2.1 hi (kk D ty A H0 b as0 mcT msT p e R s m args below meth c Z hC hR as H locs ls _ cells slots hw hpre hl ⟨_, _, rfl, rfl, hs⟩ hk hn)
theorem wp_iand {x y : Int32} (hi : decode Y.2.1 pc = .ok (.iand, 1)) (kk : wp_m l Y sc k n (pc + 1) L (.int (x &&& y) :: st) h Q) : wp_m l Y sc k n pc L (.int y :: .int x :: st) h Q := by
  intro D ty A H0 b as0 mcT msT p e R s m args below meth c Z hC hR as H locs ls st' cells slots hw hpre hl hs hk hn
  obtain ⟨_, _, rfl, rfl, hs⟩ := hs
  obtain ⟨_, _, rfl, rfl, hs⟩ := hs
  exact lv_iand hC.1 hC.2.1 hi (kk D ty A H0 b as0 mcT msT p e R s m args below meth c Z hC hR as H locs ls _ cells slots hw hpre hl ⟨_, _, rfl, rfl, hs⟩ hk hn)
theorem wp_ior {x y : Int32} (hi : decode Y.2.1 pc = .ok (.ior, 1)) (kk : wp_m l Y sc k n (pc + 1) L (.int (x ||| y) :: st) h Q) : wp_m l Y sc k n pc L (.int y :: .int x :: st) h Q := by
  intro D ty A H0 b as0 mcT msT p e R s m args below meth c Z hC hR as H locs ls st' cells slots hw hpre hl hs hk hn
  obtain ⟨_, _, rfl, rfl, hs⟩ := hs
  obtain ⟨_, _, rfl, rfl, hs⟩ := hs
  exact lv_ior hC.1 hC.2.1 hi (kk D ty A H0 b as0 mcT msT p e R s m args below meth c Z hC hR as H locs ls _ cells slots hw hpre hl ⟨_, _, rfl, rfl, hs⟩ hk hn)
theorem wp_ixor {x y : Int32} (hi : decode Y.2.1 pc = .ok (.ixor, 1)) (kk : wp_m l Y sc k n (pc + 1) L (.int (x ^^^ y) :: st) h Q) : wp_m l Y sc k n pc L (.int y :: .int x :: st) h Q := by
  intro D ty A H0 b as0 mcT msT p e R s m args below meth c Z hC hR as H locs ls st' cells slots hw hpre hl hs hk hn
  obtain ⟨_, _, rfl, rfl, hs⟩ := hs
  obtain ⟨_, _, rfl, rfl, hs⟩ := hs
  exact lv_ixor hC.1 hC.2.1 hi (kk D ty A H0 b as0 mcT msT p e R s m args below meth c Z hC hR as H locs ls _ cells slots hw hpre hl ⟨_, _, rfl, rfl, hs⟩ hk hn)
theorem wp_ishl {x y : Int32} (hi : decode Y.2.1 pc = .ok (.ishl, 1)) (kk : wp_m l Y sc k n (pc + 1) L (.int (x <<< (y &&& 31)) :: st) h Q) : wp_m l Y sc k n pc L (.int y :: .int x :: st) h Q := by
  intro D ty A H0 b as0 mcT msT p e R s m args below meth c Z hC hR as H locs ls st' cells slots hw hpre hl hs hk hn
  obtain ⟨_, _, rfl, rfl, hs⟩ := hs
  obtain ⟨_, _, rfl, rfl, hs⟩ := hs
  exact lv_ishl hC.1 hC.2.1 hi (kk D ty A H0 b as0 mcT msT p e R s m args below meth c Z hC hR as H locs ls _ cells slots hw hpre hl ⟨_, _, rfl, rfl, hs⟩ hk hn)
theorem wp_ishr {x y : Int32} (hi : decode Y.2.1 pc = .ok (.ishr, 1)) (kk : wp_m l Y sc k n (pc + 1) L (.int (x >>> (y &&& 31)) :: st) h Q) : wp_m l Y sc k n pc L (.int y :: .int x :: st) h Q := by
  intro D ty A H0 b as0 mcT msT p e R s m args below meth c Z hC hR as H locs ls st' cells slots hw hpre hl hs hk hn
  obtain ⟨_, _, rfl, rfl, hs⟩ := hs
  obtain ⟨_, _, rfl, rfl, hs⟩ := hs
  exact lv_ishr hC.1 hC.2.1 hi (kk D ty A H0 b as0 mcT msT p e R s m args below meth c Z hC hR as H locs ls _ cells slots hw hpre hl ⟨_, _, rfl, rfl, hs⟩ hk hn)
theorem wp_irem {x y : Int32} (hi : decode Y.2.1 pc = .ok (.irem, 1)) (hy : ¬ y = 0) (kk : wp_m l Y sc k n (pc + 1) L (.int (x - x / y * y) :: st) h Q) : wp_m l Y sc k n pc L (.int y :: .int x :: st) h Q := by
  intro D ty A H0 b as0 mcT msT p e R s m args below meth c Z hC hR as H locs ls st' cells slots hw hpre hl hs hk hn
  obtain ⟨_, _, rfl, rfl, hs⟩ := hs
  obtain ⟨_, _, rfl, rfl, hs⟩ := hs
  exact lv_irem hC.1 hC.2.1 hi hy (kk D ty A H0 b as0 mcT msT p e R s m args below meth c Z hC hR as H locs ls _ cells slots hw hpre hl ⟨_, _, rfl, rfl, hs⟩ hk hn)
theorem wp_idiv {x y : Int32} (hi : decode Y.2.1 pc = .ok (.idiv, 1)) (hy : ¬ y = 0) (kk : wp_m l Y sc k n (pc + 1) L (.int (x / y) :: st) h Q) : wp_m l Y sc k n pc L (.int y :: .int x :: st) h Q := by
  intro D ty A H0 b as0 mcT msT p e R s m args below meth c Z hC hR as H locs ls st' cells slots hw hpre hl hs hk hn
  obtain ⟨_, _, rfl, rfl, hs⟩ := hs
  obtain ⟨_, _, rfl, rfl, hs⟩ := hs
  exact lv_idiv hC.1 hC.2.1 hi hy (kk D ty A H0 b as0 mcT msT p e R s m args below meth c Z hC hR as H locs ls _ cells slots hw hpre hl ⟨_, _, rfl, rfl, hs⟩ hk hn)
theorem wp_ineg {x : Int32} (hi : decode Y.2.1 pc = .ok (.ineg, 1)) (kk : wp_m l Y sc k n (pc + 1) L (.int (-x) :: st) h Q) : wp_m l Y sc k n pc L (.int x :: st) h Q := by
  intro D ty A H0 b as0 mcT msT p e R s m args below meth c Z hC hR as H locs ls st' cells slots hw hpre hl hs hk hn
  obtain ⟨_, _, rfl, rfl, hs⟩ := hs
  exact lv_ineg hC.1 hC.2.1 hi (kk D ty A H0 b as0 mcT msT p e R s m args below meth c Z hC hR as H locs ls _ cells slots hw hpre hl ⟨_, _, rfl, rfl, hs⟩ hk hn)
theorem wp_ladd {x y : Int64} (hi : decode Y.2.1 pc = .ok (.ladd, 1)) (kk : wp_m l Y sc k n (pc + 1) L (.long (x + y) :: st) h Q) : wp_m l Y sc k n pc L (.long y :: .long x :: st) h Q := by
  intro D ty A H0 b as0 mcT msT p e R s m args below meth c Z hC hR as H locs ls st' cells slots hw hpre hl hs hk hn
  obtain ⟨_, _, rfl, rfl, hs⟩ := hs
  obtain ⟨_, _, rfl, rfl, hs⟩ := hs
  exact lv_ladd hC.1 hC.2.1 hi (kk D ty A H0 b as0 mcT msT p e R s m args below meth c Z hC hR as H locs ls _ cells slots hw hpre hl ⟨_, _, rfl, rfl, hs⟩ hk hn)
theorem wp_lsub {x y : Int64} (hi : decode Y.2.1 pc = .ok (.lsub, 1)) (kk : wp_m l Y sc k n (pc + 1) L (.long (x - y) :: st) h Q) : wp_m l Y sc k n pc L (.long y :: .long x :: st) h Q := by
  intro D ty A H0 b as0 mcT msT p e R s m args below meth c Z hC hR as H locs ls st' cells slots hw hpre hl hs hk hn
  obtain ⟨_, _, rfl, rfl, hs⟩ := hs
  obtain ⟨_, _, rfl, rfl, hs⟩ := hs
  exact lv_lsub hC.1 hC.2.1 hi (kk D ty A H0 b as0 mcT msT p e R s m args below meth c Z hC hR as H locs ls _ cells slots hw hpre hl ⟨_, _, rfl, rfl, hs⟩ hk hn)
theorem wp_land {x y : Int64} (hi : decode Y.2.1 pc = .ok (.land, 1)) (kk : wp_m l Y sc k n (pc + 1) L (.long (x &&& y) :: st) h Q) : wp_m l Y sc k n pc L (.long y :: .long x :: st) h Q := by
  intro D ty A H0 b as0 mcT msT p e R s m args below meth c Z hC hR as H locs ls st' cells slots hw hpre hl hs hk hn
  obtain ⟨_, _, rfl, rfl, hs⟩ := hs
  obtain ⟨_, _, rfl, rfl, hs⟩ := hs
  exact lv_land hC.1 hC.2.1 hi (kk D ty A H0 b as0 mcT msT p e R s m args below meth c Z hC hR as H locs ls _ cells slots hw hpre hl ⟨_, _, rfl, rfl, hs⟩ hk hn)
theorem wp_lor {x y : Int64} (hi : decode Y.2.1 pc = .ok (.lor, 1)) (kk : wp_m l Y sc k n (pc + 1) L (.long (x ||| y) :: st) h Q) : wp_m l Y sc k n pc L (.long y :: .long x :: st) h Q := by
  intro D ty A H0 b as0 mcT msT p e R s m args below meth c Z hC hR as H locs ls st' cells slots hw hpre hl hs hk hn
  obtain ⟨_, _, rfl, rfl, hs⟩ := hs
  obtain ⟨_, _, rfl, rfl, hs⟩ := hs
  exact lv_lor hC.1 hC.2.1 hi (kk D ty A H0 b as0 mcT msT p e R s m args below meth c Z hC hR as H locs ls _ cells slots hw hpre hl ⟨_, _, rfl, rfl, hs⟩ hk hn)
theorem wp_i2l {x : Int32} (hi : decode Y.2.1 pc = .ok (.i2l, 1)) (kk : wp_m l Y sc k n (pc + 1) L (.long x.toInt64 :: st) h Q) : wp_m l Y sc k n pc L (.int x :: st) h Q := by
  intro D ty A H0 b as0 mcT msT p e R s m args below meth c Z hC hR as H locs ls st' cells slots hw hpre hl hs hk hn
  obtain ⟨_, _, rfl, rfl, hs⟩ := hs
  exact lv_i2l hC.1 hC.2.1 hi rfl (kk D ty A H0 b as0 mcT msT p e R s m args below meth c Z hC hR as H locs ls _ cells slots hw hpre hl ⟨_, _, rfl, rfl, hs⟩ hk hn)
theorem wp_l2i {x : Int64} (hi : decode Y.2.1 pc = .ok (.l2i, 1)) (kk : wp_m l Y sc k n (pc + 1) L (.int x.toInt32 :: st) h Q) : wp_m l Y sc k n pc L (.long x :: st) h Q := by
  intro D ty A H0 b as0 mcT msT p e R s m args below meth c Z hC hR as H locs ls st' cells slots hw hpre hl hs hk hn
  obtain ⟨_, _, rfl, rfl, hs⟩ := hs
  exact lv_l2i hC.1 hC.2.1 hi rfl (kk D ty A H0 b as0 mcT msT p e R s m args below meth c Z hC hR as H locs ls _ cells slots hw hpre hl ⟨_, _, rfl, rfl, hs⟩ hk hn)
theorem wp_i2b {x : Int32} (hi : decode Y.2.1 pc = .ok (.i2b, 1)) (kk : wp_m l Y sc k n (pc + 1) L (.int x.toInt8.toInt32 :: st) h Q) : wp_m l Y sc k n pc L (.int x :: st) h Q := by
  intro D ty A H0 b as0 mcT msT p e R s m args below meth c Z hC hR as H locs ls st' cells slots hw hpre hl hs hk hn
  obtain ⟨_, _, rfl, rfl, hs⟩ := hs
  exact lv_i2b hC.1 hC.2.1 hi rfl (kk D ty A H0 b as0 mcT msT p e R s m args below meth c Z hC hR as H locs ls _ cells slots hw hpre hl ⟨_, _, rfl, rfl, hs⟩ hk hn)
theorem wp_lshr {x : Int64} {y : Int32} (hi : decode Y.2.1 pc = .ok (.lshr, 1)) (kk : wp_m l Y sc k n (pc + 1) L (.long (x >>> (y.toInt64 &&& 63)) :: st) h Q) : wp_m l Y sc k n pc L (.int y :: .long x :: st) h Q := by
  intro D ty A H0 b as0 mcT msT p e R s m args below meth c Z hC hR as H locs ls st' cells slots hw hpre hl hs hk hn
  obtain ⟨_, _, rfl, rfl, hs⟩ := hs
  obtain ⟨_, _, rfl, rfl, hs⟩ := hs
  exact lv_lshr hC.1 hC.2.1 hi rfl (kk D ty A H0 b as0 mcT msT p e R s m args below meth c Z hC hR as H locs ls _ cells slots hw hpre hl ⟨_, _, rfl, rfl, hs⟩ hk hn)
theorem wp_lshl {x : Int64} {y : Int32} (hi : decode Y.2.1 pc = .ok (.lshl, 1)) (kk : wp_m l Y sc k n (pc + 1) L (.long (x <<< (y.toInt64 &&& 63)) :: st) h Q) : wp_m l Y sc k n pc L (.int y :: .long x :: st) h Q := by
  intro D ty A H0 b as0 mcT msT p e R s m args below meth c Z hC hR as H locs ls st' cells slots hw hpre hl hs hk hn
  obtain ⟨_, _, rfl, rfl, hs⟩ := hs
  obtain ⟨_, _, rfl, rfl, hs⟩ := hs
  exact lv_lshl hC.1 hC.2.1 hi rfl (kk D ty A H0 b as0 mcT msT p e R s m args below meth c Z hC hR as H locs ls _ cells slots hw hpre hl ⟨_, _, rfl, rfl, hs⟩ hk hn)
theorem rl_cat {b : Nat} {as : List Nat} {v v' : Value} (h : rl_v b as v v') (hc : v.category = 1) : v'.category = 1 := by
  cases v <;> first | (obtain ⟨_, _, rfl⟩ := h; rfl) | (obtain ⟨_, rfl⟩ := h; rfl) | (cases (show v' = _ from h); exact hc)
theorem wp_dup {v : Value} (hi : decode Y.2.1 pc = .ok (.dup, 1)) (kk : wp_m l Y sc k n (pc + 1) L (v :: v :: st) h Q) (hv : v.category = 1 := by first | rfl | assumption) : wp_m l Y sc k n pc L (v :: st) h Q := by
  intro D ty A H0 b as0 mcT msT p e R s m args below meth c Z hC hR as H locs ls st' cells slots hw hpre hl hs hk hn
  obtain ⟨x, t, rfl, hx, hs⟩ := hs
  exact lv_dup hC.1 hC.2.1 hi (rl_cat hx hv) (kk D ty A H0 b as0 mcT msT p e R s m args below meth c Z hC hR as H locs ls _ cells slots hw hpre hl ⟨_, _, rfl, hx, _, _, rfl, hx, hs⟩ hk hn)
theorem wp_pop {v : Value} (hi : decode Y.2.1 pc = .ok (.pop, 1)) (kk : wp_m l Y sc k n (pc + 1) L st h Q) (hv : v.category = 1 := by first | rfl | assumption) : wp_m l Y sc k n pc L (v :: st) h Q := by
  intro D ty A H0 b as0 mcT msT p e R s m args below meth c Z hC hR as H locs ls st' cells slots hw hpre hl hs hk hn
  obtain ⟨x, t, rfl, hx, hs⟩ := hs
  exact lv_pop hC.1 hC.2.1 hi (rl_cat hx hv) (kk D ty A H0 b as0 mcT msT p e R s m args below meth c Z hC hR as H locs ls _ cells slots hw hpre hl hs hk hn)
theorem wp_dup2 {v u : Value} (hi : decode Y.2.1 pc = .ok (.dup2, 1)) (kk : wp_m l Y sc k n (pc + 1) L (v :: u :: v :: u :: st) h Q) (hv : v.category = 1 := by first | rfl | assumption) (hu : u.category = 1 := by first | rfl | assumption) : wp_m l Y sc k n pc L (v :: u :: st) h Q := by
  intro D ty A H0 b as0 mcT msT p e R s m args below meth c Z hC hR as H locs ls st' cells slots hw hpre hl hs hk hn
  obtain ⟨x, t, rfl, hx, z, t2, rfl, hz, hs⟩ := hs
  exact lv_dup2_11 hC.1 hC.2.1 hi (rl_cat hx hv) (rl_cat hz hu) (kk D ty A H0 b as0 mcT msT p e R s m args below meth c Z hC hR as H locs ls _ cells slots hw hpre hl ⟨_, _, rfl, hx, _, _, rfl, hz, _, _, rfl, hx, _, _, rfl, hz, hs⟩ hk hn)
theorem wp_dup_x1 {v u : Value} (hi : decode Y.2.1 pc = .ok (.dup_x1, 1)) (kk : wp_m l Y sc k n (pc + 1) L (v :: u :: v :: st) h Q) (hv : v.category = 1 := by first | rfl | assumption) (hu : u.category = 1 := by first | rfl | assumption) : wp_m l Y sc k n pc L (v :: u :: st) h Q := by
  intro D ty A H0 b as0 mcT msT p e R s m args below meth c Z hC hR as H locs ls st' cells slots hw hpre hl hs hk hn
  obtain ⟨x, t, rfl, hx, z, t2, rfl, hz, hs⟩ := hs
  exact lv_dup_x1 hC.1 hC.2.1 hi (rl_cat hx hv) (rl_cat hz hu) (kk D ty A H0 b as0 mcT msT p e R s m args below meth c Z hC hR as H locs ls _ cells slots hw hpre hl ⟨_, _, rfl, hx, _, _, rfl, hz, _, _, rfl, hx, hs⟩ hk hn)
theorem wp_if_eq {x : Int32} {off : Int} {t : Nat} (hi : decode Y.2.1 pc = .ok (.ifCond .eq off, 3)) (ht : (pc : Int) + off = (t : Int)) (kt : x = 0 → wp_m l Y sc k n t L st h Q) (kf : ¬ x = 0 → wp_m l Y sc k n (pc + 3) L st h Q) : wp_m l Y sc k n pc L (.int x :: st) h Q := by
  intro D ty A H0 b as0 mcT msT p e R s m args below meth c Z hC hR as H locs ls st' cells slots hw hpre hl hs hk hn
  obtain ⟨_, _, rfl, rfl, hs⟩ := hs
  exact lv_if_eq hC.1 hC.2.1 hi ht (fun q => kt q D ty A H0 b as0 mcT msT p e R s m args below meth c Z hC hR as H locs ls _ cells slots hw hpre hl hs hk hn) (fun q => kf q D ty A H0 b as0 mcT msT p e R s m args below meth c Z hC hR as H locs ls _ cells slots hw hpre hl hs hk hn)
theorem wp_ic_eq {x y : Int32} {off : Int} {t : Nat} (hi : decode Y.2.1 pc = .ok (.if_icmp .eq off, 3)) (ht : (pc : Int) + off = (t : Int)) (kt : x = y → wp_m l Y sc k n t L st h Q) (kf : ¬ x = y → wp_m l Y sc k n (pc + 3) L st h Q) : wp_m l Y sc k n pc L (.int y :: .int x :: st) h Q := by
  intro D ty A H0 b as0 mcT msT p e R s m args below meth c Z hC hR as H locs ls st' cells slots hw hpre hl hs hk hn
  obtain ⟨_, _, rfl, rfl, hs⟩ := hs
  obtain ⟨_, _, rfl, rfl, hs⟩ := hs
  exact lv_icmp_eq hC.1 hC.2.1 hi ht (fun q => kt q D ty A H0 b as0 mcT msT p e R s m args below meth c Z hC hR as H locs ls _ cells slots hw hpre hl hs hk hn) (fun q => kf q D ty A H0 b as0 mcT msT p e R s m args below meth c Z hC hR as H locs ls _ cells slots hw hpre hl hs hk hn)
theorem wp_if_ne {x : Int32} {off : Int} {t : Nat} (hi : decode Y.2.1 pc = .ok (.ifCond .ne off, 3)) (ht : (pc : Int) + off = (t : Int)) (kt : ¬ x = 0 → wp_m l Y sc k n t L st h Q) (kf : x = 0 → wp_m l Y sc k n (pc + 3) L st h Q) : wp_m l Y sc k n pc L (.int x :: st) h Q := by
  intro D ty A H0 b as0 mcT msT p e R s m args below meth c Z hC hR as H locs ls st' cells slots hw hpre hl hs hk hn
  obtain ⟨_, _, rfl, rfl, hs⟩ := hs
  exact lv_if_ne hC.1 hC.2.1 hi ht (fun q => kt q D ty A H0 b as0 mcT msT p e R s m args below meth c Z hC hR as H locs ls _ cells slots hw hpre hl hs hk hn) (fun q => kf q D ty A H0 b as0 mcT msT p e R s m args below meth c Z hC hR as H locs ls _ cells slots hw hpre hl hs hk hn)
theorem wp_ic_ne {x y : Int32} {off : Int} {t : Nat} (hi : decode Y.2.1 pc = .ok (.if_icmp .ne off, 3)) (ht : (pc : Int) + off = (t : Int)) (kt : ¬ x = y → wp_m l Y sc k n t L st h Q) (kf : x = y → wp_m l Y sc k n (pc + 3) L st h Q) : wp_m l Y sc k n pc L (.int y :: .int x :: st) h Q := by
  intro D ty A H0 b as0 mcT msT p e R s m args below meth c Z hC hR as H locs ls st' cells slots hw hpre hl hs hk hn
  obtain ⟨_, _, rfl, rfl, hs⟩ := hs
  obtain ⟨_, _, rfl, rfl, hs⟩ := hs
  exact lv_icmp_ne hC.1 hC.2.1 hi ht (fun q => kt q D ty A H0 b as0 mcT msT p e R s m args below meth c Z hC hR as H locs ls _ cells slots hw hpre hl hs hk hn) (fun q => kf q D ty A H0 b as0 mcT msT p e R s m args below meth c Z hC hR as H locs ls _ cells slots hw hpre hl hs hk hn)
theorem wp_if_lt {x : Int32} {off : Int} {t : Nat} (hi : decode Y.2.1 pc = .ok (.ifCond .lt off, 3)) (ht : (pc : Int) + off = (t : Int)) (kt : x < 0 → wp_m l Y sc k n t L st h Q) (kf : ¬ x < 0 → wp_m l Y sc k n (pc + 3) L st h Q) : wp_m l Y sc k n pc L (.int x :: st) h Q := by
  intro D ty A H0 b as0 mcT msT p e R s m args below meth c Z hC hR as H locs ls st' cells slots hw hpre hl hs hk hn
  obtain ⟨_, _, rfl, rfl, hs⟩ := hs
  exact lv_if_lt hC.1 hC.2.1 hi ht (fun q => kt q D ty A H0 b as0 mcT msT p e R s m args below meth c Z hC hR as H locs ls _ cells slots hw hpre hl hs hk hn) (fun q => kf q D ty A H0 b as0 mcT msT p e R s m args below meth c Z hC hR as H locs ls _ cells slots hw hpre hl hs hk hn)
theorem wp_ic_lt {x y : Int32} {off : Int} {t : Nat} (hi : decode Y.2.1 pc = .ok (.if_icmp .lt off, 3)) (ht : (pc : Int) + off = (t : Int)) (kt : x < y → wp_m l Y sc k n t L st h Q) (kf : ¬ x < y → wp_m l Y sc k n (pc + 3) L st h Q) : wp_m l Y sc k n pc L (.int y :: .int x :: st) h Q := by
  intro D ty A H0 b as0 mcT msT p e R s m args below meth c Z hC hR as H locs ls st' cells slots hw hpre hl hs hk hn
  obtain ⟨_, _, rfl, rfl, hs⟩ := hs
  obtain ⟨_, _, rfl, rfl, hs⟩ := hs
  exact lv_icmp_lt hC.1 hC.2.1 hi ht (fun q => kt q D ty A H0 b as0 mcT msT p e R s m args below meth c Z hC hR as H locs ls _ cells slots hw hpre hl hs hk hn) (fun q => kf q D ty A H0 b as0 mcT msT p e R s m args below meth c Z hC hR as H locs ls _ cells slots hw hpre hl hs hk hn)
theorem wp_if_ge {x : Int32} {off : Int} {t : Nat} (hi : decode Y.2.1 pc = .ok (.ifCond .ge off, 3)) (ht : (pc : Int) + off = (t : Int)) (kt : 0 ≤ x → wp_m l Y sc k n t L st h Q) (kf : ¬ 0 ≤ x → wp_m l Y sc k n (pc + 3) L st h Q) : wp_m l Y sc k n pc L (.int x :: st) h Q := by
  intro D ty A H0 b as0 mcT msT p e R s m args below meth c Z hC hR as H locs ls st' cells slots hw hpre hl hs hk hn
  obtain ⟨_, _, rfl, rfl, hs⟩ := hs
  exact lv_if_ge hC.1 hC.2.1 hi ht (fun q => kt q D ty A H0 b as0 mcT msT p e R s m args below meth c Z hC hR as H locs ls _ cells slots hw hpre hl hs hk hn) (fun q => kf q D ty A H0 b as0 mcT msT p e R s m args below meth c Z hC hR as H locs ls _ cells slots hw hpre hl hs hk hn)
theorem wp_ic_ge {x y : Int32} {off : Int} {t : Nat} (hi : decode Y.2.1 pc = .ok (.if_icmp .ge off, 3)) (ht : (pc : Int) + off = (t : Int)) (kt : y ≤ x → wp_m l Y sc k n t L st h Q) (kf : ¬ y ≤ x → wp_m l Y sc k n (pc + 3) L st h Q) : wp_m l Y sc k n pc L (.int y :: .int x :: st) h Q := by
  intro D ty A H0 b as0 mcT msT p e R s m args below meth c Z hC hR as H locs ls st' cells slots hw hpre hl hs hk hn
  obtain ⟨_, _, rfl, rfl, hs⟩ := hs
  obtain ⟨_, _, rfl, rfl, hs⟩ := hs
  exact lv_icmp_ge hC.1 hC.2.1 hi ht (fun q => kt q D ty A H0 b as0 mcT msT p e R s m args below meth c Z hC hR as H locs ls _ cells slots hw hpre hl hs hk hn) (fun q => kf q D ty A H0 b as0 mcT msT p e R s m args below meth c Z hC hR as H locs ls _ cells slots hw hpre hl hs hk hn)
theorem wp_if_gt {x : Int32} {off : Int} {t : Nat} (hi : decode Y.2.1 pc = .ok (.ifCond .gt off, 3)) (ht : (pc : Int) + off = (t : Int)) (kt : 0 < x → wp_m l Y sc k n t L st h Q) (kf : ¬ 0 < x → wp_m l Y sc k n (pc + 3) L st h Q) : wp_m l Y sc k n pc L (.int x :: st) h Q := by
  intro D ty A H0 b as0 mcT msT p e R s m args below meth c Z hC hR as H locs ls st' cells slots hw hpre hl hs hk hn
  obtain ⟨_, _, rfl, rfl, hs⟩ := hs
  exact lv_if_gt hC.1 hC.2.1 hi ht (fun q => kt q D ty A H0 b as0 mcT msT p e R s m args below meth c Z hC hR as H locs ls _ cells slots hw hpre hl hs hk hn) (fun q => kf q D ty A H0 b as0 mcT msT p e R s m args below meth c Z hC hR as H locs ls _ cells slots hw hpre hl hs hk hn)
theorem wp_ic_gt {x y : Int32} {off : Int} {t : Nat} (hi : decode Y.2.1 pc = .ok (.if_icmp .gt off, 3)) (ht : (pc : Int) + off = (t : Int)) (kt : y < x → wp_m l Y sc k n t L st h Q) (kf : ¬ y < x → wp_m l Y sc k n (pc + 3) L st h Q) : wp_m l Y sc k n pc L (.int y :: .int x :: st) h Q := by
  intro D ty A H0 b as0 mcT msT p e R s m args below meth c Z hC hR as H locs ls st' cells slots hw hpre hl hs hk hn
  obtain ⟨_, _, rfl, rfl, hs⟩ := hs
  obtain ⟨_, _, rfl, rfl, hs⟩ := hs
  exact lv_icmp_gt hC.1 hC.2.1 hi ht (fun q => kt q D ty A H0 b as0 mcT msT p e R s m args below meth c Z hC hR as H locs ls _ cells slots hw hpre hl hs hk hn) (fun q => kf q D ty A H0 b as0 mcT msT p e R s m args below meth c Z hC hR as H locs ls _ cells slots hw hpre hl hs hk hn)
theorem wp_if_le {x : Int32} {off : Int} {t : Nat} (hi : decode Y.2.1 pc = .ok (.ifCond .le off, 3)) (ht : (pc : Int) + off = (t : Int)) (kt : x ≤ 0 → wp_m l Y sc k n t L st h Q) (kf : ¬ x ≤ 0 → wp_m l Y sc k n (pc + 3) L st h Q) : wp_m l Y sc k n pc L (.int x :: st) h Q := by
  intro D ty A H0 b as0 mcT msT p e R s m args below meth c Z hC hR as H locs ls st' cells slots hw hpre hl hs hk hn
  obtain ⟨_, _, rfl, rfl, hs⟩ := hs
  exact lv_if_le hC.1 hC.2.1 hi ht (fun q => kt q D ty A H0 b as0 mcT msT p e R s m args below meth c Z hC hR as H locs ls _ cells slots hw hpre hl hs hk hn) (fun q => kf q D ty A H0 b as0 mcT msT p e R s m args below meth c Z hC hR as H locs ls _ cells slots hw hpre hl hs hk hn)
theorem wp_ic_le {x y : Int32} {off : Int} {t : Nat} (hi : decode Y.2.1 pc = .ok (.if_icmp .le off, 3)) (ht : (pc : Int) + off = (t : Int)) (kt : x ≤ y → wp_m l Y sc k n t L st h Q) (kf : ¬ x ≤ y → wp_m l Y sc k n (pc + 3) L st h Q) : wp_m l Y sc k n pc L (.int y :: .int x :: st) h Q := by
  intro D ty A H0 b as0 mcT msT p e R s m args below meth c Z hC hR as H locs ls st' cells slots hw hpre hl hs hk hn
  obtain ⟨_, _, rfl, rfl, hs⟩ := hs
  obtain ⟨_, _, rfl, rfl, hs⟩ := hs
  exact lv_icmp_le hC.1 hC.2.1 hi ht (fun q => kt q D ty A H0 b as0 mcT msT p e R s m args below meth c Z hC hR as H locs ls _ cells slots hw hpre hl hs hk hn) (fun q => kf q D ty A H0 b as0 mcT msT p e R s m args below meth c Z hC hR as H locs ls _ cells slots hw hpre hl hs hk hn)
theorem wp_goto {off : Int} {t : Nat} (hi : decode Y.2.1 pc = .ok (.goto off, 3)) (ht : (pc : Int) + off = (t : Int)) (kk : wp_m l Y sc k n t L st h Q) : wp_m l Y sc k n pc L st h Q := by
  intro D ty A H0 b as0 mcT msT p e R s m args below meth c Z hC hR as H locs ls st' cells slots hw hpre hl hs hk hn
  exact lv_goto hC.1 hC.2.1 hi ht (kk D ty A H0 b as0 mcT msT p e R s m args below meth c Z hC hR as H locs ls _ cells slots hw hpre hl hs hk hn)
theorem wp_ifnullR {a : Nat} {off : Int} (hi : decode Y.2.1 pc = .ok (.ifnull off, 3)) (kk : wp_m l Y sc k n (pc + 3) L st h Q) : wp_m l Y sc k n pc L (.ref a :: st) h Q := by
  intro D ty A H0 b as0 mcT msT p e R s m args below meth c Z hC hR as H locs ls st' cells slots hw hpre hl hs hk hn
  obtain ⟨_, _, rfl, ⟨a', ha, rfl⟩, hs⟩ := hs
  exact lv_ifnull hC.1 hC.2.1 hi (kk D ty A H0 b as0 mcT msT p e R s m args below meth c Z hC hR as H locs ls _ cells slots hw hpre hl hs hk hn)
theorem wp_ifnullN {off : Int} {t : Nat} (hi : decode Y.2.1 pc = .ok (.ifnull off, 3)) (ht : (pc : Int) + off = (t : Int)) (kk : wp_m l Y sc k n t L st h Q) : wp_m l Y sc k n pc L (.null :: st) h Q := by
  intro D ty A H0 b as0 mcT msT p e R s m args below meth c Z hC hR as H locs ls st' cells slots hw hpre hl hs hk hn
  obtain ⟨_, _, rfl, rfl, hs⟩ := hs
  exact lv_ifnullN hC.1 hC.2.1 hi ht (kk D ty A H0 b as0 mcT msT p e R s m args below meth c Z hC hR as H locs ls _ cells slots hw hpre hl hs hk hn)
theorem wp_ifnonnullR {a : Nat} {off : Int} {t : Nat} (hi : decode Y.2.1 pc = .ok (.ifnonnull off, 3)) (ht : (pc : Int) + off = (t : Int)) (kk : wp_m l Y sc k n t L st h Q) : wp_m l Y sc k n pc L (.ref a :: st) h Q := by
  intro D ty A H0 b as0 mcT msT p e R s m args below meth c Z hC hR as H locs ls st' cells slots hw hpre hl hs hk hn
  obtain ⟨_, _, rfl, ⟨a', ha, rfl⟩, hs⟩ := hs
  exact lv_ifnonnull hC.1 hC.2.1 hi ht (kk D ty A H0 b as0 mcT msT p e R s m args below meth c Z hC hR as H locs ls _ cells slots hw hpre hl hs hk hn)
theorem wp_ifnonnullN {off : Int} (hi : decode Y.2.1 pc = .ok (.ifnonnull off, 3)) (kk : wp_m l Y sc k n (pc + 3) L st h Q) : wp_m l Y sc k n pc L (.null :: st) h Q := by
  intro D ty A H0 b as0 mcT msT p e R s m args below meth c Z hC hR as H locs ls st' cells slots hw hpre hl hs hk hn
  obtain ⟨_, _, rfl, rfl, hs⟩ := hs
  exact lv_ifnonnullN hC.1 hC.2.1 hi (kk D ty A H0 b as0 mcT msT p e R s m args below meth c Z hC hR as H locs ls _ cells slots hw hpre hl hs hk hn)
theorem wp_lookup {d : Int} {ps : Array (Int × Int)} {len : Nat} {x : Int32} {off : Int} {t : Nat} (hi : decode Y.2.1 pc = .ok (.lookupswitch d ps, len)) (hp : (ps.toList.zip (ps.toList.drop 1)).all (fun (a, next) => a.1 < next.1) = true) (ho : Op.lookupswitch.offset ps.toList d x.toInt = off) (ht : (pc : Int) + off = (t : Int)) (kk : wp_m l Y sc k n t L st h Q) : wp_m l Y sc k n pc L (.int x :: st) h Q := by
  intro D ty A H0 b as0 mcT msT p e R s m args below meth c Z hC hR as H locs ls st' cells slots hw hpre hl hs hk hn
  obtain ⟨_, _, rfl, rfl, hs⟩ := hs
  exact lv_lookup hC.1 hC.2.1 hi hp ho ht (kk D ty A H0 b as0 mcT msT p e R s m args below meth c Z hC hR as H locs ls _ cells slots hw hpre hl hs hk hn)
theorem wp_tabOut {d lo up : Int} {os : Array Int} {len : Nat} {x : Int32} {t : Nat} (hi : decode Y.2.1 pc = .ok (.tableswitch d lo up os, len)) (hx : x.toInt < lo ∨ up < x.toInt) (ht : (pc : Int) + d = (t : Int)) (kk : wp_m l Y sc k n t L st h Q) : wp_m l Y sc k n pc L (.int x :: st) h Q := by
  intro D ty A H0 b as0 mcT msT p e R s m args below meth c Z hC hR as H locs ls st' cells slots hw hpre hl hs hk hn
  obtain ⟨_, _, rfl, rfl, hs⟩ := hs
  exact lv_tableOut hC.1 hC.2.1 hi hx ht (kk D ty A H0 b as0 mcT msT p e R s m args below meth c Z hC hR as H locs ls _ cells slots hw hpre hl hs hk hn)
theorem wp_tabIn {d lo up : Int} {os : Array Int} {len : Nat} {x : Int32} {off : Int} {t : Nat} (hi : decode Y.2.1 pc = .ok (.tableswitch d lo up os, len)) (h1 : ¬ x.toInt < lo) (h2 : ¬ up < x.toInt) (ho : os[(x.toInt - lo).toNat]? = some off) (ht : (pc : Int) + off = (t : Int)) (kk : wp_m l Y sc k n t L st h Q) : wp_m l Y sc k n pc L (.int x :: st) h Q := by
  intro D ty A H0 b as0 mcT msT p e R s m args below meth c Z hC hR as H locs ls st' cells slots hw hpre hl hs hk hn
  obtain ⟨_, _, rfl, rfl, hs⟩ := hs
  exact lv_tableIn hC.1 hC.2.1 hi h1 h2 ho ht (kk D ty A H0 b as0 mcT msT p e R s m args below meth c Z hC hR as H locs ls _ cells slots hw hpre hl hs hk hn)
theorem wp_ldc2 {i : Nat} {v : Int64} (hi : decode Y.2.1 pc = .ok (.ldc2_w i, 3)) (hw : Cond.constantLong Y.1.cls i v ∈ WS) (kk : wp_m l Y sc k n (pc + 3) L (.long v :: st) h Q) : wp_m l Y sc k n pc L st h Q := by
  intro D ty A H0 b as0 mcT msT p e R s m args below meth c Z hC hR as H locs ls st' cells slots hW hpre hl hs hk hn
  exact lv_ldc2 hC.1 hC.2.1 hC.2.2.2.2.1 (hC.2.2.2.2.2.2.2.1 _ hw) hi (kk D ty A H0 b as0 mcT msT p e R s m args below meth c Z hC hR as H locs ls _ cells slots hW hpre hl ⟨_, _, rfl, rfl, hs⟩ hk hn)
theorem rl_get {b : Nat} {as : List Nat} {ls : Array Slot} {nL i : Nat} {v : Value} (hl : rl_l b as L ls nL) (hv : L[i]? = some v) (hne : v ≠ .retAddr 0) : ∃ v', rl_v b as v v' ∧ ls[i]? = some (.val v') := by
  obtain ⟨-, lv, h1, h2⟩ := hl
  obtain ⟨v', h3, h4⟩ := h2 i v hv hne
  exact ⟨v', h3, h1.2.2 _ h4⟩
theorem wp_iload_n {j : Fin 4} {i : Nat} {x : Int32} (hi : decode Y.2.1 pc = .ok (.iload_n j, 1)) (hj : (j : Nat) = i) (hv : L[i]? = some (.int x)) (kk : wp_m l Y sc k n (pc + 1) L (.int x :: st) h Q) : wp_m l Y sc k n pc L st h Q := by
  intro D ty A H0 b as0 mcT msT p e R s m args below meth c Z hC hR as H locs ls st' cells slots hw hpre hl hs hk hn
  obtain ⟨v', hv', hg⟩ := rl_get hl hv (by simp)
  cases (show v' = .int x from hv')
  exact lv_iload_n hC.1 hC.2.1 hi hj hg (kk D ty A H0 b as0 mcT msT p e R s m args below meth c Z hC hR as H locs ls _ cells slots hw hpre hl ⟨_, _, rfl, rfl, hs⟩ hk hn)
theorem wp_iload {i : Nat} {x : Int32} (hi : decode Y.2.1 pc = .ok (.iload i, 2)) (hv : L[i]? = some (.int x)) (kk : wp_m l Y sc k n (pc + 2) L (.int x :: st) h Q) : wp_m l Y sc k n pc L st h Q := by
  intro D ty A H0 b as0 mcT msT p e R s m args below meth c Z hC hR as H locs ls st' cells slots hw hpre hl hs hk hn
  obtain ⟨v', hv', hg⟩ := rl_get hl hv (by simp)
  cases (show v' = .int x from hv')
  exact lv_iload hC.1 hC.2.1 hi hg (kk D ty A H0 b as0 mcT msT p e R s m args below meth c Z hC hR as H locs ls _ cells slots hw hpre hl ⟨_, _, rfl, rfl, hs⟩ hk hn)
theorem wp_lload_n {j : Fin 4} {i : Nat} {x : Int64} (hi : decode Y.2.1 pc = .ok (.lload_n j, 1)) (hj : (j : Nat) = i) (hv : L[i]? = some (.long x)) (kk : wp_m l Y sc k n (pc + 1) L (.long x :: st) h Q) : wp_m l Y sc k n pc L st h Q := by
  intro D ty A H0 b as0 mcT msT p e R s m args below meth c Z hC hR as H locs ls st' cells slots hw hpre hl hs hk hn
  obtain ⟨v', hv', hg⟩ := rl_get hl hv (by simp)
  cases (show v' = .long x from hv')
  exact lv_lload_n hC.1 hC.2.1 hi hj hg (kk D ty A H0 b as0 mcT msT p e R s m args below meth c Z hC hR as H locs ls _ cells slots hw hpre hl ⟨_, _, rfl, rfl, hs⟩ hk hn)
theorem wp_lload {i : Nat} {x : Int64} (hi : decode Y.2.1 pc = .ok (.lload i, 2)) (hv : L[i]? = some (.long x)) (kk : wp_m l Y sc k n (pc + 2) L (.long x :: st) h Q) : wp_m l Y sc k n pc L st h Q := by
  intro D ty A H0 b as0 mcT msT p e R s m args below meth c Z hC hR as H locs ls st' cells slots hw hpre hl hs hk hn
  obtain ⟨v', hv', hg⟩ := rl_get hl hv (by simp)
  cases (show v' = .long x from hv')
  exact lv_lload hC.1 hC.2.1 hi hg (kk D ty A H0 b as0 mcT msT p e R s m args below meth c Z hC hR as H locs ls _ cells slots hw hpre hl ⟨_, _, rfl, rfl, hs⟩ hk hn)
theorem wp_aload_n {j : Fin 4} {i : Nat} {x : Nat} (hi : decode Y.2.1 pc = .ok (.aload_n j, 1)) (hj : (j : Nat) = i) (hv : L[i]? = some (.ref x)) (kk : wp_m l Y sc k n (pc + 1) L (.ref x :: st) h Q) : wp_m l Y sc k n pc L st h Q := by
  intro D ty A H0 b as0 mcT msT p e R s m args below meth c Z hC hR as H locs ls st' cells slots hw hpre hl hs hk hn
  obtain ⟨v', hv', hg⟩ := rl_get hl hv (by simp)
  obtain ⟨a, ha, rfl⟩ := hv'
  exact lv_aload_n hC.1 hC.2.1 hi hj hg (kk D ty A H0 b as0 mcT msT p e R s m args below meth c Z hC hR as H locs ls _ cells slots hw hpre hl ⟨_, _, rfl, ⟨a, ha, rfl⟩, hs⟩ hk hn)
theorem wp_aload_nN {j : Fin 4} {i : Nat} (hi : decode Y.2.1 pc = .ok (.aload_n j, 1)) (hj : (j : Nat) = i) (hv : L[i]? = some .null) (kk : wp_m l Y sc k n (pc + 1) L (.null :: st) h Q) : wp_m l Y sc k n pc L st h Q := by
  intro D ty A H0 b as0 mcT msT p e R s m args below meth c Z hC hR as H locs ls st' cells slots hw hpre hl hs hk hn
  obtain ⟨v', hv', hg⟩ := rl_get hl hv (by simp)
  cases (show v' = .null from hv')
  exact lv_aload_nN hC.1 hC.2.1 hi hj hg (kk D ty A H0 b as0 mcT msT p e R s m args below meth c Z hC hR as H locs ls _ cells slots hw hpre hl ⟨_, _, rfl, rfl, hs⟩ hk hn)
theorem wp_aload_nS {j : Fin 4} {i : Nat} (hi : decode Y.2.1 pc = .ok (.aload_n j, 1)) (hj : (j : Nat) = i) (hv : L[i]? = some (.retAddr 1)) (kk : wp_m l Y sc k n (pc + 1) L (.retAddr 1 :: st) h Q) : wp_m l Y sc k n pc L st h Q := by
  intro D ty A H0 b as0 mcT msT p e R s m args below meth c Z hC hR as H locs ls st' cells slots hw hpre hl hs hk hn
  obtain ⟨v', hv', hg⟩ := rl_get hl hv (by simp)
  obtain ⟨-, rfl⟩ := hv'
  exact lv_aload_n hC.1 hC.2.1 hi hj hg (kk D ty A H0 b as0 mcT msT p e R s m args below meth c Z hC hR as H locs ls _ cells slots hw hpre hl ⟨_, _, rfl, ⟨rfl, rfl⟩, hs⟩ hk hn)
theorem wp_aload {i : Nat} {x : Nat} (hi : decode Y.2.1 pc = .ok (.aload i, 2)) (hv : L[i]? = some (.ref x)) (kk : wp_m l Y sc k n (pc + 2) L (.ref x :: st) h Q) : wp_m l Y sc k n pc L st h Q := by
  intro D ty A H0 b as0 mcT msT p e R s m args below meth c Z hC hR as H locs ls st' cells slots hw hpre hl hs hk hn
  obtain ⟨v', hv', hg⟩ := rl_get hl hv (by simp)
  obtain ⟨a, ha, rfl⟩ := hv'
  exact lv_aload hC.1 hC.2.1 hi hg (kk D ty A H0 b as0 mcT msT p e R s m args below meth c Z hC hR as H locs ls _ cells slots hw hpre hl ⟨_, _, rfl, ⟨a, ha, rfl⟩, hs⟩ hk hn)
theorem wp_aloadN {i : Nat} (hi : decode Y.2.1 pc = .ok (.aload i, 2)) (hv : L[i]? = some .null) (kk : wp_m l Y sc k n (pc + 2) L (.null :: st) h Q) : wp_m l Y sc k n pc L st h Q := by
  intro D ty A H0 b as0 mcT msT p e R s m args below meth c Z hC hR as H locs ls st' cells slots hw hpre hl hs hk hn
  obtain ⟨v', hv', hg⟩ := rl_get hl hv (by simp)
  cases (show v' = .null from hv')
  exact lv_aloadN hC.1 hC.2.1 hi hg (kk D ty A H0 b as0 mcT msT p e R s m args below meth c Z hC hR as H locs ls _ cells slots hw hpre hl ⟨_, _, rfl, rfl, hs⟩ hk hn)
theorem wp_aloadS {i : Nat} (hi : decode Y.2.1 pc = .ok (.aload i, 2)) (hv : L[i]? = some (.retAddr 1)) (kk : wp_m l Y sc k n (pc + 2) L (.retAddr 1 :: st) h Q) : wp_m l Y sc k n pc L st h Q := by
  intro D ty A H0 b as0 mcT msT p e R s m args below meth c Z hC hR as H locs ls st' cells slots hw hpre hl hs hk hn
  obtain ⟨v', hv', hg⟩ := rl_get hl hv (by simp)
  obtain ⟨-, rfl⟩ := hv'
  exact lv_aload hC.1 hC.2.1 hi hg (kk D ty A H0 b as0 mcT msT p e R s m args below meth c Z hC hR as H locs ls _ cells slots hw hpre hl ⟨_, _, rfl, ⟨rfl, rfl⟩, hs⟩ hk hn)
def mx_ok1 (L : List Value) : Nat → Bool
  | 0 => true
  | i + 1 => match L[i]? with
    | some v => v.category == 1
    | none => true
theorem rl_set {b : Nat} {as : List Nat} {nL i : Nat} {v v' : Value} {lv : List (Nat × Value)} (hlen : L.length = nL) (h2 : ∀ (i : Nat) (v : Value), L[i]? = some v → v ≠ .retAddr 0 → ∃ v', rl_v b as v v' ∧ (i, v') ∈ lv) (hok : mx_ok1 L i = true) (hv : rl_v b as v v') (hi : i < nL) :
    (L.set i v).length = nL ∧ ∀ (j : Nat) (u : Value), (L.set i v)[j]? = some u → u ≠ .retAddr 0 → ∃ u', rl_v b as u u' ∧ (j, u') ∈ ((i, v') :: lv.filter (fun q => !(q.1 == i) && !(q.1 + 1 == i && q.2.category == 2))) := by
  refine ⟨by rw [List.length_set]; exact hlen, fun j u hu hne => ?_⟩
  by_cases hj : j = i
  · subst hj
    rw [List.getElem?_set_self (by rw [hlen]; exact hi)] at hu
    cases hu
    exact ⟨v', hv, List.mem_cons_self⟩
  · rw [List.getElem?_set_ne (Ne.symm hj)] at hu
    obtain ⟨u', h3, h4⟩ := h2 j u hu hne
    refine ⟨u', h3, List.mem_cons_of_mem _ (List.mem_filter.mpr ⟨h4, ?_⟩)⟩
    by_cases hji : j + 1 = i
    · subst hji
      have hc : u.category = 1 := by
        simp only [mx_ok1, hu] at hok
        simpa using hok
      have hc' := rl_cat h3 hc
      simp [hc']
    · simp [hj, hji]
theorem wp_istore_n {j : Fin 4} {i : Nat} {x : Int32} {L' : List Value} (hi : decode Y.2.1 pc = .ok (.istore_n j, 1)) (hj : (j : Nat) = i) (hok : mx_ok1 L i = true) (hlt : i < L.length) (hL : L.set i (.int x) = L') (kk : wp_m l Y sc k n (pc + 1) L' st h Q) : wp_m l Y sc k n pc L (.int x :: st) h Q := by
  intro D ty A H0 b as0 mcT msT p e R s m args below meth c Z hC hR as H locs ls st' cells slots hw hpre hl hs hk hn
  subst hL
  obtain ⟨_, _, rfl, rfl, hs⟩ := hs
  obtain ⟨hlen, lv, h1, h2⟩ := hl
  have hset := rl_set (v := .int x) (v' := .int x) hlen h2 hok rfl (by rw [← hlen]; exact hlt)
  exact lv_istore_n hC.1 hC.2.1 hi hj h1 (by rw [← hlen]; exact hlt) rfl (fun ls' hls' => kk D ty A H0 b as0 mcT msT p e R s m args below meth c Z hC hR as H locs ls' _ cells slots hw hpre ⟨hset.1, _, hls', hset.2⟩ hs hk hn)
theorem wp_astore_n {j : Fin 4} {i : Nat} {x : Nat} {L' : List Value} (hi : decode Y.2.1 pc = .ok (.astore_n j, 1)) (hj : (j : Nat) = i) (hok : mx_ok1 L i = true) (hlt : i < L.length) (hL : L.set i (.ref x) = L') (kk : wp_m l Y sc k n (pc + 1) L' st h Q) : wp_m l Y sc k n pc L (.ref x :: st) h Q := by
  intro D ty A H0 b as0 mcT msT p e R s m args below meth c Z hC hR as H locs ls st' cells slots hw hpre hl hs hk hn
  subst hL
  obtain ⟨_, _, rfl, ⟨a, ha, rfl⟩, hs⟩ := hs
  obtain ⟨hlen, lv, h1, h2⟩ := hl
  have hset := rl_set (v := .ref x) (v' := .ref a) hlen h2 hok ⟨a, ha, rfl⟩ (by rw [← hlen]; exact hlt)
  exact lv_astore_n hC.1 hC.2.1 hi hj h1 (by rw [← hlen]; exact hlt) rfl (fun ls' hls' => kk D ty A H0 b as0 mcT msT p e R s m args below meth c Z hC hR as H locs ls' _ cells slots hw hpre ⟨hset.1, _, hls', hset.2⟩ hs hk hn)
theorem wp_astore_nN {j : Fin 4} {i : Nat} {L' : List Value} (hi : decode Y.2.1 pc = .ok (.astore_n j, 1)) (hj : (j : Nat) = i) (hok : mx_ok1 L i = true) (hlt : i < L.length) (hL : L.set i .null = L') (kk : wp_m l Y sc k n (pc + 1) L' st h Q) : wp_m l Y sc k n pc L (.null :: st) h Q := by
  intro D ty A H0 b as0 mcT msT p e R s m args below meth c Z hC hR as H locs ls st' cells slots hw hpre hl hs hk hn
  subst hL
  obtain ⟨_, _, rfl, rfl, hs⟩ := hs
  obtain ⟨hlen, lv, h1, h2⟩ := hl
  have hset := rl_set (v := .null) (v' := .null) hlen h2 hok rfl (by rw [← hlen]; exact hlt)
  exact lv_astore_nN hC.1 hC.2.1 hi hj h1 (by rw [← hlen]; exact hlt) rfl (fun ls' hls' => kk D ty A H0 b as0 mcT msT p e R s m args below meth c Z hC hR as H locs ls' _ cells slots hw hpre ⟨hset.1, _, hls', hset.2⟩ hs hk hn)
theorem wp_istore {i : Nat} {x : Int32} {L' : List Value} (hi : decode Y.2.1 pc = .ok (.istore i, 2)) (hok : mx_ok1 L i = true) (hlt : i < L.length) (hL : L.set i (.int x) = L') (kk : wp_m l Y sc k n (pc + 2) L' st h Q) : wp_m l Y sc k n pc L (.int x :: st) h Q := by
  intro D ty A H0 b as0 mcT msT p e R s m args below meth c Z hC hR as H locs ls st' cells slots hw hpre hl hs hk hn
  subst hL
  obtain ⟨_, _, rfl, rfl, hs⟩ := hs
  obtain ⟨hlen, lv, h1, h2⟩ := hl
  have hset := rl_set (v := .int x) (v' := .int x) hlen h2 hok rfl (by rw [← hlen]; exact hlt)
  exact lv_istore hC.1 hC.2.1 hi h1 (by rw [← hlen]; exact hlt) rfl (fun ls' hls' => kk D ty A H0 b as0 mcT msT p e R s m args below meth c Z hC hR as H locs ls' _ cells slots hw hpre ⟨hset.1, _, hls', hset.2⟩ hs hk hn)
theorem wp_astore {i : Nat} {x : Nat} {L' : List Value} (hi : decode Y.2.1 pc = .ok (.astore i, 2)) (hok : mx_ok1 L i = true) (hlt : i < L.length) (hL : L.set i (.ref x) = L') (kk : wp_m l Y sc k n (pc + 2) L' st h Q) : wp_m l Y sc k n pc L (.ref x :: st) h Q := by
  intro D ty A H0 b as0 mcT msT p e R s m args below meth c Z hC hR as H locs ls st' cells slots hw hpre hl hs hk hn
  subst hL
  obtain ⟨_, _, rfl, ⟨a, ha, rfl⟩, hs⟩ := hs
  obtain ⟨hlen, lv, h1, h2⟩ := hl
  have hset := rl_set (v := .ref x) (v' := .ref a) hlen h2 hok ⟨a, ha, rfl⟩ (by rw [← hlen]; exact hlt)
  exact lv_astore hC.1 hC.2.1 hi h1 (by rw [← hlen]; exact hlt) rfl (fun ls' hls' => kk D ty A H0 b as0 mcT msT p e R s m args below meth c Z hC hR as H locs ls' _ cells slots hw hpre ⟨hset.1, _, hls', hset.2⟩ hs hk hn)
theorem wp_astoreN {i : Nat} {L' : List Value} (hi : decode Y.2.1 pc = .ok (.astore i, 2)) (hok : mx_ok1 L i = true) (hlt : i < L.length) (hL : L.set i .null = L') (kk : wp_m l Y sc k n (pc + 2) L' st h Q) : wp_m l Y sc k n pc L (.null :: st) h Q := by
  intro D ty A H0 b as0 mcT msT p e R s m args below meth c Z hC hR as H locs ls st' cells slots hw hpre hl hs hk hn
  subst hL
  obtain ⟨_, _, rfl, rfl, hs⟩ := hs
  obtain ⟨hlen, lv, h1, h2⟩ := hl
  have hset := rl_set (v := .null) (v' := .null) hlen h2 hok rfl (by rw [← hlen]; exact hlt)
  exact lv_astoreN hC.1 hC.2.1 hi h1 (by rw [← hlen]; exact hlt) rfl (fun ls' hls' => kk D ty A H0 b as0 mcT msT p e R s m args below meth c Z hC hR as H locs ls' _ cells slots hw hpre ⟨hset.1, _, hls', hset.2⟩ hs hk hn)
theorem wp_iinc {i : Nat} {d : Int} {x v : Int32} {L' : List Value} (hi : decode Y.2.1 pc = .ok (.iinc i d, 3)) (hx : L[i]? = some (.int x)) (hv : x + Int32.ofInt d = v) (hok : mx_ok1 L i = true) (hL : L.set i (.int v) = L') (kk : wp_m l Y sc k n (pc + 3) L' st h Q) : wp_m l Y sc k n pc L st h Q := by
  intro D ty A H0 b as0 mcT msT p e R s m args below meth c Z hC hR as H locs ls st' cells slots hw hpre hl hs hk hn
  subst hL
  have hlt : i < L.length := (List.getElem?_eq_some_iff.mp hx).1
  obtain ⟨hlen, lv, h1, h2⟩ := hl
  have hset := rl_set (v := .int v) (v' := .int v) hlen h2 hok rfl (by rw [← hlen]; exact hlt)
  obtain ⟨x', hx', hm⟩ := h2 i _ hx (by simp)
  cases (show x' = .int x from hx')
  obtain ⟨q, hq⟩ := List.getElem?_of_mem hm
  exact lv_iinc hC.1 hC.2.1 hi h1 hq hv (by rw [← hlen]; exact hlt) rfl (fun ls' hls' => kk D ty A H0 b as0 mcT msT p e R s m args below meth c Z hC hR as H locs ls' _ cells slots hw hpre ⟨hset.1, _, hls', hset.2⟩ hs hk hn)
end MX
