/-! the heap of a run: its shape is fixed (SH), its numbers are a function of cell and place -/
abbrev sg_ : Type := Nat → Int → Int
def up_ (σ : sg_) (a : Nat) (k v : Int) : sg_ := fun b j => if b = a ∧ j = k then v else σ b j
theorem up_s (σ : sg_) (a : Nat) (k v : Int) : up_ σ a k v a k = v := if_pos ⟨rfl, rfl⟩
theorem up_n (σ : sg_) {a b : Nat} {k j : Int} (v : Int) (h : ¬ (b = a ∧ j = k)) : up_ σ a k v b j = σ b j := if_neg h
theorem up_o (σ : sg_) {a b : Nat} (k v : Int) (h : b ≠ a) : up_ σ a k v b = σ b := funext fun j => if_neg (fun q => h q.1)
def fv_ (σ : sg_) (a : Nat) (k : Nat) (v : Value) : Value := match v with
  | .int _ => .int (iI (σ a (k : Int)))
  | v => v
def fl_ (σ : sg_) (a : Nat) (c : va_E) : va_E := match c with
  | .inr (ci, fs) => .inr (ci, fs.mapIdx (fv_ σ a))
  | .inl (t, n, .inl _) => .inl (t, n, .inl (fun i => iI (σ a (i : Int))))
  | c => c
def hp_ (σ : sg_) : mx_H := SH.mapIdx (fun a c => fl_ σ a c)
theorem hp_at {a : Nat} {c : va_E} (σ : sg_) (h : SH[a]? = some c) : (hp_ σ)[a]? = some (fl_ σ a c) := by
  unfold hp_
  rw [List.getElem?_mapIdx, h]
  rfl
theorem hp_ext {σ σ' : sg_} {a : Nat} {c c' : va_E} (h : SH[a]? = some c) (hc : fl_ σ' a c = c') (ho : ∀ b, b ≠ a → σ' b = σ b) : (hp_ σ).set a c' = hp_ σ' := by
  apply List.ext_getElem?
  intro j
  by_cases hj : j = a
  · subst hj
    have hl : j < (hp_ σ).length := (List.getElem?_eq_some_iff.mp (hp_at σ h)).1
    rw [List.getElem?_set_self hl, hp_at σ' h, hc]
  · rw [List.getElem?_set_ne (Ne.symm hj)]
    unfold hp_
    rw [List.getElem?_mapIdx, List.getElem?_mapIdx]
    cases hx : SH[j]? with
    | none => rfl
    | some x =>
      show some (fl_ σ j x) = some (fl_ σ' j x)
      unfold fl_ fv_
      rw [ho j hj]
theorem hp_put {σ : sg_} {a : Nat} {ci kf : Nat} {fs : List Value} {z : Int32} (v : Int) (h : SH[a]? = some (.inr (ci, fs))) (hk : fs[kf]? = some (.int z)) : (hp_ σ).set a (.inr (ci, (fs.mapIdx (fv_ σ a)).set kf (.int (iI v)))) = hp_ (up_ σ a (kf : Int) v) := by
  refine hp_ext h ?_ (fun b hb => up_o σ _ _ hb)
  show Sum.inr _ = Sum.inr _
  congr 2
  apply List.ext_getElem?
  intro j
  rw [List.getElem?_mapIdx]
  by_cases hj : j = kf
  · subst hj
    have hl : j < fs.length := (List.getElem?_eq_some_iff.mp hk).1
    rw [List.getElem?_set_self (by rw [List.length_mapIdx]; exact hl), hk]
    show some (Value.int (iI (up_ σ a (j : Int) v a (j : Int)))) = _
    rw [up_s]
  · rw [List.getElem?_set_ne (Ne.symm hj), List.getElem?_mapIdx]
    cases hx : fs[j]? with
    | none => rfl
    | some x =>
      cases x with
      | int y =>
        show some (Value.int (iI (up_ σ a (kf : Int) v a (j : Int)))) = some (Value.int (iI (σ a (j : Int))))
        rw [up_n _ _ (fun q => hj (by have := q.2; omega))]
      | _ => rfl
theorem hp_ast {σ : sg_} {a t N : Nat} {f0 : Nat → Int32} {i : Nat} {j : Int} (v : Int) (h : SH[a]? = some (.inl (t, N, .inl f0))) (hi : (i : Int) = j) : (hp_ σ).set a (.inl (t, N, .inl (upd (fun i => iI (σ a (i : Int))) i (iI v)))) = hp_ (up_ σ a j v) := by
  refine hp_ext h ?_ (fun b hb => up_o σ _ _ hb)
  show Sum.inl _ = Sum.inl _
  congr 4
  funext x
  by_cases hx : x = i
  · subst hx
    rw [pk_us, hi, up_s]
  · rw [pk_un hx, up_n _ _ (fun q => hx (by have := q.2; omega))]
section HI
variable {l : Launch} {Y : mx_Y} {sc : mx_S} {k n : Nat} {pc : Nat} {L st : List Value} {Q : Option Value → mx_H → Prop} {σ : sg_}
theorem fl_get {σ : sg_} {a kf : Nat} {fs : List Value} {v : Value} (h : fs[kf]? = some v) : (fs.mapIdx (fv_ σ a))[kf]? = some (fv_ σ a kf v) := by
  rw [List.getElem?_mapIdx, h]
  rfl
theorem wi_getI (kz : Int) {idx ci kf a : Nat} {fin : Bool} {ft : FieldType} {fs : List Value} {z : Int32} (hi : decode Y.2.1 pc = .ok (.getfield idx, 3)) (hF : mx_F Y.1.cls idx ci kf fin ft) (ha : SH[a]? = some (.inr (ci, fs))) (hv : fs[kf]? = some (.int z)) (hz : (kf : Int) = kz) (kk : wp_m l Y sc k n (pc + 3) L (.int (iI (σ a kz)) :: st) (hp_ σ) Q) : wp_m l Y sc k n pc L (.ref a :: st) (hp_ σ) Q :=
  by
  subst hz
  exact wp_getf hi hF (hp_at σ ha) (fl_get hv) kk
theorem wi_getR {idx ci kf a j : Nat} {fin : Bool} {ft : FieldType} {fs : List Value} (hi : decode Y.2.1 pc = .ok (.getfield idx, 3)) (hF : mx_F Y.1.cls idx ci kf fin ft) (ha : SH[a]? = some (.inr (ci, fs))) (hv : fs[kf]? = some (.ref j)) (kk : wp_m l Y sc k n (pc + 3) L (.ref j :: st) (hp_ σ) Q) : wp_m l Y sc k n pc L (.ref a :: st) (hp_ σ) Q :=
  wp_getf hi hF (hp_at σ ha) (fl_get hv) kk
theorem wi_putI (kz : Int) {idx ci kf a : Nat} {ft : FieldType} {fs : List Value} {z : Int32} {v : Int} (hi : decode Y.2.1 pc = .ok (.putfield idx, 3)) (hF : mx_F Y.1.cls idx ci kf false ft) (ha : SH[a]? = some (.inr (ci, fs))) (hv : fs[kf]? = some (.int z)) (hz : (kf : Int) = kz) (hp : ∀ (b : Nat) (as : List Nat) (v' : Value), rl_v b as (.int (iI v)) v' → narrow ft v' = v' ∧ fits ft v' = true) (kk : wp_m l Y sc k n (pc + 3) L st (hp_ (up_ σ a kz v)) Q) : wp_m l Y sc k n pc L (.int (iI v) :: .ref a :: st) (hp_ σ) Q :=
  wp_putf hi hF (hp_at σ ha) (by rw [List.length_mapIdx]; exact (List.getElem?_eq_some_iff.mp hv).1) hp (by rw [hp_put v ha hv, hz]; exact kk)
theorem wi_ald {a N : Nat} {f0 : Nat → Int32} {z : Int} (hi : decode Y.2.1 pc = .ok (.iaload, 1)) (ha : SH[a]? = some (.inl (0, N, .inl f0))) (h0 : 0 ≤ z) (h1 : z < N) (hN : N ≤ 2147483647) (kk : wp_m l Y sc k n (pc + 1) L (.int (iI (σ a z)) :: st) (hp_ σ) Q) : wp_m l Y sc k n pc L (.int (iI z) :: .ref a :: st) (hp_ σ) Q := by
  refine wp_iaload hi (hp_at σ ha) (iI_in h0 h1 hN) ?_
  rw [iI_cl ⟨by omega, by omega⟩, Int.toNat_of_nonneg h0]
  exact kk
theorem wi_bald {a N : Nat} {f0 : Nat → Int32} {z : Int} (hi : decode Y.2.1 pc = .ok (.baload, 1)) (ha : SH[a]? = some (.inl (1, N, .inl f0))) (h0 : 0 ≤ z) (h1 : z < N) (hN : N ≤ 2147483647) (kk : wp_m l Y sc k n (pc + 1) L (.int (iI (σ a z)) :: st) (hp_ σ) Q) : wp_m l Y sc k n pc L (.int (iI z) :: .ref a :: st) (hp_ σ) Q := by
  refine wp_baload hi (hp_at σ ha) (iI_in h0 h1 hN) ?_
  rw [iI_cl ⟨by omega, by omega⟩, Int.toNat_of_nonneg h0]
  exact kk
theorem wi_ast {a N : Nat} {f0 : Nat → Int32} {z v : Int} (hi : decode Y.2.1 pc = .ok (.iastore, 1)) (ha : SH[a]? = some (.inl (0, N, .inl f0))) (h0 : 0 ≤ z) (h1 : z < N) (hN : N ≤ 2147483647) (kk : wp_m l Y sc k n (pc + 1) L st (hp_ (up_ σ a z v)) Q) : wp_m l Y sc k n pc L (.int (iI v) :: .int (iI z) :: .ref a :: st) (hp_ σ) Q := by
  refine wp_iastore hi (hp_at σ ha) (iI_in h0 h1 hN) ?_
  rw [hp_ast (j := z) v ha (by rw [iI_cl ⟨by omega, by omega⟩, Int.toNat_of_nonneg h0])]
  exact kk
theorem wi_bast {a N : Nat} {f0 : Nat → Int32} {z v : Int} (hi : decode Y.2.1 pc = .ok (.bastore, 1)) (ha : SH[a]? = some (.inl (1, N, .inl f0))) (h0 : 0 ≤ z) (h1 : z < N) (hN : N ≤ 2147483647) (hv : vp_nar .boolean (iI v) = iI v) (kk : wp_m l Y sc k n (pc + 1) L st (hp_ (up_ σ a z v)) Q) : wp_m l Y sc k n pc L (.int (iI v) :: .int (iI z) :: .ref a :: st) (hp_ σ) Q := by
  refine wp_bastore hi (hp_at σ ha) (iI_in h0 h1 hN) hv ?_
  rw [hp_ast (j := z) v ha (by rw [iI_cl ⟨by omega, by omega⟩, Int.toNat_of_nonneg h0])]
  exact kk
theorem wi_aald {a t N j : Nat} {ft : FieldType} {f : Nat → Option Nat} {z : Int} (hi : decode Y.2.1 pc = .ok (.aaload, 1)) (ha : SH[a]? = some (.inl (t, N, .inr (.inr (.inr (.inr f)))))) (hT : TY[t]? = some ft) (hft : ft.isReference = true) (h0 : 0 ≤ z) (h1 : z < N) (hN : N ≤ 2147483647) (hj : f z.toNat = some j) (kk : wp_m l Y sc k n (pc + 1) L (.ref j :: st) (hp_ σ) Q) : wp_m l Y sc k n pc L (.int (iI z) :: .ref a :: st) (hp_ σ) Q := by
  refine wp_aaload hi (hp_at σ ha) hT hft (iI_in h0 h1 hN) ?_ kk
  rw [iI_cl ⟨by omega, by omega⟩]
  exact hj
end HI
