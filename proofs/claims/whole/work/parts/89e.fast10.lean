/-! fastStart: the reference's layout -/
section FL
variable {F : Int → Int} {n N : Int} {T : px_T} {mi tc : Int} {b : Int → Int} {tab : Int → Int → Int} {me : Int} {σ σ' : sg_}
/-- what the reference keeps behind a check that found nothing -/
def ry_ (σ : sg_) (F : Int → Int) (n N : Int) (T : px_T) (mi tc : Int) (b : Int → Int) (tab : Int → Int → Int) : Prop := ro_ σ F n ∧ rs_ σ N T mi tc b tab ∧ hm_ σ F N T tc tab
theorem ry_fr {P : Nat → Int → Prop} (h : ry_ σ F n N T mi tc b tab) (hf : fr_ P σ σ') (hP : ∀ b j, P b j → 64 ≤ b ∨ (b = 51 ∧ j = 20)) : ry_ σ' F n N T mi tc b tab := by
  have e : ∀ b j, ¬ (64 ≤ b ∨ (b = 51 ∧ j = 20)) → σ' b j = σ b j := fun b j hb => hf b j (fun q => hb (hP b j q))
  obtain ⟨h1, ⟨h2, h3, h4, h5, h6⟩, h7⟩ := h
  refine ⟨h1.fr hf (fun q => by have := hP _ _ q; omega) (fun j q => by have := hP _ _ q; omega), ⟨⟨(e 51 2 (by omega)).trans h2.1, fun c i c0 i0 i1 => (e (53 + c) i (by omega)).trans (h2.2 c i c0 i0 i1)⟩, (e 51 11 (by omega)).trans h3, (e 51 12 (by omega)).trans h4, fun t t0 t1 => (e 61 t (by omega)).trans (h5 t t0 t1), fun t q t0 t1 q0 q1 => (e 62 _ (by omega)).trans (h6 t q t0 t1 q0 q1)⟩, fun t c t0 t1 c0 c1 => ?_⟩
  rw [e 63 _ (by omega)]
  exact h7 t c t0 t1 c0 c1
theorem ry_rx (hx : fx_ F n N T mi tc b tab me) (h : ry_ σ F n N T mi tc b tab) {t : Int} (t0 : 0 ≤ t) (t1 : t < tc) : rx_ σ F n N T t (b t) (tab t) := by
  have m := fx_mi hx
  obtain ⟨h1, ⟨h2, h3, h4, h5, h6⟩, h7⟩ := h
  exact ⟨h1, h2, hx.2.2.1, ⟨t0, by omega⟩, fun q q0 q1 => h6 t q t0 t1 q0 q1, ks_of hx.2.2.2.1 t0 t1, hx.2.2.2.2.1 t t0 t1⟩
/-- a box that holds none keeps its own payload -/
theorem ly_leaf (hx : fx_ F n N T mi tc b tab me) (W : Int → Int) {k : Int} (k0 : mi ≤ k) (hk : ¬ ho_ T k) : ∀ m : Nat, (m : Int) ≤ me - mi → ly_ F T W me m k = ow_ F T W k := by
  have mm := fx_mi hx
  intro m
  induction m with
  | zero => intro _; rfl
  | succ m ih =>
    intro hm
    have e : ly_ F T W me (m + 1) k = ly_ F T W me m k := by
      show (if k = T 5 (me - 1 - m) then _ else _) = _
      rw [if_neg]
      intro q
      by_cases e : me - 1 - (m : Int) = mi
      · rw [e] at q; omega
      · have := (fx_hh hx (k := me - 1 - m) (by omega) (by omega)).2.2.1
        rw [← q] at this
        exact hk this
    rw [e]
    exact ih (by omega)
theorem wk_iff (m : tc = 1 ∨ tc = 2) {w k : Int} (k0 : 0 ≤ k) : wk_ tc tab w k = 1 ↔ ∃ t, 0 ≤ t ∧ t < tc ∧ tab t 4 = k ∧ bi_ w t = 1 := by
  unfold wk_ bi_
  constructor
  · intro h
    by_cases q : (0 ≤ tab 0 4 ∧ tab 0 4 = k ∧ w % 2 = 1) ∨ (tc = 2 ∧ 0 ≤ tab 1 4 ∧ tab 1 4 = k ∧ w / 2 = 1)
    · rcases q with ⟨-, e, q⟩ | ⟨c, -, e, q⟩
      · exact ⟨0, by omega, by omega, e, by rw [if_pos rfl]; exact q⟩
      · exact ⟨1, by omega, by omega, e, by rw [if_neg (by decide)]; exact q⟩
    · rw [if_neg q] at h; omega
  · rintro ⟨t, t0, t1, e, q⟩
    by_cases z : t = 0
    · rw [if_pos z] at q
      rw [z] at e
      rw [if_pos (Or.inl ⟨by omega, e, q⟩)]
    · rw [if_neg z] at q
      obtain rfl : t = 1 := by omega
      rw [if_pos (Or.inr ⟨by omega, by omega, e, q⟩)]
/-- the payload as the reference finds it -/
theorem ly_ref (hx : fx_ F n N T mi tc b tab me) {w k : Int} (k0 : mi ≤ k) (k1 : k < me) (hk : ¬ ho_ T k) {m : Nat} (hm : (m : Int) ≤ me - mi) : ly_ F T (wk_ tc tab w) me m k = if wk_ tc tab w k = 1 then 1 + 2 * F (st_ T k) else pl_ T k := by
  rw [ly_leaf hx _ k0 hk m hm]
  unfold ow_
  rw [if_neg hk]
  by_cases e : wk_ tc tab w k = 1
  · rw [if_pos e, if_pos e]
    have := (fx_wk hx e).2.2.2.2.2
    omega
  · rw [if_neg e, if_neg e]
def bs_ (x t : Int) : Int := if t = 0 then x else x / 2
theorem iI_shrt {x t : Int} (x0 : 0 ≤ x) (x1 : x ≤ 3) (t0 : 0 ≤ t) (t1 : t < 2) : iI x >>> (iI t &&& 31) = iI (bs_ x t) := by
  have hx : x = 0 ∨ x = 1 ∨ x = 2 ∨ x = 3 := by omega
  have ht : t = 0 ∨ t = 1 := by omega
  rcases hx with rfl | rfl | rfl | rfl <;> rcases ht with rfl | rfl <;> decide
theorem iI_and1 {x : Int} (x0 : 0 ≤ x) (x1 : x ≤ 3) : iI x &&& iI 1 = iI (x % 2) := by
  have hx : x = 0 ∨ x = 1 ∨ x = 2 ∨ x = 3 := by omega
  rcases hx with rfl | rfl | rfl | rfl <;> decide
theorem bs_bi {x t : Int} (x0 : 0 ≤ x) (x1 : x ≤ 3) : bs_ x t % 2 = bi_ x t := by
  unfold bs_ bi_
  split <;> omega
theorem bs_rg {x t : Int} (x0 : 0 ≤ x) (x1 : x ≤ 3) : 0 ≤ bs_ x t ∧ bs_ x t ≤ 3 := by
  unfold bs_
  split <;> omega
theorem bi_rg {x : Int} (t : Int) (x0 : 0 ≤ x) (x1 : x ≤ 3) : bi_ x t = 0 ∨ bi_ x t = 1 := by
  unfold bi_
  split <;> omega
def ob_ (m x : Int) : Int := if x = 1 then (if m % 2 = 1 then m else m + 1) else (if m / 2 = 1 then m else m + 2)
theorem iI_or {m x : Int} (x0 : 0 ≤ m) (x1 : m ≤ 3) (hx : x = 1 ∨ x = 2) : iI m ||| iI x = iI (ob_ m x) := by
  have hm : m = 0 ∨ m = 1 ∨ m = 2 ∨ m = 3 := by omega
  rcases hm with rfl | rfl | rfl | rfl <;> rcases hx with rfl | rfl <;> decide
theorem iI_shl1 {t : Int} (t0 : 0 ≤ t) (t1 : t < 2) : iI 1 <<< (iI t &&& 31) = iI (1 + t) := by
  have ht : t = 0 ∨ t = 1 := by omega
  rcases ht with rfl | rfl <;> decide
theorem ob_b {m t t' : Int} (x0 : 0 ≤ m) (x1 : m ≤ 3) (t0 : 0 ≤ t) (t1 : t < 2) (t0' : 0 ≤ t') (t1' : t' < 2) : (0 ≤ ob_ m (1 + t) ∧ ob_ m (1 + t) ≤ 3) ∧ (bi_ (ob_ m (1 + t)) t' = 1 ↔ bi_ m t' = 1 ∨ t' = t) := by
  have hm : m = 0 ∨ m = 1 ∨ m = 2 ∨ m = 3 := by omega
  have ht : t = 0 ∨ t = 1 := by omega
  have ht' : t' = 0 ∨ t' = 1 := by omega
  rcases hm with rfl | rfl | rfl | rfl <;> rcases ht with rfl | rfl <;> rcases ht' with rfl | rfl <;> decide
end FL
section FM
variable {l : Launch} {Y : mx_Y} {sc : mx_S} {k n : Nat} {pc : Nat} {L st : List Value} {h : mx_H} {Q : Option Value → mx_H → Prop}
theorem wi_shrt {x t : Int} (hi : decode Y.2.1 pc = .ok (.ishr, 1)) (kk : wp_m l Y sc k n (pc + 1) L (.int (iI (bs_ x t)) :: st) h Q) (hx : (0 ≤ x ∧ x ≤ 3) ∧ 0 ≤ t ∧ t < 2 := by omega) : wp_m l Y sc k n pc L (.int (iI t) :: .int (iI x) :: st) h Q := wp_ishr hi (by rw [iI_shrt hx.1.1 hx.1.2 hx.2.1 hx.2.2]; exact kk)
theorem wi_and1 {x : Int} (hi : decode Y.2.1 pc = .ok (.iand, 1)) (kk : wp_m l Y sc k n (pc + 1) L (.int (iI (x % 2)) :: st) h Q) (hx : 0 ≤ x ∧ x ≤ 3 := by omega) : wp_m l Y sc k n pc L (.int (iI 1) :: .int (iI x) :: st) h Q := wp_iand hi (by rw [iI_and1 hx.1 hx.2]; exact kk)
theorem wi_shl1 {t : Int} (hi : decode Y.2.1 pc = .ok (.ishl, 1)) (kk : wp_m l Y sc k n (pc + 1) L (.int (iI (1 + t)) :: st) h Q) (hx : 0 ≤ t ∧ t < 2 := by omega) : wp_m l Y sc k n pc L (.int (iI t) :: .int (iI 1) :: st) h Q := wp_ishl hi (by rw [iI_shl1 hx.1 hx.2]; exact kk)
theorem wi_orb {m x : Int} (hi : decode Y.2.1 pc = .ok (.ior, 1)) (kk : wp_m l Y sc k n (pc + 1) L (.int (iI (ob_ m x)) :: st) h Q) (hx : (0 ≤ m ∧ m ≤ 3) ∧ (x = 1 ∨ x = 2) := by omega) : wp_m l Y sc k n pc L (.int (iI x) :: .int (iI m) :: st) h Q := wp_ior hi (by rw [iI_or hx.1.1 hx.1.2 hx.2]; exact kk)
end FM
