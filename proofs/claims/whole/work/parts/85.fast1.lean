/-! fastStart: the first data box, the boxes of the movie -/
def DT_ (T : px_T) (k : Int) : Prop := T 4 k = 0 ∧ T 2 k = 68
theorem ck_dt {n N : Int} {T : px_T} (htt : tt_ n N T) {j : Int} (j0 : 0 ≤ j) (j1 : j < N) : ck_ T (-1) 68 j ↔ DT_ T j := by
  have b1 := htt.2.2.1 j j0 j1
  have s1 := htt.2.2.2.1 j j0 j1
  unfold ck_ DT_
  rw [kd_dt b1]
  constructor
  · exact fun h => h.2
  · exact fun h => ⟨s1.1 h.1, h⟩
theorem ff_dt {n N : Int} {T : px_T} (htt : tt_ n N T) {r : Int} (h : ff_ (ck_ T (-1) 68) N r) : ff_ (DT_ T) N r := by
  rcases h with ⟨h1, h2⟩ | ⟨h1, h2, h3, h4⟩
  · exact Or.inl ⟨h1, fun j j0 j1 q => h2 j j0 j1 ((ck_dt htt j0 j1).mpr q)⟩
  · exact Or.inr ⟨h1, h2, (ck_dt htt h1 h2).mp h3, fun j j0 j1 q => h4 j j0 j1 ((ck_dt htt j0 (by omega)).mpr q)⟩
theorem ff_un {P : Int → Prop} {N r r' : Int} (h : ff_ P N r) (h' : ff_ P N r') : r = r' := by
  rcases h with ⟨a1, a2⟩ | ⟨a1, a2, a3, a4⟩ <;> rcases h' with ⟨b1, b2⟩ | ⟨b1, b2, b3, b4⟩
  · omega
  · exact absurd b3 (a2 _ b1 b2)
  · exact absurd a3 (b2 _ a1 a2)
  · by_cases e : r < r'
    · exact absurd a3 (b4 r a1 e)
    by_cases e' : r' < r
    · exact absurd b3 (a4 r' b1 e')
    omega
/-- me is the number of the box behind the movie and all that it holds -/
def ME_ (N : Int) (T : px_T) (mi me : Int) : Prop := mi < me ∧ me ≤ N ∧ (∀ i, mi < i → i < me → 1 ≤ T 4 i) ∧ (me = N ∨ T 4 me = 0)
theorem me_iff {n N : Int} {T : px_T} (htt : tt_ n N T) {mi tc : Int} {b : Int → Int} {tab : Int → Int → Int} (hks : KS_ N T mi tc b tab) {me : Int} (h : ME_ N T mi me) {i : Int} (i0 : 0 ≤ i) (i1 : i < N) : 1 ≤ T 4 i ↔ (mi < i ∧ i < me) := by
  obtain ⟨h1, h2, h3, h4⟩ := h
  have lv1 : ∀ i, 0 ≤ i → i < N → T 4 i = 1 → mi < i ∧ ∀ x, mi < x → x < i → 1 ≤ T 4 x := fun i i0 i1 hl => by
    obtain ⟨o0, o1, o2, o3⟩ := (htt.2.2.2.1 i i0 i1).2.1 hl
    have e := hks.1.2.2.2 _ o0 (by omega) o2
    rw [e] at o1 o3
    exact ⟨o1, o3⟩
  have lv : 1 ≤ T 4 i → mi < i ∧ ∀ x, mi < x → x < i → 1 ≤ T 4 x := fun hl => by
    have bx := htt.2.2.1 i i0 i1
    unfold bx_ at bx
    by_cases e1 : T 4 i = 1
    · exact lv1 i i0 i1 e1
    · have e2 : T 4 i = 2 := by omega
      obtain ⟨o0, o1, o2, o3⟩ := (htt.2.2.2.1 i i0 i1).2.2 e2
      obtain ⟨q1, q2⟩ := lv1 _ o0 (by omega) o2.1
      refine ⟨by omega, fun x x0 x1 => ?_⟩
      by_cases a1 : x < T 5 i
      · exact q2 x x0 a1
      · by_cases a2 : x = T 5 i
        · rw [a2, o2.1]; omega
        · rw [o3 x (by omega) x1]; omega
  constructor
  · intro hl
    obtain ⟨q1, q2⟩ := lv hl
    refine ⟨q1, ?_⟩
    by_cases e : i < me
    · exact e
    · rcases h4 with g | g
      · omega
      · by_cases e2 : i = me
        · rw [e2] at hl; omega
        · have := q2 me h1 (by omega); omega
  · exact fun h => h3 i h.1 h.2
section FA
variable {l : Launch} {σ : sg_} {K : Option Value → mx_H → Prop} {F : Int → Int} {n N : Int} {T : px_T} {mi : Int}
theorem lp_R_fd (hrt : rt_ σ N T) (htt : tt_ n N T) (hK : ∀ r, ff_ (DT_ T) N r → K (some (.int (iI r))) (hp_ σ)) : ∀ (j : Nat) (i : Int), i + j = N → 0 ≤ i → (∀ k, 0 ≤ k → k < i → ¬ DT_ T k) → wp_m l Y_R_firstData none 0 0 2 [.ref 51, .int (iI i)] [] (hp_ σ) K := by
  have t2 := htt.2.1
  intro j
  induction j with
  | zero =>
    intro i hi i0 hall
    refine wp_iload_n dc_R_firstData_2 rfl rfl (wp_aload_n dc_R_firstData_3 rfl rfl (wi_getE 2 (N) dc_R_firstData_4 lf_R_64 sh_51 rfl rfl hrt.1 ?_))
    refine wi_ic_ge dc_R_firstData_7 rfl (fun hd => ?_) (fun hd => ?_)
    · refine wi_iconst dc_R_firstData_38 ?_
      refine wp_ireturn dc_R_firstData_39 rfl rfl (hK _ (Or.inl ⟨rfl, fun k k0 k1 => hall k k0 (by omega)⟩))
    · omega
  | succ j ih =>
    intro i hi i0 hall
    have bx := htt.2.2.1 i i0 (by omega)
    unfold bx_ at bx
    have nx : ¬ DT_ T i → wp_m l Y_R_firstData none 0 0 32 [.ref 51, .int (iI i)] [] (hp_ σ) K := fun hn => by
      refine wp_ii1 dc_R_firstData_32 (wp_goto dc_R_firstData_35 rfl ?_)
      refine ih (i + 1) (by omega) (by omega) (fun k k0 k1 => ?_)
      by_cases hk : k = i
      · subst hk; exact hn
      · exact hall k k0 (by omega)
    refine wp_iload_n dc_R_firstData_2 rfl rfl (wp_aload_n dc_R_firstData_3 rfl rfl (wi_getE 2 (N) dc_R_firstData_4 lf_R_64 sh_51 rfl rfl hrt.1 ?_))
    refine wi_ic_ge dc_R_firstData_7 rfl (fun hd => ?_) (fun hd => ?_)
    · omega
    refine wp_aload_n dc_R_firstData_10 rfl rfl (wi_getR dc_R_firstData_11 lf_R_25 sh_51 rfl (wp_iload_n dc_R_firstData_14 rfl rfl (wi_aldE (T 4 i) dc_R_firstData_15 sh_57 (by omega) (by omega) (by decide) (hrt.2 4 i (by decide) i0 (by omega)) ?_)))
    refine wi_if_ne dc_R_firstData_16 rfl (fun he => ?_) (fun he => ?_)
    · exact nx (fun h => he h.1)
    refine wp_aload_n dc_R_firstData_19 rfl rfl (wi_getR dc_R_firstData_20 lf_R_19 sh_51 rfl (wp_iload_n dc_R_firstData_23 rfl rfl (wi_aldE (T 2 i) dc_R_firstData_24 sh_55 (by omega) (by omega) (by decide) (hrt.2 2 i (by decide) i0 (by omega)) (wi_bipush dc_R_firstData_25 ?_))))
    refine wi_ic_ne dc_R_firstData_27 rfl (fun hf => ?_) (fun hf => ?_)
    · exact nx (fun h => hf h.2)
    refine wp_iload_n dc_R_firstData_30 rfl rfl ?_
    refine wp_ireturn dc_R_firstData_31 rfl rfl (hK _ (Or.inr ⟨i0, by omega, ⟨he, hf⟩, hall⟩))
theorem c_R_firstData (hrt : rt_ σ N T) (htt : tt_ n N T) (hK : ∀ r, ff_ (DT_ T) N r → K (some (.int (iI r))) (hp_ σ)) : ct_m l Y_R_firstData 0 0 [.ref 51] (hp_ σ) K := by
  have t1 := htt.1
  refine ct_of (L := [.ref 51, .retAddr 0]) (by decide +kernel) (Nat.le_of_ble_eq_true rfl) rfl ?_
  refine wi_iconst dc_R_firstData_0 (wp_is1 dc_R_firstData_1 ?_)
  exact lp_R_fd hrt htt hK N.toNat 0 (by omega) (by omega) (fun k k0 k1 => by omega)
end FA
