/-! the class's kindsHold -/
def cc_ (P : Int → Prop) (N c : Int) : Prop := 0 ≤ c ∧ c ≤ N ∧ ((c = 0 ∧ ∀ j, 0 ≤ j → j < N → ¬ P j) ∨ (c = 1 ∧ ∃ a, 0 ≤ a ∧ a < N ∧ P a ∧ ∀ j, 0 ≤ j → j < N → P j → j = a) ∨ (c = 2 ∧ ∃ a b, 0 ≤ a ∧ a < b ∧ b < N ∧ P a ∧ P b ∧ ∀ j, 0 ≤ j → j < N → P j → j = a ∨ j = b) ∨ (3 ≤ c ∧ ∃ x y z, 0 ≤ x ∧ x < y ∧ y < z ∧ z < N ∧ P x ∧ P y ∧ P z))
theorem cc_S {P : Int → Prop} {k c : Int} (hk : 0 ≤ k) (h : cc_ P k c) (hp : P k) : cc_ P (k + 1) (c + 1) := by
  obtain ⟨h1, h2, h3⟩ := h
  refine ⟨by omega, by omega, ?_⟩
  rcases h3 with ⟨a1, a2⟩ | ⟨a1, a, a2, a3, a4, a5⟩ | ⟨a1, a, b, a2, a3, a4, a5, a6, a7⟩ | ⟨a1, x, y, z, a2, a3, a4, a5, a6, a7, a8⟩
  · exact Or.inr (Or.inl ⟨by omega, k, hk, by omega, hp, fun j j0 j1 j2 => by
      by_cases hj : j = k
      · exact hj
      · exact absurd j2 (a2 j j0 (by omega))⟩)
  · exact Or.inr (Or.inr (Or.inl ⟨by omega, a, k, a2, a3, by omega, a4, hp, fun j j0 j1 j2 => by
      by_cases hj : j = k
      · exact Or.inr hj
      · exact Or.inl (a5 j j0 (by omega) j2)⟩))
  · exact Or.inr (Or.inr (Or.inr ⟨by omega, a, b, k, a2, a3, a4, by omega, a5, a6, hp⟩))
  · exact Or.inr (Or.inr (Or.inr ⟨by omega, x, y, z, a2, a3, a4, by omega, a6, a7, a8⟩))
theorem cc_N {P : Int → Prop} {k c : Int} (h : cc_ P k c) (hp : ¬ P k) : cc_ P (k + 1) c := by
  obtain ⟨h1, h2, h3⟩ := h
  have key : ∀ j, j < k + 1 → P j → j < k := fun j j1 j2 => by
    by_cases hj : j = k
    · subst hj; exact absurd j2 hp
    · omega
  refine ⟨by omega, by omega, ?_⟩
  rcases h3 with ⟨a1, a2⟩ | ⟨a1, a, a2, a3, a4, a5⟩ | ⟨a1, a, b, a2, a3, a4, a5, a6, a7⟩ | ⟨a1, x, y, z, a2, a3, a4, a5, a6, a7, a8⟩
  · exact Or.inl ⟨a1, fun j j0 j1 j2 => a2 j j0 (key j j1 j2) j2⟩
  · exact Or.inr (Or.inl ⟨a1, a, a2, by omega, a4, fun j j0 j1 j2 => a5 j j0 (key j j1 j2) j2⟩)
  · exact Or.inr (Or.inr (Or.inl ⟨a1, a, b, a2, a3, by omega, a5, a6, fun j j0 j1 j2 => a7 j j0 (key j j1 j2) j2⟩))
  · exact Or.inr (Or.inr (Or.inr ⟨a1, x, y, z, a2, a3, a4, by omega, a6, a7, a8⟩))
def ff_ (P : Int → Prop) (N r : Int) : Prop := (r = -1 ∧ ∀ j, 0 ≤ j → j < N → ¬ P j) ∨ (0 ≤ r ∧ r < N ∧ P r ∧ ∀ j, 0 ≤ j → j < r → ¬ P j)
def ck_ (T : px_T) (h d j : Int) : Prop := T 5 j = h ∧ px_kind (T 2 j) (T 4 j) = d
theorem kd_mv {T : px_T} {n j : Int} (hb : bx_ n T j) : px_kind (T 2 j) (T 4 j) = 77 ↔ MV_ T j := by
  unfold bx_ at hb
  unfold px_kind MV_
  split <;> omega
theorem kd_tk {T : px_T} {n j : Int} (hb : bx_ n T j) : px_kind (T 2 j) (T 4 j) = 84 ↔ TK_ T j := by
  unfold bx_ at hb
  unfold px_kind TK_
  split <;> omega
theorem kd_dt {T : px_T} {n j : Int} (hb : bx_ n T j) : px_kind (T 2 j) (T 4 j) = 68 ↔ T 4 j = 0 ∧ T 2 j = 68 := by
  unfold bx_ at hb
  unfold px_kind
  split <;> omega
theorem ck_mv {T : px_T} {n j : Int} (hb : bx_ n T j) (hs : sx_ T j) : ck_ T (-1) 77 j ↔ MV_ T j := by
  unfold ck_
  rw [kd_mv hb]
  exact ⟨fun h => h.2, fun h => ⟨hs.1 h.1, h⟩⟩
theorem ck_tb {T : px_T} {n j b q : Int} (hb : bx_ n T j) (h0 : 0 ≤ q) (h1 : q < 8) : ck_ T b (tq_ q) j ↔ TB_ T b q j := by
  unfold bx_ at hb
  unfold ck_ TB_ px_kind
  have hq := tq_cases h0 h1
  split <;> omega
/-- the tables of the track at b are f -/
def KT_ (N : Int) (T : px_T) (b : Int) (f : Int → Int) : Prop := (∀ q, 0 ≤ q → q < 8 → (f q = -1 ∧ ∀ j, 0 ≤ j → j < N → ¬ TB_ T b q j) ∨ (0 ≤ f q ∧ f q < N ∧ TB_ T b q (f q) ∧ ∀ j, 0 ≤ j → j < N → TB_ T b q j → j = f q)) ∧ 0 ≤ f 0 ∧ 0 ≤ f 2 ∧ 0 ≤ f 3 ∧ ((0 ≤ f 4 ∧ f 5 = -1) ∨ (f 4 = -1 ∧ 0 ≤ f 5))
section KL
variable {l : Launch} {σ : sg_} {K : Option Value → mx_H → Prop} {n N k : Int} {T : px_T}
theorem lt_cols (hlt : lt_ σ N T) (h0 : 0 ≤ k) (h1 : k < N) : σ 10 k = T 5 k ∧ σ 11 k = px_kind (T 2 k) (T 4 k) := ⟨hlt.2.1 5 k (by decide) h0 h1, hlt.2.2 k h0 h1⟩
theorem kd_rg {n j : Int} (hb : bx_ n T j) : rg (px_kind (T 2 j) (T 4 j)) := by
  unfold bx_ at hb
  unfold px_kind
  split <;> (constructor <;> omega)
theorem lp_L_find {h d : Int} (hlt : lt_ σ N T) (htt : tt_ n N T) (hh : rg h) (hd : rg d) (hK : ∀ r, ff_ (ck_ T h d) N r → K (some (.int (iI r))) (hp_ σ)) : ∀ (j : Nat) (k : Int), k = N - j → 0 ≤ k → (∀ i, 0 ≤ i → i < k → ¬ ck_ T h d i) → wp_m l Y_L_find none 0 0 2 [.ref 3, .int (iI h), .int (iI d), .int (iI k)] [] (hp_ σ) K := by
  obtain ⟨t1, t2, t3, t4, t5⟩ := id htt
  intro j
  induction j with
  | zero =>
    intro k hk k0 hn
    refine wp_iload_n dc_L_find_2 rfl rfl (wp_aload_n dc_L_find_3 rfl rfl (wi_getE 2 (N) dc_L_find_4 lf_L_20 sh_3 rfl rfl hlt.1 ?_))
    refine wi_ic_ge dc_L_find_7 rfl (fun he => ?_) (fun he => ?_)
    · refine wi_iconst dc_L_find_43 ?_
      refine wp_ireturn dc_L_find_44 rfl rfl (hK _ (Or.inl ⟨rfl, fun i i0 i1 => hn i i0 (by omega)⟩))
    · omega
  | succ j ih =>
    intro k hk k0 hn
    obtain ⟨e10, e11⟩ := lt_cols hlt k0 (show k < N by omega)
    have b1 := t3 k k0 (by omega)
    have hr := kd_rg b1
    unfold bx_ at b1
    have nx : ¬ ck_ T h d k → wp_m l Y_L_find none 0 0 37 [.ref 3, .int (iI h), .int (iI d), .int (iI k)] [] (hp_ σ) K := fun hc => by
      refine wp_ii3 dc_L_find_37 (wp_goto dc_L_find_40 rfl ?_)
      refine ih (k + 1) (by omega) (by omega) (fun i i0 i1 => ?_)
      by_cases hi : i = k
      · subst hi; exact hc
      · exact hn i i0 (by omega)
    refine wp_iload_n dc_L_find_2 rfl rfl (wp_aload_n dc_L_find_3 rfl rfl (wi_getE 2 (N) dc_L_find_4 lf_L_20 sh_3 rfl rfl hlt.1 ?_))
    refine wi_ic_ge dc_L_find_7 rfl (fun he => ?_) (fun he => ?_)
    · omega
    · refine wp_aload_n dc_L_find_10 rfl rfl (wi_getR dc_L_find_11 lf_L_17 sh_3 rfl (wi_iconst dc_L_find_14 (wi_aald dc_L_find_15 sh_4 rfl rfl (by decide) (by decide) (by decide) rfl (wp_iload_n dc_L_find_16 rfl rfl (wi_aldE (T 5 k) dc_L_find_17 sh_10 (by omega) (by omega) (by decide) e10 (wp_iload_n dc_L_find_18 rfl rfl ?_))))))
      refine wi_ic_ne dc_L_find_19 rfl (fun hf => ?_) (fun hf => ?_)
      · exact nx (fun q => hf q.1)
      · refine wp_aload_n dc_L_find_22 rfl rfl (wi_getR dc_L_find_23 lf_L_17 sh_3 rfl (wi_bipush dc_L_find_26 (wi_aald dc_L_find_28 sh_4 rfl rfl (by decide) (by decide) (by decide) rfl (wp_iload_n dc_L_find_29 rfl rfl (wi_aldE (px_kind (T 2 k) (T 4 k)) dc_L_find_30 sh_11 (by omega) (by omega) (by decide) e11 (wp_iload_n dc_L_find_31 rfl rfl ?_))))))
        refine wi_ic_ne dc_L_find_32 rfl (fun hg => ?_) (fun hg => ?_)
        · exact nx (fun q => hg q.2)
        · refine wp_iload_n dc_L_find_35 rfl rfl ?_
          refine wp_ireturn dc_L_find_36 rfl rfl (hK _ (Or.inr ⟨k0, by omega, ⟨hf, hg⟩, hn⟩))
theorem c_L_find {h d : Int} (hlt : lt_ σ N T) (htt : tt_ n N T) (hh : rg h) (hd : rg d) (hK : ∀ r, ff_ (ck_ T h d) N r → K (some (.int (iI r))) (hp_ σ)) : ct_m l Y_L_find 0 0 [.ref 3, .int (iI h), .int (iI d)] (hp_ σ) K := by
  have t1 := htt.1
  refine ct_of (L := [.ref 3, .int (iI h), .int (iI d), .retAddr 0]) (by decide +kernel) (Nat.le_of_ble_eq_true rfl) rfl ?_
  refine wi_iconst dc_L_find_0 (wp_is3 dc_L_find_1 ?_)
  exact lp_L_find hlt htt hh hd hK N.toNat 0 (by omega) (by omega) (fun i i0 i1 => by omega)
theorem lp_L_countIn {h d : Int} (hlt : lt_ σ N T) (htt : tt_ n N T) (hh : rg h) (hd : rg d) (hK : ∀ c, cc_ (ck_ T h d) N c → K (some (.int (iI c))) (hp_ σ)) : ∀ (j : Nat) (k c : Int), k = N - j → 0 ≤ k → cc_ (ck_ T h d) k c → wp_m l Y_L_countIn none 0 0 5 [.ref 3, .int (iI h), .int (iI d), .int (iI c), .int (iI k)] [] (hp_ σ) K := by
  obtain ⟨t1, t2, t3, t4, t5⟩ := id htt
  intro j
  induction j with
  | zero =>
    intro k c hk k0 hc
    refine wp_iload dc_L_countIn_5 rfl (wp_aload_n dc_L_countIn_7 rfl rfl (wi_getE 2 (N) dc_L_countIn_8 lf_L_20 sh_3 rfl rfl hlt.1 ?_))
    refine wi_ic_ge dc_L_countIn_11 rfl (fun he => ?_) (fun he => ?_)
    · have e : k = N := by omega
      subst e
      refine wp_iload_n dc_L_countIn_50 rfl rfl ?_
      refine wp_ireturn dc_L_countIn_51 rfl rfl (hK _ hc)
    · omega
  | succ j ih =>
    intro k c hk k0 hc
    obtain ⟨e10, e11⟩ := lt_cols hlt k0 (show k < N by omega)
    have b1 := t3 k k0 (by omega)
    have hr := kd_rg b1
    unfold bx_ at b1
    refine wp_iload dc_L_countIn_5 rfl (wp_aload_n dc_L_countIn_7 rfl rfl (wi_getE 2 (N) dc_L_countIn_8 lf_L_20 sh_3 rfl rfl hlt.1 ?_))
    refine wi_ic_ge dc_L_countIn_11 rfl (fun he => ?_) (fun he => ?_)
    · omega
    · refine wp_aload_n dc_L_countIn_14 rfl rfl (wi_getR dc_L_countIn_15 lf_L_17 sh_3 rfl (wi_iconst dc_L_countIn_18 (wi_aald dc_L_countIn_19 sh_4 rfl rfl (by decide) (by decide) (by decide) rfl (wp_iload dc_L_countIn_20 rfl (wi_aldE (T 5 k) dc_L_countIn_22 sh_10 (by omega) (by omega) (by decide) e10 (wp_iload_n dc_L_countIn_23 rfl rfl ?_))))))
      refine wi_ic_ne dc_L_countIn_24 rfl (fun hf => ?_) (fun hf => ?_)
      · refine wp_ii4 dc_L_countIn_44 (wp_goto dc_L_countIn_47 rfl ?_)
        exact ih (k + 1) c (by omega) (by omega) (cc_N hc (fun q => hf q.1))
      · refine wp_aload_n dc_L_countIn_27 rfl rfl (wi_getR dc_L_countIn_28 lf_L_17 sh_3 rfl (wi_bipush dc_L_countIn_31 (wi_aald dc_L_countIn_33 sh_4 rfl rfl (by decide) (by decide) (by decide) rfl (wp_iload dc_L_countIn_34 rfl (wi_aldE (px_kind (T 2 k) (T 4 k)) dc_L_countIn_36 sh_11 (by omega) (by omega) (by decide) e11 (wp_iload_n dc_L_countIn_37 rfl rfl ?_))))))
        refine wi_ic_ne dc_L_countIn_38 rfl (fun hg => ?_) (fun hg => ?_)
        · refine wp_ii4 dc_L_countIn_44 (wp_goto dc_L_countIn_47 rfl ?_)
          exact ih (k + 1) c (by omega) (by omega) (cc_N hc (fun q => hg q.2))
        · refine wp_ii3 dc_L_countIn_41 (wp_ii4 dc_L_countIn_44 (wp_goto dc_L_countIn_47 rfl ?_))
          exact ih (k + 1) (c + 1) (by omega) (by omega) (cc_S k0 hc ⟨hf, hg⟩)
theorem c_L_countIn {h d : Int} (hlt : lt_ σ N T) (htt : tt_ n N T) (hh : rg h) (hd : rg d) (hK : ∀ c, cc_ (ck_ T h d) N c → K (some (.int (iI c))) (hp_ σ)) : ct_m l Y_L_countIn 0 0 [.ref 3, .int (iI h), .int (iI d)] (hp_ σ) K := by
  have t1 := htt.1
  refine ct_of (L := [.ref 3, .int (iI h), .int (iI d), .retAddr 0, .retAddr 0]) (by decide +kernel) (Nat.le_of_ble_eq_true rfl) rfl ?_
  refine wi_iconst dc_L_countIn_0 (wp_is3 dc_L_countIn_1 (wi_iconst dc_L_countIn_2 (wp_is4 dc_L_countIn_3 ?_)))
  exact lp_L_countIn hlt htt hh hd hK N.toNat 0 0 (by omega) (by omega) ⟨by omega, by omega, Or.inl ⟨rfl, fun i i0 i1 => by omega⟩⟩
/-- what a count of a kind in a track says -/
theorem cc_tb {b q c : Int} (htt : tt_ n N T) (h0 : 0 ≤ q) (h1 : q < 8) (h : cc_ (ck_ T b (tq_ q)) N c) : (c = 0 ∧ ∀ j, 0 ≤ j → j < N → ¬ TB_ T b q j) ∨ (c = 1 ∧ ∃ a, 0 ≤ a ∧ a < N ∧ TB_ T b q a ∧ ∀ j, 0 ≤ j → j < N → TB_ T b q j → j = a) ∨ (2 ≤ c ∧ ∃ x y, 0 ≤ x ∧ x < y ∧ y < N ∧ TB_ T b q x ∧ TB_ T b q y) := by
  have tr : ∀ j, 0 ≤ j → j < N → (ck_ T b (tq_ q) j ↔ TB_ T b q j) := fun j j0 j1 => ck_tb (htt.2.2.1 j j0 j1) h0 h1
  obtain ⟨-, -, h3⟩ := h
  rcases h3 with ⟨a1, a2⟩ | ⟨a1, a, a2, a3, a4, a5⟩ | ⟨a1, a, b', a2, a3, a4, a5, a6, a7⟩ | ⟨a1, x, y, z, a2, a3, a4, a5, a6, a7, a8⟩
  · exact Or.inl ⟨a1, fun j j0 j1 hj => a2 j j0 j1 ((tr j j0 j1).mpr hj)⟩
  · exact Or.inr (Or.inl ⟨a1, a, a2, a3, (tr a a2 a3).mp a4, fun j j0 j1 hj => a5 j j0 j1 ((tr j j0 j1).mpr hj)⟩)
  · exact Or.inr (Or.inr ⟨by omega, a, b', a2, a3, a4, (tr a a2 (by omega)).mp a5, (tr b' (by omega) a4).mp a6⟩)
  · exact Or.inr (Or.inr ⟨by omega, x, y, a2, a3, by omega, (tr x a2 (by omega)).mp a6, (tr y (by omega) (by omega)).mp a7⟩)
theorem c_L_trackKindsHold {b : Int} (hlt : lt_ σ N T) (htt : tt_ n N T) (hb : rg b) (h1 : (∃ f, KT_ N T b f) → K (some (.int (iI 1))) (hp_ σ)) (h0 : ¬ (∃ f, KT_ N T b f) → K (some (.int (iI 0))) (hp_ σ)) : ct_m l Y_L_trackKindsHold 0 0 [.ref 3, .int (iI b)] (hp_ σ) K := by
  have t2 := htt.2.1
  have no : ¬ (∃ f, KT_ N T b f) → wp_m l Y_L_trackKindsHold none 0 0 89 [.ref 3, .int (iI b)] [] (hp_ σ) K := fun hn => by
    refine wi_iconst dc_L_trackKindsHold_89 ?_
    refine wp_ireturn dc_L_trackKindsHold_90 rfl rfl (h0 hn)
  -- a count that isn't as a KT_ would have it
  have dup : ∀ (q c : Int), 0 ≤ q → q < 8 → cc_ (ck_ T b (tq_ q)) N c → 2 ≤ c → ¬ (∃ f, KT_ N T b f) := fun q c q0 q1 hc hc2 => by
    rintro ⟨f, hf, -⟩
    rcases cc_tb htt q0 q1 hc with g | g | ⟨g, x, y, g1, g2, g3, g4, g5⟩
    · omega
    · omega
    · rcases hf q q0 q1 with k | k
      · exact k.2 x g1 (by omega) g4
      · have := k.2.2.2 x g1 (by omega) g4
        have := k.2.2.2 y (by omega) g3 g5
        omega
  have zero : ∀ (q c : Int) (f : Int → Int), 0 ≤ q → q < 8 → cc_ (ck_ T b (tq_ q)) N c → KT_ N T b f → (c = 0 ↔ f q = -1) ∧ (c = 1 ↔ 0 ≤ f q) := fun q c f q0 q1 hc hf => by
    rcases cc_tb htt q0 q1 hc with ⟨g, g1⟩ | ⟨g, a, g1, g2, g3, g4⟩ | ⟨g, x, y, g1, g2, g3, g4, g5⟩
    · rcases hf.1 q q0 q1 with k | k
      · omega
      · exact absurd k.2.2.1 (g1 _ k.1 k.2.1)
    · rcases hf.1 q q0 q1 with k | k
      · exact absurd g3 (k.2 a g1 g2)
      · omega
    · exact absurd ⟨f, hf⟩ (dup q c q0 q1 hc g)
  refine ct_of (L := [.ref 3, .int (iI b)]) (by decide +kernel) (Nat.le_of_ble_eq_true rfl) rfl ?_
  refine wp_aload_n dc_L_trackKindsHold_0 rfl rfl (wp_iload_n dc_L_trackKindsHold_1 rfl rfl (wi_bipush dc_L_trackKindsHold_2 ?_))
  refine wp_callV (As := [_, _]) dc_L_trackKindsHold_4 lm_L_68 ls_L_countIn (by decide) rfl rfl (hp_at _ sh_3) rfl rfl (Nat.le_of_ble_eq_true rfl) (Nat.le_refl _) (Nat.le_refl _) ?_
  refine c_L_countIn hlt htt hb ⟨by omega, by omega⟩ (fun c0 hc0 => ?_)
  have hc0' : cc_ (ck_ T b (tq_ 0)) N c0 := hc0
  have r0 := hc0.1
  have r0' := hc0.2.1
  refine wi_iconst dc_L_trackKindsHold_7 ?_
  refine wi_ic_ne dc_L_trackKindsHold_8 rfl (fun e0 => ?_) (fun e0 => ?_)
  · refine no ?_
    rintro ⟨f, hf⟩
    have := zero 0 c0 f (by omega) (by omega) hc0' hf
    have := hf.2.1
    omega
  refine wp_aload_n dc_L_trackKindsHold_11 rfl rfl (wp_iload_n dc_L_trackKindsHold_12 rfl rfl (wi_bipush dc_L_trackKindsHold_13 ?_))
  refine wp_callV (As := [_, _]) dc_L_trackKindsHold_15 lm_L_68 ls_L_countIn (by decide) rfl rfl (hp_at _ sh_3) rfl rfl (Nat.le_of_ble_eq_true rfl) (Nat.le_refl _) (Nat.le_refl _) ?_
  refine c_L_countIn hlt htt hb ⟨by omega, by omega⟩ (fun c2 hc2 => ?_)
  have hc2' : cc_ (ck_ T b (tq_ 2)) N c2 := hc2
  have r2 := hc2.1
  have r2' := hc2.2.1
  refine wi_iconst dc_L_trackKindsHold_18 ?_
  refine wi_ic_ne dc_L_trackKindsHold_19 rfl (fun e2 => ?_) (fun e2 => ?_)
  · refine no ?_
    rintro ⟨f, hf⟩
    have := zero 2 c2 f (by omega) (by omega) hc2' hf
    have := hf.2.2.1
    omega
  refine wp_aload_n dc_L_trackKindsHold_22 rfl rfl (wp_iload_n dc_L_trackKindsHold_23 rfl rfl (wi_bipush dc_L_trackKindsHold_24 ?_))
  refine wp_callV (As := [_, _]) dc_L_trackKindsHold_26 lm_L_68 ls_L_countIn (by decide) rfl rfl (hp_at _ sh_3) rfl rfl (Nat.le_of_ble_eq_true rfl) (Nat.le_refl _) (Nat.le_refl _) ?_
  refine c_L_countIn hlt htt hb ⟨by omega, by omega⟩ (fun c3 hc3 => ?_)
  have hc3' : cc_ (ck_ T b (tq_ 3)) N c3 := hc3
  have r3 := hc3.1
  have r3' := hc3.2.1
  refine wi_iconst dc_L_trackKindsHold_29 ?_
  refine wi_ic_ne dc_L_trackKindsHold_30 rfl (fun e3 => ?_) (fun e3 => ?_)
  · refine no ?_
    rintro ⟨f, hf⟩
    have := zero 3 c3 f (by omega) (by omega) hc3' hf
    have := hf.2.2.2.1
    omega
  refine wp_aload_n dc_L_trackKindsHold_33 rfl rfl (wp_iload_n dc_L_trackKindsHold_34 rfl rfl (wi_bipush dc_L_trackKindsHold_35 ?_))
  refine wp_callV (As := [_, _]) dc_L_trackKindsHold_37 lm_L_68 ls_L_countIn (by decide) rfl rfl (hp_at _ sh_3) rfl rfl (Nat.le_of_ble_eq_true rfl) (Nat.le_refl _) (Nat.le_refl _) ?_
  refine c_L_countIn hlt htt hb ⟨by omega, by omega⟩ (fun c4 hc4 => ?_)
  have hc4' : cc_ (ck_ T b (tq_ 4)) N c4 := hc4
  have r4 := hc4.1
  have r4' := hc4.2.1
  refine wp_aload_n dc_L_trackKindsHold_40 rfl rfl (wp_iload_n dc_L_trackKindsHold_41 rfl rfl (wi_bipush dc_L_trackKindsHold_42 ?_))
  refine wp_callV (As := [_, _]) dc_L_trackKindsHold_44 lm_L_68 ls_L_countIn (by decide) rfl rfl (hp_at _ sh_3) rfl rfl (Nat.le_of_ble_eq_true rfl) (Nat.le_refl _) (Nat.le_refl _) ?_
  refine c_L_countIn hlt htt hb ⟨by omega, by omega⟩ (fun c5 hc5 => ?_)
  have hc5' : cc_ (ck_ T b (tq_ 5)) N c5 := hc5
  have r5 := hc5.1
  have r5' := hc5.2.1
  refine wi_iadd dc_L_trackKindsHold_47 (wi_iconst dc_L_trackKindsHold_48 ?_)
  refine wi_ic_ne dc_L_trackKindsHold_49 rfl (fun e45 => ?_) (fun e45 => ?_)
  · refine no ?_
    rintro ⟨f, hf⟩
    have := zero 4 c4 f (by omega) (by omega) hc4' hf
    have := zero 5 c5 f (by omega) (by omega) hc5' hf
    have := hf.2.2.2.2
    omega
  refine wp_aload_n dc_L_trackKindsHold_52 rfl rfl (wp_iload_n dc_L_trackKindsHold_53 rfl rfl (wi_bipush dc_L_trackKindsHold_54 ?_))
  refine wp_callV (As := [_, _]) dc_L_trackKindsHold_56 lm_L_68 ls_L_countIn (by decide) rfl rfl (hp_at _ sh_3) rfl rfl (Nat.le_of_ble_eq_true rfl) (Nat.le_refl _) (Nat.le_refl _) ?_
  refine c_L_countIn hlt htt hb ⟨by omega, by omega⟩ (fun c1 hc1 => ?_)
  have hc1' : cc_ (ck_ T b (tq_ 1)) N c1 := hc1
  have r1 := hc1.1
  have r1' := hc1.2.1
  refine wi_iconst dc_L_trackKindsHold_59 ?_
  refine wi_ic_gt dc_L_trackKindsHold_60 rfl (fun e1 => ?_) (fun e1 => ?_)
  · exact no (dup 1 c1 (by omega) (by omega) hc1' (by omega))
  refine wp_aload_n dc_L_trackKindsHold_63 rfl rfl (wp_iload_n dc_L_trackKindsHold_64 rfl rfl (wi_bipush dc_L_trackKindsHold_65 ?_))
  refine wp_callV (As := [_, _]) dc_L_trackKindsHold_67 lm_L_68 ls_L_countIn (by decide) rfl rfl (hp_at _ sh_3) rfl rfl (Nat.le_of_ble_eq_true rfl) (Nat.le_refl _) (Nat.le_refl _) ?_
  refine c_L_countIn hlt htt hb ⟨by omega, by omega⟩ (fun c6 hc6 => ?_)
  have hc6' : cc_ (ck_ T b (tq_ 6)) N c6 := hc6
  have r6 := hc6.1
  have r6' := hc6.2.1
  refine wi_iconst dc_L_trackKindsHold_70 ?_
  refine wi_ic_gt dc_L_trackKindsHold_71 rfl (fun e6 => ?_) (fun e6 => ?_)
  · exact no (dup 6 c6 (by omega) (by omega) hc6' (by omega))
  refine wp_aload_n dc_L_trackKindsHold_74 rfl rfl (wp_iload_n dc_L_trackKindsHold_75 rfl rfl (wi_bipush dc_L_trackKindsHold_76 ?_))
  refine wp_callV (As := [_, _]) dc_L_trackKindsHold_78 lm_L_68 ls_L_countIn (by decide) rfl rfl (hp_at _ sh_3) rfl rfl (Nat.le_of_ble_eq_true rfl) (Nat.le_refl _) (Nat.le_refl _) ?_
  refine c_L_countIn hlt htt hb ⟨by omega, by omega⟩ (fun c7 hc7 => ?_)
  have hc7' : cc_ (ck_ T b (tq_ 7)) N c7 := hc7
  have r7 := hc7.1
  have r7' := hc7.2.1
  refine wi_iconst dc_L_trackKindsHold_81 ?_
  refine wi_ic_gt dc_L_trackKindsHold_82 rfl (fun e7 => ?_) (fun e7 => ?_)
  · exact no (dup 7 c7 (by omega) (by omega) hc7' (by omega))
  have pick : ∀ q c : Int, 0 ≤ q → q < 8 → cc_ (ck_ T b (tq_ q)) N c → c ≤ 1 → ∃ x, ((x = -1 ∧ ∀ j, 0 ≤ j → j < N → ¬ TB_ T b q j) ∨ (0 ≤ x ∧ x < N ∧ TB_ T b q x ∧ ∀ j, 0 ≤ j → j < N → TB_ T b q j → j = x)) ∧ (c = 1 → 0 ≤ x) ∧ (c = 0 → x = -1) := fun q c q0 q1 hc hc1 => by
    rcases cc_tb htt q0 q1 hc with ⟨g, g1⟩ | ⟨g, a, g1, g2, g3, g4⟩ | ⟨g, g1⟩
    · exact ⟨-1, Or.inl ⟨rfl, g1⟩, fun h => by omega, fun _ => rfl⟩
    · exact ⟨a, Or.inr ⟨g1, g2, g3, g4⟩, fun _ => g1, fun h => by omega⟩
    · omega
  obtain ⟨x0, p0, q0, z0⟩ := pick 0 c0 (by omega) (by omega) hc0' (by omega)
  obtain ⟨x1, p1, q1, z1⟩ := pick 1 c1 (by omega) (by omega) hc1' (by omega)
  obtain ⟨x2, p2, q2, z2⟩ := pick 2 c2 (by omega) (by omega) hc2' (by omega)
  obtain ⟨x3, p3, q3, z3⟩ := pick 3 c3 (by omega) (by omega) hc3' (by omega)
  obtain ⟨x4, p4, q4, z4⟩ := pick 4 c4 (by omega) (by omega) hc4' (by omega)
  obtain ⟨x5, p5, q5, z5⟩ := pick 5 c5 (by omega) (by omega) hc5' (by omega)
  obtain ⟨x6, p6, q6, z6⟩ := pick 6 c6 (by omega) (by omega) hc6' (by omega)
  obtain ⟨x7, p7, q7, z7⟩ := pick 7 c7 (by omega) (by omega) hc7' (by omega)
  refine wi_iconst dc_L_trackKindsHold_85 (wp_goto dc_L_trackKindsHold_86 rfl ?_)
  refine wp_ireturn dc_L_trackKindsHold_90 rfl rfl (h1 ⟨fun q => if q = 0 then x0 else if q = 1 then x1 else if q = 2 then x2 else if q = 3 then x3 else if q = 4 then x4 else if q = 5 then x5 else if q = 6 then x6 else x7, fun q q0 q1 => ?_, ?_, ?_, ?_, ?_⟩)
  · have hq : q = 0 ∨ q = 1 ∨ q = 2 ∨ q = 3 ∨ q = 4 ∨ q = 5 ∨ q = 6 ∨ q = 7 := by omega
    rcases hq with rfl | rfl | rfl | rfl | rfl | rfl | rfl | rfl
    · exact p0
    · exact p1
    · exact p2
    · exact p3
    · exact p4
    · exact p5
    · exact p6
    · exact p7
  · exact q0 (by omega)
  · exact q2 (by omega)
  · exact q3 (by omega)
  · have h45 : (c4 = 1 ∧ c5 = 0) ∨ (c4 = 0 ∧ c5 = 1) := by omega
    rcases h45 with ⟨g4, g5⟩ | ⟨g4, g5⟩
    · exact Or.inl ⟨q4 g4, z5 g5⟩
    · exact Or.inr ⟨z4 g4, q5 g5⟩
end KL
