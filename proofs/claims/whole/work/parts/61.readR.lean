/-! the reference's reading -/
/-- nothing but what P names has changed -/
def fr_ (P : Nat → Int → Prop) (σ σ' : sg_) : Prop := ∀ b j, ¬ P b j → σ' b j = σ b j
theorem fr_.rf {P : Nat → Int → Prop} {σ : sg_} : fr_ P σ σ := fun _ _ _ => rfl
theorem fr_.tr {P : Nat → Int → Prop} {σ σ1 σ2 : sg_} (h1 : fr_ P σ σ1) (h2 : fr_ P σ1 σ2) : fr_ P σ σ2 := fun b j h => (h2 b j h).trans (h1 b j h)
theorem fr_.up {P : Nat → Int → Prop} {σ σ' : sg_} {a : Nat} {k v : Int} (h : fr_ P σ σ') (hp : P a k) : fr_ P σ (up_ σ' a k v) := fun b j hb => by
  rw [up_n _ _ (fun q => hb (by rw [q.1, q.2]; exact hp))]
  exact h b j hb
theorem fr_.mono {P P' : Nat → Int → Prop} {σ σ' : sg_} (h : fr_ P σ σ') (hp : ∀ b j, P b j → P' b j) : fr_ P' σ σ' := fun b j hb => h b j (fun q => hb (hp b j q))
/-- the reference's file: n bytes F -/
def ro_ (σ : sg_) (F : Int → Int) (n : Int) : Prop := 0 ≤ n ∧ n ≤ 1000 ∧ σ 51 1 = n ∧ (∀ i, 0 ≤ i → i < n → σ 52 i = F i) ∧ ∀ i, 0 ≤ F i ∧ F i < 256
def rdW (b : Nat) (j : Int) : Prop := (b = 51 ∧ j = 2) ∨ (53 ≤ b ∧ b ≤ 60)
theorem ro_.fr {σ σ' : sg_} {F : Int → Int} {n : Int} {P : Nat → Int → Prop} (h : ro_ σ F n) (hf : fr_ P σ σ') (h1 : ¬ P 51 1) (h2 : ∀ j, ¬ P 52 j) : ro_ σ' F n := by
  obtain ⟨a1, a2, a3, a4, a5⟩ := h
  exact ⟨a1, a2, by rw [hf 51 1 h1]; exact a3, fun i i0 i1 => by rw [hf 52 i (h2 i)]; exact a4 i i0 i1, a5⟩
/-- the reference's table of k boxes -/
def rt_ (σ : sg_) (k : Int) (T : px_T) : Prop := σ 51 2 = k ∧ ∀ (c : Nat) (i : Int), c < 6 → 0 ≤ i → i < k → σ (53 + c) i = T c i
section RR
variable {l : Launch} {σ : sg_} {K : Option Value → mx_H → Prop} {F : Int → Int} {n k p : Int} {v : Nat} {E O : Nat → Int} {T : px_T}
theorem c_R_isHolder {i : Int} (h0 : 0 ≤ i) (h1 : i < 20) (r4 : rg (σ 57 i)) (r2 : rg (σ 55 i)) (hK : K (some (.int (iI (if (σ 57 i = 0 ∧ σ 55 i = 77) ∨ (σ 57 i = 1 ∧ σ 55 i = 84) then 1 else 0)))) (hp_ σ)) : ct_m l Y_R_isHolder 0 0 [.ref 51, .int (iI i)] (hp_ σ) K := by
  refine ct_of (L := [.ref 51, .int (iI i)]) (by decide +kernel) (Nat.le_of_ble_eq_true rfl) rfl ?_
  refine wp_aload_n dc_R_isHolder_0 rfl rfl (wi_getR dc_R_isHolder_1 lf_R_25 sh_51 rfl (wp_iload_n dc_R_isHolder_4 rfl rfl (wi_ald dc_R_isHolder_5 sh_57 (by omega) (by omega) (by decide) ?_)))
  refine wi_if_ne dc_R_isHolder_6 rfl (fun hc => ?_) (fun hc => ?_)
  · refine wp_aload_n dc_R_isHolder_20 rfl rfl (wi_getR dc_R_isHolder_21 lf_R_25 sh_51 rfl (wp_iload_n dc_R_isHolder_24 rfl rfl (wi_ald dc_R_isHolder_25 sh_57 (by omega) (by omega) (by decide) (wi_iconst dc_R_isHolder_26 ?_))))
    refine wi_ic_ne dc_R_isHolder_27 rfl (fun hd => ?_) (fun hd => ?_)
    · rw [if_neg (by omega)] at hK
      refine wi_iconst dc_R_isHolder_45 ?_
      refine wp_ireturn dc_R_isHolder_46 rfl rfl hK
    · refine wp_aload_n dc_R_isHolder_30 rfl rfl (wi_getR dc_R_isHolder_31 lf_R_19 sh_51 rfl (wp_iload_n dc_R_isHolder_34 rfl rfl (wi_ald dc_R_isHolder_35 sh_55 (by omega) (by omega) (by decide) (wi_bipush dc_R_isHolder_36 ?_))))
      refine wi_ic_ne dc_R_isHolder_38 rfl (fun he => ?_) (fun he => ?_)
      · rw [if_neg (by omega)] at hK
        refine wi_iconst dc_R_isHolder_45 ?_
        refine wp_ireturn dc_R_isHolder_46 rfl rfl hK
      · rw [if_pos (by omega)] at hK
        refine wi_iconst dc_R_isHolder_41 (wp_goto dc_R_isHolder_42 rfl ?_)
        refine wp_ireturn dc_R_isHolder_46 rfl rfl hK
  · refine wp_aload_n dc_R_isHolder_9 rfl rfl (wi_getR dc_R_isHolder_10 lf_R_19 sh_51 rfl (wp_iload_n dc_R_isHolder_13 rfl rfl (wi_ald dc_R_isHolder_14 sh_55 (by omega) (by omega) (by decide) (wi_bipush dc_R_isHolder_15 ?_))))
    refine wi_ic_eq dc_R_isHolder_17 rfl (fun hd => ?_) (fun hd => ?_)
    · rw [if_pos (by omega)] at hK
      refine wi_iconst dc_R_isHolder_41 (wp_goto dc_R_isHolder_42 rfl ?_)
      refine wp_ireturn dc_R_isHolder_46 rfl rfl hK
    · refine wp_aload_n dc_R_isHolder_20 rfl rfl (wi_getR dc_R_isHolder_21 lf_R_25 sh_51 rfl (wp_iload_n dc_R_isHolder_24 rfl rfl (wi_ald dc_R_isHolder_25 sh_57 (by omega) (by omega) (by decide) (wi_iconst dc_R_isHolder_26 ?_))))
      refine wi_ic_ne dc_R_isHolder_27 rfl (fun he => ?_) (fun he => ?_)
      · rw [if_neg (by omega)] at hK
        refine wi_iconst dc_R_isHolder_45 ?_
        refine wp_ireturn dc_R_isHolder_46 rfl rfl hK
      · omega
/-- the state behind a box that was read -/
def s1_ (σ : sg_) (k a s t h v o : Int) : sg_ := up_ (up_ (up_ (up_ (up_ (up_ (up_ σ 53 k a) 54 k s) 55 k t) 56 k h) 57 k v) 58 k o) 51 2 (k + 1)
theorem s1_fr (σ : sg_) (k a s t h v o : Int) : fr_ rdW σ (s1_ σ k a s t h v o) := by
  unfold s1_
  refine fr_.up (fr_.up (fr_.up (fr_.up (fr_.up (fr_.up (fr_.up fr_.rf ?_) ?_) ?_) ?_) ?_) ?_) ?_ <;> (unfold rdW; omega)
theorem s1_rt {σ : sg_} {k a s t h v o : Int} {T : px_T} (hr : rt_ σ k T) : rt_ (s1_ σ k a s t h v o) (k + 1) (px_put T k a s t h v o) := by
  refine ⟨by unfold s1_; rw [up_s], fun c i hc h0 h1 => ?_⟩
  by_cases hi : i = k
  · subst hi
    match c, hc with
    | 0, _ => simp [s1_, up_, px_put]
    | 1, _ => simp [s1_, up_, px_put]
    | 2, _ => simp [s1_, up_, px_put]
    | 3, _ => simp [s1_, up_, px_put]
    | 4, _ => simp [s1_, up_, px_put]
    | 5, _ => simp [s1_, up_, px_put]
  · rw [put_ne T hi, ← hr.2 c i hc h0 (by omega)]
    unfold s1_ up_
    simp [hi]
    omega
theorem s1_59 (σ : sg_) (k a s t h v o : Int) : s1_ σ k a s t h v o 59 = σ 59 ∧ s1_ σ k a s t h v o 60 = σ 60 := by
  constructor <;> (funext j; simp [s1_, up_])
theorem c_R_readOne (hro : ro_ σ F n) (hk : σ 51 2 = k) (hk0 : 0 ≤ k) (hk1 : k < 20) (hv : v ≤ 2) (hO : σ 60 v = O v) (hp : 0 ≤ p) (hE : p ≤ E v) (hEn : E v ≤ n)
    (hN : px_one F p (E v - p) v = none → K (some (.int (iI 0))) (hp_ σ)) (hS : ∀ s h, px_one F p (E v - p) v = some (s, h) → K (some (.int (iI 1))) (hp_ (s1_ σ k p s (F (p + 1)) h v (O v)))) : ct_m l Y_R_readOne 0 0 [.ref 51, .int (iI p), .int (iI (E v - p)), .int (iI v)] (hp_ σ) K := by
  obtain ⟨a1, a2, a3, a4, a5⟩ := hro
  have hpw : px_one F p (E v - p) v = if E v - p < 2 then none else if E v - p < px_h F p ∨ (F p = 0 ∧ 0 < v) then none else if px_w F p (E v - p) < px_h F p ∨ E v - p < px_w F p (E v - p) then none else some (px_w F p (E v - p), px_h F p) := rfl
  have hh : px_h F p = 2 ∨ px_h F p = 4 := by
    unfold px_h
    split
    · exact Or.inr rfl
    · exact Or.inl rfl
  have hF0 := a5 p
  have hF2 := a5 (p + 2)
  have hF3 := a5 (p + 3)
  have hwr : 0 ≤ px_w F p (E v - p) ∧ px_w F p (E v - p) ≤ 70000 := by
    unfold px_w
    split
    · omega
    split <;> omega
  refine ct_of (L := [.ref 51, .int (iI p), .int (iI (E v - p)), .int (iI v), .retAddr 0, .retAddr 0, .retAddr 0]) (by decide +kernel) (Nat.le_of_ble_eq_true rfl) rfl ?_
  refine wp_iload_n dc_R_readOne_0 rfl rfl (wi_iconst dc_R_readOne_1 ?_)
  refine wi_ic_ge dc_R_readOne_2 rfl (fun hc => ?_) (fun hc => ?_)
  rotate_left
  · refine wi_iconst dc_R_readOne_5 ?_
    refine wp_ireturn dc_R_readOne_6 rfl rfl (hN (by rw [hpw, if_pos (by omega)]))
  suffices K26 : wp_m l Y_R_readOne none 0 0 26 [.ref 51, .int (iI p), .int (iI (E v - p)), .int (iI v), .int (iI (F p)), .retAddr 0, .retAddr 0] [.int (iI (px_h F p))] (hp_ σ) K by
    refine wp_aload_n dc_R_readOne_7 rfl rfl (wi_getR dc_R_readOne_8 lf_R_7 sh_51 rfl (wp_iload_n dc_R_readOne_11 rfl rfl (wi_aldE (F p) dc_R_readOne_12 sh_52 (by omega) (by omega) (by decide) (a4 p hp (by omega)) (wp_is4 dc_R_readOne_13 (wp_iload dc_R_readOne_15 rfl (wi_iconst dc_R_readOne_17 ?_))))))
    refine wi_ic_ne dc_R_readOne_18 rfl (fun hd => ?_) (fun hd => ?_)
    · rw [show px_h F p = 2 from if_neg hd] at K26
      refine wi_iconst dc_R_readOne_25 ?_
      exact K26
    · rw [show px_h F p = 4 from if_pos hd] at K26
      refine wi_iconst dc_R_readOne_21 (wp_goto dc_R_readOne_22 rfl ?_)
      exact K26
  refine wp_is5 dc_R_readOne_26 (wp_iload_n dc_R_readOne_28 rfl rfl (wp_iload dc_R_readOne_29 rfl ?_))
  refine wi_ic_lt dc_R_readOne_31 rfl (fun hd => ?_) (fun hd => ?_)
  · refine wi_iconst dc_R_readOne_43 ?_
    refine wp_ireturn dc_R_readOne_44 rfl rfl (hN (by rw [hpw, if_neg (by omega), if_pos (Or.inl hd)]))
  suffices K45 : ¬ (F p = 0 ∧ 0 < v) → wp_m l Y_R_readOne none 0 0 45 [.ref 51, .int (iI p), .int (iI (E v - p)), .int (iI v), .int (iI (F p)), .int (iI (px_h F p)), .retAddr 0] [] (hp_ σ) K by
    refine wp_iload dc_R_readOne_34 rfl ?_
    refine wi_if_ne dc_R_readOne_36 rfl (fun he => ?_) (fun he => ?_)
    · exact K45 (by omega)
    · refine wp_iload_n dc_R_readOne_39 rfl rfl ?_
      refine wi_if_le dc_R_readOne_40 rfl (fun hf => ?_) (fun hf => ?_)
      · exact K45 (by omega)
      · refine wi_iconst dc_R_readOne_43 ?_
        refine wp_ireturn dc_R_readOne_44 rfl rfl (hN (by rw [hpw, if_neg (by omega), if_pos (Or.inr ⟨he, by omega⟩)]))
  intro hz
  suffices K86 : wp_m l Y_R_readOne none 0 0 86 [.ref 51, .int (iI p), .int (iI (E v - p)), .int (iI v), .int (iI (F p)), .int (iI (px_h F p)), .retAddr 0] [.int (iI (px_w F p (E v - p)))] (hp_ σ) K by
    refine wp_iload dc_R_readOne_45 rfl ?_
    refine wi_if_ne dc_R_readOne_47 rfl (fun he => ?_) (fun he => ?_)
    · refine wp_iload dc_R_readOne_54 rfl (wi_iconst dc_R_readOne_56 ?_)
      refine wi_ic_ne dc_R_readOne_57 rfl (fun hf => ?_) (fun hf => ?_)
      · rw [show px_w F p (E v - p) = F p by unfold px_w; rw [if_neg he, if_neg hf]] at K86
        refine wp_iload dc_R_readOne_84 rfl ?_
        exact K86
      · have h4 : px_h F p = 4 := if_pos hf
        rw [show px_w F p (E v - p) = 256 * F (p + 2) + F (p + 3) by unfold px_w; rw [if_neg he, if_pos hf]] at K86
        refine wi_sipush dc_R_readOne_60 (wp_aload_n dc_R_readOne_63 rfl rfl (wi_getR dc_R_readOne_64 lf_R_7 sh_51 rfl (wp_iload_n dc_R_readOne_67 rfl rfl (wi_iconst dc_R_readOne_68 (wi_iadd dc_R_readOne_69 (wi_aldE (F (p + 2)) dc_R_readOne_70 sh_52 (by omega) (by omega) (by decide) (a4 (p + 2) (by omega) (by omega)) (wi_imul dc_R_readOne_71 (wp_aload_n dc_R_readOne_72 rfl rfl (wi_getR dc_R_readOne_73 lf_R_7 sh_51 rfl (wp_iload_n dc_R_readOne_76 rfl rfl (wi_iconst dc_R_readOne_77 (wi_iadd dc_R_readOne_78 (wi_aldE (F (p + 3)) dc_R_readOne_79 sh_52 (by omega) (by omega) (by decide) (a4 (p + 3) (by omega) (by omega)) ?_)))))))))))))
        refine wi_iadd dc_R_readOne_80 (wp_goto dc_R_readOne_81 rfl ?_)
        exact K86
    · rw [show px_w F p (E v - p) = E v - p by unfold px_w; rw [if_pos he]] at K86
      refine wp_iload_n dc_R_readOne_50 rfl rfl (wp_goto dc_R_readOne_51 rfl ?_)
      exact K86
  refine wp_is6 dc_R_readOne_86 (wp_iload dc_R_readOne_88 rfl (wp_iload dc_R_readOne_90 rfl ?_))
  refine wi_ic_lt dc_R_readOne_92 rfl (fun he => ?_) (fun he => ?_)
  · refine wi_iconst dc_R_readOne_101 ?_
    refine wp_ireturn dc_R_readOne_102 rfl rfl (hN (by rw [hpw, if_neg (by omega), if_neg (by omega), if_pos (Or.inl he)]))
  · refine wp_iload dc_R_readOne_95 rfl (wp_iload_n dc_R_readOne_97 rfl rfl ?_)
    refine wi_ic_le dc_R_readOne_98 rfl (fun hf => ?_) (fun hf => ?_)
    rotate_left
    · refine wi_iconst dc_R_readOne_101 ?_
      refine wp_ireturn dc_R_readOne_102 rfl rfl (hN (by rw [hpw, if_neg (by omega), if_neg (by omega), if_pos (Or.inr (by omega))]))
    · refine wp_aload_n dc_R_readOne_103 rfl rfl (wi_getR dc_R_readOne_104 lf_R_13 sh_51 rfl (wp_aload_n dc_R_readOne_107 rfl rfl (wi_getE 2 (k) dc_R_readOne_108 lf_R_64 sh_51 rfl rfl (by simp [up_, hk]) (wp_iload_n dc_R_readOne_111 rfl rfl (wi_ast dc_R_readOne_112 sh_53 (by omega) (by omega) (by decide) (wp_aload_n dc_R_readOne_113 rfl rfl (wi_getR dc_R_readOne_114 lf_R_16 sh_51 rfl (wp_aload_n dc_R_readOne_117 rfl rfl (wi_getE 2 (k) dc_R_readOne_118 lf_R_64 sh_51 rfl rfl (by simp [up_, hk]) (wp_iload dc_R_readOne_121 rfl (wi_ast dc_R_readOne_123 sh_54 (by omega) (by omega) (by decide) (wp_aload_n dc_R_readOne_124 rfl rfl (wi_getR dc_R_readOne_125 lf_R_19 sh_51 rfl ?_)))))))))))))
      refine wp_aload_n dc_R_readOne_128 rfl rfl (wi_getE 2 (k) dc_R_readOne_129 lf_R_64 sh_51 rfl rfl (by simp [up_, hk]) (wp_aload_n dc_R_readOne_132 rfl rfl (wi_getR dc_R_readOne_133 lf_R_7 sh_51 rfl (wp_iload_n dc_R_readOne_136 rfl rfl (wi_iconst dc_R_readOne_137 (wi_iadd dc_R_readOne_138 (wi_aldE (F (p + 1)) dc_R_readOne_139 sh_52 (by omega) (by omega) (by decide) (by simp [up_]; exact a4 (p + 1) (by omega) (by omega)) (wi_ast dc_R_readOne_140 sh_55 (by omega) (by omega) (by decide) (wp_aload_n dc_R_readOne_141 rfl rfl (wi_getR dc_R_readOne_142 lf_R_22 sh_51 rfl (wp_aload_n dc_R_readOne_145 rfl rfl (wi_getE 2 (k) dc_R_readOne_146 lf_R_64 sh_51 rfl rfl (by simp [up_, hk]) (wp_iload dc_R_readOne_149 rfl ?_)))))))))))))
      refine wi_ast dc_R_readOne_151 sh_56 (by omega) (by omega) (by decide) (wp_aload_n dc_R_readOne_152 rfl rfl (wi_getR dc_R_readOne_153 lf_R_25 sh_51 rfl (wp_aload_n dc_R_readOne_156 rfl rfl (wi_getE 2 (k) dc_R_readOne_157 lf_R_64 sh_51 rfl rfl (by simp [up_, hk]) (wp_iload_n dc_R_readOne_160 rfl rfl (wi_ast dc_R_readOne_161 sh_57 (by omega) (by omega) (by decide) (wp_aload_n dc_R_readOne_162 rfl rfl (wi_getR dc_R_readOne_163 lf_R_28 sh_51 rfl (wp_aload_n dc_R_readOne_166 rfl rfl (wi_getE 2 (k) dc_R_readOne_167 lf_R_64 sh_51 rfl rfl (by simp [up_, hk]) (wp_aload_n dc_R_readOne_170 rfl rfl (wi_getR dc_R_readOne_171 lf_R_34 sh_51 rfl (wp_iload_n dc_R_readOne_174 rfl rfl ?_)))))))))))))
      refine wi_aldE (O v) dc_R_readOne_175 sh_60 (by omega) (by omega) (by decide) (by simp [up_, hO]) (wi_ast dc_R_readOne_176 sh_58 (by omega) (by omega) (by decide) (wp_aload_n dc_R_readOne_177 rfl rfl (wp_dup dc_R_readOne_178 (wi_getE 2 (k) dc_R_readOne_179 lf_R_64 sh_51 rfl rfl (by simp [up_, hk]) (wi_iconst dc_R_readOne_182 (wi_iadd dc_R_readOne_183 (wi_putI 2 dc_R_readOne_184 lf_R_64 sh_51 rfl rfl pv_int (wi_iconst dc_R_readOne_187 ?_))))))))
      have hk2 := hS (px_w F p (E v - p)) (px_h F p) (by rw [hpw, if_neg (by omega), if_neg (by omega), if_neg (by omega)])
      refine wp_ireturn dc_R_readOne_188 rfl rfl hk2
theorem lp_R_pop {s u : Value} (hn : n ≤ 1000) (hE : ∀ i : Nat, i ≤ v → σ 59 i = E i) (hg : gi_ n k p v E O T) (hc : s.category = 1) (kk : wp_m l Y_R_read none 0 0 54 [.ref 51, .int (iI p), .int (iI (px_pop p E v)), s, u] [] (hp_ σ) K) : wp_m l Y_R_read none 0 0 34 [.ref 51, .int (iI p), .int (iI v), s, u] [] (hp_ σ) K := by
  induction v with
  | zero =>
    refine wp_iload_n dc_R_read_34 rfl rfl ?_
    refine wi_if_le dc_R_read_35 rfl (fun hd => ?_) (fun hd => ?_)
    · exact kk
    · omega
  | succ v ih =>
    obtain ⟨g1, g2, g3, g4, g5, g6, g7, g8, g9⟩ := id hg
    have hr : 0 ≤ E (v + 1) ∧ E (v + 1) ≤ n := by
      have a1 := g7 v (by omega)
      have a2 : E v ≤ n := by
        cases v with
        | zero => omega
        | succ w =>
          have a3 := g7 w (by omega)
          have a4 : w = 0 := by omega
          subst a4
          omega
      omega
    refine wp_iload_n dc_R_read_34 rfl rfl ?_
    refine wi_if_le dc_R_read_35 rfl (fun hd => ?_) (fun hd => ?_)
    · omega
    · refine wp_iload_n dc_R_read_38 rfl rfl (wp_aload_n dc_R_read_39 rfl rfl (wi_getR dc_R_read_40 lf_R_31 sh_51 rfl (wp_iload_n dc_R_read_43 rfl rfl (wi_aldE (E (v + 1)) dc_R_read_44 sh_59 (by omega) (by omega) (by decide) (hE (v + 1) (Nat.le_refl _)) ?_))))
      unfold px_pop at kk
      refine wi_ic_ne dc_R_read_45 rfl (fun he => ?_) (fun he => ?_)
      · rw [if_neg he] at kk
        exact kk
      · rw [if_pos he] at kk
        refine wp_ii2 dc_R_read_48 (wp_goto dc_R_read_51 rfl ?_)
        rw [show ((v + 1 : Nat) : Int) + -1 = v by omega]
        exact ih (fun i hi => hE i (by omega)) ⟨g1, by omega, g3, by have := g7 v (by omega); omega, g5, g6, fun i hi => g7 i (by omega), fun i hi => g8 i (by omega), g9⟩ kk
theorem rt_put {σ : sg_} {k a : Int} {b : Nat} {T : px_T} {y : Int} (h : rt_ σ k T) (hx : ¬ (53 ≤ b ∧ b ≤ 58)) (hb : b ≠ 51) : rt_ (up_ σ b a y) k T := by
  refine ⟨by rw [up_n _ _ (fun q => hb q.1.symm)]; exact h.1, fun c i hc h0 h1 => ?_⟩
  rw [up_n _ _ (fun q => hx (by omega))]
  exact h.2 c i hc h0 h1
theorem lp_R_read {σ0 : sg_} (hro : ro_ σ0 F n) : ∀ (j : Nat) (k p : Int) (v : Nat) (E O : Nat → Int) (T : px_T) (σ : sg_) (u : Value), (20 : Int) - j = k → fr_ rdW σ0 σ → rt_ σ k T → (∀ i : Nat, i ≤ v → σ 59 i = E i ∧ σ 60 i = O i) → gi_ n k p v E O T →
    (∀ σ', fr_ rdW σ0 σ' → rt_ σ' (px_rd F j k p v E O T).2.1 (px_rd F j k p v E O T).2.2 → K (some (.int (iI (px_rd F j k p v E O T).1))) (hp_ σ')) →
    wp_m l Y_R_read none 0 0 28 [.ref 51, .int (iI p), .int (iI v), .int (iI k), u] [] (hp_ σ) K := by
  intro j
  induction j with
  | zero =>
    intro k p v E O T σ u hj hfr hrt hEO hg hK
    have hg' := gi_pop hg
    have hro' := hro.fr hfr (by unfold rdW; omega) (fun j => by unfold rdW; omega)
    obtain ⟨a1, a2, a3, a4, a5⟩ := id hro'
    obtain ⟨g1, g2, g3, g4, g5, g6, g7, g8, g9⟩ := id hg'
    have hle := px_pop_le p E v
    have hEv := gi_En hg'
    have e59 := hEO (px_pop p E v) hle
    refine wp_iload_n dc_R_read_28 rfl rfl (wi_bipush dc_R_read_29 ?_)
    refine wi_ic_ge dc_R_read_31 rfl (fun hd => ?_) (fun hd => ?_)
    · omega
    refine lp_R_pop a2 (fun i hi => (hEO i hi).1) hg rfl ?_
    refine wp_iload_n dc_R_read_54 rfl rfl (wp_aload_n dc_R_read_55 rfl rfl (wi_getR dc_R_read_56 lf_R_31 sh_51 rfl (wp_iload_n dc_R_read_59 rfl rfl (wi_aldE (E (px_pop p E v)) dc_R_read_60 sh_59 (by omega) (by omega) (by decide) e59.1 ?_))))
    unfold px_rd at hK
    refine wi_ic_ne dc_R_read_61 rfl (fun he => ?_) (fun he => ?_)
    · rw [if_neg he] at hK
      refine wp_aload_n dc_R_read_66 rfl rfl (wi_getE 2 (k) dc_R_read_67 lf_R_64 sh_51 rfl rfl hrt.1 (wi_bipush dc_R_read_70 ?_))
      refine wi_ic_ne dc_R_read_72 rfl (fun hf => ?_) (fun hf => ?_)
      · omega
      · refine wi_iconst dc_R_read_75 ?_
        refine wp_ireturn dc_R_read_76 rfl rfl (hK σ hfr hrt)
    · rw [if_pos he] at hK
      refine wi_iconst dc_R_read_64 ?_
      refine wp_ireturn dc_R_read_65 rfl rfl (hK σ hfr hrt)
  | succ j ih =>
    intro k p v E O T σ u hj hfr hrt hEO hg hK
    have hg' := gi_pop hg
    have hro' := hro.fr hfr (by unfold rdW; omega) (fun j => by unfold rdW; omega)
    obtain ⟨a1, a2, a3, a4, a5⟩ := id hro'
    obtain ⟨g1, g2, g3, g4, g5, g6, g7, g8, g9⟩ := id hg'
    have hle := px_pop_le p E v
    have hEv := gi_En hg'
    have e59 := hEO (px_pop p E v) hle
    refine wp_iload_n dc_R_read_28 rfl rfl (wi_bipush dc_R_read_29 ?_)
    refine wi_ic_ge dc_R_read_31 rfl (fun hd => ?_) (fun hd => ?_)
    · omega
    refine lp_R_pop a2 (fun i hi => (hEO i hi).1) hg rfl ?_
    refine wp_iload_n dc_R_read_54 rfl rfl (wp_aload_n dc_R_read_55 rfl rfl (wi_getR dc_R_read_56 lf_R_31 sh_51 rfl (wp_iload_n dc_R_read_59 rfl rfl (wi_aldE (E (px_pop p E v)) dc_R_read_60 sh_59 (by omega) (by omega) (by decide) e59.1 ?_))))
    unfold px_rd at hK
    refine wi_ic_ne dc_R_read_61 rfl (fun he => ?_) (fun he => ?_)
    rotate_left
    · rw [if_pos he] at hK
      refine wi_iconst dc_R_read_64 ?_
      refine wp_ireturn dc_R_read_65 rfl rfl (hK σ hfr hrt)
    rw [if_neg he] at hK
    refine wp_aload_n dc_R_read_66 rfl rfl (wi_getE 2 (k) dc_R_read_67 lf_R_64 sh_51 rfl rfl hrt.1 (wi_bipush dc_R_read_70 ?_))
    refine wi_ic_ne dc_R_read_72 rfl (fun hf => ?_) (fun hf => ?_)
    rotate_left
    · omega
    refine wp_aload_n dc_R_read_77 rfl rfl (wp_iload_n dc_R_read_78 rfl rfl (wp_aload_n dc_R_read_79 rfl rfl (wi_getR dc_R_read_80 lf_R_31 sh_51 rfl (wp_iload_n dc_R_read_83 rfl rfl (wi_aldE (E (px_pop p E v)) dc_R_read_84 sh_59 (by omega) (by omega) (by decide) e59.1 (wp_iload_n dc_R_read_85 rfl rfl (wi_isub dc_R_read_86 (wp_iload_n dc_R_read_87 rfl rfl ?_))))))))
    refine wp_callV (As := [_, _, _]) dc_R_read_88 lm_R_67 ls_R_readOne (by decide) rfl rfl (hp_at _ sh_51) rfl rfl (Nat.le_of_ble_eq_true rfl) (Nat.le_refl _) (Nat.le_refl _) ?_
    generalize hw : px_pop p E v = w at *
    refine c_R_readOne hro' hrt.1 g1 (by omega) g2 e59.2 g3 g4 hEv (fun ho => ?_) (fun s h ho => ?_)
    · rw [ho] at hK
      refine wi_if_ne dc_R_read_91 rfl (fun hx => ?_) (fun hx => ?_)
      · omega
      · refine wi_iconst dc_R_read_94 ?_
        refine wp_ireturn dc_R_read_95 rfl rfl (hK σ hfr hrt)
    · rw [ho] at hK
      dsimp only at hK
      obtain ⟨o1, o2, o3, o4, o5, o6, o7, o8⟩ := one_spec ho
      have hrt1 := s1_rt (a := p) (s := s) (t := F (p + 1)) (h := h) (v := w) (o := O w) hrt
      have hfr1 := hfr.tr (s1_fr σ k p s (F (p + 1)) h w (O w))
      have hEO1 : ∀ i : Nat, i ≤ w → s1_ σ k p s (F (p + 1)) h w (O w) 59 i = E i ∧ s1_ σ k p s (F (p + 1)) h w (O w) 60 i = O i := fun i hi => by
        rw [(s1_59 σ k p s (F (p + 1)) h w (O w)).1, (s1_59 σ k p s (F (p + 1)) h w (O w)).2]
        exact hEO i (by omega)
      have t0 := hrt1.2 0 k (by decide) g1 (by omega)
      have t1 := hrt1.2 1 k (by decide) g1 (by omega)
      have t2 := hrt1.2 2 k (by decide) g1 (by omega)
      have t3 := hrt1.2 3 k (by decide) g1 (by omega)
      have t4 := hrt1.2 4 k (by decide) g1 (by omega)
      rw [put_0] at t0
      rw [put_1] at t1
      rw [put_2] at t2
      rw [put_3] at t3
      rw [put_4] at t4
      have hF1 := a5 (p + 1)
      generalize s1_ σ k p s (F (p + 1)) h w (O w) = σ1 at *
      refine wi_if_ne dc_R_read_91 rfl (fun hx => ?_) (fun hx => ?_)
      rotate_left
      · omega
      refine wp_aload_n dc_R_read_96 rfl rfl (wi_getE 2 (k + 1) dc_R_read_97 lf_R_64 sh_51 rfl rfl hrt1.1 (wi_iconst dc_R_read_100 (wi_isub dc_R_read_101 (wp_is4 dc_R_read_102 (wp_aload_n dc_R_read_104 rfl rfl (wp_iload dc_R_read_105 rfl ?_))))))
      rw [show k + 1 - 1 = k by omega]
      refine wp_callV (As := [_]) dc_R_read_107 lm_R_71 ls_R_isHolder (by decide) rfl rfl (hp_at _ sh_51) rfl rfl (Nat.le_of_ble_eq_true rfl) (Nat.le_refl _) (Nat.le_refl _) ?_
      refine c_R_isHolder g1 (by omega) (by rw [t4]; constructor <;> omega) (by rw [t2]; constructor <;> omega) ?_
      rw [t4, t2]
      by_cases hh : px_hold w (F (p + 1))
      · rw [if_pos hh] at hK
        rw [if_pos (by omega)]
        refine wi_if_eq dc_R_read_110 rfl (fun hy => ?_) (fun hy => ?_)
        · omega
        have hgn := gi_hold a5 hg' ho hh
        refine wp_ii2 dc_R_read_113 (wp_aload_n dc_R_read_116 rfl rfl (wi_getR dc_R_read_117 lf_R_31 sh_51 rfl (wp_iload_n dc_R_read_120 rfl rfl (wp_iload_n dc_R_read_121 rfl rfl (wp_aload_n dc_R_read_122 rfl rfl (wi_getR dc_R_read_123 lf_R_16 sh_51 rfl (wp_iload dc_R_read_126 rfl (wi_aldE (s) dc_R_read_128 sh_54 (by omega) (by omega) (by decide) t1 (wi_iadd dc_R_read_129 (wi_ast dc_R_read_130 sh_59 (by omega)  (by omega) (by decide) (wp_aload_n dc_R_read_131 rfl rfl (wi_getR dc_R_read_132 lf_R_34 sh_51 rfl (wp_iload_n dc_R_read_135 rfl rfl ?_)))))))))))))
        refine wp_iload dc_R_read_136 rfl (wi_ast dc_R_read_138 sh_60 (by omega)  (by omega) (by decide) (wp_iload_n dc_R_read_139 rfl rfl (wp_aload_n dc_R_read_140 rfl rfl (wi_getR dc_R_read_141 lf_R_22 sh_51 rfl (wp_iload dc_R_read_144 rfl (wi_aldE (h) dc_R_read_146 sh_56 (by omega) (by omega) (by decide) (by rw [up_n _ _ (fun q => absurd q.1 (by decide)), up_n _ _ (fun q => absurd q.1 (by decide))]; exact t3) (wi_iadd dc_R_read_147 (wp_is1 dc_R_read_148 (wp_goto dc_R_read_149 rfl (wp_ii3 dc_R_read_162 (wp_goto dc_R_read_165 rfl ?_)))))))))))
        rw [show (w : Int) + 1 = ((w + 1 : Nat) : Int) by omega]
        refine ih (k + 1) (p + h) (w + 1) _ _ _ _ _ (by omega) ((hfr1.up (by unfold rdW; omega)).up (by unfold rdW; omega)) (rt_put (rt_put hrt1 (by omega) (by decide)) (by omega) (by decide)) (fun i hi => ?_) hgn hK
        by_cases hi2 : i = w + 1
        · subst hi2
          rw [upN_s, upN_s, up_s, up_n _ _ (fun q => absurd q.1 (by decide)), up_s]
          exact ⟨rfl, rfl⟩
        · rw [upN_n _ _ hi2, upN_n _ _ hi2, up_n _ _ (fun q => absurd q.1 (by decide)), up_n _ _ (fun q => by omega), up_n _ _ (fun q => by omega), up_n _ _ (fun q => absurd q.1 (by decide))]
          exact hEO1 i (by omega)
      · rw [if_neg hh] at hK
        rw [if_neg (by omega)]
        refine wi_if_eq dc_R_read_110 rfl (fun hy => ?_) (fun hy => ?_)
        rotate_left
        · omega
        refine wp_iload_n dc_R_read_152 rfl rfl (wp_aload_n dc_R_read_153 rfl rfl (wi_getR dc_R_read_154 lf_R_16 sh_51 rfl (wp_iload dc_R_read_157 rfl (wi_aldE (s) dc_R_read_159 sh_54 (by omega) (by omega) (by decide) t1 (wi_iadd dc_R_read_160 (wp_is1 dc_R_read_161 (wp_ii3 dc_R_read_162 (wp_goto dc_R_read_165 rfl ?_))))))))
        exact ih (k + 1) (p + s) w E O _ _ _ (by omega) hfr1 hrt1 hEO1 (gi_put a5 hg' ho) hK
theorem c_R_read (hro : ro_ σ F n) (hK : ∀ σ', fr_ rdW σ σ' → rt_ σ' (px_ F n).2.1 (px_ F n).2.2 → K (some (.int (iI (px_ F n).1))) (hp_ σ')) : ct_m l Y_R_read 0 0 [.ref 51] (hp_ σ) K := by
  refine ct_of (L := [.ref 51, .retAddr 0, .retAddr 0, .retAddr 0, .retAddr 0]) (by decide +kernel) (Nat.le_of_ble_eq_true rfl) rfl ?_
  refine wp_aload_n dc_R_read_0 rfl rfl (wi_iconst dc_R_read_1 (wi_putI 2 dc_R_read_2 lf_R_64 sh_51 rfl rfl pv_int (wi_iconst dc_R_read_5 (wp_is1 dc_R_read_6 (wi_iconst dc_R_read_7 (wp_is2 dc_R_read_8 (wp_aload_n dc_R_read_9 rfl rfl (wi_getR dc_R_read_10 lf_R_31 sh_51 rfl (wi_iconst dc_R_read_13 (wp_aload_n dc_R_read_14 rfl rfl (wi_getE 1 (n) dc_R_read_15 lf_R_58 sh_51 rfl rfl hro.2.2.1 (wi_ast dc_R_read_18 sh_59 (by omega) (by omega) (by decide) (wp_aload_n dc_R_read_19 rfl rfl ?_)))))))))))))
  refine wi_getR dc_R_read_20 lf_R_34 sh_51 rfl (wi_iconst dc_R_read_23 (wi_iconst dc_R_read_24 (wi_ast dc_R_read_25 sh_60 (by omega) (by omega) (by decide) (wi_iconst dc_R_read_26 (wp_is3 dc_R_read_27 ?_)))))
  refine lp_R_read (n := n) hro 20 0 0 0 (fun _ => n) (fun _ => -1) (fun _ _ => 0) _ _ (by omega) (((fr_.rf.up ?_).up ?_).up ?_) ⟨?_, fun c i _ h0 h1 => by omega⟩ (fun i hi => ?_) (gi_0 hro.1) hK
  · unfold rdW; omega
  · unfold rdW; omega
  · unfold rdW; omega
  · simp [up_]
  · have hi0 : i = 0 := by omega
    subst hi0
    exact ⟨by simp [up_], by simp [up_]⟩
end RR
