/-! fastStart: the reference's layout, by bytecode -/
section FN
variable {l : Launch} {K : Option Value → mx_H → Prop} {F : Int → Int} {n N : Int} {T : px_T} {mi tc : Int} {b : Int → Int} {tab : Int → Int → Int} {me : Int} {σ0 : sg_}
def lyW (b : Nat) (_ : Int) : Prop := b = 64 ∨ b = 65 ∨ b = 66
theorem c_R_isHolder' {σ : sg_} {k : Int} (hrt : rt_ σ N T) (htt : tt_ n N T) (k0 : 0 ≤ k) (k1 : k < N) (h1 : ho_ T k → K (some (.int (iI 1))) (hp_ σ)) (h0 : ¬ ho_ T k → K (some (.int (iI 0))) (hp_ σ)) : ct_m l Y_R_isHolder 0 0 [.ref 51, .int (iI k)] (hp_ σ) K := by
  have t2 := htt.2.1
  have bx := htt.2.2.1 k k0 k1
  unfold bx_ at bx
  have e4 : σ 57 k = T 4 k := hrt.2 4 k (by decide) k0 k1
  have e2 : σ 55 k = T 2 k := hrt.2 2 k (by decide) k0 k1
  refine c_R_isHolder k0 (by omega) (by rw [e4]; exact ⟨by omega, by omega⟩) (by rw [e2]; exact ⟨by omega, by omega⟩) ?_
  rw [e4, e2]
  by_cases h : ho_ T k
  · rw [if_pos h]; exact h1 h
  · rw [if_neg h]; exact h0 h
def wx_ (tab : Int → Int → Int) (w k t : Int) : Prop := ∃ t', 0 ≤ t' ∧ t' < t ∧ tab t' 4 = k ∧ bi_ w t' = 1
/-- the tracks' loop in R_layout: p becomes that of the wide table, if the box is one -/
theorem lp_R_lyt {w k p0 : Int} {σ : sg_} (hx : fx_ F n N T mi tc b tab me) (hy : ry_ σ F n N T mi tc b tab) (w0 : 0 ≤ w) (w1 : w ≤ 3) (k0 : mi ≤ k) (k1 : k < me)
    (hK : ∀ (t : Int) (u5 : Value), wp_m l Y_R_layout none 0 0 149 [.ref 51, .int (iI w), .int (iI k), .int (iI (if wk_ tc tab w k = 1 then 1 + 2 * F (st_ T k) else p0)), .int (iI t), u5] [] (hp_ σ) K) :
    ∀ (j : Nat) (t p : Int) (u5 : Value), t + j = tc → 0 ≤ t → ((wx_ tab w k t ∧ p = 1 + 2 * F (st_ T k)) ∨ (¬ wx_ tab w k t ∧ p = p0)) → wp_m l Y_R_layout none 0 0 81 [.ref 51, .int (iI w), .int (iI k), .int (iI p), .int (iI t), u5] [] (hp_ σ) K := by
  have m := fx_mi hx
  have htt := hx.2.2.1
  intro j
  induction j with
  | zero =>
    intro t p u5 ht t0 hp
    refine wp_iload dc_R_layout_81 rfl (wp_aload_n dc_R_layout_83 rfl rfl (wi_getE 12 (tc) dc_R_layout_84 lf_R_83 sh_51 rfl rfl hy.2.1.2.2.1 ?_))
    refine wi_ic_ge dc_R_layout_87 rfl (fun hd => ?_) (fun hd => ?_)
    · have := hK t u5
      have wi := wk_iff (tab := tab) (w := w) (k := k) (show tc = 1 ∨ tc = 2 by omega) (by omega)
      obtain rfl : t = tc := by omega
      rcases hp with ⟨h, e⟩ | ⟨h, e⟩
      · rw [if_pos (wi.mpr h)] at this
        rw [e]; exact this
      · rw [if_neg (fun q => h (wi.mp q))] at this
        rw [e]; exact this
    · omega
  | succ j ih =>
    intro t p u5 ht t0 hp
    have hF := hx.1 (st_ T k)
    have bsr := bs_rg (t := t) w0 w1
    have bsb := bs_bi (t := t) w0 w1
    have bir := bi_rg t w0 w1
    have e62 := hy.2.1.2.2.2.2 t 4 t0 (by omega) (by decide) (by decide)
    have tbr : -1 ≤ tab t 4 ∧ tab t 4 < 20 := by
      rcases hx.2.2.2.1.2.2.1 t 4 t0 (by omega) (by decide) (by decide) with g | g <;> omega
    have K121 : ∀ o : Int, (o = 1 ∧ tab t 4 = k ∧ bi_ w t = 1) ∨ (o = 0 ∧ ¬ (tab t 4 = k ∧ bi_ w t = 1)) → wp_m l Y_R_layout none 0 0 121 [.ref 51, .int (iI w), .int (iI k), .int (iI p), .int (iI t), u5] [.int (iI o)] (hp_ σ) K := fun o ho => by
      refine wp_is5 dc_R_layout_121 (wp_iload dc_R_layout_123 rfl ?_)
      refine wi_if_eq dc_R_layout_125 rfl (fun hd => ?_) (fun hd => ?_)
      · refine wp_iload_n dc_R_layout_141 rfl rfl (wp_is3 dc_R_layout_142 (wp_ii4 dc_R_layout_143 (wp_goto dc_R_layout_146 rfl ?_)))
        refine ih (t + 1) p _ (by omega) (by omega) ?_
        rcases hp with ⟨⟨t', a1, a2, a3, a4⟩, e⟩ | ⟨h, e⟩
        · exact Or.inl ⟨⟨t', a1, by omega, a3, a4⟩, e⟩
        · refine Or.inr ⟨fun ⟨t', a1, a2, a3, a4⟩ => ?_, e⟩
          by_cases q : t' = t
          · subst q
            rcases ho with g | g
            · omega
            · exact g.2 ⟨a3, a4⟩
          · exact h ⟨t', a1, by omega, a3, a4⟩
      · have g : tab t 4 = k ∧ bi_ w t = 1 := by
          rcases ho with g | g
          · exact g.2
          · omega
        have hpl : 1 ≤ pl_ T k := by
          have := (fx_wk hx ((wk_iff (tab := tab) (w := w) (k := k) (show tc = 1 ∨ tc = 2 by omega) (by omega)).mpr ⟨t, t0, by omega, g.1, g.2⟩)).2.2.2.2.2
          omega
        refine wi_iconst dc_R_layout_128 (wi_iconst dc_R_layout_129 (wp_aload_n dc_R_layout_130 rfl rfl (wp_iload_n dc_R_layout_131 rfl rfl (wi_iconst dc_R_layout_132 ?_))))
        refine wp_callV (As := [_, _]) dc_R_layout_133 lm_R_106 ls_R_pay (by decide) rfl rfl (hp_at _ sh_51) rfl rfl (Nat.le_of_ble_eq_true rfl) (Nat.le_refl _) (Nat.le_refl _) ?_
        refine c_R_pay hy.1 hy.2.1.1 htt (by omega) (by omega) (by omega) (by omega) ?_
        rw [show st_ T k + 0 = st_ T k by omega]
        refine wi_imul dc_R_layout_136 (wi_iadd dc_R_layout_137 (wp_goto dc_R_layout_138 rfl (wp_is3 dc_R_layout_142 (wp_ii4 dc_R_layout_143 (wp_goto dc_R_layout_146 rfl ?_)))))
        exact ih (t + 1) _ _ (by omega) (by omega) (Or.inl ⟨⟨t, t0, by omega, g.1, g.2⟩, rfl⟩)
    refine wp_iload dc_R_layout_81 rfl (wp_aload_n dc_R_layout_83 rfl rfl (wi_getE 12 (tc) dc_R_layout_84 lf_R_83 sh_51 rfl rfl hy.2.1.2.2.1 ?_))
    refine wi_ic_ge dc_R_layout_87 rfl (fun hd => ?_) (fun hd => ?_)
    · omega
    refine wp_iload_n dc_R_layout_90 rfl rfl (wp_iload dc_R_layout_91 rfl (wi_shrt dc_R_layout_93 (wi_iconst dc_R_layout_94 (wi_and1 dc_R_layout_95 (wi_iconst dc_R_layout_96 ?_)))))
    refine wi_ic_ne dc_R_layout_97 rfl (fun he => ?_) (fun he => ?_)
    · refine wi_iconst dc_R_layout_120 ?_
      exact K121 0 (Or.inr ⟨rfl, by omega⟩)
    refine wp_aload_n dc_R_layout_100 rfl rfl (wi_getR dc_R_layout_101 lf_R_40 sh_51 rfl (wi_bipush dc_R_layout_104 (wp_iload dc_R_layout_106 rfl (wi_imul dc_R_layout_108 (wi_iconst dc_R_layout_109 (wi_iadd dc_R_layout_110 (wi_aldE (tab t 4) dc_R_layout_111 sh_62 (by omega) (by omega) (by decide) e62 (wp_iload_n dc_R_layout_112 rfl rfl ?_))))))))
    refine wi_ic_ne dc_R_layout_113 rfl (fun hf => ?_) (fun hf => ?_)
    · refine wi_iconst dc_R_layout_120 ?_
      exact K121 0 (Or.inr ⟨rfl, by omega⟩)
    · refine wi_iconst dc_R_layout_116 (wp_goto dc_R_layout_117 rfl ?_)
      exact K121 1 (Or.inl ⟨rfl, hf, by omega⟩)
theorem lp_R_ly2 {w : Int} (hx : fx_ F n N T mi tc b tab me) (hy0 : ry_ σ0 F n N T mi tc b tab) (w0 : 0 ≤ w) (w1 : w ≤ 3)
    (hK : ∀ σ', fr_ lyW σ0 σ' → (∀ k, mi ≤ k → k < me → σ' 64 k = hd_ T k (np_ F T (wk_ tc tab w) mi me k) ∧ σ' 65 k = nl_ F T (wk_ tc tab w) mi me k) → K (some (.int (iI (nL_ F T mi tc tab me w)))) (hp_ σ')) :
    ∀ (j : Nat) (k : Int) (σ : sg_) (u3 u4 u5 : Value), k + 1 = mi + j → k < N → fr_ lyW σ0 σ → (∀ i, mi ≤ i → i < me → ho_ T i → σ 66 i = ly_ F T (wk_ tc tab w) me (me - 1 - k).toNat i) → (∀ i, k < i → i < me → σ 64 i = hd_ T i (np_ F T (wk_ tc tab w) mi me i) ∧ σ 65 i = nl_ F T (wk_ tc tab w) mi me i) → wp_m l Y_R_layout none 0 0 30 [.ref 51, .int (iI w), .int (iI k), u3, u4, u5] [] (hp_ σ) K := by
  have m := fx_mi hx
  have htt := hx.2.2.1
  intro j
  induction j with
  | zero =>
    intro k σ u3 u4 u5 hk hkN hfr h66 hdone
    have hy := ry_fr hy0 hfr (fun b j h => by unfold lyW at h; omega)
    have hmm := hdone mi (by omega) m.2.1
    have hr := fx_np hx (wk_ tc tab w) (Int.le_refl mi) m.2.1
    refine wp_iload_n dc_R_layout_30 rfl rfl (wp_aload_n dc_R_layout_31 rfl rfl (wi_getE 11 (mi) dc_R_layout_32 lf_R_96 sh_51 rfl rfl hy.2.1.2.1 ?_))
    refine wi_ic_lt dc_R_layout_35 rfl (fun hd => ?_) (fun hd => ?_)
    · refine wp_aload_n dc_R_layout_237 rfl rfl (wi_getR dc_R_layout_238 lf_R_49 sh_51 rfl (wp_aload_n dc_R_layout_241 rfl rfl (wi_getE 11 (mi) dc_R_layout_242 lf_R_96 sh_51 rfl rfl hy.2.1.2.1 (wi_aldE (nl_ F T (wk_ tc tab w) mi me mi) dc_R_layout_245 sh_65 (by omega) (by omega) (by decide) hmm.2 ?_))))
      refine wp_ireturn dc_R_layout_246 rfl rfl (hK σ hfr (fun i i0 i1 => hdone i (by omega) i1))
    · omega
  | succ j ih =>
    intro k σ u3 u4 u5 hk hkN hfr h66 hdone
    have hy := ry_fr hy0 hfr (fun b j h => by unfold lyW at h; omega)
    have hrt := hy.2.1.1
    have bx := htt.2.2.1 k (by omega) (by omega)
    unfold bx_ at bx
    have hlv := fx_lv hx (k := k) (by omega) (by omega)
    have K55 : k < me → wp_m l Y_R_layout none 0 0 55 [.ref 51, .int (iI w), .int (iI k), u3, u4, u5] [] (hp_ σ) K := fun km => by
      have em : ((me - 1 - k).toNat : Int) = me - 1 - k := by omega
      have es : (me - 1 - (k - 1)).toNat = (me - 1 - k).toNat + 1 := by omega
      have ek : me - 1 - ((me - 1 - k).toNat : Int) = k := by omega
      have lr := ly_rg (W := wk_ tc tab w) hx.1 hx.2.1 htt (me := me) (by omega) (me - 1 - k).toNat (by omega) k (by omega) (by omega)
      have b20 := bn_20 (show (me - 1 - k).toNat ≤ 20 by omega)
      have enp : np_ F T (wk_ tc tab w) mi me k = ly_ F T (wk_ tc tab w) me (me - 1 - k).toNat k := by
        unfold np_
        have := ly_keep (F := F) (W := wk_ tc tab w) htt (show me ≤ N by omega) (j := k) ((me - mi).toNat - (me - 1 - k).toNat) (me - 1 - k).toNat (by omega) (by omega)
        rwa [show (me - 1 - k).toNat + ((me - mi).toNat - (me - 1 - k).toNat) = (me - mi).toNat by omega] at this
      have lst : ∀ i, ly_ F T (wk_ tc tab w) me ((me - 1 - k).toNat + 1) i = if i = T 5 k then ly_ F T (wk_ tc tab w) me (me - 1 - k).toNat i + (ly_ F T (wk_ tc tab w) me (me - 1 - k).toNat k + hd_ T k (ly_ F T (wk_ tc tab w) me (me - 1 - k).toNat k)) else ly_ F T (wk_ tc tab w) me (me - 1 - k).toNat i := fun i => by
        have : ly_ F T (wk_ tc tab w) me ((me - 1 - k).toNat + 1) i = if i = T 5 (me - 1 - ((me - 1 - k).toNat : Int)) then ly_ F T (wk_ tc tab w) me (me - 1 - k).toNat i + (ly_ F T (wk_ tc tab w) me (me - 1 - k).toNat (me - 1 - ((me - 1 - k).toNat : Int)) + hd_ T (me - 1 - ((me - 1 - k).toNat : Int)) (ly_ F T (wk_ tc tab w) me (me - 1 - k).toNat (me - 1 - ((me - 1 - k).toNat : Int)))) else ly_ F T (wk_ tc tab w) me (me - 1 - k).toNat i := rfl
        rw [ek] at this
        exact this
      generalize hp : ly_ F T (wk_ tc tab w) me (me - 1 - k).toNat k = p at *
      have hdr := (hd_mono (T := T) (k := k) (Int.le_refl p)).2
      have enl : nl_ F T (wk_ tc tab w) mi me k = hd_ T k p + p := by
        unfold nl_
        rw [enp]
        omega
      have e56 : σ 56 k = T 3 k := hrt.2 3 k (by decide) (by omega) (by omega)
      have e58 : σ 58 k = T 5 k := hrt.2 5 k (by decide) (by omega) (by omega)
      have K178 : ∀ (t h : Int) (u5 : Value), h = hd_ T k p → wp_m l Y_R_layout none 0 0 178 [.ref 51, .int (iI w), .int (iI k), .int (iI p), .int (iI t), u5] [.int (iI h), .int (iI k), .ref 64] (hp_ σ) K := fun t h u5 hh => by
        subst hh
        have f2 : fr_ lyW σ0 (up_ (up_ σ 64 k (hd_ T k p)) 65 k (hd_ T k p + p)) := (hfr.up (Or.inl rfl)).up (Or.inr (Or.inl rfl))
        have d2 : ∀ i, k - 1 < i → i < me → up_ (up_ σ 64 k (hd_ T k p)) 65 k (hd_ T k p + p) 64 i = hd_ T i (np_ F T (wk_ tc tab w) mi me i) ∧ up_ (up_ σ 64 k (hd_ T k p)) 65 k (hd_ T k p + p) 65 i = nl_ F T (wk_ tc tab w) mi me i := fun i i0 i1 => by
          by_cases q : i = k
          · rw [q, up_n _ _ (by omega), up_s, up_s, enp, enl]
            exact ⟨rfl, rfl⟩
          · rw [up_n _ _ (by omega), up_n _ _ (by omega), up_n _ _ (by omega), up_n _ _ (by omega)]
            exact hdone i (by omega) i1
        refine wi_ast dc_R_layout_178 sh_64 (by omega) (by omega) (by decide) (wp_aload_n dc_R_layout_179 rfl rfl (wi_getR dc_R_layout_180 lf_R_49 sh_51 rfl (wp_iload_n dc_R_layout_183 rfl rfl (wp_aload_n dc_R_layout_184 rfl rfl (wi_getR dc_R_layout_185 lf_R_46 sh_51 rfl (wp_iload_n dc_R_layout_188 rfl rfl (wi_aldE (hd_ T k p) dc_R_layout_189 sh_64 (by omega) (by omega) (by decide) (up_s _ _ _ _) (wp_iload_n dc_R_layout_190 rfl rfl (wi_iadd dc_R_layout_191 (wi_ast dc_R_layout_192 sh_65 (by omega) (by omega) (by decide) (wp_aload_n dc_R_layout_193 rfl rfl (wi_getR dc_R_layout_194 lf_R_28 sh_51 rfl (wp_iload_n dc_R_layout_197 rfl rfl ?_)))))))))))))
        refine wi_aldE (T 5 k) dc_R_layout_198 sh_58 (by omega) (by omega) (by decide) (by rw [up_n _ _ (by omega), up_n _ _ (by omega)]; exact e58) ?_
        refine wi_if_lt dc_R_layout_199 rfl (fun hg => ?_) (fun hg => ?_)
        · have ekm : k = mi := by
            by_cases q : k = mi
            · exact q
            · have := (fx_hh hx (k := k) (by omega) km).1; omega
          refine wp_ii2 dc_R_layout_231 (wp_goto dc_R_layout_234 rfl ?_)
          refine ih (k - 1) _ _ _ _ (by omega) (by omega) f2 (fun i i0 i1 hi => ?_) d2
          rw [es, lst, if_neg (by omega), up_n _ _ (by omega), up_n _ _ (by omega)]
          exact h66 i i0 i1 hi
        · have g := fx_hh hx (k := k) (by
            by_cases q : k = mi
            · rw [q] at hg; omega
            · omega) km
          have e66 := h66 (T 5 k) g.1 (by omega) g.2.2.1
          refine wp_aload_n dc_R_layout_202 rfl rfl (wi_getR dc_R_layout_203 lf_R_52 sh_51 rfl (wp_aload_n dc_R_layout_206 rfl rfl (wi_getR dc_R_layout_207 lf_R_28 sh_51 rfl (wp_iload_n dc_R_layout_210 rfl rfl (wi_aldE (T 5 k) dc_R_layout_211 sh_58 (by omega) (by omega) (by decide) (by rw [up_n _ _ (by omega), up_n _ _ (by omega)]; exact e58) (wp_aload_n dc_R_layout_212 rfl rfl (wi_getR dc_R_layout_213 lf_R_52 sh_51 rfl (wp_aload_n dc_R_layout_216 rfl rfl (wi_getR dc_R_layout_217 lf_R_28 sh_51 rfl (wp_iload_n dc_R_layout_220 rfl rfl (wi_aldE (T 5 k) dc_R_layout_221 sh_58 (by omega) (by omega) (by decide) (by rw [up_n _ _ (by omega), up_n _ _ (by omega)]; exact e58) (wi_aldE (ly_ F T (wk_ tc tab w) me (me - 1 - k).toNat (T 5 k)) dc_R_layout_222 sh_66 (by omega) (by omega) (by decide) (by rw [up_n _ _ (by omega), up_n _ _ (by omega)]; exact e66) (wp_aload_n dc_R_layout_223 rfl rfl ?_)))))))))))))
          refine wi_getR dc_R_layout_224 lf_R_49 sh_51 rfl (wp_iload_n dc_R_layout_227 rfl rfl (wi_aldE (hd_ T k p + p) dc_R_layout_228 sh_65 (by omega) (by omega) (by decide) (up_s _ _ _ _) (wi_iadd dc_R_layout_229 (wi_ast dc_R_layout_230 sh_66 (by omega) (by omega) (by decide) ?_))))
          refine wp_ii2 dc_R_layout_231 (wp_goto dc_R_layout_234 rfl ?_)
          refine ih (k - 1) _ _ _ _ (by omega) (by omega) (f2.up (Or.inr (Or.inr rfl))) (fun i i0 i1 hi => ?_) (fun i i0 i1 => by rw [up_n _ _ (by omega), up_n _ _ (by omega)]; exact d2 i i0 i1)
          rw [es, lst]
          by_cases q : i = T 5 k
          · rw [if_pos q, q, up_s]; omega
          · rw [if_neg q, up_n _ _ (by omega), up_n _ _ (by omega), up_n _ _ (by omega)]
            exact h66 i i0 i1 hi
      have K149 : ∀ (t : Int) (u5 : Value), wp_m l Y_R_layout none 0 0 149 [.ref 51, .int (iI w), .int (iI k), .int (iI p), .int (iI t), u5] [] (hp_ σ) K := fun t u5 => by
        have four : ¬ (T 3 k = 2 ∧ p + 2 ≤ 255) → wp_m l Y_R_layout none 0 0 173 [.ref 51, .int (iI w), .int (iI k), .int (iI p), .int (iI t), u5] [.int (iI k), .ref 64] (hp_ σ) K := fun q => by
          refine wi_iconst dc_R_layout_173 (wp_goto dc_R_layout_174 rfl ?_)
          exact K178 t 4 u5 (by unfold hd_; rw [if_neg q])
        refine wp_aload_n dc_R_layout_149 rfl rfl (wi_getR dc_R_layout_150 lf_R_46 sh_51 rfl (wp_iload_n dc_R_layout_153 rfl rfl (wp_aload_n dc_R_layout_154 rfl rfl (wi_getR dc_R_layout_155 lf_R_22 sh_51 rfl (wp_iload_n dc_R_layout_158 rfl rfl (wi_aldE (T 3 k) dc_R_layout_159 sh_56 (by omega) (by omega) (by decide) e56 (wi_iconst dc_R_layout_160 ?_)))))))
        refine wi_ic_eq dc_R_layout_161 rfl (fun ha => ?_) (fun ha => ?_)
        · exact four (by omega)
        refine wp_iload_n dc_R_layout_164 rfl rfl (wi_iconst dc_R_layout_165 (wi_iadd dc_R_layout_166 (wi_sipush dc_R_layout_167 ?_)))
        refine wi_ic_le dc_R_layout_170 rfl (fun hb => ?_) (fun hb => ?_)
        · refine wi_iconst dc_R_layout_177 ?_
          exact K178 t 2 u5 (by unfold hd_; rw [if_pos (by omega)])
        · exact four (by omega)
      have K77 : ∀ p0 : Int, (if wk_ tc tab w k = 1 then 1 + 2 * F (st_ T k) else p0) = p → wp_m l Y_R_layout none 0 0 77 [.ref 51, .int (iI w), .int (iI k), u3, u4, u5] [.int (iI p0)] (hp_ σ) K := fun p0 hp0 => by
        refine wp_is3 dc_R_layout_77 (wi_iconst dc_R_layout_78 (wp_is4 dc_R_layout_79 ?_))
        refine lp_R_lyt (p0 := p0) hx hy w0 w1 (by omega) km (fun t u5 => ?_) tc.toNat 0 p0 _ (by omega) (by omega) (Or.inr ⟨fun ⟨t', a1, a2, a3, a4⟩ => by omega, rfl⟩)
        rw [hp0]
        exact K149 t u5
      refine wp_aload_n dc_R_layout_55 rfl rfl (wp_iload_n dc_R_layout_56 rfl rfl ?_)
      refine wp_callV (As := [_]) dc_R_layout_57 lm_R_71 ls_R_isHolder (by decide) rfl rfl (hp_at _ sh_51) rfl rfl (Nat.le_of_ble_eq_true rfl) (Nat.le_refl _) (Nat.le_refl _) ?_
      refine c_R_isHolder' hrt htt (by omega) (by omega) (fun ho => ?_) (fun ho => ?_)
      · refine wi_if_eq dc_R_layout_60 rfl (fun hd => ?_) (fun hd => ?_)
        · omega
        refine wp_aload_n dc_R_layout_63 rfl rfl (wi_getR dc_R_layout_64 lf_R_52 sh_51 rfl (wp_iload_n dc_R_layout_67 rfl rfl (wi_aldE (p) dc_R_layout_68 sh_66 (by omega) (by omega) (by decide) (by rw [h66 k (by omega) km ho]; exact hp) (wp_goto dc_R_layout_69 rfl ?_))))
        refine K77 p ?_
        rw [if_neg]
        intro q
        have := fx_wk hx q
        omega
      · refine wi_if_eq dc_R_layout_60 rfl (fun hd => ?_) (fun hd => ?_)
        rotate_left
        · omega
        refine wp_aload_n dc_R_layout_72 rfl rfl (wp_iload_n dc_R_layout_73 rfl rfl ?_)
        refine wp_callV (As := [_]) dc_R_layout_74 lm_R_103 ls_R_payLength (by decide) rfl rfl (hp_at _ sh_51) rfl rfl (Nat.le_of_ble_eq_true rfl) (Nat.le_refl _) (Nat.le_refl _) ?_
        refine c_R_payLength hrt htt (by omega) (by omega) ?_
        refine K77 _ ?_
        rw [← hp]
        exact (ly_ref hx (by omega) km ho (by omega)).symm
    have K231 : me ≤ k → wp_m l Y_R_layout none 0 0 231 [.ref 51, .int (iI w), .int (iI k), u3, u4, u5] [] (hp_ σ) K := fun km => by
      refine wp_ii2 dc_R_layout_231 (wp_goto dc_R_layout_234 rfl ?_)
      refine ih (k - 1) σ _ _ _ (by omega) (by omega) hfr (fun i i0 i1 hi => ?_) (fun i i0 i1 => hdone i (by omega) i1)
      rw [show (me - 1 - (k - 1)).toNat = (me - 1 - k).toNat by omega]
      exact h66 i i0 i1 hi
    refine wp_iload_n dc_R_layout_30 rfl rfl (wp_aload_n dc_R_layout_31 rfl rfl (wi_getE 11 (mi) dc_R_layout_32 lf_R_96 sh_51 rfl rfl hy.2.1.2.1 ?_))
    refine wi_ic_lt dc_R_layout_35 rfl (fun hd => ?_) (fun hd => ?_)
    · omega
    refine wp_iload_n dc_R_layout_38 rfl rfl (wp_aload_n dc_R_layout_39 rfl rfl (wi_getE 11 (mi) dc_R_layout_40 lf_R_96 sh_51 rfl rfl hy.2.1.2.1 ?_))
    refine wi_ic_eq dc_R_layout_43 rfl (fun he => ?_) (fun he => ?_)
    · exact K55 (by omega)
    refine wp_aload_n dc_R_layout_46 rfl rfl (wi_getR dc_R_layout_47 lf_R_25 sh_51 rfl (wp_iload_n dc_R_layout_50 rfl rfl (wi_aldE (T 4 k) dc_R_layout_51 sh_57 (by omega) (by omega) (by decide) (hrt.2 4 k (by decide) (by omega) (by omega)) ?_)))
    refine wi_if_le dc_R_layout_52 rfl (fun hf => ?_) (fun hf => ?_)
    · exact K231 (by omega)
    · exact K55 (by omega)
theorem lp_R_ly1 {w : Int} (hx : fx_ F n N T mi tc b tab me) (hy0 : ry_ σ0 F n N T mi tc b tab) (w0 : 0 ≤ w) (w1 : w ≤ 3)
    (hK : ∀ σ', fr_ lyW σ0 σ' → (∀ k, mi ≤ k → k < me → σ' 64 k = hd_ T k (np_ F T (wk_ tc tab w) mi me k) ∧ σ' 65 k = nl_ F T (wk_ tc tab w) mi me k) → K (some (.int (iI (nL_ F T mi tc tab me w)))) (hp_ σ')) :
    ∀ (j : Nat) (i : Int) (σ : sg_), i + j = N → 0 ≤ i → fr_ lyW σ0 σ → (∀ k, 0 ≤ k → k < i → σ 66 k = 0) → wp_m l Y_R_layout none 0 0 2 [.ref 51, .int (iI w), .int (iI i), .retAddr 0, .retAddr 0, .retAddr 0] [] (hp_ σ) K := by
  have m := fx_mi hx
  intro j
  induction j with
  | zero =>
    intro i σ hi i0 hfr h66
    have hy := ry_fr hy0 hfr (fun b j h => by unfold lyW at h; omega)
    refine wp_iload_n dc_R_layout_2 rfl rfl (wp_aload_n dc_R_layout_3 rfl rfl (wi_getE 2 (N) dc_R_layout_4 lf_R_64 sh_51 rfl rfl hy.2.1.1.1 ?_))
    refine wi_ic_ge dc_R_layout_7 rfl (fun hd => ?_) (fun hd => ?_)
    · refine wp_aload_n dc_R_layout_23 rfl rfl (wi_getE 2 (N) dc_R_layout_24 lf_R_64 sh_51 rfl rfl hy.2.1.1.1 (wi_iconst dc_R_layout_27 (wi_isub dc_R_layout_28 (wp_is2 dc_R_layout_29 ?_))))
      refine lp_R_ly2 hx hy0 w0 w1 hK (N - mi).toNat (N - 1) σ _ _ _ (by omega) (by omega) hfr (fun k k0 k1 hk => ?_) (fun k k0 k1 => by omega)
      rw [show (me - 1 - (N - 1)).toNat = 0 by omega]
      show _ = ow_ F T (wk_ tc tab w) k
      unfold ow_
      rw [if_pos hk]
      exact h66 k (by omega) (by omega)
    · omega
  | succ j ih =>
    intro i σ hi i0 hfr h66
    have hy := ry_fr hy0 hfr (fun b j h => by unfold lyW at h; omega)
    refine wp_iload_n dc_R_layout_2 rfl rfl (wp_aload_n dc_R_layout_3 rfl rfl (wi_getE 2 (N) dc_R_layout_4 lf_R_64 sh_51 rfl rfl hy.2.1.1.1 ?_))
    refine wi_ic_ge dc_R_layout_7 rfl (fun hd => ?_) (fun hd => ?_)
    · omega
    refine wp_aload_n dc_R_layout_10 rfl rfl (wi_getR dc_R_layout_11 lf_R_52 sh_51 rfl (wp_iload_n dc_R_layout_14 rfl rfl (wi_iconst dc_R_layout_15 (wi_ast dc_R_layout_16 sh_66 (by omega) (by omega) (by decide) (wp_ii2 dc_R_layout_17 (wp_goto dc_R_layout_20 rfl ?_))))))
    refine ih (i + 1) _ (by omega) (by omega) (hfr.up (Or.inr (Or.inr rfl))) (fun k k0 k1 => ?_)
    by_cases e : k = i
    · rw [e, up_s]
    · rw [up_n _ _ (by omega)]; exact h66 k k0 (by omega)
theorem c_R_layout {w : Int} (hx : fx_ F n N T mi tc b tab me) (hy0 : ry_ σ0 F n N T mi tc b tab) (w0 : 0 ≤ w) (w1 : w ≤ 3)
    (hK : ∀ σ', fr_ lyW σ0 σ' → (∀ k, mi ≤ k → k < me → σ' 64 k = hd_ T k (np_ F T (wk_ tc tab w) mi me k) ∧ σ' 65 k = nl_ F T (wk_ tc tab w) mi me k) → K (some (.int (iI (nL_ F T mi tc tab me w)))) (hp_ σ')) : ct_m l Y_R_layout 0 0 [.ref 51, .int (iI w)] (hp_ σ0) K := by
  have m := fx_mi hx
  refine ct_of (L := [.ref 51, .int (iI w), .retAddr 0, .retAddr 0, .retAddr 0, .retAddr 0]) (by decide +kernel) (Nat.le_of_ble_eq_true rfl) rfl ?_
  refine wi_iconst dc_R_layout_0 (wp_is2 dc_R_layout_1 ?_)
  exact lp_R_ly1 hx hy0 w0 w1 hK N.toNat 0 σ0 (by omega) (by omega) fr_.rf (fun k k0 k1 => by omega)
end FN
