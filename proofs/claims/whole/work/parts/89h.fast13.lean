/-! fastStart: the new file, as a list of bytes -/
def ps_ (g : Int → List Int) : Nat → List Int
  | 0 => []
  | m + 1 => ps_ g m ++ g m
theorem ps_len (g : Int → List Int) : ∀ m : Nat, ((ps_ g m).length : Int) = sm_ (fun i => ((g i).length : Int)) m
  | 0 => rfl
  | m + 1 => by
    show (((ps_ g m) ++ g m).length : Int) = sm_ (fun i => ((g i).length : Int)) m + ((g m).length : Int)
    rw [List.length_append, Int.natCast_add, ps_len g m]
theorem ps_le (g : Int → List Int) {x y : Nat} (h : x ≤ y) : (ps_ g x).length ≤ (ps_ g y).length := by
  have := sm_mono (g := fun i => ((g i).length : Int)) (fun i => Int.natCast_nonneg _) x (y - x)
  rw [show x + (y - x) = y by omega, ← ps_len, ← ps_len] at this
  omega
/-- the list's bytes are those of f -/
def gs_ (xs : List Int) (f : Int → Int) : Prop := ∀ i : Nat, i < xs.length → xs[i]? = some (f i)
theorem gs_nil (f : Int → Int) : gs_ [] f := fun _ hi => absurd hi (Nat.not_lt_zero _)
theorem gs_app {xs ys : List Int} {f : Int → Int} (h : gs_ xs f) (h2 : gs_ ys (fun i => f (xs.length + i))) : gs_ (xs ++ ys) f := fun i hi => by
  by_cases q : i < xs.length
  · rw [List.getElem?_append_left q]; exact h i q
  · rw [List.getElem?_append_right (by omega), h2 (i - xs.length) (by rw [List.length_append] at hi; omega)]
    show some (f ((xs.length : Int) + ((i - xs.length : Nat) : Int))) = some (f i)
    rw [show (xs.length : Int) + ((i - xs.length : Nat) : Int) = (i : Int) by omega]
theorem gs_one {v : Int} {f : Int → Int} (h : f 0 = v) : gs_ [v] f := fun i hi => by
  have e : i = 0 := by
    have : [v].length = 1 := rfl
    omega
  subst e
  show some v = some (f 0)
  rw [h]
theorem gs_congr {xs : List Int} {f g : Int → Int} (h : gs_ xs f) (e : ∀ i : Nat, i < xs.length → f i = g i) : gs_ xs g := fun i hi => by
  rw [h i hi, e i hi]
/-- bytes from p up to q -/
def pt_ (F : Int → Int) (p q : Int) : List Int := ps_ (fun i => [F (p + i)]) (q - p).toNat
theorem pt_len (F : Int → Int) (p q : Int) : (pt_ F p q).length = (q - p).toNat := by
  have : ∀ m : Nat, (ps_ (fun i => [F (p + i)]) m).length = m := fun m => by
    induction m with
    | zero => rfl
    | succ m ih =>
      show (ps_ (fun i => [F (p + i)]) m ++ [F (p + m)]).length = m + 1
      rw [List.length_append, ih]
      rfl
  exact this _
theorem pt_gs (F : Int → Int) (p q : Int) : gs_ (pt_ F p q) (fun i => F (p + i)) := by
  have len : ∀ m : Nat, (ps_ (fun i => [F (p + i)]) m).length = m := fun m => by
    induction m with
    | zero => rfl
    | succ m ih =>
      show (ps_ (fun i => [F (p + i)]) m ++ [F (p + m)]).length = m + 1
      rw [List.length_append, ih]
      rfl
  have : ∀ m : Nat, gs_ (ps_ (fun i => [F (p + i)]) m) (fun i => F (p + i)) := fun m => by
    induction m with
    | zero => exact gs_nil _
    | succ m ih =>
      refine gs_app ih (gs_one ?_)
      show F (p + (((ps_ (fun i => [F (p + i)]) m).length : Int) + 0)) = F (p + m)
      rw [len, Int.add_zero]
  exact this _
theorem pt_0 (F : Int → Int) (p : Int) : pt_ F p p = [] := by
  unfold pt_
  rw [Int.sub_self]
  rfl
theorem pt_S (F : Int → Int) {p i : Int} (h : p ≤ i) : pt_ F p (i + 1) = pt_ F p i ++ [F i] := by
  unfold pt_
  rw [show (i + 1 - p).toNat = (i - p).toNat + 1 by omega]
  show ps_ _ _ ++ [F (p + ((i - p).toNat : Int))] = _
  rw [show p + ((i - p).toNat : Int) = i by omega]
def bk_ (xs : List Int) : Prop := ∀ x, x ∈ xs → 0 ≤ x ∧ x < 256
theorem bk_nil : bk_ [] := fun x h => absurd h List.not_mem_nil
theorem bk_app {xs ys : List Int} (h : bk_ xs) (h2 : bk_ ys) : bk_ (xs ++ ys) := fun x hx => by
  rcases List.mem_append.mp hx with q | q
  · exact h x q
  · exact h2 x q
theorem bk_cons {v : Int} {xs : List Int} (hv : 0 ≤ v ∧ v < 256) (h : bk_ xs) : bk_ (v :: xs) := fun x hx => by
  rcases List.mem_cons.mp hx with q | q
  · rw [q]; exact hv
  · exact h x q
theorem bk_ps {g : Int → List Int} : ∀ m : Nat, (∀ i : Nat, i < m → bk_ (g i)) → bk_ (ps_ g m)
  | 0, _ => bk_nil
  | m + 1, h => bk_app (bk_ps m (fun i hi => h i (by omega))) (h m (by omega))
theorem bk_pt {F : Int → Int} (hF : ∀ i, 0 ≤ F i ∧ F i < 256) (p q : Int) : bk_ (pt_ F p q) := bk_ps _ (fun i _ => bk_cons (hF _) bk_nil)
theorem bk_gs {xs : List Int} {f : Int → Int} (h : bk_ xs) (hg : gs_ xs f) {i : Int} (i0 : 0 ≤ i) (i1 : i < xs.length) : 0 ≤ f i ∧ f i < 256 := by
  have := hg i.toNat (by omega)
  rw [show ((i.toNat : Nat) : Int) = i by omega] at this
  exact h _ (List.mem_of_getElem? this)
/-! the boxes of the new movie -/
def hh_ (ty h len : Int) : List Int := if h = 4 then [1, ty, len / 256, len % 256] else [len, ty]
def wf_ (w t : Int) (f : Int → Int) : Int := if f 4 = -1 ∨ bi_ w t = 1 then 1 else 0
noncomputable def pe_ (N : Int) (T : px_T) (mi p L wf : Int) : List Int := if wf = 1 then [nz_ N T mi p L / 256, nz_ N T mi p L % 256] else [nz_ N T mi p L]
noncomputable def pp_ (F : Int → Int) (N : Int) (T : px_T) (mi : Int) (f : Int → Int) (L wf : Int) : List Int := F (st_ T (pj_ f)) :: ps_ (fun r => pe_ N T mi (pc_ F T f (r + 1)) L wf) (CC_ F T f).toNat
noncomputable def bd_ (F : Int → Int) (N : Int) (T : px_T) (mi tc : Int) (tab : Int → Int → Int) (me w k : Int) : List Int := if pj_ (tab 0) = k then pp_ F N T mi (tab 0) (nL_ F T mi tc tab me w) (wf_ w 0 (tab 0)) else if tc = 2 ∧ pj_ (tab 1) = k then pp_ F N T mi (tab 1) (nL_ F T mi tc tab me w) (wf_ w 1 (tab 1)) else if ho_ T k then [] else pt_ F (st_ T k) (T 0 k + T 1 k)
noncomputable def bb_ (F : Int → Int) (N : Int) (T : px_T) (mi tc : Int) (tab : Int → Int → Int) (me w k : Int) : List Int := hh_ (if wk_ tc tab w k = 1 then 79 else T 2 k) (hd_ T k (np_ F T (wk_ tc tab w) mi me k)) (nl_ F T (wk_ tc tab w) mi me k) ++ bd_ F N T mi tc tab me w k
noncomputable def bs2_ (F : Int → Int) (N : Int) (T : px_T) (mi tc : Int) (tab : Int → Int → Int) (me w : Int) (m : Nat) : List Int := ps_ (fun j => bb_ F N T mi tc tab me w (mi + j)) m
/-- the new file: a is the place of the first data box -/
noncomputable def rl_ (F : Int → Int) (n N : Int) (T : px_T) (mi tc : Int) (tab : Int → Int → Int) (me w a : Int) : List Int := pt_ F 0 a ++ bs2_ F N T mi tc tab me w (me - mi).toNat ++ pt_ F a (T 0 mi) ++ pt_ F (T 0 mi + T 1 mi) n
section FP
variable {F : Int → Int} {n N : Int} {T : px_T} {mi tc : Int} {b : Int → Int} {tab : Int → Int → Int} {me : Int}
theorem fx_pn (h : fx_ F n N T mi tc b tab me) (hc : tc = 2) : pj_ (tab 0) ≠ pj_ (tab 1) := fun q => by
  have z := h.2.2.2.1.2.1.2.2.1 hc
  have key : ∀ t, 0 ≤ t → t < tc → T 5 (pj_ (tab t)) = b t := fun t t0 t1 => by
    rcases fx_pl h t0 t1 with ⟨q1, q2, q3, q4⟩ | ⟨q1, q2, q3, q4⟩
    · rw [q3]; exact (fx_tab h t0 t1 (q := 4) (by omega) (by omega) q1).2.2.2.2
    · rw [q3]; exact (fx_tab h t0 t1 (q := 5) (by omega) (by omega) q2).2.2.2.2
  have a := key 0 (by omega) (by omega)
  have c := key 1 (by omega) (by omega)
  rw [q] at a
  omega
theorem bd_t (h : fx_ F n N T mi tc b tab me) {t k w : Int} (t0 : 0 ≤ t) (t1 : t < tc) (hk : pj_ (tab t) = k) : bd_ F N T mi tc tab me w k = pp_ F N T mi (tab t) (nL_ F T mi tc tab me w) (wf_ w t (tab t)) := by
  have m := fx_mi h
  unfold bd_
  by_cases e : t = 0
  · subst e
    rw [if_pos hk]
  · obtain rfl : t = 1 := by omega
    have := fx_pn h (by omega)
    rw [if_neg (by omega), if_pos ⟨by omega, hk⟩]
theorem bd_n (m : tc = 1 ∨ tc = 2) {k w : Int} (hz : ∀ t, 0 ≤ t → t < tc → pj_ (tab t) ≠ k) : bd_ F N T mi tc tab me w k = if ho_ T k then [] else pt_ F (st_ T k) (T 0 k + T 1 k) := by
  unfold bd_
  rw [if_neg (hz 0 (by omega) (by omega)), if_neg (fun q => hz 1 (by omega) (by omega) q.2)]
theorem sm_1 : ∀ m : Nat, sm_ (fun _ => 1) m = m
  | 0 => rfl
  | m + 1 => by
    show sm_ (fun _ => 1) m + 1 = _
    rw [sm_1 m]
    omega
theorem sm_2 : ∀ m : Nat, sm_ (fun _ => 2) m = 2 * m
  | 0 => rfl
  | m + 1 => by
    show sm_ (fun _ => 2) m + 2 = _
    rw [sm_2 m]
    omega
theorem pp_len (hF : ∀ i, 0 ≤ F i ∧ F i < 256) (f : Int → Int) (L wf : Int) : ((pp_ F N T mi f L wf).length : Int) = 1 + (if wf = 1 then 2 * CC_ F T f else CC_ F T f) := by
  have ecc : CC_ F T f = F (st_ T (pj_ f)) := rfl
  have := hF (st_ T (pj_ f))
  unfold pp_
  rw [List.length_cons, Int.natCast_add, ps_len]
  unfold pe_
  by_cases e : wf = 1
  · rw [if_pos e, sm_congr _ (g := fun _ => 2) (fun i _ => by rw [if_pos e]; rfl), sm_2]
    omega
  · rw [if_neg e, sm_congr _ (g := fun _ => 1) (fun i _ => by rw [if_neg e]; rfl), sm_1]
    omega
theorem bd_len (h : fx_ F n N T mi tc b tab me) {w k : Int} (k0 : mi ≤ k) (k1 : k < me) : ((bd_ F N T mi tc tab me w k).length : Int) = ow_ F T (wk_ tc tab w) k := by
  have m := fx_mi h
  have bx := h.2.2.1.2.2.1 k (by omega) (by omega)
  unfold bx_ at bx
  have ep : pl_ T k = T 1 k - T 3 k := rfl
  have es : st_ T k = T 0 k + T 3 k := rfl
  unfold ow_
  by_cases hz : ∀ t, 0 ≤ t → t < tc → pj_ (tab t) ≠ k
  · rw [bd_n m.2.2.2.2.2.2.2.2 hz]
    by_cases ho : ho_ T k
    · rw [if_pos ho, if_pos ho]; rfl
    · have hw : ¬ wk_ tc tab w k = 1 := fun q => by
        obtain ⟨t, t0, t1, e, -⟩ := (wk_iff m.2.2.2.2.2.2.2.2 (by omega)).mp q
        have := fx_pl h t0 t1
        exact hz t t0 t1 (by omega)
      rw [if_neg ho, if_neg ho, if_neg hw, pt_len]
      omega
  · have hz' : ∃ t, 0 ≤ t ∧ t < tc ∧ pj_ (tab t) = k := Classical.byContradiction (fun q => hz (fun t t0 t1 e => q ⟨t, t0, t1, e⟩))
    clear hz
    obtain ⟨t, t0, t1, hk⟩ := hz'
    obtain ⟨g1, g2, g3, g4, g5⟩ := fx_pj h t0 t1 hk
    have ecc : CC_ F T (tab t) = F (st_ T (pj_ (tab t))) := rfl
    rw [hk] at ecc
    rw [bd_t h t0 t1 hk, pp_len h.1, if_neg (show ¬ ((T 4 k = 0 ∧ T 2 k = 77) ∨ (T 4 k = 1 ∧ T 2 k = 84)) by omega)]
    unfold wf_
    rcases g5 with ⟨a1, a2, a3, a4⟩ | ⟨a1, a3, a4⟩
    · have hw : ¬ wk_ tc tab w k = 1 := fun q => by have := fx_wk h q; omega
      rw [if_pos (if_pos (Or.inl a1)), if_neg hw]
      omega
    · have wb := wk_b h t0 t1 (by omega) w
      rw [a1] at wb
      by_cases q : bi_ w t = 1
      · rw [if_pos (if_pos (Or.inr q)), if_pos (wb.mpr q)]; omega
      · have e : ¬ ((if tab t 4 = -1 ∨ bi_ w t = 1 then (1 : Int) else 0) = 1) := by
          rw [if_neg (by omega)]; decide
        rw [if_neg e, if_neg (fun z => q (wb.mp z))]; omega
theorem bb_len (h : fx_ F n N T mi tc b tab me) {w k : Int} (k0 : mi ≤ k) (k1 : k < me) : ((bb_ F N T mi tc tab me w k).length : Int) = hd_ T k (np_ F T (wk_ tc tab w) mi me k) + ow_ F T (wk_ tc tab w) k := by
  have hr := (fx_np h (wk_ tc tab w) k0 k1).2
  unfold bb_
  rw [List.length_append, Int.natCast_add, bd_len h k0 k1]
  unfold hh_
  rcases hr with e | e
  · rw [e, if_neg (by decide)]; rfl
  · rw [e, if_pos rfl]; rfl
theorem sm_upd {f g : Int → Int} {x d : Int} (x0 : 0 ≤ x) (hg : ∀ i : Nat, g i = if (i : Int) = x then f i + d else f i) : ∀ m : Nat, sm_ g m = sm_ f m + (if x < m then d else 0)
  | 0 => by
    rw [if_neg (by omega)]
    rfl
  | m + 1 => by
    show sm_ g m + g m = sm_ f m + f m + _
    rw [sm_upd x0 hg m, hg m]
    by_cases e : (m : Int) = x
    · rw [if_pos e, if_neg (by omega), if_pos (by omega)]; omega
    · rw [if_neg e]
      by_cases q : x < m
      · rw [if_pos q, if_pos (by omega)]; omega
      · rw [if_neg q, if_neg (by omega)]; omega
theorem sm_add {f g : Int → Int} : ∀ m : Nat, sm_ (fun i => f i + g i) m = sm_ f m + sm_ g m
  | 0 => rfl
  | m + 1 => by
    show sm_ (fun i => f i + g i) m + (f m + g m) = sm_ f m + f m + (sm_ g m + g m)
    rw [sm_add m]
    omega
/-- all bytes of the movie's boxes are its new length -/
theorem ly_sum (h : fx_ F n N T mi tc b tab me) (W : Int → Int) : ∀ m : Nat, m < (me - mi).toNat → sm_ (fun j => ly_ F T W me m (mi + j)) ((me - mi).toNat - m) = sm_ (fun j => ow_ F T W (mi + j)) (me - mi).toNat + (sm_ (fun j => hd_ T (mi + j) (np_ F T W mi me (mi + j))) (me - mi).toNat - sm_ (fun j => hd_ T (mi + j) (np_ F T W mi me (mi + j))) ((me - mi).toNat - m)) := by
  have mm := fx_mi h
  intro m
  induction m with
  | zero =>
    intro _
    rw [Nat.sub_zero]
    show sm_ (fun j => ow_ F T W (mi + j)) _ = _
    omega
  | succ m ih =>
    intro hm
    have e0 := ih (by omega)
    have eD : (me - mi).toNat - m = ((me - mi).toNat - (m + 1)) + 1 := by omega
    rw [eD] at e0
    have ek : mi + (((me - mi).toNat - (m + 1) : Nat) : Int) = me - 1 - m := by omega
    have s1 : ∀ f : Int → Int, sm_ f ((me - mi).toNat - (m + 1) + 1) = sm_ f ((me - mi).toNat - (m + 1)) + f (((me - mi).toNat - (m + 1) : Nat) : Int) := fun f => rfl
    rw [s1, s1] at e0
    have g := fx_hh h (k := me - 1 - m) (by omega) (by omega)
    have enp : np_ F T W mi me (me - 1 - m) = ly_ F T W me m (me - 1 - m) := by
      unfold np_
      have := ly_keep (F := F) (W := W) h.2.2.1 (show me ≤ N by omega) (j := me - 1 - m) ((me - mi).toNat - m) m (by omega) (by omega)
      rwa [show m + ((me - mi).toNat - m) = (me - mi).toNat by omega] at this
    rw [ek, enp] at e0
    have u := sm_upd (f := fun j => ly_ F T W me m (mi + j)) (g := fun j => ly_ F T W me (m + 1) (mi + j)) (x := T 5 (me - 1 - m) - mi) (d := ly_ F T W me m (me - 1 - m) + hd_ T (me - 1 - m) (ly_ F T W me m (me - 1 - m))) (by omega) (fun i => by
      show (if mi + (i : Int) = T 5 (me - 1 - m) then _ else _) = _
      by_cases q : mi + (i : Int) = T 5 (me - 1 - m)
      · rw [if_pos q, if_pos (by omega)]
      · rw [if_neg q, if_neg (by omega)]) ((me - mi).toNat - (m + 1))
    rw [if_pos (by omega)] at u
    rw [u]
    omega
theorem nl_sum (h : fx_ F n N T mi tc b tab me) (W : Int → Int) : sm_ (fun j => hd_ T (mi + j) (np_ F T W mi me (mi + j)) + ow_ F T W (mi + j)) (me - mi).toNat = nl_ F T W mi me mi := by
  have mm := fx_mi h
  have e := ly_sum h W ((me - mi).toNat - 1) (by omega)
  rw [show (me - mi).toNat - ((me - mi).toNat - 1) = 1 by omega] at e
  have s1 : ∀ f : Int → Int, sm_ f 1 = f 0 := fun f => by
    show 0 + f 0 = f 0
    omega
  rw [s1, s1, show mi + 0 = mi by omega] at e
  have enp : np_ F T W mi me mi = ly_ F T W me ((me - mi).toNat - 1) mi := by
    unfold np_
    have := ly_keep (F := F) (W := W) h.2.2.1 (show me ≤ N by omega) (j := mi) 1 ((me - mi).toNat - 1) (by omega) (by omega)
    rwa [show (me - mi).toNat - 1 + 1 = (me - mi).toNat by omega] at this
  rw [sm_add]
  unfold nl_
  rw [← enp] at e
  omega
theorem bs2_len (h : fx_ F n N T mi tc b tab me) {w : Int} : ((bs2_ F N T mi tc tab me w (me - mi).toNat).length : Int) = nL_ F T mi tc tab me w := by
  have mm := fx_mi h
  unfold bs2_ nL_
  rw [ps_len, ← nl_sum h]
  exact sm_congr _ (fun i hi => bb_len h (by omega) (by omega))
theorem ly_up (h : fx_ F n N T mi tc b tab me) (W : Int → Int) {j : Int} : ∀ (d m : Nat), (m : Int) + d ≤ me - mi → ly_ F T W me m j ≤ ly_ F T W me (m + d) j := by
  have mm := fx_mi h
  intro d
  induction d with
  | zero => intro m _; exact Int.le_refl _
  | succ d ih =>
    intro m hm
    have h1 := ih m (by omega)
    have lr := ly_rg (W := W) h.1 h.2.1 h.2.2.1 (me := me) (by omega) (m + d) (by omega) (me - 1 - ((m + d : Nat) : Int)) (by omega) (by omega)
    have hr := (hd_mono (T := T) (k := me - 1 - ((m + d : Nat) : Int)) (Int.le_refl (ly_ F T W me (m + d) (me - 1 - ((m + d : Nat) : Int))))).2
    have e : ly_ F T W me (m + d) j ≤ ly_ F T W me (m + d + 1) j := by
      show _ ≤ if j = T 5 (me - 1 - ((m + d : Nat) : Int)) then _ else _
      split <;> omega
    show _ ≤ ly_ F T W me (m + d + 1) j
    omega
/-- no box of the movie is longer than it -/
theorem nl_le (h : fx_ F n N T mi tc b tab me) (W : Int → Int) : ∀ (d : Nat) (k : Int), k = mi + d → k < me → nl_ F T W mi me k ≤ nl_ F T W mi me mi := by
  have mm := fx_mi h
  intro d
  induction d using Nat.strongRecOn with
  | _ d ih =>
    intro k hk km
    by_cases q : k = mi
    · rw [q]; exact Int.le_refl _
    have g := fx_hh h (k := k) (by omega) km
    have h1 := ih (T 5 k - mi).toNat (by omega) (T 5 k) (by omega) (by omega)
    have ek : me - 1 - ((me - 1 - k).toNat : Int) = k := by omega
    have enp : np_ F T W mi me k = ly_ F T W me (me - 1 - k).toNat k := by
      unfold np_
      have := ly_keep (F := F) (W := W) h.2.2.1 (show me ≤ N by omega) (j := k) ((me - mi).toNat - (me - 1 - k).toNat) (me - 1 - k).toNat (by omega) (by omega)
      rwa [show (me - 1 - k).toNat + ((me - mi).toNat - (me - 1 - k).toNat) = (me - mi).toNat by omega] at this
    have st : ly_ F T W me ((me - 1 - k).toNat + 1) (T 5 k) = ly_ F T W me (me - 1 - k).toNat (T 5 k) + (ly_ F T W me (me - 1 - k).toNat k + hd_ T k (ly_ F T W me (me - 1 - k).toNat k)) := by
      show (if T 5 k = T 5 (me - 1 - ((me - 1 - k).toNat : Int)) then _ else _) = _
      rw [ek, if_pos rfl]
    have up := ly_up h W (j := T 5 k) ((me - mi).toNat - ((me - 1 - k).toNat + 1)) ((me - 1 - k).toNat + 1) (by omega)
    rw [show (me - 1 - k).toNat + 1 + ((me - mi).toNat - ((me - 1 - k).toNat + 1)) = (me - mi).toNat by omega] at up
    have lr := ly_rg (W := W) h.1 h.2.1 h.2.2.1 (me := me) (by omega) (me - 1 - k).toNat (by omega) (T 5 k) (by omega) (by omega)
    have hr := (fx_np h W (k := T 5 k) g.1 (by omega)).2
    have e1 : np_ F T W mi me (T 5 k) = ly_ F T W me (me - mi).toNat (T 5 k) := rfl
    have e2 : nl_ F T W mi me k = ly_ F T W me (me - 1 - k).toNat k + hd_ T k (ly_ F T W me (me - 1 - k).toNat k) := by
      unfold nl_
      rw [enp]
    have e3 : nl_ F T W mi me (T 5 k) = np_ F T W mi me (T 5 k) + hd_ T (T 5 k) (np_ F T W mi me (T 5 k)) := rfl
    omega
/-- a place that stays narrow fits a byte -/
theorem nz_nar (h : fx_ F n N T mi tc b tab me) {w t c : Int} (hw : fp_ F N T mi tc tab me w = w) (t0 : 0 ≤ t) (t1 : t < tc) (c0 : 1 ≤ c) (c1 : c ≤ CC_ F T (tab t)) (hf : ¬ wf_ w t (tab t) = 1) : nz_ N T mi (pc_ F T (tab t) c) (nL_ F T mi tc tab me w) ≤ 255 := by
  have m := fx_mi h
  have hf' : ¬ (tab t 4 = -1 ∨ bi_ w t = 1) := fun q => hf (by unfold wf_; rw [if_pos q])
  have h4 : 0 ≤ tab t 4 := by have := fx_pl h t0 t1; omega
  have pb := ph_b (F := F) (N := N) (T := T) (mi := mi) (tab := tab) (nL_ F T mi tc tab me w) t0 t1 m.2.2.2.2.2.2.2.2
  unfold fp_ at hw
  rw [hw] at pb
  by_cases q : nz_ N T mi (pc_ F T (tab t) c) (nL_ F T mi tc tab me w) ≤ 255
  · exact q
  · exact absurd (pb.mpr ⟨h4, c, c0, c1, by omega⟩) (fun z => hf' (Or.inr z))
theorem bb_bk (h : fx_ F n N T mi tc b tab me) {w k : Int} (hw : fp_ F N T mi tc tab me w = w) (hL : nL_ F T mi tc tab me w ≤ 1000) (k0 : mi ≤ k) (k1 : k < me) : bk_ (bb_ F N T mi tc tab me w k) := by
  have m := fx_mi h
  have hn := h.2.1
  have nm := fx_np h (wk_ tc tab w) (Int.le_refl mi) m.2.1
  have nk := fx_np h (wk_ tc tab w) k0 k1
  have le := nl_le h (wk_ tc tab w) (k - mi).toNat k (by omega) k1
  have bx := h.2.2.1.2.2.1 k (by omega) (by omega)
  unfold bx_ at bx
  have eL : nL_ F T mi tc tab me w = nl_ F T (wk_ tc tab w) mi me mi := rfl
  have em : nl_ F T (wk_ tc tab w) mi me mi = np_ F T (wk_ tc tab w) mi me mi + hd_ T mi (np_ F T (wk_ tc tab w) mi me mi) := rfl
  have ek : nl_ F T (wk_ tc tab w) mi me k = np_ F T (wk_ tc tab w) mi me k + hd_ T k (np_ F T (wk_ tc tab w) mi me k) := rfl
  have ty : 0 ≤ (if wk_ tc tab w k = 1 then 79 else T 2 k) ∧ (if wk_ tc tab w k = 1 then 79 else T 2 k) < 256 := by split <;> omega
  unfold bb_
  refine bk_app ?_ ?_
  · unfold hh_
    rcases nk.2 with e | e
    · rw [e, if_neg (by decide)]
      have : np_ F T (wk_ tc tab w) mi me k + 2 ≤ 255 := by
        unfold hd_ at e
        by_cases q : T 3 k = 2 ∧ np_ F T (wk_ tc tab w) mi me k + 2 ≤ 255
        · exact q.2
        · rw [if_neg q] at e; omega
      exact bk_cons (by omega) (bk_cons ty bk_nil)
    · rw [e, if_pos rfl]
      exact bk_cons (by omega) (bk_cons ty (bk_cons (by omega) (bk_cons (by omega) bk_nil)))
  · by_cases hz : ∀ t, 0 ≤ t → t < tc → pj_ (tab t) ≠ k
    · rw [bd_n m.2.2.2.2.2.2.2.2 hz]
      split
      · exact bk_nil
      · exact bk_pt h.1 _ _
    · have hz' : ∃ t, 0 ≤ t ∧ t < tc ∧ pj_ (tab t) = k := Classical.byContradiction (fun q => hz (fun t t0 t1 e => q ⟨t, t0, t1, e⟩))
      clear hz
      obtain ⟨t, t0, t1, hk⟩ := hz'
      rw [bd_t h t0 t1 hk]
      unfold pp_
      refine bk_cons (h.1 _) (bk_ps _ (fun i hi => ?_))
      have ecc : CC_ F T (tab t) = F (st_ T (pj_ (tab t))) := rfl
      have hF := h.1 (st_ T (pj_ (tab t)))
      obtain ⟨z1, z2, z3, z4, z5⟩ := fx_nz h (c := (i : Int) + 1) (L := nL_ F T mi tc tab me w) t0 t1 (by omega) (by omega) (by omega)
      unfold pe_
      by_cases q : wf_ w t (tab t) = 1
      · rw [if_pos q]
        exact bk_cons (by omega) (bk_cons (by omega) bk_nil)
      · have := nz_nar h (c := (i : Int) + 1) hw t0 t1 (by omega) (by omega) q
        rw [if_neg q]
        exact bk_cons (by omega) bk_nil
end FP
