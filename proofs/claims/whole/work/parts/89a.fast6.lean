/-! fastStart: the class's newPlace -/
section FG
variable {l : Launch} {K : Option Value → mx_H → Prop} {F : Int → Int} {n N : Int} {T : px_T} {mi : Int} {σ : sg_}
/-- the place p of a chunk that lies in data box r, when the movie is L bytes long -/
def nw_ (T : px_T) (mi r p L : Int) : Int := p + L - (if r < mi then 0 else T 1 mi)
theorem c_V_newPlace {p P H : Int} (hlo : lo_ σ F n) (hlt : lt_ σ N T) (htt : tt_ n N T) (m0 : 0 ≤ mi) (m1 : mi < N) (h6 : σ 45 6 = mi) (hp : 0 ≤ p ∧ p ≤ 65535) (h49 : σ 49 mi = P) (h50 : σ 50 mi = H) (hK : ∀ r, ff_ (DBX_ T p 0) N r → K (some (.int (iI (nw_ T mi r p (P + H))))) (hp_ σ)) : ct_m l Y_V_newPlace 0 0 [.ref 45, .int (iI p)] (hp_ σ) K := by
  have t2 := htt.2.1
  refine ct_of (L := [.ref 45, .int (iI p), .retAddr 0, .retAddr 0]) (by decide +kernel) (Nat.le_of_ble_eq_true rfl) rfl ?_
  refine wp_aload_n dc_V_newPlace_0 rfl rfl (wi_getR dc_V_newPlace_1 lf_V_15 sh_45 rfl (wp_iload_n dc_V_newPlace_4 rfl rfl ?_))
  refine wp_callV (As := [_]) dc_V_newPlace_5 lm_V_123 ls_L_dataAround (by decide) rfl rfl (hp_at _ sh_3) rfl rfl (Nat.le_of_ble_eq_true rfl) (Nat.le_refl _) (Nat.le_refl _) ?_
  refine c_L_dataAround hlt htt hlo.2.1 hp (fun r hr => ?_)
  have hrN : -1 ≤ r ∧ r < N := by rcases hr with h | h <;> omega
  have hk := hK r hr
  unfold nw_ at hk
  have K41 : ∀ o y : Int, y = (if r < mi then 0 else T 1 mi) → wp_m l Y_V_newPlace none 0 0 41 [.ref 45, .int (iI p), .int (iI o), .retAddr 0] [.int (iI y)] (hp_ σ) K := fun o y hy => by
    rw [← hy] at hk
    refine wp_is3 dc_V_newPlace_41 (wp_iload_n dc_V_newPlace_42 rfl rfl (wp_aload_n dc_V_newPlace_43 rfl rfl (wp_aload_n dc_V_newPlace_44 rfl rfl (wi_getE 6 (mi) dc_V_newPlace_45 lf_V_36 sh_45 rfl rfl h6 ?_))))
    refine wp_callV (As := [_]) dc_V_newPlace_48 lm_V_59 ls_V_newSize (by decide) rfl rfl (hp_at _ sh_45) rfl rfl (Nat.le_of_ble_eq_true rfl) (Nat.le_refl _) (Nat.le_refl _) ?_
    refine c_V_newSize m0 (by omega) h49 h50 ?_
    refine wi_iadd dc_V_newPlace_51 (wp_iload_n dc_V_newPlace_52 rfl rfl (wi_isub dc_V_newPlace_53 ?_))
    refine wp_ireturn dc_V_newPlace_54 rfl rfl hk
  refine wp_aload_n dc_V_newPlace_8 rfl rfl (wi_getE 6 (mi) dc_V_newPlace_9 lf_V_36 sh_45 rfl rfl h6 ?_)
  refine wi_ic_ge dc_V_newPlace_12 rfl (fun hd => ?_) (fun hd => ?_)
  · refine wi_iconst dc_V_newPlace_19 (wp_is2 dc_V_newPlace_20 (wp_iload_n dc_V_newPlace_21 rfl rfl ?_))
    refine wi_if_eq dc_V_newPlace_22 rfl (fun he => ?_) (fun he => ?_)
    rotate_left
    · omega
    refine wp_aload_n dc_V_newPlace_29 rfl rfl (wi_getR dc_V_newPlace_30 lf_V_15 sh_45 rfl (wp_aload_n dc_V_newPlace_33 rfl rfl (wi_getE 6 (mi) dc_V_newPlace_34 lf_V_36 sh_45 rfl rfl h6 (wi_iconst dc_V_newPlace_37 ?_))))
    refine wp_callV (As := [_, _]) dc_V_newPlace_38 lm_V_52 ls_L_of (by decide) rfl rfl (hp_at _ sh_3) rfl rfl (Nat.le_of_ble_eq_true rfl) (Nat.le_refl _) (Nat.le_refl _) ?_
    refine c_L_of (c := 1) (by decide) (by rw [hlt.1]; omega) (by rw [hlt.1]; omega) ⟨by omega, by omega⟩ ?_
    rw [hlt.1, at_in m0 m1, show σ (5 + 1) mi = T 1 mi from hlt.2.1 1 mi (by decide) m0 m1]
    exact K41 0 _ (by rw [if_neg (by omega)])
  · refine wi_iconst dc_V_newPlace_15 (wp_goto dc_V_newPlace_16 rfl (wp_is2 dc_V_newPlace_20 (wp_iload_n dc_V_newPlace_21 rfl rfl ?_)))
    refine wi_if_eq dc_V_newPlace_22 rfl (fun he => ?_) (fun he => ?_)
    · omega
    refine wi_iconst dc_V_newPlace_25 (wp_goto dc_V_newPlace_26 rfl ?_)
    exact K41 1 0 (by rw [if_pos (by omega)])
end FG
