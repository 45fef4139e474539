/-! rules with the value that is read under another name -/
section RU
variable {l : Launch} {Y : mx_Y} {sc : mx_S} {k n : Nat} {pc : Nat} {L st : List Value} {Q : Option Value → mx_H → Prop} {σ : sg_}
theorem wi_getE (kz x : Int) {idx ci kf a : Nat} {fin : Bool} {ft : FieldType} {fs : List Value} {z : Int32} (hi : decode Y.2.1 pc = .ok (.getfield idx, 3)) (hF : mx_F Y.1.cls idx ci kf fin ft) (ha : SH[a]? = some (.inr (ci, fs))) (hv : fs[kf]? = some (.int z)) (hz : (kf : Int) = kz) (he : σ a kz = x) (kk : wp_m l Y sc k n (pc + 3) L (.int (iI x) :: st) (hp_ σ) Q) : wp_m l Y sc k n pc L (.ref a :: st) (hp_ σ) Q :=
  wi_getI kz hi hF ha hv hz (by rw [he]; exact kk)
theorem wi_aldE (x : Int) {a N : Nat} {f0 : Nat → Int32} {z : Int} (hi : decode Y.2.1 pc = .ok (.iaload, 1)) (ha : SH[a]? = some (.inl (0, N, .inl f0))) (h0 : 0 ≤ z) (h1 : z < N) (hN : N ≤ 2147483647) (he : σ a z = x) (kk : wp_m l Y sc k n (pc + 1) L (.int (iI x) :: st) (hp_ σ) Q) : wp_m l Y sc k n pc L (.int (iI z) :: .ref a :: st) (hp_ σ) Q :=
  wi_ald hi ha h0 h1 hN (by rw [he]; exact kk)
theorem wi_baldE (x : Int) {a N : Nat} {f0 : Nat → Int32} {z : Int} (hi : decode Y.2.1 pc = .ok (.baload, 1)) (ha : SH[a]? = some (.inl (1, N, .inl f0))) (h0 : 0 ≤ z) (h1 : z < N) (hN : N ≤ 2147483647) (he : σ a z = x) (kk : wp_m l Y sc k n (pc + 1) L (.int (iI x) :: st) (hp_ σ) Q) : wp_m l Y sc k n pc L (.int (iI z) :: .ref a :: st) (hp_ σ) Q :=
  wi_bald hi ha h0 h1 hN (by rw [he]; exact kk)
end RU
