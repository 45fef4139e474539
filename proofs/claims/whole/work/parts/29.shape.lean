/-! the shape of the heap behind both constructors: what each cell is -/
def SH : mx_H := [
  .inr (0, [.ref 1, .ref 3, .ref 12, .ref 45, .int 0, .int 0, .int 0]),
  .inr (1, [.ref 2, .int 0]),
  .inl (0, 1000, .inl (fun _ => 0)),
  .inr (2, [.ref 1, .ref 4, .int 0]),
  .inl (3, 7, .inr (.inr (.inr (.inr (fun j => if j < 7 then some (4 + 1 + j) else none))))),
  .inl (0, 20, .inl (fun _ => 0)),
  .inl (0, 20, .inl (fun _ => 0)),
  .inl (0, 20, .inl (fun _ => 0)),
  .inl (0, 20, .inl (fun _ => 0)),
  .inl (0, 20, .inl (fun _ => 0)),
  .inl (0, 20, .inl (fun _ => 0)),
  .inl (0, 20, .inl (fun _ => 0)),
  .inl (2, 2, .inr (.inr (.inr (.inr (fun j => if j = 1 then some 29 else if j = 0 then some 13 else none))))),
  .inr (5, [.ref 3, .ref 14, .ref 15, .ref 16, .ref 17, .ref 18, .ref 19, .ref 20, .ref 21, .int 0]),
  .inr (3, [.ref 1, .int 0, .int 0, .int 0, .int 0, .int 0]),
  .inr (3, [.ref 1, .int 0, .int 0, .int 0, .int 0, .int 0]),
  .inr (3, [.ref 1, .int 0, .int 0, .int 0, .int 0, .int 0]),
  .inr (3, [.ref 1, .int 0, .int 0, .int 0, .int 0, .int 0]),
  .inr (3, [.ref 1, .int 0, .int 0, .int 0, .int 0, .int 0]),
  .inr (3, [.ref 1, .int 0, .int 0, .int 0, .int 0, .int 0]),
  .inr (4, [.ref 1, .int 0, .int 0, .int 0, .int 0]),
  .inl (3, 7, .inr (.inr (.inr (.inr (fun j => if j < 7 then some (21 + 1 + j) else none))))),
  .inl (0, 255, .inl (fun _ => 0)),
  .inl (0, 255, .inl (fun _ => 0)),
  .inl (0, 255, .inl (fun _ => 0)),
  .inl (0, 255, .inl (fun _ => 0)),
  .inl (0, 255, .inl (fun _ => 0)),
  .inl (0, 255, .inl (fun _ => 0)),
  .inl (0, 255, .inl (fun _ => 0)),
  .inr (5, [.ref 3, .ref 30, .ref 31, .ref 32, .ref 33, .ref 34, .ref 35, .ref 36, .ref 37, .int 0]),
  .inr (3, [.ref 1, .int 0, .int 0, .int 0, .int 0, .int 0]),
  .inr (3, [.ref 1, .int 0, .int 0, .int 0, .int 0, .int 0]),
  .inr (3, [.ref 1, .int 0, .int 0, .int 0, .int 0, .int 0]),
  .inr (3, [.ref 1, .int 0, .int 0, .int 0, .int 0, .int 0]),
  .inr (3, [.ref 1, .int 0, .int 0, .int 0, .int 0, .int 0]),
  .inr (3, [.ref 1, .int 0, .int 0, .int 0, .int 0, .int 0]),
  .inr (4, [.ref 1, .int 0, .int 0, .int 0, .int 0]),
  .inl (3, 7, .inr (.inr (.inr (.inr (fun j => if j < 7 then some (37 + 1 + j) else none))))),
  .inl (0, 255, .inl (fun _ => 0)),
  .inl (0, 255, .inl (fun _ => 0)),
  .inl (0, 255, .inl (fun _ => 0)),
  .inl (0, 255, .inl (fun _ => 0)),
  .inl (0, 255, .inl (fun _ => 0)),
  .inl (0, 255, .inl (fun _ => 0)),
  .inl (0, 255, .inl (fun _ => 0)),
  .inr (6, [.ref 1, .ref 3, .ref 46, .ref 48, .ref 49, .ref 50, .int 0, .int 0]),
  .inr (1, [.ref 47, .int 0]),
  .inl (0, 1000, .inl (fun _ => 0)),
  .inl (1, 20, .inl (fun _ => 0)),
  .inl (0, 20, .inl (fun _ => 0)),
  .inl (0, 20, .inl (fun _ => 0)),
  .inr (7, [.ref 52, .int 0, .int 0, .ref 53, .ref 54, .ref 55, .ref 56, .ref 57, .ref 58, .ref 59, .ref 60, .int 0, .int 0, .ref 61, .ref 62, .ref 63, .ref 64, .ref 65, .ref 66, .ref 67, .int 0]),
  .inl (0, 1000, .inl (fun _ => 0)),
  .inl (0, 20, .inl (fun _ => 0)),
  .inl (0, 20, .inl (fun _ => 0)),
  .inl (0, 20, .inl (fun _ => 0)),
  .inl (0, 20, .inl (fun _ => 0)),
  .inl (0, 20, .inl (fun _ => 0)),
  .inl (0, 20, .inl (fun _ => 0)),
  .inl (0, 3, .inl (fun _ => 0)),
  .inl (0, 3, .inl (fun _ => 0)),
  .inl (0, 2, .inl (fun _ => 0)),
  .inl (0, 16, .inl (fun _ => 0)),
  .inl (0, 512, .inl (fun _ => 0)),
  .inl (0, 20, .inl (fun _ => 0)),
  .inl (0, 20, .inl (fun _ => 0)),
  .inl (0, 20, .inl (fun _ => 0)),
  .inl (0, 1000, .inl (fun _ => 0))]
theorem sh_0 : SH[0]? = some (.inr (0, [.ref 1, .ref 3, .ref 12, .ref 45, .int 0, .int 0, .int 0])) := rfl
theorem sh_1 : SH[1]? = some (.inr (1, [.ref 2, .int 0])) := rfl
theorem sh_2 : SH[2]? = some (.inl (0, 1000, .inl (fun _ => 0))) := rfl
theorem sh_3 : SH[3]? = some (.inr (2, [.ref 1, .ref 4, .int 0])) := rfl
theorem sh_4 : SH[4]? = some (.inl (3, 7, .inr (.inr (.inr (.inr (fun j => if j < 7 then some (4 + 1 + j) else none)))))) := rfl
theorem sh_5 : SH[5]? = some (.inl (0, 20, .inl (fun _ => 0))) := rfl
theorem sh_6 : SH[6]? = some (.inl (0, 20, .inl (fun _ => 0))) := rfl
theorem sh_7 : SH[7]? = some (.inl (0, 20, .inl (fun _ => 0))) := rfl
theorem sh_8 : SH[8]? = some (.inl (0, 20, .inl (fun _ => 0))) := rfl
theorem sh_9 : SH[9]? = some (.inl (0, 20, .inl (fun _ => 0))) := rfl
theorem sh_10 : SH[10]? = some (.inl (0, 20, .inl (fun _ => 0))) := rfl
theorem sh_11 : SH[11]? = some (.inl (0, 20, .inl (fun _ => 0))) := rfl
theorem sh_12 : SH[12]? = some (.inl (2, 2, .inr (.inr (.inr (.inr (fun j => if j = 1 then some 29 else if j = 0 then some 13 else none)))))) := rfl
theorem sh_13 : SH[13]? = some (.inr (5, [.ref 3, .ref 14, .ref 15, .ref 16, .ref 17, .ref 18, .ref 19, .ref 20, .ref 21, .int 0])) := rfl
theorem sh_14 : SH[14]? = some (.inr (3, [.ref 1, .int 0, .int 0, .int 0, .int 0, .int 0])) := rfl
theorem sh_15 : SH[15]? = some (.inr (3, [.ref 1, .int 0, .int 0, .int 0, .int 0, .int 0])) := rfl
theorem sh_16 : SH[16]? = some (.inr (3, [.ref 1, .int 0, .int 0, .int 0, .int 0, .int 0])) := rfl
theorem sh_17 : SH[17]? = some (.inr (3, [.ref 1, .int 0, .int 0, .int 0, .int 0, .int 0])) := rfl
theorem sh_18 : SH[18]? = some (.inr (3, [.ref 1, .int 0, .int 0, .int 0, .int 0, .int 0])) := rfl
theorem sh_19 : SH[19]? = some (.inr (3, [.ref 1, .int 0, .int 0, .int 0, .int 0, .int 0])) := rfl
theorem sh_20 : SH[20]? = some (.inr (4, [.ref 1, .int 0, .int 0, .int 0, .int 0])) := rfl
theorem sh_21 : SH[21]? = some (.inl (3, 7, .inr (.inr (.inr (.inr (fun j => if j < 7 then some (21 + 1 + j) else none)))))) := rfl
theorem sh_22 : SH[22]? = some (.inl (0, 255, .inl (fun _ => 0))) := rfl
theorem sh_23 : SH[23]? = some (.inl (0, 255, .inl (fun _ => 0))) := rfl
theorem sh_24 : SH[24]? = some (.inl (0, 255, .inl (fun _ => 0))) := rfl
theorem sh_25 : SH[25]? = some (.inl (0, 255, .inl (fun _ => 0))) := rfl
theorem sh_26 : SH[26]? = some (.inl (0, 255, .inl (fun _ => 0))) := rfl
theorem sh_27 : SH[27]? = some (.inl (0, 255, .inl (fun _ => 0))) := rfl
theorem sh_28 : SH[28]? = some (.inl (0, 255, .inl (fun _ => 0))) := rfl
theorem sh_29 : SH[29]? = some (.inr (5, [.ref 3, .ref 30, .ref 31, .ref 32, .ref 33, .ref 34, .ref 35, .ref 36, .ref 37, .int 0])) := rfl
theorem sh_30 : SH[30]? = some (.inr (3, [.ref 1, .int 0, .int 0, .int 0, .int 0, .int 0])) := rfl
theorem sh_31 : SH[31]? = some (.inr (3, [.ref 1, .int 0, .int 0, .int 0, .int 0, .int 0])) := rfl
theorem sh_32 : SH[32]? = some (.inr (3, [.ref 1, .int 0, .int 0, .int 0, .int 0, .int 0])) := rfl
theorem sh_33 : SH[33]? = some (.inr (3, [.ref 1, .int 0, .int 0, .int 0, .int 0, .int 0])) := rfl
theorem sh_34 : SH[34]? = some (.inr (3, [.ref 1, .int 0, .int 0, .int 0, .int 0, .int 0])) := rfl
theorem sh_35 : SH[35]? = some (.inr (3, [.ref 1, .int 0, .int 0, .int 0, .int 0, .int 0])) := rfl
theorem sh_36 : SH[36]? = some (.inr (4, [.ref 1, .int 0, .int 0, .int 0, .int 0])) := rfl
theorem sh_37 : SH[37]? = some (.inl (3, 7, .inr (.inr (.inr (.inr (fun j => if j < 7 then some (37 + 1 + j) else none)))))) := rfl
theorem sh_38 : SH[38]? = some (.inl (0, 255, .inl (fun _ => 0))) := rfl
theorem sh_39 : SH[39]? = some (.inl (0, 255, .inl (fun _ => 0))) := rfl
theorem sh_40 : SH[40]? = some (.inl (0, 255, .inl (fun _ => 0))) := rfl
theorem sh_41 : SH[41]? = some (.inl (0, 255, .inl (fun _ => 0))) := rfl
theorem sh_42 : SH[42]? = some (.inl (0, 255, .inl (fun _ => 0))) := rfl
theorem sh_43 : SH[43]? = some (.inl (0, 255, .inl (fun _ => 0))) := rfl
theorem sh_44 : SH[44]? = some (.inl (0, 255, .inl (fun _ => 0))) := rfl
theorem sh_45 : SH[45]? = some (.inr (6, [.ref 1, .ref 3, .ref 46, .ref 48, .ref 49, .ref 50, .int 0, .int 0])) := rfl
theorem sh_46 : SH[46]? = some (.inr (1, [.ref 47, .int 0])) := rfl
theorem sh_47 : SH[47]? = some (.inl (0, 1000, .inl (fun _ => 0))) := rfl
theorem sh_48 : SH[48]? = some (.inl (1, 20, .inl (fun _ => 0))) := rfl
theorem sh_49 : SH[49]? = some (.inl (0, 20, .inl (fun _ => 0))) := rfl
theorem sh_50 : SH[50]? = some (.inl (0, 20, .inl (fun _ => 0))) := rfl
theorem sh_51 : SH[51]? = some (.inr (7, [.ref 52, .int 0, .int 0, .ref 53, .ref 54, .ref 55, .ref 56, .ref 57, .ref 58, .ref 59, .ref 60, .int 0, .int 0, .ref 61, .ref 62, .ref 63, .ref 64, .ref 65, .ref 66, .ref 67, .int 0])) := rfl
theorem sh_52 : SH[52]? = some (.inl (0, 1000, .inl (fun _ => 0))) := rfl
theorem sh_53 : SH[53]? = some (.inl (0, 20, .inl (fun _ => 0))) := rfl
theorem sh_54 : SH[54]? = some (.inl (0, 20, .inl (fun _ => 0))) := rfl
theorem sh_55 : SH[55]? = some (.inl (0, 20, .inl (fun _ => 0))) := rfl
theorem sh_56 : SH[56]? = some (.inl (0, 20, .inl (fun _ => 0))) := rfl
theorem sh_57 : SH[57]? = some (.inl (0, 20, .inl (fun _ => 0))) := rfl
theorem sh_58 : SH[58]? = some (.inl (0, 20, .inl (fun _ => 0))) := rfl
theorem sh_59 : SH[59]? = some (.inl (0, 3, .inl (fun _ => 0))) := rfl
theorem sh_60 : SH[60]? = some (.inl (0, 3, .inl (fun _ => 0))) := rfl
theorem sh_61 : SH[61]? = some (.inl (0, 2, .inl (fun _ => 0))) := rfl
theorem sh_62 : SH[62]? = some (.inl (0, 16, .inl (fun _ => 0))) := rfl
theorem sh_63 : SH[63]? = some (.inl (0, 512, .inl (fun _ => 0))) := rfl
theorem sh_64 : SH[64]? = some (.inl (0, 20, .inl (fun _ => 0))) := rfl
theorem sh_65 : SH[65]? = some (.inl (0, 20, .inl (fun _ => 0))) := rfl
theorem sh_66 : SH[66]? = some (.inl (0, 20, .inl (fun _ => 0))) := rfl
theorem sh_67 : SH[67]? = some (.inl (0, 1000, .inl (fun _ => 0))) := rfl
