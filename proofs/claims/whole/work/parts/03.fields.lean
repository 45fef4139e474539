def fd_M : u_T := fun k => match k with
  | 0 => ("MovieBoxes", "file", "LMovieBoxes$Bytes;", true)
  | 1 => ("MovieBoxes", "layout", "LMovieBoxes$Layout;", true)
  | 2 => ("MovieBoxes", "trackRow", "[LMovieBoxes$Track;", true)
  | 3 => ("MovieBoxes", "mover", "LMovieBoxes$Mover;", true)
  | 4 => ("MovieBoxes", "trackCount", "I", false)
  | 5 => ("MovieBoxes", "fault", "I", false)
  | _ => ("MovieBoxes", "stale", "Z", false)
def ft_M : Nat → FieldType := fun k => match k with
  | 0 => .object "MovieBoxes$Bytes"
  | 1 => .object "MovieBoxes$Layout"
  | 2 => .array (.object "MovieBoxes$Track")
  | 3 => .object "MovieBoxes$Mover"
  | 4 => .int
  | 5 => .int
  | _ => .boolean
theorem fn_M : ∀ a, a < 7 → ∀ b, b < 7 → a ≠ b → (fd_M a).2.1 ≠ (fd_M b).2.1 := by decide +kernel
theorem fo_M : ∀ k, k < 7 → parseFieldDescriptor (fd_M k).2.2.1 = some (ft_M k) := by decide +kernel
theorem fi_M : ∀ w ∈ u_ws "MovieBoxes" fd_M 7, w ∈ WS := by
  intro w hw
  obtain ⟨k, hk, rfl⟩ := List.mem_map.mp hw
  have hk := List.mem_range.mp hk
  match k, hk with
  | 0, _ => exact ws_1 (List.mem_of_getElem? (i := 177) rfl) rfl
  | 1, _ => exact ws_1 (List.mem_of_getElem? (i := 179) rfl) rfl
  | 2, _ => exact ws_1 (List.mem_of_getElem? (i := 181) rfl) rfl
  | 3, _ => exact ws_1 (List.mem_of_getElem? (i := 183) rfl) rfl
  | 4, _ => exact ws_1 (List.mem_of_getElem? (i := 185) rfl) rfl
  | 5, _ => exact ws_1 (List.mem_of_getElem? (i := 187) rfl) rfl
  | 6, _ => exact ws_1 (List.mem_of_getElem? (i := 189) rfl) rfl
def fd_B : u_T := fun k => match k with
  | 0 => ("MovieBoxes$Bytes", "cells", "[I", true)
  | _ => ("MovieBoxes$Bytes", "count", "I", false)
def ft_B : Nat → FieldType := fun k => match k with
  | 0 => .array .int
  | _ => .int
theorem fn_B : ∀ a, a < 2 → ∀ b, b < 2 → a ≠ b → (fd_B a).2.1 ≠ (fd_B b).2.1 := by decide +kernel
theorem fo_B : ∀ k, k < 2 → parseFieldDescriptor (fd_B k).2.2.1 = some (ft_B k) := by decide +kernel
theorem fi_B : ∀ w ∈ u_ws "MovieBoxes$Bytes" fd_B 2, w ∈ WS := by
  intro w hw
  obtain ⟨k, hk, rfl⟩ := List.mem_map.mp hw
  have hk := List.mem_range.mp hk
  match k, hk with
  | 0, _ => exact ws_1 (List.mem_of_getElem? (i := 26) rfl) rfl
  | 1, _ => exact ws_1 (List.mem_of_getElem? (i := 28) rfl) rfl
def fd_L : u_T := fun k => match k with
  | 0 => ("MovieBoxes$Layout", "file", "LMovieBoxes$Bytes;", true)
  | 1 => ("MovieBoxes$Layout", "columns", "[[I", true)
  | _ => ("MovieBoxes$Layout", "count", "I", false)
def ft_L : Nat → FieldType := fun k => match k with
  | 0 => .object "MovieBoxes$Bytes"
  | 1 => .array (.array .int)
  | _ => .int
theorem fn_L : ∀ a, a < 3 → ∀ b, b < 3 → a ≠ b → (fd_L a).2.1 ≠ (fd_L b).2.1 := by decide +kernel
theorem fo_L : ∀ k, k < 3 → parseFieldDescriptor (fd_L k).2.2.1 = some (ft_L k) := by decide +kernel
theorem fi_L : ∀ w ∈ u_ws "MovieBoxes$Layout" fd_L 3, w ∈ WS := by
  intro w hw
  obtain ⟨k, hk, rfl⟩ := List.mem_map.mp hw
  have hk := List.mem_range.mp hk
  match k, hk with
  | 0, _ => exact ws_1 (List.mem_of_getElem? (i := 43) rfl) rfl
  | 1, _ => exact ws_1 (List.mem_of_getElem? (i := 45) rfl) rfl
  | 2, _ => exact ws_1 (List.mem_of_getElem? (i := 47) rfl) rfl
def fd_T : u_T := fun k => match k with
  | 0 => ("MovieBoxes$Table", "file", "LMovieBoxes$Bytes;", true)
  | 1 => ("MovieBoxes$Table", "present", "Z", false)
  | 2 => ("MovieBoxes$Table", "start", "I", false)
  | 3 => ("MovieBoxes$Table", "payload", "I", false)
  | 4 => ("MovieBoxes$Table", "width", "I", false)
  | _ => ("MovieBoxes$Table", "rows", "I", false)
def ft_T : Nat → FieldType := fun k => match k with
  | 0 => .object "MovieBoxes$Bytes"
  | 1 => .boolean
  | 2 => .int
  | 3 => .int
  | 4 => .int
  | _ => .int
theorem fn_T : ∀ a, a < 6 → ∀ b, b < 6 → a ≠ b → (fd_T a).2.1 ≠ (fd_T b).2.1 := by decide +kernel
theorem fo_T : ∀ k, k < 6 → parseFieldDescriptor (fd_T k).2.2.1 = some (ft_T k) := by decide +kernel
theorem fi_T : ∀ w ∈ u_ws "MovieBoxes$Table" fd_T 6, w ∈ WS := by
  intro w hw
  obtain ⟨k, hk, rfl⟩ := List.mem_map.mp hw
  have hk := List.mem_range.mp hk
  match k, hk with
  | 0, _ => exact ws_1 (List.mem_of_getElem? (i := 69) rfl) rfl
  | 1, _ => exact ws_1 (List.mem_of_getElem? (i := 71) rfl) rfl
  | 2, _ => exact ws_1 (List.mem_of_getElem? (i := 73) rfl) rfl
  | 3, _ => exact ws_1 (List.mem_of_getElem? (i := 75) rfl) rfl
  | 4, _ => exact ws_1 (List.mem_of_getElem? (i := 77) rfl) rfl
  | 5, _ => exact ws_1 (List.mem_of_getElem? (i := 79) rfl) rfl
def fd_Z : u_T := fun k => match k with
  | 0 => ("MovieBoxes$SizeTable", "file", "LMovieBoxes$Bytes;", true)
  | 1 => ("MovieBoxes$SizeTable", "start", "I", false)
  | 2 => ("MovieBoxes$SizeTable", "payload", "I", false)
  | 3 => ("MovieBoxes$SizeTable", "fixed", "I", false)
  | _ => ("MovieBoxes$SizeTable", "count", "I", false)
def ft_Z : Nat → FieldType := fun k => match k with
  | 0 => .object "MovieBoxes$Bytes"
  | 1 => .int
  | 2 => .int
  | 3 => .int
  | _ => .int
theorem fn_Z : ∀ a, a < 5 → ∀ b, b < 5 → a ≠ b → (fd_Z a).2.1 ≠ (fd_Z b).2.1 := by decide +kernel
theorem fo_Z : ∀ k, k < 5 → parseFieldDescriptor (fd_Z k).2.2.1 = some (ft_Z k) := by decide +kernel
theorem fi_Z : ∀ w ∈ u_ws "MovieBoxes$SizeTable" fd_Z 5, w ∈ WS := by
  intro w hw
  obtain ⟨k, hk, rfl⟩ := List.mem_map.mp hw
  have hk := List.mem_range.mp hk
  match k, hk with
  | 0, _ => exact ws_1 (List.mem_of_getElem? (i := 93) rfl) rfl
  | 1, _ => exact ws_1 (List.mem_of_getElem? (i := 95) rfl) rfl
  | 2, _ => exact ws_1 (List.mem_of_getElem? (i := 97) rfl) rfl
  | 3, _ => exact ws_1 (List.mem_of_getElem? (i := 99) rfl) rfl
  | 4, _ => exact ws_1 (List.mem_of_getElem? (i := 101) rfl) rfl
def fd_K : u_T := fun k => match k with
  | 0 => ("MovieBoxes$Track", "layout", "LMovieBoxes$Layout;", true)
  | 1 => ("MovieBoxes$Track", "durations", "LMovieBoxes$Table;", true)
  | 2 => ("MovieBoxes$Track", "shifts", "LMovieBoxes$Table;", true)
  | 3 => ("MovieBoxes$Track", "chunks", "LMovieBoxes$Table;", true)
  | 4 => ("MovieBoxes$Track", "places", "LMovieBoxes$Table;", true)
  | 5 => ("MovieBoxes$Track", "syncs", "LMovieBoxes$Table;", true)
  | 6 => ("MovieBoxes$Track", "edits", "LMovieBoxes$Table;", true)
  | 7 => ("MovieBoxes$Track", "sizes", "LMovieBoxes$SizeTable;", true)
  | 8 => ("MovieBoxes$Track", "columns", "[[I", true)
  | _ => ("MovieBoxes$Track", "count", "I", false)
def ft_K : Nat → FieldType := fun k => match k with
  | 0 => .object "MovieBoxes$Layout"
  | 1 => .object "MovieBoxes$Table"
  | 2 => .object "MovieBoxes$Table"
  | 3 => .object "MovieBoxes$Table"
  | 4 => .object "MovieBoxes$Table"
  | 5 => .object "MovieBoxes$Table"
  | 6 => .object "MovieBoxes$Table"
  | 7 => .object "MovieBoxes$SizeTable"
  | 8 => .array (.array .int)
  | _ => .int
theorem fn_K : ∀ a, a < 10 → ∀ b, b < 10 → a ≠ b → (fd_K a).2.1 ≠ (fd_K b).2.1 := by decide +kernel
theorem fo_K : ∀ k, k < 10 → parseFieldDescriptor (fd_K k).2.2.1 = some (ft_K k) := by decide +kernel
theorem fi_K : ∀ w ∈ u_ws "MovieBoxes$Track" fd_K 10, w ∈ WS := by
  intro w hw
  obtain ⟨k, hk, rfl⟩ := List.mem_map.mp hw
  have hk := List.mem_range.mp hk
  match k, hk with
  | 0, _ => exact ws_1 (List.mem_of_getElem? (i := 115) rfl) rfl
  | 1, _ => exact ws_1 (List.mem_of_getElem? (i := 117) rfl) rfl
  | 2, _ => exact ws_1 (List.mem_of_getElem? (i := 119) rfl) rfl
  | 3, _ => exact ws_1 (List.mem_of_getElem? (i := 121) rfl) rfl
  | 4, _ => exact ws_1 (List.mem_of_getElem? (i := 123) rfl) rfl
  | 5, _ => exact ws_1 (List.mem_of_getElem? (i := 125) rfl) rfl
  | 6, _ => exact ws_1 (List.mem_of_getElem? (i := 127) rfl) rfl
  | 7, _ => exact ws_1 (List.mem_of_getElem? (i := 129) rfl) rfl
  | 8, _ => exact ws_1 (List.mem_of_getElem? (i := 131) rfl) rfl
  | 9, _ => exact ws_1 (List.mem_of_getElem? (i := 133) rfl) rfl
def fd_V : u_T := fun k => match k with
  | 0 => ("MovieBoxes$Mover", "file", "LMovieBoxes$Bytes;", true)
  | 1 => ("MovieBoxes$Mover", "layout", "LMovieBoxes$Layout;", true)
  | 2 => ("MovieBoxes$Mover", "outcome", "LMovieBoxes$Bytes;", true)
  | 3 => ("MovieBoxes$Mover", "widened", "[Z", true)
  | 4 => ("MovieBoxes$Mover", "payloads", "[I", true)
  | 5 => ("MovieBoxes$Mover", "headers", "[I", true)
  | 6 => ("MovieBoxes$Mover", "movie", "I", false)
  | _ => ("MovieBoxes$Mover", "movieEnd", "I", false)
def ft_V : Nat → FieldType := fun k => match k with
  | 0 => .object "MovieBoxes$Bytes"
  | 1 => .object "MovieBoxes$Layout"
  | 2 => .object "MovieBoxes$Bytes"
  | 3 => .array .boolean
  | 4 => .array .int
  | 5 => .array .int
  | 6 => .int
  | _ => .int
theorem fn_V : ∀ a, a < 8 → ∀ b, b < 8 → a ≠ b → (fd_V a).2.1 ≠ (fd_V b).2.1 := by decide +kernel
theorem fo_V : ∀ k, k < 8 → parseFieldDescriptor (fd_V k).2.2.1 = some (ft_V k) := by decide +kernel
theorem fi_V : ∀ w ∈ u_ws "MovieBoxes$Mover" fd_V 8, w ∈ WS := by
  intro w hw
  obtain ⟨k, hk, rfl⟩ := List.mem_map.mp hw
  have hk := List.mem_range.mp hk
  match k, hk with
  | 0, _ => exact ws_1 (List.mem_of_getElem? (i := 152) rfl) rfl
  | 1, _ => exact ws_1 (List.mem_of_getElem? (i := 154) rfl) rfl
  | 2, _ => exact ws_1 (List.mem_of_getElem? (i := 156) rfl) rfl
  | 3, _ => exact ws_1 (List.mem_of_getElem? (i := 158) rfl) rfl
  | 4, _ => exact ws_1 (List.mem_of_getElem? (i := 160) rfl) rfl
  | 5, _ => exact ws_1 (List.mem_of_getElem? (i := 162) rfl) rfl
  | 6, _ => exact ws_1 (List.mem_of_getElem? (i := 164) rfl) rfl
  | 7, _ => exact ws_1 (List.mem_of_getElem? (i := 166) rfl) rfl
def fd_R : u_T := fun k => match k with
  | 0 => ("MovieBoxesModel", "file", "[I", true)
  | 1 => ("MovieBoxesModel", "size", "I", false)
  | 2 => ("MovieBoxesModel", "count", "I", false)
  | 3 => ("MovieBoxesModel", "at", "[I", true)
  | 4 => ("MovieBoxesModel", "len", "[I", true)
  | 5 => ("MovieBoxesModel", "type", "[I", true)
  | 6 => ("MovieBoxesModel", "head", "[I", true)
  | 7 => ("MovieBoxesModel", "level", "[I", true)
  | 8 => ("MovieBoxesModel", "holder", "[I", true)
  | 9 => ("MovieBoxesModel", "end", "[I", true)
  | 10 => ("MovieBoxesModel", "open", "[I", true)
  | 11 => ("MovieBoxesModel", "movie", "I", false)
  | 12 => ("MovieBoxesModel", "trackCount", "I", false)
  | 13 => ("MovieBoxesModel", "trackBox", "[I", true)
  | 14 => ("MovieBoxesModel", "table", "[I", true)
  | 15 => ("MovieBoxesModel", "home", "[I", true)
  | 16 => ("MovieBoxesModel", "newHead", "[I", true)
  | 17 => ("MovieBoxesModel", "newLen", "[I", true)
  | 18 => ("MovieBoxesModel", "inner", "[I", true)
  | 19 => ("MovieBoxesModel", "out", "[I", true)
  | _ => ("MovieBoxesModel", "outSize", "I", false)
def ft_R : Nat → FieldType := fun k => match k with
  | 0 => .array .int
  | 1 => .int
  | 2 => .int
  | 3 => .array .int
  | 4 => .array .int
  | 5 => .array .int
  | 6 => .array .int
  | 7 => .array .int
  | 8 => .array .int
  | 9 => .array .int
  | 10 => .array .int
  | 11 => .int
  | 12 => .int
  | 13 => .array .int
  | 14 => .array .int
  | 15 => .array .int
  | 16 => .array .int
  | 17 => .array .int
  | 18 => .array .int
  | 19 => .array .int
  | _ => .int
theorem fn_R : ∀ a, a < 21 → ∀ b, b < 21 → a ≠ b → (fd_R a).2.1 ≠ (fd_R b).2.1 := by decide +kernel
theorem fo_R : ∀ k, k < 21 → parseFieldDescriptor (fd_R k).2.2.1 = some (ft_R k) := by decide +kernel
theorem fi_R : ∀ w ∈ u_ws "MovieBoxesModel" fd_R 21, w ∈ WS := by
  intro w hw
  obtain ⟨k, hk, rfl⟩ := List.mem_map.mp hw
  have hk := List.mem_range.mp hk
  match k, hk with
  | 0, _ => exact ws_3 (List.mem_of_getElem? (i := 134) rfl) rfl
  | 1, _ => exact ws_3 (List.mem_of_getElem? (i := 136) rfl) rfl
  | 2, _ => exact ws_3 (List.mem_of_getElem? (i := 138) rfl) rfl
  | 3, _ => exact ws_3 (List.mem_of_getElem? (i := 140) rfl) rfl
  | 4, _ => exact ws_3 (List.mem_of_getElem? (i := 142) rfl) rfl
  | 5, _ => exact ws_3 (List.mem_of_getElem? (i := 144) rfl) rfl
  | 6, _ => exact ws_3 (List.mem_of_getElem? (i := 146) rfl) rfl
  | 7, _ => exact ws_3 (List.mem_of_getElem? (i := 148) rfl) rfl
  | 8, _ => exact ws_3 (List.mem_of_getElem? (i := 150) rfl) rfl
  | 9, _ => exact ws_3 (List.mem_of_getElem? (i := 152) rfl) rfl
  | 10, _ => exact ws_3 (List.mem_of_getElem? (i := 154) rfl) rfl
  | 11, _ => exact ws_3 (List.mem_of_getElem? (i := 156) rfl) rfl
  | 12, _ => exact ws_3 (List.mem_of_getElem? (i := 158) rfl) rfl
  | 13, _ => exact ws_3 (List.mem_of_getElem? (i := 160) rfl) rfl
  | 14, _ => exact ws_3 (List.mem_of_getElem? (i := 162) rfl) rfl
  | 15, _ => exact ws_3 (List.mem_of_getElem? (i := 164) rfl) rfl
  | 16, _ => exact ws_3 (List.mem_of_getElem? (i := 166) rfl) rfl
  | 17, _ => exact ws_3 (List.mem_of_getElem? (i := 168) rfl) rfl
  | 18, _ => exact ws_3 (List.mem_of_getElem? (i := 170) rfl) rfl
  | 19, _ => exact ws_3 (List.mem_of_getElem? (i := 172) rfl) rfl
  | 20, _ => exact ws_3 (List.mem_of_getElem? (i := 174) rfl) rfl
  | k + 21, h => exact absurd h (by omega)
abbrev classes : List vw_C := [("MovieBoxes", fd_M, 7), ("MovieBoxes$Bytes", fd_B, 2), ("MovieBoxes$Layout", fd_L, 3), ("MovieBoxes$Table", fd_T, 6), ("MovieBoxes$SizeTable", fd_Z, 5), ("MovieBoxes$Track", fd_K, 10), ("MovieBoxes$Mover", fd_V, 8), ("MovieBoxesModel", fd_R, 21)]
