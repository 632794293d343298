/-! the classes, their fields, the shapes of the two universes (by program: wip/whole/names.py) -/
def R_Club : String := "WhichClub"
def T_Club : u_T := fun k => match k with
  | 0 => ("WhichClub", "hole", "LWhichClub$Hole;", true)
  | 1 => ("WhichClub", "text", "LWhichClub$Law;", true)
  | 2 => ("WhichClub", "reckoning", "LWhichClub$Reckoning;", true)
  | 3 => ("WhichClub", "rounds", "LWhichClub$Rounds;", true)
  | 4 => ("WhichClub", "draws", "LWhichClub$Draws;", true)
  | 5 => ("WhichClub", "deed", "LWhichClub$Deed;", true)
  | 6 => ("WhichClub", "changes", "LWhichClub$Changes;", true)
  | 7 => ("WhichClub", "words", "LWhichClub$Words;", true)
  | _ => ("WhichClub", "shelves", "[LWhichClub$Shelf;", true)
def ty_Club : Nat → FieldType := fun k => match k with
  | 0 => .object "WhichClub$Hole"
  | 1 => .object "WhichClub$Law"
  | 2 => .object "WhichClub$Reckoning"
  | 3 => .object "WhichClub$Rounds"
  | 4 => .object "WhichClub$Draws"
  | 5 => .object "WhichClub$Deed"
  | 6 => .object "WhichClub$Changes"
  | 7 => .object "WhichClub$Words"
  | _ => .array (.object "WhichClub$Shelf")
def R_Hole : String := "WhichClub$Hole"
def T_Hole : u_T := fun k => match k with
  | 0 => ("WhichClub$Hole", "ground", "[I", true)
  | 1 => ("WhichClub$Hole", "carries", "[I", true)
  | 2 => ("WhichClub$Hole", "spreads", "[I", true)
  | 3 => ("WhichClub$Hole", "believeds", "[I", true)
  | 4 => ("WhichClub$Hole", "size", "I", false)
  | 5 => ("WhichClub$Hole", "pin", "I", false)
  | 6 => ("WhichClub$Hole", "wind", "I", false)
  | 7 => ("WhichClub$Hole", "touch", "I", false)
  | 8 => ("WhichClub$Hole", "bold", "I", false)
  | _ => ("WhichClub$Hole", "risk", "I", false)
def ty_Hole : Nat → FieldType := fun k => match k with
  | 0 => .array .int
  | 1 => .array .int
  | 2 => .array .int
  | 3 => .array .int
  | 4 => .int
  | 5 => .int
  | 6 => .int
  | 7 => .int
  | 8 => .int
  | _ => .int
def R_Law : String := "WhichClub$Law"
def T_Law : u_T := fun k => match k with
  | 0 => ("WhichClub$Law", "tape", "[I", true)
  | 1 => ("WhichClub$Law", "draft", "[I", true)
  | 2 => ("WhichClub$Law", "steps", "[I", true)
  | 3 => ("WhichClub$Law", "stack", "[I", true)
  | 4 => ("WhichClub$Law", "named", "[I", true)
  | 5 => ("WhichClub$Law", "fed", "I", false)
  | 6 => ("WhichClub$Law", "at", "I", false)
  | 7 => ("WhichClub$Law", "drafted", "I", false)
  | _ => ("WhichClub$Law", "size", "I", false)
def ty_Law : Nat → FieldType := fun k => match k with
  | 0 => .array .int
  | 1 => .array .int
  | 2 => .array .int
  | 3 => .array .int
  | 4 => .array .int
  | 5 => .int
  | 6 => .int
  | 7 => .int
  | _ => .int
def R_Reck : String := "WhichClub$Reckoning"
def T_Reck : u_T := fun k => match k with
  | 0 => ("WhichClub$Reckoning", "hole", "LWhichClub$Hole;", true)
  | 1 => ("WhichClub$Reckoning", "text", "LWhichClub$Law;", true)
  | 2 => ("WhichClub$Reckoning", "bestMeans", "[J", true)
  | 3 => ("WhichClub$Reckoning", "lawfulMeans", "[J", true)
  | 4 => ("WhichClub$Reckoning", "bestClubs", "[I", true)
  | 5 => ("WhichClub$Reckoning", "lawfulClubs", "[I", true)
  | 6 => ("WhichClub$Reckoning", "hasBestMeans", "Z", false)
  | 7 => ("WhichClub$Reckoning", "hasLawfulMeans", "Z", false)
  | 8 => ("WhichClub$Reckoning", "lawfulFound", "Z", false)
  | 9 => ("WhichClub$Reckoning", "practiceFound", "Z", false)
  | 10 => ("WhichClub$Reckoning", "costFound", "Z", false)
  | 11 => ("WhichClub$Reckoning", "undeceived", "Z", false)
  | 12 => ("WhichClub$Reckoning", "practiceWhich", "I", false)
  | 13 => ("WhichClub$Reckoning", "practiceGain", "J", false)
  | _ => ("WhichClub$Reckoning", "cost", "J", false)
def ty_Reck : Nat → FieldType := fun k => match k with
  | 0 => .object "WhichClub$Hole"
  | 1 => .object "WhichClub$Law"
  | 2 => .array .long
  | 3 => .array .long
  | 4 => .array .int
  | 5 => .array .int
  | 6 => .boolean
  | 7 => .boolean
  | 8 => .boolean
  | 9 => .boolean
  | 10 => .boolean
  | 11 => .boolean
  | 12 => .int
  | 13 => .long
  | _ => .long
def R_Rounds : String := "WhichClub$Rounds"
def T_Rounds : u_T := fun k => match k with
  | 0 => ("WhichClub$Rounds", "hole", "LWhichClub$Hole;", true)
  | _ => ("WhichClub$Rounds", "reckoning", "LWhichClub$Reckoning;", true)
def ty_Rounds : Nat → FieldType := fun k => match k with
  | 0 => .object "WhichClub$Hole"
  | _ => .object "WhichClub$Reckoning"
def R_Draws : String := "WhichClub$Draws"
def T_Draws : u_T := fun k => match k with
  | 0 => ("WhichClub$Draws", "hole", "LWhichClub$Hole;", true)
  | 1 => ("WhichClub$Draws", "reckoning", "LWhichClub$Reckoning;", true)
  | 2 => ("WhichClub$Draws", "z", "I", false)
  | 3 => ("WhichClub$Draws", "played", "I", false)
  | _ => ("WhichClub$Draws", "wet", "I", false)
def ty_Draws : Nat → FieldType := fun k => match k with
  | 0 => .object "WhichClub$Hole"
  | 1 => .object "WhichClub$Reckoning"
  | 2 => .int
  | 3 => .int
  | _ => .int
def R_Deed : String := "WhichClub$Deed"
def T_Deed : u_T := fun k => match k with
  | 0 => ("WhichClub$Deed", "hole", "LWhichClub$Hole;", true)
  | 1 => ("WhichClub$Deed", "draws", "LWhichClub$Draws;", true)
  | 2 => ("WhichClub$Deed", "now", "[I", true)
  | 3 => ("WhichClub$Deed", "kept", "[I", true)
  | _ => ("WhichClub$Deed", "imaged", "Z", false)
def ty_Deed : Nat → FieldType := fun k => match k with
  | 0 => .object "WhichClub$Hole"
  | 1 => .object "WhichClub$Draws"
  | 2 => .array .int
  | 3 => .array .int
  | _ => .boolean
def R_Changes : String := "WhichClub$Changes"
def T_Changes : u_T := fun k => match k with
  | 0 => ("WhichClub$Changes", "numbers", "[I", true)
  | 1 => ("WhichClub$Changes", "whats", "[I", true)
  | 2 => ("WhichClub$Changes", "were", "[I", true)
  | 3 => ("WhichClub$Changes", "became", "[I", true)
  | 4 => ("WhichClub$Changes", "done", "I", false)
  | _ => ("WhichClub$Changes", "undone", "I", false)
def ty_Changes : Nat → FieldType := fun k => match k with
  | 0 => .array .int
  | 1 => .array .int
  | 2 => .array .int
  | 3 => .array .int
  | 4 => .int
  | _ => .int
def R_Words : String := "WhichClub$Words"
def T_Words : u_T := fun k => match k with
  | 0 => ("WhichClub$Words", "kinds", "[I", true)
  | 1 => ("WhichClub$Words", "ran", "[I", true)
  | 2 => ("WhichClub$Words", "size", "I", false)
  | _ => ("WhichClub$Words", "runs", "I", false)
def ty_Words : Nat → FieldType := fun k => match k with
  | 0 => .array .int
  | 1 => .array .int
  | 2 => .int
  | _ => .int
def R_Shelf : String := "WhichClub$Shelf"
def T_Shelf : u_T := fun k => match k with
  | 0 => ("WhichClub$Shelf", "elements", "[J", true)
  | 1 => ("WhichClub$Shelf", "word", "I", false)
  | 2 => ("WhichClub$Shelf", "sort", "I", false)
  | _ => ("WhichClub$Shelf", "size", "I", false)
def ty_Shelf : Nat → FieldType := fun k => match k with
  | 0 => .array .long
  | 1 => .int
  | 2 => .int
  | _ => .int
def R_Model : String := "WhichClubModel"
def T_Model : u_T := fun k => match k with
  | 0 => ("WhichClubModel", "may", "[I", true)
  | 1 => ("WhichClubModel", "changeAt", "[I", true)
  | 2 => ("WhichClubModel", "changeWas", "[I", true)
  | 3 => ("WhichClubModel", "changeIs", "[I", true)
  | 4 => ("WhichClubModel", "keptMany", "I", false)
  | 5 => ("WhichClubModel", "done", "I", false)
  | 6 => ("WhichClubModel", "clubs", "I", false)
  | 7 => ("WhichClubModel", "tape", "[I", true)
  | 8 => ("WhichClubModel", "tapeMany", "I", false)
  | 9 => ("WhichClubModel", "text", "[I", true)
  | 10 => ("WhichClubModel", "textMany", "I", false)
  | 11 => ("WhichClubModel", "base", "I", false)
  | 12 => ("WhichClubModel", "at", "I", false)
  | 13 => ("WhichClubModel", "ends", "I", false)
  | 14 => ("WhichClubModel", "fault", "I", false)
  | 15 => ("WhichClubModel", "opened", "I", false)
  | 16 => ("WhichClubModel", "names", "[I", true)
  | 17 => ("WhichClubModel", "strokesBy", "[J", true)
  | 18 => ("WhichClubModel", "clubBy", "[I", true)
  | 19 => ("WhichClubModel", "lines", "[J", true)
  | 20 => ("WhichClubModel", "believedWas", "[I", true)
  | 21 => ("WhichClubModel", "z", "I", false)
  | 22 => ("WhichClubModel", "cellNow", "I", false)
  | 23 => ("WhichClubModel", "ledMany", "[I", true)
  | 24 => ("WhichClubModel", "isKept", "Z", false)
  | 25 => ("WhichClubModel", "image", "[I", true)
  | 26 => ("WhichClubModel", "bodies", "I", false)
  | 27 => ("WhichClubModel", "bodyKind", "[I", true)
  | 28 => ("WhichClubModel", "trace", "[I", true)
  | 29 => ("WhichClubModel", "ran", "I", false)
  | 30 => ("WhichClubModel", "ownKind", "I", false)
  | 31 => ("WhichClubModel", "ownNumber", "I", false)
  | 32 => ("WhichClubModel", "shelf", "[I", true)
  | 33 => ("WhichClubModel", "many", "[I", true)
  | 34 => ("WhichClubModel", "items", "[J", true)
  | _ => ("WhichClubModel", "carried", "[J", true)
def ty_Model : Nat → FieldType := fun k => match k with
  | 0 => .array .int
  | 1 => .array .int
  | 2 => .array .int
  | 3 => .array .int
  | 4 => .int
  | 5 => .int
  | 6 => .int
  | 7 => .array .int
  | 8 => .int
  | 9 => .array .int
  | 10 => .int
  | 11 => .int
  | 12 => .int
  | 13 => .int
  | 14 => .int
  | 15 => .int
  | 16 => .array .int
  | 17 => .array .long
  | 18 => .array .int
  | 19 => .array .long
  | 20 => .array .int
  | 21 => .int
  | 22 => .int
  | 23 => .array .int
  | 24 => .boolean
  | 25 => .array .int
  | 26 => .int
  | 27 => .array .int
  | 28 => .array .int
  | 29 => .int
  | 30 => .int
  | 31 => .int
  | 32 => .array .int
  | 33 => .array .int
  | 34 => .array .long
  | _ => .array .long
def am_cl : List vw_C := [(R_Club, T_Club, 9), (R_Hole, T_Hole, 10), (R_Law, T_Law, 9), (R_Reck, T_Reck, 15), (R_Rounds, T_Rounds, 2), (R_Draws, T_Draws, 5), (R_Deed, T_Deed, 5), (R_Changes, T_Changes, 6), (R_Words, T_Words, 4), (R_Shelf, T_Shelf, 4), (R_Model, T_Model, 36)]
def am_ty (ci : Nat) : Nat → FieldType := match ci with
  | 0 => ty_Club
  | 1 => ty_Hole
  | 2 => ty_Law
  | 3 => ty_Reck
  | 4 => ty_Rounds
  | 5 => ty_Draws
  | 6 => ty_Deed
  | 7 => ty_Changes
  | 8 => ty_Words
  | 9 => ty_Shelf
  | _ => ty_Model
abbrev am_S : Type := (Nat × List Value) ⊕ (Nat × Nat × List Nat)
def shX : List am_S := [
  .inl (0, [.ref 1, .ref 6, .ref 12, .ref 17, .ref 18, .ref 19, .ref 22, .ref 27, .ref 30]),
  .inl (1, [.ref 2, .ref 3, .ref 4, .ref 5, .int 0, .int 0, .int 0, .int 0, .int 0, .int 0]),
  .inr (0, 31, []),
  .inr (0, 6, []),
  .inr (0, 6, []),
  .inr (0, 6, []),
  .inl (2, [.ref 7, .ref 8, .ref 9, .ref 10, .ref 11, .int 0, .int 0, .int 0, .int 0]),
  .inr (0, 120, []),
  .inr (0, 130, []),
  .inr (0, 130, []),
  .inr (0, 130, []),
  .inr (0, 6, []),
  .inl (3, [.ref 1, .ref 6, .ref 13, .ref 14, .ref 15, .ref 16, .int 0, .int 0, .int 0, .int 0, .int 0, .int 0, .int 0, .long 0, .long 0]),
  .inr (1, 155, []),
  .inr (1, 155, []),
  .inr (0, 155, []),
  .inr (0, 31, []),
  .inl (4, [.ref 1, .ref 12]),
  .inl (5, [.ref 1, .ref 12, .int 0, .int 0, .int 0]),
  .inl (6, [.ref 1, .ref 18, .ref 20, .ref 21, .int 0]),
  .inr (0, 6, []),
  .inr (0, 6, []),
  .inl (7, [.ref 23, .ref 24, .ref 25, .ref 26, .int 0, .int 0]),
  .inr (0, 40, []),
  .inr (0, 40, []),
  .inr (0, 40, []),
  .inr (0, 40, []),
  .inl (8, [.ref 28, .ref 29, .int 0, .int 0]),
  .inr (0, 50, []),
  .inr (0, 24, []),
  .inr (2, 6, [31, 33, 35, 37, 39, 41]),
  .inl (9, [.ref 32, .int 0, .int 0, .int 0]),
  .inr (1, 60, []),
  .inl (9, [.ref 34, .int 0, .int 0, .int 0]),
  .inr (1, 60, []),
  .inl (9, [.ref 36, .int 0, .int 0, .int 0]),
  .inr (1, 60, []),
  .inl (9, [.ref 38, .int 0, .int 0, .int 0]),
  .inr (1, 60, []),
  .inl (9, [.ref 40, .int 0, .int 0, .int 0]),
  .inr (1, 60, []),
  .inl (9, [.ref 42, .int 0, .int 0, .int 0]),
  .inr (1, 60, [])]
def shM : List am_S := [
  .inl (10, [.ref 1, .ref 2, .ref 3, .ref 4, .int 0, .int 0, .int 0, .ref 5, .int 0, .ref 6, .int 0, .int 0, .int 0, .int 0, .int 0, .int 0, .ref 7, .ref 8, .ref 9, .ref 10, .ref 11, .int 0, .int 0, .ref 12, .int 0, .ref 13, .int 0, .ref 14, .ref 15, .int 0, .int 0, .int 0, .ref 16, .ref 17, .ref 18, .ref 19]),
  .inr (0, 54, []),
  .inr (0, 40, []),
  .inr (0, 40, []),
  .inr (0, 40, []),
  .inr (0, 120, []),
  .inr (0, 120, []),
  .inr (0, 6, []),
  .inr (1, 155, []),
  .inr (0, 155, []),
  .inr (1, 5, []),
  .inr (0, 6, []),
  .inr (0, 5, []),
  .inr (0, 6, []),
  .inr (0, 50, []),
  .inr (0, 24, []),
  .inr (0, 6, []),
  .inr (0, 6, []),
  .inr (1, 360, []),
  .inr (1, 60, [])]
def am_T : List Cond := lw_tbl.filter goodWord
theorem am_in {w : Cond} (i : Nat) (h : lw_tbl[i]? = some w) (g : goodWord w = true) : w ∈ am_T := List.mem_filter.mpr ⟨List.mem_of_getElem? h, g⟩
theorem lay_Club_0 : u_lay R_Club T_Club 0 ∈ am_T := am_in 371 (by decide +kernel) (by decide +kernel)
theorem lay_Club_1 : u_lay R_Club T_Club 1 ∈ am_T := am_in 373 (by decide +kernel) (by decide +kernel)
theorem lay_Club_2 : u_lay R_Club T_Club 2 ∈ am_T := am_in 375 (by decide +kernel) (by decide +kernel)
theorem lay_Club_3 : u_lay R_Club T_Club 3 ∈ am_T := am_in 377 (by decide +kernel) (by decide +kernel)
theorem lay_Club_4 : u_lay R_Club T_Club 4 ∈ am_T := am_in 379 (by decide +kernel) (by decide +kernel)
theorem lay_Club_5 : u_lay R_Club T_Club 5 ∈ am_T := am_in 381 (by decide +kernel) (by decide +kernel)
theorem lay_Club_6 : u_lay R_Club T_Club 6 ∈ am_T := am_in 383 (by decide +kernel) (by decide +kernel)
theorem lay_Club_7 : u_lay R_Club T_Club 7 ∈ am_T := am_in 385 (by decide +kernel) (by decide +kernel)
theorem lay_Club_8 : u_lay R_Club T_Club 8 ∈ am_T := am_in 387 (by decide +kernel) (by decide +kernel)
theorem ws_Club : ∀ w ∈ u_ws R_Club T_Club 9, w ∈ am_T := by
  intro w hw
  obtain ⟨k, hk, rfl⟩ := List.mem_map.mp hw
  have hk := List.mem_range.mp hk
  match k, hk with
  | 0, _ => exact lay_Club_0
  | 1, _ => exact lay_Club_1
  | 2, _ => exact lay_Club_2
  | 3, _ => exact lay_Club_3
  | 4, _ => exact lay_Club_4
  | 5, _ => exact lay_Club_5
  | 6, _ => exact lay_Club_6
  | 7, _ => exact lay_Club_7
  | 8, _ => exact lay_Club_8
  | k + 9, hk => omega
theorem nm_Club : ∀ a, a < 9 → ∀ b, b < 9 → a ≠ b → (T_Club a).2.1 ≠ (T_Club b).2.1 := by decide +kernel
theorem ty_Club_ok : ∀ k, k < 9 → parseFieldDescriptor (T_Club k).2.2.1 = some (ty_Club k) := by decide +kernel
theorem dc_Club : ∀ k, k < 9 → (T_Club k).1 = R_Club := by decide +kernel
theorem lay_Hole_0 : u_lay R_Hole T_Hole 0 ∈ am_T := am_in 132 (by decide +kernel) (by decide +kernel)
theorem lay_Hole_1 : u_lay R_Hole T_Hole 1 ∈ am_T := am_in 134 (by decide +kernel) (by decide +kernel)
theorem lay_Hole_2 : u_lay R_Hole T_Hole 2 ∈ am_T := am_in 136 (by decide +kernel) (by decide +kernel)
theorem lay_Hole_3 : u_lay R_Hole T_Hole 3 ∈ am_T := am_in 138 (by decide +kernel) (by decide +kernel)
theorem lay_Hole_4 : u_lay R_Hole T_Hole 4 ∈ am_T := am_in 140 (by decide +kernel) (by decide +kernel)
theorem lay_Hole_5 : u_lay R_Hole T_Hole 5 ∈ am_T := am_in 142 (by decide +kernel) (by decide +kernel)
theorem lay_Hole_6 : u_lay R_Hole T_Hole 6 ∈ am_T := am_in 144 (by decide +kernel) (by decide +kernel)
theorem lay_Hole_7 : u_lay R_Hole T_Hole 7 ∈ am_T := am_in 146 (by decide +kernel) (by decide +kernel)
theorem lay_Hole_8 : u_lay R_Hole T_Hole 8 ∈ am_T := am_in 148 (by decide +kernel) (by decide +kernel)
theorem lay_Hole_9 : u_lay R_Hole T_Hole 9 ∈ am_T := am_in 150 (by decide +kernel) (by decide +kernel)
theorem ws_Hole : ∀ w ∈ u_ws R_Hole T_Hole 10, w ∈ am_T := by
  intro w hw
  obtain ⟨k, hk, rfl⟩ := List.mem_map.mp hw
  have hk := List.mem_range.mp hk
  match k, hk with
  | 0, _ => exact lay_Hole_0
  | 1, _ => exact lay_Hole_1
  | 2, _ => exact lay_Hole_2
  | 3, _ => exact lay_Hole_3
  | 4, _ => exact lay_Hole_4
  | 5, _ => exact lay_Hole_5
  | 6, _ => exact lay_Hole_6
  | 7, _ => exact lay_Hole_7
  | 8, _ => exact lay_Hole_8
  | 9, _ => exact lay_Hole_9
  | k + 10, hk => omega
theorem nm_Hole : ∀ a, a < 10 → ∀ b, b < 10 → a ≠ b → (T_Hole a).2.1 ≠ (T_Hole b).2.1 := by decide +kernel
theorem ty_Hole_ok : ∀ k, k < 10 → parseFieldDescriptor (T_Hole k).2.2.1 = some (ty_Hole k) := by decide +kernel
theorem dc_Hole : ∀ k, k < 10 → (T_Hole k).1 = R_Hole := by decide +kernel
theorem lay_Law_0 : u_lay R_Law T_Law 0 ∈ am_T := am_in 169 (by decide +kernel) (by decide +kernel)
theorem lay_Law_1 : u_lay R_Law T_Law 1 ∈ am_T := am_in 171 (by decide +kernel) (by decide +kernel)
theorem lay_Law_2 : u_lay R_Law T_Law 2 ∈ am_T := am_in 173 (by decide +kernel) (by decide +kernel)
theorem lay_Law_3 : u_lay R_Law T_Law 3 ∈ am_T := am_in 175 (by decide +kernel) (by decide +kernel)
theorem lay_Law_4 : u_lay R_Law T_Law 4 ∈ am_T := am_in 177 (by decide +kernel) (by decide +kernel)
theorem lay_Law_5 : u_lay R_Law T_Law 5 ∈ am_T := am_in 179 (by decide +kernel) (by decide +kernel)
theorem lay_Law_6 : u_lay R_Law T_Law 6 ∈ am_T := am_in 181 (by decide +kernel) (by decide +kernel)
theorem lay_Law_7 : u_lay R_Law T_Law 7 ∈ am_T := am_in 183 (by decide +kernel) (by decide +kernel)
theorem lay_Law_8 : u_lay R_Law T_Law 8 ∈ am_T := am_in 185 (by decide +kernel) (by decide +kernel)
theorem ws_Law : ∀ w ∈ u_ws R_Law T_Law 9, w ∈ am_T := by
  intro w hw
  obtain ⟨k, hk, rfl⟩ := List.mem_map.mp hw
  have hk := List.mem_range.mp hk
  match k, hk with
  | 0, _ => exact lay_Law_0
  | 1, _ => exact lay_Law_1
  | 2, _ => exact lay_Law_2
  | 3, _ => exact lay_Law_3
  | 4, _ => exact lay_Law_4
  | 5, _ => exact lay_Law_5
  | 6, _ => exact lay_Law_6
  | 7, _ => exact lay_Law_7
  | 8, _ => exact lay_Law_8
  | k + 9, hk => omega
theorem nm_Law : ∀ a, a < 9 → ∀ b, b < 9 → a ≠ b → (T_Law a).2.1 ≠ (T_Law b).2.1 := by decide +kernel
theorem ty_Law_ok : ∀ k, k < 9 → parseFieldDescriptor (T_Law k).2.2.1 = some (ty_Law k) := by decide +kernel
theorem dc_Law : ∀ k, k < 9 → (T_Law k).1 = R_Law := by decide +kernel
theorem lay_Reck_0 : u_lay R_Reck T_Reck 0 ∈ am_T := am_in 209 (by decide +kernel) (by decide +kernel)
theorem lay_Reck_1 : u_lay R_Reck T_Reck 1 ∈ am_T := am_in 211 (by decide +kernel) (by decide +kernel)
theorem lay_Reck_2 : u_lay R_Reck T_Reck 2 ∈ am_T := am_in 213 (by decide +kernel) (by decide +kernel)
theorem lay_Reck_3 : u_lay R_Reck T_Reck 3 ∈ am_T := am_in 215 (by decide +kernel) (by decide +kernel)
theorem lay_Reck_4 : u_lay R_Reck T_Reck 4 ∈ am_T := am_in 217 (by decide +kernel) (by decide +kernel)
theorem lay_Reck_5 : u_lay R_Reck T_Reck 5 ∈ am_T := am_in 219 (by decide +kernel) (by decide +kernel)
theorem lay_Reck_6 : u_lay R_Reck T_Reck 6 ∈ am_T := am_in 221 (by decide +kernel) (by decide +kernel)
theorem lay_Reck_7 : u_lay R_Reck T_Reck 7 ∈ am_T := am_in 223 (by decide +kernel) (by decide +kernel)
theorem lay_Reck_8 : u_lay R_Reck T_Reck 8 ∈ am_T := am_in 225 (by decide +kernel) (by decide +kernel)
theorem lay_Reck_9 : u_lay R_Reck T_Reck 9 ∈ am_T := am_in 227 (by decide +kernel) (by decide +kernel)
theorem lay_Reck_10 : u_lay R_Reck T_Reck 10 ∈ am_T := am_in 229 (by decide +kernel) (by decide +kernel)
theorem lay_Reck_11 : u_lay R_Reck T_Reck 11 ∈ am_T := am_in 231 (by decide +kernel) (by decide +kernel)
theorem lay_Reck_12 : u_lay R_Reck T_Reck 12 ∈ am_T := am_in 233 (by decide +kernel) (by decide +kernel)
theorem lay_Reck_13 : u_lay R_Reck T_Reck 13 ∈ am_T := am_in 235 (by decide +kernel) (by decide +kernel)
theorem lay_Reck_14 : u_lay R_Reck T_Reck 14 ∈ am_T := am_in 237 (by decide +kernel) (by decide +kernel)
theorem ws_Reck : ∀ w ∈ u_ws R_Reck T_Reck 15, w ∈ am_T := by
  intro w hw
  obtain ⟨k, hk, rfl⟩ := List.mem_map.mp hw
  have hk := List.mem_range.mp hk
  match k, hk with
  | 0, _ => exact lay_Reck_0
  | 1, _ => exact lay_Reck_1
  | 2, _ => exact lay_Reck_2
  | 3, _ => exact lay_Reck_3
  | 4, _ => exact lay_Reck_4
  | 5, _ => exact lay_Reck_5
  | 6, _ => exact lay_Reck_6
  | 7, _ => exact lay_Reck_7
  | 8, _ => exact lay_Reck_8
  | 9, _ => exact lay_Reck_9
  | 10, _ => exact lay_Reck_10
  | 11, _ => exact lay_Reck_11
  | 12, _ => exact lay_Reck_12
  | 13, _ => exact lay_Reck_13
  | 14, _ => exact lay_Reck_14
  | k + 15, hk => omega
theorem nm_Reck : ∀ a, a < 15 → ∀ b, b < 15 → a ≠ b → (T_Reck a).2.1 ≠ (T_Reck b).2.1 := by decide +kernel
theorem ty_Reck_ok : ∀ k, k < 15 → parseFieldDescriptor (T_Reck k).2.2.1 = some (ty_Reck k) := by decide +kernel
theorem dc_Reck : ∀ k, k < 15 → (T_Reck k).1 = R_Reck := by decide +kernel
theorem lay_Rounds_0 : u_lay R_Rounds T_Rounds 0 ∈ am_T := am_in 249 (by decide +kernel) (by decide +kernel)
theorem lay_Rounds_1 : u_lay R_Rounds T_Rounds 1 ∈ am_T := am_in 251 (by decide +kernel) (by decide +kernel)
theorem ws_Rounds : ∀ w ∈ u_ws R_Rounds T_Rounds 2, w ∈ am_T := by
  intro w hw
  obtain ⟨k, hk, rfl⟩ := List.mem_map.mp hw
  have hk := List.mem_range.mp hk
  match k, hk with
  | 0, _ => exact lay_Rounds_0
  | 1, _ => exact lay_Rounds_1
  | k + 2, hk => omega
theorem nm_Rounds : ∀ a, a < 2 → ∀ b, b < 2 → a ≠ b → (T_Rounds a).2.1 ≠ (T_Rounds b).2.1 := by decide +kernel
theorem ty_Rounds_ok : ∀ k, k < 2 → parseFieldDescriptor (T_Rounds k).2.2.1 = some (ty_Rounds k) := by decide +kernel
theorem dc_Rounds : ∀ k, k < 2 → (T_Rounds k).1 = R_Rounds := by decide +kernel
theorem lay_Draws_0 : u_lay R_Draws T_Draws 0 ∈ am_T := am_in 265 (by decide +kernel) (by decide +kernel)
theorem lay_Draws_1 : u_lay R_Draws T_Draws 1 ∈ am_T := am_in 267 (by decide +kernel) (by decide +kernel)
theorem lay_Draws_2 : u_lay R_Draws T_Draws 2 ∈ am_T := am_in 269 (by decide +kernel) (by decide +kernel)
theorem lay_Draws_3 : u_lay R_Draws T_Draws 3 ∈ am_T := am_in 271 (by decide +kernel) (by decide +kernel)
theorem lay_Draws_4 : u_lay R_Draws T_Draws 4 ∈ am_T := am_in 273 (by decide +kernel) (by decide +kernel)
theorem ws_Draws : ∀ w ∈ u_ws R_Draws T_Draws 5, w ∈ am_T := by
  intro w hw
  obtain ⟨k, hk, rfl⟩ := List.mem_map.mp hw
  have hk := List.mem_range.mp hk
  match k, hk with
  | 0, _ => exact lay_Draws_0
  | 1, _ => exact lay_Draws_1
  | 2, _ => exact lay_Draws_2
  | 3, _ => exact lay_Draws_3
  | 4, _ => exact lay_Draws_4
  | k + 5, hk => omega
theorem nm_Draws : ∀ a, a < 5 → ∀ b, b < 5 → a ≠ b → (T_Draws a).2.1 ≠ (T_Draws b).2.1 := by decide +kernel
theorem ty_Draws_ok : ∀ k, k < 5 → parseFieldDescriptor (T_Draws k).2.2.1 = some (ty_Draws k) := by decide +kernel
theorem dc_Draws : ∀ k, k < 5 → (T_Draws k).1 = R_Draws := by decide +kernel
theorem lay_Deed_0 : u_lay R_Deed T_Deed 0 ∈ am_T := am_in 287 (by decide +kernel) (by decide +kernel)
theorem lay_Deed_1 : u_lay R_Deed T_Deed 1 ∈ am_T := am_in 289 (by decide +kernel) (by decide +kernel)
theorem lay_Deed_2 : u_lay R_Deed T_Deed 2 ∈ am_T := am_in 291 (by decide +kernel) (by decide +kernel)
theorem lay_Deed_3 : u_lay R_Deed T_Deed 3 ∈ am_T := am_in 293 (by decide +kernel) (by decide +kernel)
theorem lay_Deed_4 : u_lay R_Deed T_Deed 4 ∈ am_T := am_in 295 (by decide +kernel) (by decide +kernel)
theorem ws_Deed : ∀ w ∈ u_ws R_Deed T_Deed 5, w ∈ am_T := by
  intro w hw
  obtain ⟨k, hk, rfl⟩ := List.mem_map.mp hw
  have hk := List.mem_range.mp hk
  match k, hk with
  | 0, _ => exact lay_Deed_0
  | 1, _ => exact lay_Deed_1
  | 2, _ => exact lay_Deed_2
  | 3, _ => exact lay_Deed_3
  | 4, _ => exact lay_Deed_4
  | k + 5, hk => omega
theorem nm_Deed : ∀ a, a < 5 → ∀ b, b < 5 → a ≠ b → (T_Deed a).2.1 ≠ (T_Deed b).2.1 := by decide +kernel
theorem ty_Deed_ok : ∀ k, k < 5 → parseFieldDescriptor (T_Deed k).2.2.1 = some (ty_Deed k) := by decide +kernel
theorem dc_Deed : ∀ k, k < 5 → (T_Deed k).1 = R_Deed := by decide +kernel
theorem lay_Changes_0 : u_lay R_Changes T_Changes 0 ∈ am_T := am_in 310 (by decide +kernel) (by decide +kernel)
theorem lay_Changes_1 : u_lay R_Changes T_Changes 1 ∈ am_T := am_in 312 (by decide +kernel) (by decide +kernel)
theorem lay_Changes_2 : u_lay R_Changes T_Changes 2 ∈ am_T := am_in 314 (by decide +kernel) (by decide +kernel)
theorem lay_Changes_3 : u_lay R_Changes T_Changes 3 ∈ am_T := am_in 316 (by decide +kernel) (by decide +kernel)
theorem lay_Changes_4 : u_lay R_Changes T_Changes 4 ∈ am_T := am_in 318 (by decide +kernel) (by decide +kernel)
theorem lay_Changes_5 : u_lay R_Changes T_Changes 5 ∈ am_T := am_in 320 (by decide +kernel) (by decide +kernel)
theorem ws_Changes : ∀ w ∈ u_ws R_Changes T_Changes 6, w ∈ am_T := by
  intro w hw
  obtain ⟨k, hk, rfl⟩ := List.mem_map.mp hw
  have hk := List.mem_range.mp hk
  match k, hk with
  | 0, _ => exact lay_Changes_0
  | 1, _ => exact lay_Changes_1
  | 2, _ => exact lay_Changes_2
  | 3, _ => exact lay_Changes_3
  | 4, _ => exact lay_Changes_4
  | 5, _ => exact lay_Changes_5
  | k + 6, hk => omega
theorem nm_Changes : ∀ a, a < 6 → ∀ b, b < 6 → a ≠ b → (T_Changes a).2.1 ≠ (T_Changes b).2.1 := by decide +kernel
theorem ty_Changes_ok : ∀ k, k < 6 → parseFieldDescriptor (T_Changes k).2.2.1 = some (ty_Changes k) := by decide +kernel
theorem dc_Changes : ∀ k, k < 6 → (T_Changes k).1 = R_Changes := by decide +kernel
theorem lay_Words_0 : u_lay R_Words T_Words 0 ∈ am_T := am_in 333 (by decide +kernel) (by decide +kernel)
theorem lay_Words_1 : u_lay R_Words T_Words 1 ∈ am_T := am_in 335 (by decide +kernel) (by decide +kernel)
theorem lay_Words_2 : u_lay R_Words T_Words 2 ∈ am_T := am_in 337 (by decide +kernel) (by decide +kernel)
theorem lay_Words_3 : u_lay R_Words T_Words 3 ∈ am_T := am_in 339 (by decide +kernel) (by decide +kernel)
theorem ws_Words : ∀ w ∈ u_ws R_Words T_Words 4, w ∈ am_T := by
  intro w hw
  obtain ⟨k, hk, rfl⟩ := List.mem_map.mp hw
  have hk := List.mem_range.mp hk
  match k, hk with
  | 0, _ => exact lay_Words_0
  | 1, _ => exact lay_Words_1
  | 2, _ => exact lay_Words_2
  | 3, _ => exact lay_Words_3
  | k + 4, hk => omega
theorem nm_Words : ∀ a, a < 4 → ∀ b, b < 4 → a ≠ b → (T_Words a).2.1 ≠ (T_Words b).2.1 := by decide +kernel
theorem ty_Words_ok : ∀ k, k < 4 → parseFieldDescriptor (T_Words k).2.2.1 = some (ty_Words k) := by decide +kernel
theorem dc_Words : ∀ k, k < 4 → (T_Words k).1 = R_Words := by decide +kernel
theorem lay_Shelf_0 : u_lay R_Shelf T_Shelf 0 ∈ am_T := am_in 353 (by decide +kernel) (by decide +kernel)
theorem lay_Shelf_1 : u_lay R_Shelf T_Shelf 1 ∈ am_T := am_in 355 (by decide +kernel) (by decide +kernel)
theorem lay_Shelf_2 : u_lay R_Shelf T_Shelf 2 ∈ am_T := am_in 357 (by decide +kernel) (by decide +kernel)
theorem lay_Shelf_3 : u_lay R_Shelf T_Shelf 3 ∈ am_T := am_in 359 (by decide +kernel) (by decide +kernel)
theorem ws_Shelf : ∀ w ∈ u_ws R_Shelf T_Shelf 4, w ∈ am_T := by
  intro w hw
  obtain ⟨k, hk, rfl⟩ := List.mem_map.mp hw
  have hk := List.mem_range.mp hk
  match k, hk with
  | 0, _ => exact lay_Shelf_0
  | 1, _ => exact lay_Shelf_1
  | 2, _ => exact lay_Shelf_2
  | 3, _ => exact lay_Shelf_3
  | k + 4, hk => omega
theorem nm_Shelf : ∀ a, a < 4 → ∀ b, b < 4 → a ≠ b → (T_Shelf a).2.1 ≠ (T_Shelf b).2.1 := by decide +kernel
theorem ty_Shelf_ok : ∀ k, k < 4 → parseFieldDescriptor (T_Shelf k).2.2.1 = some (ty_Shelf k) := by decide +kernel
theorem dc_Shelf : ∀ k, k < 4 → (T_Shelf k).1 = R_Shelf := by decide +kernel
theorem lay_Model_0 : u_lay R_Model T_Model 0 ∈ am_T := am_in 1354 (by decide +kernel) (by decide +kernel)
theorem lay_Model_1 : u_lay R_Model T_Model 1 ∈ am_T := am_in 1356 (by decide +kernel) (by decide +kernel)
theorem lay_Model_2 : u_lay R_Model T_Model 2 ∈ am_T := am_in 1358 (by decide +kernel) (by decide +kernel)
theorem lay_Model_3 : u_lay R_Model T_Model 3 ∈ am_T := am_in 1360 (by decide +kernel) (by decide +kernel)
theorem lay_Model_4 : u_lay R_Model T_Model 4 ∈ am_T := am_in 1362 (by decide +kernel) (by decide +kernel)
theorem lay_Model_5 : u_lay R_Model T_Model 5 ∈ am_T := am_in 1364 (by decide +kernel) (by decide +kernel)
theorem lay_Model_6 : u_lay R_Model T_Model 6 ∈ am_T := am_in 1366 (by decide +kernel) (by decide +kernel)
theorem lay_Model_7 : u_lay R_Model T_Model 7 ∈ am_T := am_in 1368 (by decide +kernel) (by decide +kernel)
theorem lay_Model_8 : u_lay R_Model T_Model 8 ∈ am_T := am_in 1370 (by decide +kernel) (by decide +kernel)
theorem lay_Model_9 : u_lay R_Model T_Model 9 ∈ am_T := am_in 1372 (by decide +kernel) (by decide +kernel)
theorem lay_Model_10 : u_lay R_Model T_Model 10 ∈ am_T := am_in 1374 (by decide +kernel) (by decide +kernel)
theorem lay_Model_11 : u_lay R_Model T_Model 11 ∈ am_T := am_in 1376 (by decide +kernel) (by decide +kernel)
theorem lay_Model_12 : u_lay R_Model T_Model 12 ∈ am_T := am_in 1378 (by decide +kernel) (by decide +kernel)
theorem lay_Model_13 : u_lay R_Model T_Model 13 ∈ am_T := am_in 1380 (by decide +kernel) (by decide +kernel)
theorem lay_Model_14 : u_lay R_Model T_Model 14 ∈ am_T := am_in 1382 (by decide +kernel) (by decide +kernel)
theorem lay_Model_15 : u_lay R_Model T_Model 15 ∈ am_T := am_in 1384 (by decide +kernel) (by decide +kernel)
theorem lay_Model_16 : u_lay R_Model T_Model 16 ∈ am_T := am_in 1386 (by decide +kernel) (by decide +kernel)
theorem lay_Model_17 : u_lay R_Model T_Model 17 ∈ am_T := am_in 1388 (by decide +kernel) (by decide +kernel)
theorem lay_Model_18 : u_lay R_Model T_Model 18 ∈ am_T := am_in 1390 (by decide +kernel) (by decide +kernel)
theorem lay_Model_19 : u_lay R_Model T_Model 19 ∈ am_T := am_in 1392 (by decide +kernel) (by decide +kernel)
theorem lay_Model_20 : u_lay R_Model T_Model 20 ∈ am_T := am_in 1394 (by decide +kernel) (by decide +kernel)
theorem lay_Model_21 : u_lay R_Model T_Model 21 ∈ am_T := am_in 1396 (by decide +kernel) (by decide +kernel)
theorem lay_Model_22 : u_lay R_Model T_Model 22 ∈ am_T := am_in 1398 (by decide +kernel) (by decide +kernel)
theorem lay_Model_23 : u_lay R_Model T_Model 23 ∈ am_T := am_in 1400 (by decide +kernel) (by decide +kernel)
theorem lay_Model_24 : u_lay R_Model T_Model 24 ∈ am_T := am_in 1402 (by decide +kernel) (by decide +kernel)
theorem lay_Model_25 : u_lay R_Model T_Model 25 ∈ am_T := am_in 1404 (by decide +kernel) (by decide +kernel)
theorem lay_Model_26 : u_lay R_Model T_Model 26 ∈ am_T := am_in 1406 (by decide +kernel) (by decide +kernel)
theorem lay_Model_27 : u_lay R_Model T_Model 27 ∈ am_T := am_in 1408 (by decide +kernel) (by decide +kernel)
theorem lay_Model_28 : u_lay R_Model T_Model 28 ∈ am_T := am_in 1410 (by decide +kernel) (by decide +kernel)
theorem lay_Model_29 : u_lay R_Model T_Model 29 ∈ am_T := am_in 1412 (by decide +kernel) (by decide +kernel)
theorem lay_Model_30 : u_lay R_Model T_Model 30 ∈ am_T := am_in 1414 (by decide +kernel) (by decide +kernel)
theorem lay_Model_31 : u_lay R_Model T_Model 31 ∈ am_T := am_in 1416 (by decide +kernel) (by decide +kernel)
theorem lay_Model_32 : u_lay R_Model T_Model 32 ∈ am_T := am_in 1418 (by decide +kernel) (by decide +kernel)
theorem lay_Model_33 : u_lay R_Model T_Model 33 ∈ am_T := am_in 1420 (by decide +kernel) (by decide +kernel)
theorem lay_Model_34 : u_lay R_Model T_Model 34 ∈ am_T := am_in 1422 (by decide +kernel) (by decide +kernel)
theorem lay_Model_35 : u_lay R_Model T_Model 35 ∈ am_T := am_in 1424 (by decide +kernel) (by decide +kernel)
theorem ws_Model : ∀ w ∈ u_ws R_Model T_Model 36, w ∈ am_T := by
  intro w hw
  obtain ⟨k, hk, rfl⟩ := List.mem_map.mp hw
  have hk := List.mem_range.mp hk
  match k, hk with
  | 0, _ => exact lay_Model_0
  | 1, _ => exact lay_Model_1
  | 2, _ => exact lay_Model_2
  | 3, _ => exact lay_Model_3
  | 4, _ => exact lay_Model_4
  | 5, _ => exact lay_Model_5
  | 6, _ => exact lay_Model_6
  | 7, _ => exact lay_Model_7
  | 8, _ => exact lay_Model_8
  | 9, _ => exact lay_Model_9
  | 10, _ => exact lay_Model_10
  | 11, _ => exact lay_Model_11
  | 12, _ => exact lay_Model_12
  | 13, _ => exact lay_Model_13
  | 14, _ => exact lay_Model_14
  | 15, _ => exact lay_Model_15
  | 16, _ => exact lay_Model_16
  | 17, _ => exact lay_Model_17
  | 18, _ => exact lay_Model_18
  | 19, _ => exact lay_Model_19
  | 20, _ => exact lay_Model_20
  | 21, _ => exact lay_Model_21
  | 22, _ => exact lay_Model_22
  | 23, _ => exact lay_Model_23
  | 24, _ => exact lay_Model_24
  | 25, _ => exact lay_Model_25
  | 26, _ => exact lay_Model_26
  | 27, _ => exact lay_Model_27
  | 28, _ => exact lay_Model_28
  | 29, _ => exact lay_Model_29
  | 30, _ => exact lay_Model_30
  | 31, _ => exact lay_Model_31
  | 32, _ => exact lay_Model_32
  | 33, _ => exact lay_Model_33
  | 34, _ => exact lay_Model_34
  | 35, _ => exact lay_Model_35
  | k + 36, hk => omega
theorem nm_Model : ∀ a, a < 36 → ∀ b, b < 36 → a ≠ b → (T_Model a).2.1 ≠ (T_Model b).2.1 := by decide +kernel
theorem ty_Model_ok : ∀ k, k < 36 → parseFieldDescriptor (T_Model k).2.2.1 = some (ty_Model k) := by decide +kernel
theorem dc_Model : ∀ k, k < 36 → (T_Model k).1 = R_Model := by decide +kernel
theorem am_clok : ∀ (ci : Nat) (C : String) (T : u_T) (N : Nat), am_cl[ci]? = some (C, T, N) → (∀ w ∈ u_ws C T N, w ∈ am_T) ∧ (∀ a, a < N → ∀ b, b < N → a ≠ b → (T a).2.1 ≠ (T b).2.1) ∧ (∀ k, k < N → parseFieldDescriptor (T k).2.2.1 = some (am_ty ci k)) ∧ ∀ k, k < N → (T k).1 = C := by
  intro ci C T N h
  match ci, h with
  | 0, h =>
    obtain ⟨rfl, rfl, rfl⟩ : R_Club = C ∧ T_Club = T ∧ 9 = N := by simpa [am_cl] using h
    exact ⟨ws_Club, nm_Club, ty_Club_ok, dc_Club⟩
  | 1, h =>
    obtain ⟨rfl, rfl, rfl⟩ : R_Hole = C ∧ T_Hole = T ∧ 10 = N := by simpa [am_cl] using h
    exact ⟨ws_Hole, nm_Hole, ty_Hole_ok, dc_Hole⟩
  | 2, h =>
    obtain ⟨rfl, rfl, rfl⟩ : R_Law = C ∧ T_Law = T ∧ 9 = N := by simpa [am_cl] using h
    exact ⟨ws_Law, nm_Law, ty_Law_ok, dc_Law⟩
  | 3, h =>
    obtain ⟨rfl, rfl, rfl⟩ : R_Reck = C ∧ T_Reck = T ∧ 15 = N := by simpa [am_cl] using h
    exact ⟨ws_Reck, nm_Reck, ty_Reck_ok, dc_Reck⟩
  | 4, h =>
    obtain ⟨rfl, rfl, rfl⟩ : R_Rounds = C ∧ T_Rounds = T ∧ 2 = N := by simpa [am_cl] using h
    exact ⟨ws_Rounds, nm_Rounds, ty_Rounds_ok, dc_Rounds⟩
  | 5, h =>
    obtain ⟨rfl, rfl, rfl⟩ : R_Draws = C ∧ T_Draws = T ∧ 5 = N := by simpa [am_cl] using h
    exact ⟨ws_Draws, nm_Draws, ty_Draws_ok, dc_Draws⟩
  | 6, h =>
    obtain ⟨rfl, rfl, rfl⟩ : R_Deed = C ∧ T_Deed = T ∧ 5 = N := by simpa [am_cl] using h
    exact ⟨ws_Deed, nm_Deed, ty_Deed_ok, dc_Deed⟩
  | 7, h =>
    obtain ⟨rfl, rfl, rfl⟩ : R_Changes = C ∧ T_Changes = T ∧ 6 = N := by simpa [am_cl] using h
    exact ⟨ws_Changes, nm_Changes, ty_Changes_ok, dc_Changes⟩
  | 8, h =>
    obtain ⟨rfl, rfl, rfl⟩ : R_Words = C ∧ T_Words = T ∧ 4 = N := by simpa [am_cl] using h
    exact ⟨ws_Words, nm_Words, ty_Words_ok, dc_Words⟩
  | 9, h =>
    obtain ⟨rfl, rfl, rfl⟩ : R_Shelf = C ∧ T_Shelf = T ∧ 4 = N := by simpa [am_cl] using h
    exact ⟨ws_Shelf, nm_Shelf, ty_Shelf_ok, dc_Shelf⟩
  | 10, h =>
    obtain ⟨rfl, rfl, rfl⟩ : R_Model = C ∧ T_Model = T ∧ 36 = N := by simpa [am_cl] using h
    exact ⟨ws_Model, nm_Model, ty_Model_ok, dc_Model⟩
  | k + 11, h => simp [am_cl] at h
