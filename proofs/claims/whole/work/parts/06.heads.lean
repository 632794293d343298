theorem pl_Club : plainName "WhichClub" = true := by decide +kernel
theorem pl_Changes : plainName "WhichClub$Changes" = true := by decide +kernel
theorem pl_Deed : plainName "WhichClub$Deed" = true := by decide +kernel
theorem pl_Draws : plainName "WhichClub$Draws" = true := by decide +kernel
theorem pl_Hole : plainName "WhichClub$Hole" = true := by decide +kernel
theorem pl_Law : plainName "WhichClub$Law" = true := by decide +kernel
theorem pl_Reck : plainName "WhichClub$Reckoning" = true := by decide +kernel
theorem pl_Rounds : plainName "WhichClub$Rounds" = true := by decide +kernel
theorem pl_Shelf : plainName "WhichClub$Shelf" = true := by decide +kernel
theorem pl_Words : plainName "WhichClub$Words" = true := by decide +kernel
theorem pl_Model : plainName "WhichClubModel" = true := by decide +kernel
theorem pl_Str : plainName "java/lang/String" = true := by decide +kernel
theorem pl_Lat : plainName "java/lang/StringLatin1" = true := by decide +kernel
theorem pl_Arrays : plainName "java/util/Arrays" = true := by decide +kernel
abbrev y_Hole_addClub : MethodName := ⟨"WhichClub$Hole", "addClub", "(III)I"⟩
abbrev X_Hole_addClub (d : Nat) : am_X := (shX, "WhichClub$Hole", prog_5_method_13_code, 5, (some .int), d)
abbrev m_Hole_addClub (d : Nat) (vs : List Value) (h : am_H) (Q : am_Q) : Prop := am_M shX y_Hole_addClub prog_5_method_13_code 5 (some .int) d vs h Q
theorem p_Hole_addClub : y_Hole_addClub.cls ≠ "java/lang/invoke/MethodHandle" ∧ y_Hole_addClub.cls ≠ "java/lang/invoke/VarHandle" ∧ (parseMethodDescriptor y_Hole_addClub.desc).map (fun d => d.parameters.length) = some 3 := by decide +kernel
theorem e_Hole_addClub {d : Nat} {x1 : Int32} {x2 : Int32} {x3 : Int32} {h : am_H} {Q : am_Q} (k : am_W (X_Hole_addClub d) 0 [some (.ref 1), some (.int x1), some (.int x2), some (.int x3), none] [] h Q) : m_Hole_addClub d [.ref 1, .int x1, .int x2, .int x3] h Q := am_enter pl_Hole rfl (Nat.le_of_ble_eq_true rfl) k
abbrev y_Hole_isWithin : MethodName := ⟨"WhichClub$Hole", "isWithin", "(II)Z"⟩
abbrev X_Hole_isWithin (d : Nat) : am_X := (shX, "WhichClub$Hole", prog_5_method_4_code, 2, (some .boolean), d)
abbrev m_Hole_isWithin (d : Nat) (vs : List Value) (h : am_H) (Q : am_Q) : Prop := am_M shX y_Hole_isWithin prog_5_method_4_code 2 (some .boolean) d vs h Q
theorem p_Hole_isWithin : y_Hole_isWithin.cls ≠ "java/lang/invoke/MethodHandle" ∧ y_Hole_isWithin.cls ≠ "java/lang/invoke/VarHandle" ∧ (parseMethodDescriptor y_Hole_isWithin.desc).map (fun d => d.parameters.length) = some 2 := by decide +kernel
theorem e_Hole_isWithin {d : Nat} {x0 : Int32} {x1 : Int32} {h : am_H} {Q : am_Q} (k : am_W (X_Hole_isWithin d) 0 [some (.int x0), some (.int x1)] [] h Q) : m_Hole_isWithin d [.int x0, .int x1] h Q := am_enter pl_Hole rfl (Nat.le_of_ble_eq_true rfl) k
abbrev y_Hole_isClub : MethodName := ⟨"WhichClub$Hole", "isClub", "(III)Z"⟩
abbrev X_Hole_isClub (d : Nat) : am_X := (shX, "WhichClub$Hole", prog_5_method_3_code, 3, (some .boolean), d)
abbrev m_Hole_isClub (d : Nat) (vs : List Value) (h : am_H) (Q : am_Q) : Prop := am_M shX y_Hole_isClub prog_5_method_3_code 3 (some .boolean) d vs h Q
theorem p_Hole_isClub : y_Hole_isClub.cls ≠ "java/lang/invoke/MethodHandle" ∧ y_Hole_isClub.cls ≠ "java/lang/invoke/VarHandle" ∧ (parseMethodDescriptor y_Hole_isClub.desc).map (fun d => d.parameters.length) = some 3 := by decide +kernel
theorem e_Hole_isClub {d : Nat} {x0 : Int32} {x1 : Int32} {x2 : Int32} {h : am_H} {Q : am_Q} (k : am_W (X_Hole_isClub d) 0 [some (.int x0), some (.int x1), some (.int x2)] [] h Q) : m_Hole_isClub d [.int x0, .int x1, .int x2] h Q := am_enter pl_Hole rfl (Nat.le_of_ble_eq_true rfl) k
abbrev y_Hole_isFull : MethodName := ⟨"WhichClub$Hole", "isFull", "()Z"⟩
abbrev X_Hole_isFull (d : Nat) : am_X := (shX, "WhichClub$Hole", prog_5_method_11_code, 1, (some .boolean), d)
abbrev m_Hole_isFull (d : Nat) (vs : List Value) (h : am_H) (Q : am_Q) : Prop := am_M shX y_Hole_isFull prog_5_method_11_code 1 (some .boolean) d vs h Q
theorem p_Hole_isFull : y_Hole_isFull.cls ≠ "java/lang/invoke/MethodHandle" ∧ y_Hole_isFull.cls ≠ "java/lang/invoke/VarHandle" ∧ (parseMethodDescriptor y_Hole_isFull.desc).map (fun d => d.parameters.length) = some 0 := by decide +kernel
theorem e_Hole_isFull {d : Nat} {h : am_H} {Q : am_Q} (k : am_W (X_Hole_isFull d) 0 [some (.ref 1)] [] h Q) : m_Hole_isFull d [.ref 1] h Q := am_enter pl_Hole rfl (Nat.le_of_ble_eq_true rfl) k
abbrev y_Arrays_fill_AJJ : MethodName := ⟨"java/util/Arrays", "fill", "([JJ)V"⟩
abbrev X_Arrays_fill_AJJ (d : Nat) : am_X := (shX, "java/util/Arrays", prog_19_method_101_code, 5, none, d)
abbrev m_Arrays_fill_AJJ (d : Nat) (vs : List Value) (h : am_H) (Q : am_Q) : Prop := am_M shX y_Arrays_fill_AJJ prog_19_method_101_code 5 none d vs h Q
theorem p_Arrays_fill_AJJ : y_Arrays_fill_AJJ.cls ≠ "java/lang/invoke/MethodHandle" ∧ y_Arrays_fill_AJJ.cls ≠ "java/lang/invoke/VarHandle" ∧ (parseMethodDescriptor y_Arrays_fill_AJJ.desc).map (fun d => d.parameters.length) = some 2 := by decide +kernel
theorem e_Arrays_fill_AJJ {d : Nat} {a0 : Nat} {x1 : Int64} {h : am_H} {Q : am_Q} (k : am_W (X_Arrays_fill_AJJ d) 0 [some (.ref a0), some (.long x1), none, none, none] [] h Q) : m_Arrays_fill_AJJ d [.ref a0, .long x1] h Q := am_enter pl_Arrays rfl (Nat.le_of_ble_eq_true rfl) k
abbrev y_Reck_forgetBest : MethodName := ⟨"WhichClub$Reckoning", "forgetBest", "()V"⟩
abbrev X_Reck_forgetBest (d : Nat) : am_X := (shX, "WhichClub$Reckoning", prog_7_method_3_code, 1, none, d)
abbrev m_Reck_forgetBest (d : Nat) (vs : List Value) (h : am_H) (Q : am_Q) : Prop := am_M shX y_Reck_forgetBest prog_7_method_3_code 1 none d vs h Q
theorem p_Reck_forgetBest : y_Reck_forgetBest.cls ≠ "java/lang/invoke/MethodHandle" ∧ y_Reck_forgetBest.cls ≠ "java/lang/invoke/VarHandle" ∧ (parseMethodDescriptor y_Reck_forgetBest.desc).map (fun d => d.parameters.length) = some 0 := by decide +kernel
theorem e_Reck_forgetBest {d : Nat} {h : am_H} {Q : am_Q} (k : am_W (X_Reck_forgetBest d) 0 [some (.ref 12)] [] h Q) : m_Reck_forgetBest d [.ref 12] h Q := am_enter pl_Reck rfl (Nat.le_of_ble_eq_true rfl) k
abbrev y_Reck_forgetLawful : MethodName := ⟨"WhichClub$Reckoning", "forgetLawful", "()V"⟩
abbrev X_Reck_forgetLawful (d : Nat) : am_X := (shX, "WhichClub$Reckoning", prog_7_method_4_code, 1, none, d)
abbrev m_Reck_forgetLawful (d : Nat) (vs : List Value) (h : am_H) (Q : am_Q) : Prop := am_M shX y_Reck_forgetLawful prog_7_method_4_code 1 none d vs h Q
theorem p_Reck_forgetLawful : y_Reck_forgetLawful.cls ≠ "java/lang/invoke/MethodHandle" ∧ y_Reck_forgetLawful.cls ≠ "java/lang/invoke/VarHandle" ∧ (parseMethodDescriptor y_Reck_forgetLawful.desc).map (fun d => d.parameters.length) = some 0 := by decide +kernel
theorem e_Reck_forgetLawful {d : Nat} {h : am_H} {Q : am_Q} (k : am_W (X_Reck_forgetLawful d) 0 [some (.ref 12)] [] h Q) : m_Reck_forgetLawful d [.ref 12] h Q := am_enter pl_Reck rfl (Nat.le_of_ble_eq_true rfl) k
abbrev y_Reck_forget : MethodName := ⟨"WhichClub$Reckoning", "forget", "()V"⟩
abbrev X_Reck_forget (d : Nat) : am_X := (shX, "WhichClub$Reckoning", prog_7_method_2_code, 1, none, d)
abbrev m_Reck_forget (d : Nat) (vs : List Value) (h : am_H) (Q : am_Q) : Prop := am_M shX y_Reck_forget prog_7_method_2_code 1 none d vs h Q
theorem p_Reck_forget : y_Reck_forget.cls ≠ "java/lang/invoke/MethodHandle" ∧ y_Reck_forget.cls ≠ "java/lang/invoke/VarHandle" ∧ (parseMethodDescriptor y_Reck_forget.desc).map (fun d => d.parameters.length) = some 0 := by decide +kernel
theorem e_Reck_forget {d : Nat} {h : am_H} {Q : am_Q} (k : am_W (X_Reck_forget d) 0 [some (.ref 12)] [] h Q) : m_Reck_forget d [.ref 12] h Q := am_enter pl_Reck rfl (Nat.le_of_ble_eq_true rfl) k
abbrev y_Club_club : MethodName := ⟨"WhichClub", "club", "(I)I"⟩
abbrev X_Club_club (d : Nat) : am_X := (shX, "WhichClub", prog_1_method_2_code, 2, (some .int), d)
abbrev m_Club_club (d : Nat) (vs : List Value) (h : am_H) (Q : am_Q) : Prop := am_M shX y_Club_club prog_1_method_2_code 2 (some .int) d vs h Q
theorem p_Club_club : y_Club_club.cls ≠ "java/lang/invoke/MethodHandle" ∧ y_Club_club.cls ≠ "java/lang/invoke/VarHandle" ∧ (parseMethodDescriptor y_Club_club.desc).map (fun d => d.parameters.length) = some 1 := by decide +kernel
theorem e_Club_club {d : Nat} {x1 : Int32} {h : am_H} {Q : am_Q} (k : am_W (X_Club_club d) 0 [some (.ref 0), some (.int x1)] [] h Q) : m_Club_club d [.ref 0, .int x1] h Q := am_enter pl_Club rfl (Nat.le_of_ble_eq_true rfl) k
abbrev y_Club_isShelf : MethodName := ⟨"WhichClub", "isShelf", "(I)Z"⟩
abbrev X_Club_isShelf (d : Nat) : am_X := (shX, "WhichClub", prog_1_method_43_code, 1, (some .boolean), d)
abbrev m_Club_isShelf (d : Nat) (vs : List Value) (h : am_H) (Q : am_Q) : Prop := am_M shX y_Club_isShelf prog_1_method_43_code 1 (some .boolean) d vs h Q
theorem p_Club_isShelf : y_Club_isShelf.cls ≠ "java/lang/invoke/MethodHandle" ∧ y_Club_isShelf.cls ≠ "java/lang/invoke/VarHandle" ∧ (parseMethodDescriptor y_Club_isShelf.desc).map (fun d => d.parameters.length) = some 1 := by decide +kernel
theorem e_Club_isShelf {d : Nat} {x0 : Int32} {h : am_H} {Q : am_Q} (k : am_W (X_Club_isShelf d) 0 [some (.int x0)] [] h Q) : m_Club_isShelf d [.int x0] h Q := am_enter pl_Club rfl (Nat.le_of_ble_eq_true rfl) k
abbrev y_Shelf_hasPlaces : MethodName := ⟨"WhichClub$Shelf", "hasPlaces", "(II)Z"⟩
abbrev X_Shelf_hasPlaces (d : Nat) : am_X := (shX, "WhichClub$Shelf", prog_9_method_12_code, 3, (some .boolean), d)
abbrev m_Shelf_hasPlaces (d : Nat) (vs : List Value) (h : am_H) (Q : am_Q) : Prop := am_M shX y_Shelf_hasPlaces prog_9_method_12_code 3 (some .boolean) d vs h Q
theorem p_Shelf_hasPlaces : y_Shelf_hasPlaces.cls ≠ "java/lang/invoke/MethodHandle" ∧ y_Shelf_hasPlaces.cls ≠ "java/lang/invoke/VarHandle" ∧ (parseMethodDescriptor y_Shelf_hasPlaces.desc).map (fun d => d.parameters.length) = some 2 := by decide +kernel
theorem e_Shelf_hasPlaces {d : Nat} {a0 : Nat} {x1 : Int32} {x2 : Int32} {h : am_H} {Q : am_Q} (k : am_W (X_Shelf_hasPlaces d) 0 [some (.ref a0), some (.int x1), some (.int x2)] [] h Q) : m_Shelf_hasPlaces d [.ref a0, .int x1, .int x2] h Q := am_enter pl_Shelf rfl (Nat.le_of_ble_eq_true rfl) k
abbrev y_Shelf_read : MethodName := ⟨"WhichClub$Shelf", "read", "(I)J"⟩
abbrev X_Shelf_read (d : Nat) : am_X := (shX, "WhichClub$Shelf", prog_9_method_13_code, 2, (some .long), d)
abbrev m_Shelf_read (d : Nat) (vs : List Value) (h : am_H) (Q : am_Q) : Prop := am_M shX y_Shelf_read prog_9_method_13_code 2 (some .long) d vs h Q
theorem p_Shelf_read : y_Shelf_read.cls ≠ "java/lang/invoke/MethodHandle" ∧ y_Shelf_read.cls ≠ "java/lang/invoke/VarHandle" ∧ (parseMethodDescriptor y_Shelf_read.desc).map (fun d => d.parameters.length) = some 1 := by decide +kernel
theorem e_Shelf_read {d : Nat} {a0 : Nat} {x1 : Int32} {h : am_H} {Q : am_Q} (k : am_W (X_Shelf_read d) 0 [some (.ref a0), some (.int x1)] [] h Q) : m_Shelf_read d [.ref a0, .int x1] h Q := am_enter pl_Shelf rfl (Nat.le_of_ble_eq_true rfl) k
abbrev y_Hole_addClubs : MethodName := ⟨"WhichClub$Hole", "addClubs", "(LWhichClub$Shelf;II)I"⟩
abbrev X_Hole_addClubs (d : Nat) : am_X := (shX, "WhichClub$Hole", prog_5_method_14_code, 9, (some .int), d)
abbrev m_Hole_addClubs (d : Nat) (vs : List Value) (h : am_H) (Q : am_Q) : Prop := am_M shX y_Hole_addClubs prog_5_method_14_code 9 (some .int) d vs h Q
theorem p_Hole_addClubs : y_Hole_addClubs.cls ≠ "java/lang/invoke/MethodHandle" ∧ y_Hole_addClubs.cls ≠ "java/lang/invoke/VarHandle" ∧ (parseMethodDescriptor y_Hole_addClubs.desc).map (fun d => d.parameters.length) = some 3 := by decide +kernel
theorem e_Hole_addClubs {d : Nat} {a1 : Nat} {x2 : Int32} {x3 : Int32} {h : am_H} {Q : am_Q} (k : am_W (X_Hole_addClubs d) 0 [some (.ref 1), some (.ref a1), some (.int x2), some (.int x3), none, none, none, none, none] [] h Q) : m_Hole_addClubs d [.ref 1, .ref a1, .int x2, .int x3] h Q := am_enter pl_Hole rfl (Nat.le_of_ble_eq_true rfl) k
abbrev y_Shelf_isByteRow : MethodName := ⟨"WhichClub$Shelf", "isByteRow", "()Z"⟩
abbrev X_Shelf_isByteRow (d : Nat) : am_X := (shX, "WhichClub$Shelf", prog_9_method_8_code, 1, (some .boolean), d)
abbrev m_Shelf_isByteRow (d : Nat) (vs : List Value) (h : am_H) (Q : am_Q) : Prop := am_M shX y_Shelf_isByteRow prog_9_method_8_code 1 (some .boolean) d vs h Q
theorem p_Shelf_isByteRow : y_Shelf_isByteRow.cls ≠ "java/lang/invoke/MethodHandle" ∧ y_Shelf_isByteRow.cls ≠ "java/lang/invoke/VarHandle" ∧ (parseMethodDescriptor y_Shelf_isByteRow.desc).map (fun d => d.parameters.length) = some 0 := by decide +kernel
theorem e_Shelf_isByteRow {d : Nat} {a0 : Nat} {h : am_H} {Q : am_Q} (k : am_W (X_Shelf_isByteRow d) 0 [some (.ref a0)] [] h Q) : m_Shelf_isByteRow d [.ref a0] h Q := am_enter pl_Shelf rfl (Nat.le_of_ble_eq_true rfl) k
abbrev y_Shelf_isEmpty : MethodName := ⟨"WhichClub$Shelf", "isEmpty", "()Z"⟩
abbrev X_Shelf_isEmpty (d : Nat) : am_X := (shX, "WhichClub$Shelf", prog_9_method_6_code, 1, (some .boolean), d)
abbrev m_Shelf_isEmpty (d : Nat) (vs : List Value) (h : am_H) (Q : am_Q) : Prop := am_M shX y_Shelf_isEmpty prog_9_method_6_code 1 (some .boolean) d vs h Q
theorem p_Shelf_isEmpty : y_Shelf_isEmpty.cls ≠ "java/lang/invoke/MethodHandle" ∧ y_Shelf_isEmpty.cls ≠ "java/lang/invoke/VarHandle" ∧ (parseMethodDescriptor y_Shelf_isEmpty.desc).map (fun d => d.parameters.length) = some 0 := by decide +kernel
theorem e_Shelf_isEmpty {d : Nat} {a0 : Nat} {h : am_H} {Q : am_Q} (k : am_W (X_Shelf_isEmpty d) 0 [some (.ref a0)] [] h Q) : m_Shelf_isEmpty d [.ref a0] h Q := am_enter pl_Shelf rfl (Nat.le_of_ble_eq_true rfl) k
abbrev y_Club_clubs : MethodName := ⟨"WhichClub", "clubs", "(III)I"⟩
abbrev X_Club_clubs (d : Nat) : am_X := (shX, "WhichClub", prog_1_method_3_code, 5, (some .int), d)
abbrev m_Club_clubs (d : Nat) (vs : List Value) (h : am_H) (Q : am_Q) : Prop := am_M shX y_Club_clubs prog_1_method_3_code 5 (some .int) d vs h Q
theorem p_Club_clubs : y_Club_clubs.cls ≠ "java/lang/invoke/MethodHandle" ∧ y_Club_clubs.cls ≠ "java/lang/invoke/VarHandle" ∧ (parseMethodDescriptor y_Club_clubs.desc).map (fun d => d.parameters.length) = some 3 := by decide +kernel
theorem e_Club_clubs {d : Nat} {x1 : Int32} {x2 : Int32} {x3 : Int32} {h : am_H} {Q : am_Q} (k : am_W (X_Club_clubs d) 0 [some (.ref 0), some (.int x1), some (.int x2), some (.int x3), none] [] h Q) : m_Club_clubs d [.ref 0, .int x1, .int x2, .int x3] h Q := am_enter pl_Club rfl (Nat.le_of_ble_eq_true rfl) k
abbrev y_Hole_hasClub : MethodName := ⟨"WhichClub$Hole", "hasClub", "(I)Z"⟩
abbrev X_Hole_hasClub (d : Nat) : am_X := (shX, "WhichClub$Hole", prog_5_method_12_code, 2, (some .boolean), d)
abbrev m_Hole_hasClub (d : Nat) (vs : List Value) (h : am_H) (Q : am_Q) : Prop := am_M shX y_Hole_hasClub prog_5_method_12_code 2 (some .boolean) d vs h Q
theorem p_Hole_hasClub : y_Hole_hasClub.cls ≠ "java/lang/invoke/MethodHandle" ∧ y_Hole_hasClub.cls ≠ "java/lang/invoke/VarHandle" ∧ (parseMethodDescriptor y_Hole_hasClub.desc).map (fun d => d.parameters.length) = some 1 := by decide +kernel
theorem e_Hole_hasClub {d : Nat} {x1 : Int32} {h : am_H} {Q : am_Q} (k : am_W (X_Hole_hasClub d) 0 [some (.ref 1), some (.int x1)] [] h Q) : m_Hole_hasClub d [.ref 1, .int x1] h Q := am_enter pl_Hole rfl (Nat.le_of_ble_eq_true rfl) k
abbrev y_Hole_isCell : MethodName := ⟨"WhichClub$Hole", "isCell", "(I)Z"⟩
abbrev X_Hole_isCell (d : Nat) : am_X := (shX, "WhichClub$Hole", prog_5_method_2_code, 1, (some .boolean), d)
abbrev m_Hole_isCell (d : Nat) (vs : List Value) (h : am_H) (Q : am_Q) : Prop := am_M shX y_Hole_isCell prog_5_method_2_code 1 (some .boolean) d vs h Q
theorem p_Hole_isCell : y_Hole_isCell.cls ≠ "java/lang/invoke/MethodHandle" ∧ y_Hole_isCell.cls ≠ "java/lang/invoke/VarHandle" ∧ (parseMethodDescriptor y_Hole_isCell.desc).map (fun d => d.parameters.length) = some 1 := by decide +kernel
theorem e_Hole_isCell {d : Nat} {x0 : Int32} {h : am_H} {Q : am_Q} (k : am_W (X_Hole_isCell d) 0 [some (.int x0)] [] h Q) : m_Hole_isCell d [.int x0] h Q := am_enter pl_Hole rfl (Nat.le_of_ble_eq_true rfl) k
abbrev y_Hole_hasNumber : MethodName := ⟨"WhichClub$Hole", "hasNumber", "(II)Z"⟩
abbrev X_Hole_hasNumber (d : Nat) : am_X := (shX, "WhichClub$Hole", prog_5_method_5_code, 3, (some .boolean), d)
abbrev m_Hole_hasNumber (d : Nat) (vs : List Value) (h : am_H) (Q : am_Q) : Prop := am_M shX y_Hole_hasNumber prog_5_method_5_code 3 (some .boolean) d vs h Q
theorem p_Hole_hasNumber : y_Hole_hasNumber.cls ≠ "java/lang/invoke/MethodHandle" ∧ y_Hole_hasNumber.cls ≠ "java/lang/invoke/VarHandle" ∧ (parseMethodDescriptor y_Hole_hasNumber.desc).map (fun d => d.parameters.length) = some 2 := by decide +kernel
theorem e_Hole_hasNumber {d : Nat} {x1 : Int32} {x2 : Int32} {h : am_H} {Q : am_Q} (k : am_W (X_Hole_hasNumber d) 0 [some (.ref 1), some (.int x1), some (.int x2)] [] h Q) : m_Hole_hasNumber d [.ref 1, .int x1, .int x2] h Q := am_enter pl_Hole rfl (Nat.le_of_ble_eq_true rfl) k
abbrev y_Hole_become : MethodName := ⟨"WhichClub$Hole", "become", "(III)V"⟩
abbrev X_Hole_become (d : Nat) : am_X := (shX, "WhichClub$Hole", prog_5_method_8_code, 4, none, d)
abbrev m_Hole_become (d : Nat) (vs : List Value) (h : am_H) (Q : am_Q) : Prop := am_M shX y_Hole_become prog_5_method_8_code 4 none d vs h Q
theorem p_Hole_become : y_Hole_become.cls ≠ "java/lang/invoke/MethodHandle" ∧ y_Hole_become.cls ≠ "java/lang/invoke/VarHandle" ∧ (parseMethodDescriptor y_Hole_become.desc).map (fun d => d.parameters.length) = some 3 := by decide +kernel
theorem e_Hole_become {d : Nat} {x1 : Int32} {x2 : Int32} {x3 : Int32} {h : am_H} {Q : am_Q} (k : am_W (X_Hole_become d) 0 [some (.ref 1), some (.int x1), some (.int x2), some (.int x3)] [] h Q) : m_Hole_become d [.ref 1, .int x1, .int x2, .int x3] h Q := am_enter pl_Hole rfl (Nat.le_of_ble_eq_true rfl) k
abbrev y_Club_alter : MethodName := ⟨"WhichClub", "alter", "(III)V"⟩
abbrev X_Club_alter (d : Nat) : am_X := (shX, "WhichClub", prog_1_method_8_code, 4, none, d)
abbrev m_Club_alter (d : Nat) (vs : List Value) (h : am_H) (Q : am_Q) : Prop := am_M shX y_Club_alter prog_1_method_8_code 4 none d vs h Q
theorem p_Club_alter : y_Club_alter.cls ≠ "java/lang/invoke/MethodHandle" ∧ y_Club_alter.cls ≠ "java/lang/invoke/VarHandle" ∧ (parseMethodDescriptor y_Club_alter.desc).map (fun d => d.parameters.length) = some 3 := by decide +kernel
theorem e_Club_alter {d : Nat} {x1 : Int32} {x2 : Int32} {x3 : Int32} {h : am_H} {Q : am_Q} (k : am_W (X_Club_alter d) 0 [some (.ref 0), some (.int x1), some (.int x2), some (.int x3)] [] h Q) : m_Club_alter d [.ref 0, .int x1, .int x2, .int x3] h Q := am_enter pl_Club rfl (Nat.le_of_ble_eq_true rfl) k
abbrev y_Changes_dropOldest : MethodName := ⟨"WhichClub$Changes", "dropOldest", "()V"⟩
abbrev X_Changes_dropOldest (d : Nat) : am_X := (shX, "WhichClub$Changes", prog_2_method_5_code, 1, none, d)
abbrev m_Changes_dropOldest (d : Nat) (vs : List Value) (h : am_H) (Q : am_Q) : Prop := am_M shX y_Changes_dropOldest prog_2_method_5_code 1 none d vs h Q
theorem p_Changes_dropOldest : y_Changes_dropOldest.cls ≠ "java/lang/invoke/MethodHandle" ∧ y_Changes_dropOldest.cls ≠ "java/lang/invoke/VarHandle" ∧ (parseMethodDescriptor y_Changes_dropOldest.desc).map (fun d => d.parameters.length) = some 0 := by decide +kernel
theorem e_Changes_dropOldest {d : Nat} {h : am_H} {Q : am_Q} (k : am_W (X_Changes_dropOldest d) 0 [some (.ref 22)] [] h Q) : m_Changes_dropOldest d [.ref 22] h Q := am_enter pl_Changes rfl (Nat.le_of_ble_eq_true rfl) k
abbrev y_Changes_remember : MethodName := ⟨"WhichClub$Changes", "remember", "(IIII)V"⟩
abbrev X_Changes_remember (d : Nat) : am_X := (shX, "WhichClub$Changes", prog_2_method_4_code, 5, none, d)
abbrev m_Changes_remember (d : Nat) (vs : List Value) (h : am_H) (Q : am_Q) : Prop := am_M shX y_Changes_remember prog_2_method_4_code 5 none d vs h Q
theorem p_Changes_remember : y_Changes_remember.cls ≠ "java/lang/invoke/MethodHandle" ∧ y_Changes_remember.cls ≠ "java/lang/invoke/VarHandle" ∧ (parseMethodDescriptor y_Changes_remember.desc).map (fun d => d.parameters.length) = some 4 := by decide +kernel
theorem e_Changes_remember {d : Nat} {x1 : Int32} {x2 : Int32} {x3 : Int32} {x4 : Int32} {h : am_H} {Q : am_Q} (k : am_W (X_Changes_remember d) 0 [some (.ref 22), some (.int x1), some (.int x2), some (.int x3), some (.int x4)] [] h Q) : m_Changes_remember d [.ref 22, .int x1, .int x2, .int x3, .int x4] h Q := am_enter pl_Changes rfl (Nat.le_of_ble_eq_true rfl) k
abbrev y_Hole_allows : MethodName := ⟨"WhichClub$Hole", "allows", "(II)Z"⟩
abbrev X_Hole_allows (d : Nat) : am_X := (shX, "WhichClub$Hole", prog_5_method_6_code, 3, (some .boolean), d)
abbrev m_Hole_allows (d : Nat) (vs : List Value) (h : am_H) (Q : am_Q) : Prop := am_M shX y_Hole_allows prog_5_method_6_code 3 (some .boolean) d vs h Q
theorem p_Hole_allows : y_Hole_allows.cls ≠ "java/lang/invoke/MethodHandle" ∧ y_Hole_allows.cls ≠ "java/lang/invoke/VarHandle" ∧ (parseMethodDescriptor y_Hole_allows.desc).map (fun d => d.parameters.length) = some 2 := by decide +kernel
theorem e_Hole_allows {d : Nat} {x1 : Int32} {x2 : Int32} {h : am_H} {Q : am_Q} (k : am_W (X_Hole_allows d) 0 [some (.ref 1), some (.int x1), some (.int x2)] [] h Q) : m_Hole_allows d [.ref 1, .int x1, .int x2] h Q := am_enter pl_Hole rfl (Nat.le_of_ble_eq_true rfl) k
abbrev y_Hole_numberAt : MethodName := ⟨"WhichClub$Hole", "numberAt", "(II)I"⟩
abbrev X_Hole_numberAt (d : Nat) : am_X := (shX, "WhichClub$Hole", prog_5_method_7_code, 3, (some .int), d)
abbrev m_Hole_numberAt (d : Nat) (vs : List Value) (h : am_H) (Q : am_Q) : Prop := am_M shX y_Hole_numberAt prog_5_method_7_code 3 (some .int) d vs h Q
theorem p_Hole_numberAt : y_Hole_numberAt.cls ≠ "java/lang/invoke/MethodHandle" ∧ y_Hole_numberAt.cls ≠ "java/lang/invoke/VarHandle" ∧ (parseMethodDescriptor y_Hole_numberAt.desc).map (fun d => d.parameters.length) = some 2 := by decide +kernel
theorem e_Hole_numberAt {d : Nat} {x1 : Int32} {x2 : Int32} {h : am_H} {Q : am_Q} (k : am_W (X_Hole_numberAt d) 0 [some (.ref 1), some (.int x1), some (.int x2)] [] h Q) : m_Hole_numberAt d [.ref 1, .int x1, .int x2] h Q := am_enter pl_Hole rfl (Nat.le_of_ble_eq_true rfl) k
abbrev y_Club_mend : MethodName := ⟨"WhichClub", "mend", "(III)I"⟩
abbrev X_Club_mend (d : Nat) : am_X := (shX, "WhichClub", prog_1_method_4_code, 5, (some .int), d)
abbrev m_Club_mend (d : Nat) (vs : List Value) (h : am_H) (Q : am_Q) : Prop := am_M shX y_Club_mend prog_1_method_4_code 5 (some .int) d vs h Q
theorem p_Club_mend : y_Club_mend.cls ≠ "java/lang/invoke/MethodHandle" ∧ y_Club_mend.cls ≠ "java/lang/invoke/VarHandle" ∧ (parseMethodDescriptor y_Club_mend.desc).map (fun d => d.parameters.length) = some 3 := by decide +kernel
theorem e_Club_mend {d : Nat} {x1 : Int32} {x2 : Int32} {x3 : Int32} {h : am_H} {Q : am_Q} (k : am_W (X_Club_mend d) 0 [some (.ref 0), some (.int x1), some (.int x2), some (.int x3), none] [] h Q) : m_Club_mend d [.ref 0, .int x1, .int x2, .int x3] h Q := am_enter pl_Club rfl (Nat.le_of_ble_eq_true rfl) k
abbrev y_Deed_place : MethodName := ⟨"WhichClub$Deed", "place", "()I"⟩
abbrev X_Deed_place (d : Nat) : am_X := (shX, "WhichClub$Deed", prog_3_method_2_code, 1, (some .int), d)
abbrev m_Deed_place (d : Nat) (vs : List Value) (h : am_H) (Q : am_Q) : Prop := am_M shX y_Deed_place prog_3_method_2_code 1 (some .int) d vs h Q
theorem p_Deed_place : y_Deed_place.cls ≠ "java/lang/invoke/MethodHandle" ∧ y_Deed_place.cls ≠ "java/lang/invoke/VarHandle" ∧ (parseMethodDescriptor y_Deed_place.desc).map (fun d => d.parameters.length) = some 0 := by decide +kernel
theorem e_Deed_place {d : Nat} {h : am_H} {Q : am_Q} (k : am_W (X_Deed_place d) 0 [some (.ref 19)] [] h Q) : m_Deed_place d [.ref 19] h Q := am_enter pl_Deed rfl (Nat.le_of_ble_eq_true rfl) k
abbrev y_Club_of : MethodName := ⟨"WhichClub", "of", "(II)I"⟩
abbrev X_Club_of (d : Nat) : am_X := (shX, "WhichClub", prog_1_method_5_code, 3, (some .int), d)
abbrev m_Club_of (d : Nat) (vs : List Value) (h : am_H) (Q : am_Q) : Prop := am_M shX y_Club_of prog_1_method_5_code 3 (some .int) d vs h Q
theorem p_Club_of : y_Club_of.cls ≠ "java/lang/invoke/MethodHandle" ∧ y_Club_of.cls ≠ "java/lang/invoke/VarHandle" ∧ (parseMethodDescriptor y_Club_of.desc).map (fun d => d.parameters.length) = some 2 := by decide +kernel
theorem e_Club_of {d : Nat} {x1 : Int32} {x2 : Int32} {h : am_H} {Q : am_Q} (k : am_W (X_Club_of d) 0 [some (.ref 0), some (.int x1), some (.int x2)] [] h Q) : m_Club_of d [.ref 0, .int x1, .int x2] h Q := am_enter pl_Club rfl (Nat.le_of_ble_eq_true rfl) k
abbrev y_Law_addByte : MethodName := ⟨"WhichClub$Law", "addByte", "(I)I"⟩
abbrev X_Law_addByte (d : Nat) : am_X := (shX, "WhichClub$Law", prog_6_method_4_code, 2, (some .int), d)
abbrev m_Law_addByte (d : Nat) (vs : List Value) (h : am_H) (Q : am_Q) : Prop := am_M shX y_Law_addByte prog_6_method_4_code 2 (some .int) d vs h Q
theorem p_Law_addByte : y_Law_addByte.cls ≠ "java/lang/invoke/MethodHandle" ∧ y_Law_addByte.cls ≠ "java/lang/invoke/VarHandle" ∧ (parseMethodDescriptor y_Law_addByte.desc).map (fun d => d.parameters.length) = some 1 := by decide +kernel
theorem e_Law_addByte {d : Nat} {x1 : Int32} {h : am_H} {Q : am_Q} (k : am_W (X_Law_addByte d) 0 [some (.ref 6), some (.int x1)] [] h Q) : m_Law_addByte d [.ref 6, .int x1] h Q := am_enter pl_Law rfl (Nat.le_of_ble_eq_true rfl) k
abbrev y_Law_isTapeFull : MethodName := ⟨"WhichClub$Law", "isTapeFull", "()Z"⟩
abbrev X_Law_isTapeFull (d : Nat) : am_X := (shX, "WhichClub$Law", prog_6_method_2_code, 1, (some .boolean), d)
abbrev m_Law_isTapeFull (d : Nat) (vs : List Value) (h : am_H) (Q : am_Q) : Prop := am_M shX y_Law_isTapeFull prog_6_method_2_code 1 (some .boolean) d vs h Q
theorem p_Law_isTapeFull : y_Law_isTapeFull.cls ≠ "java/lang/invoke/MethodHandle" ∧ y_Law_isTapeFull.cls ≠ "java/lang/invoke/VarHandle" ∧ (parseMethodDescriptor y_Law_isTapeFull.desc).map (fun d => d.parameters.length) = some 0 := by decide +kernel
theorem e_Law_isTapeFull {d : Nat} {h : am_H} {Q : am_Q} (k : am_W (X_Law_isTapeFull d) 0 [some (.ref 6)] [] h Q) : m_Law_isTapeFull d [.ref 6] h Q := am_enter pl_Law rfl (Nat.le_of_ble_eq_true rfl) k
abbrev y_Club_feed : MethodName := ⟨"WhichClub", "feed", "(I)I"⟩
abbrev X_Club_feed (d : Nat) : am_X := (shX, "WhichClub", prog_1_method_6_code, 2, (some .int), d)
abbrev m_Club_feed (d : Nat) (vs : List Value) (h : am_H) (Q : am_Q) : Prop := am_M shX y_Club_feed prog_1_method_6_code 2 (some .int) d vs h Q
theorem p_Club_feed : y_Club_feed.cls ≠ "java/lang/invoke/MethodHandle" ∧ y_Club_feed.cls ≠ "java/lang/invoke/VarHandle" ∧ (parseMethodDescriptor y_Club_feed.desc).map (fun d => d.parameters.length) = some 1 := by decide +kernel
theorem e_Club_feed {d : Nat} {x1 : Int32} {h : am_H} {Q : am_Q} (k : am_W (X_Club_feed d) 0 [some (.ref 0), some (.int x1)] [] h Q) : m_Club_feed d [.ref 0, .int x1] h Q := am_enter pl_Club rfl (Nat.le_of_ble_eq_true rfl) k
abbrev y_Law_next : MethodName := ⟨"WhichClub$Law", "next", "()I"⟩
abbrev X_Law_next (d : Nat) : am_X := (shX, "WhichClub$Law", prog_6_method_6_code, 1, (some .int), d)
abbrev m_Law_next (d : Nat) (vs : List Value) (h : am_H) (Q : am_Q) : Prop := am_M shX y_Law_next prog_6_method_6_code 1 (some .int) d vs h Q
theorem p_Law_next : y_Law_next.cls ≠ "java/lang/invoke/MethodHandle" ∧ y_Law_next.cls ≠ "java/lang/invoke/VarHandle" ∧ (parseMethodDescriptor y_Law_next.desc).map (fun d => d.parameters.length) = some 0 := by decide +kernel
theorem e_Law_next {d : Nat} {h : am_H} {Q : am_Q} (k : am_W (X_Law_next d) 0 [some (.ref 6)] [] h Q) : m_Law_next d [.ref 6] h Q := am_enter pl_Law rfl (Nat.le_of_ble_eq_true rfl) k
abbrev y_Law_operatorOf : MethodName := ⟨"WhichClub$Law", "operatorOf", "(II)I"⟩
abbrev X_Law_operatorOf (d : Nat) : am_X := (shX, "WhichClub$Law", prog_6_method_10_code, 2, (some .int), d)
abbrev m_Law_operatorOf (d : Nat) (vs : List Value) (h : am_H) (Q : am_Q) : Prop := am_M shX y_Law_operatorOf prog_6_method_10_code 2 (some .int) d vs h Q
theorem p_Law_operatorOf : y_Law_operatorOf.cls ≠ "java/lang/invoke/MethodHandle" ∧ y_Law_operatorOf.cls ≠ "java/lang/invoke/VarHandle" ∧ (parseMethodDescriptor y_Law_operatorOf.desc).map (fun d => d.parameters.length) = some 2 := by decide +kernel
theorem e_Law_operatorOf {d : Nat} {x0 : Int32} {x1 : Int32} {h : am_H} {Q : am_Q} (k : am_W (X_Law_operatorOf d) 0 [some (.int x0), some (.int x1)] [] h Q) : m_Law_operatorOf d [.int x0, .int x1] h Q := am_enter pl_Law rfl (Nat.le_of_ble_eq_true rfl) k
abbrev y_Law_isDigit : MethodName := ⟨"WhichClub$Law", "isDigit", "(I)Z"⟩
abbrev X_Law_isDigit (d : Nat) : am_X := (shX, "WhichClub$Law", prog_6_method_15_code, 1, (some .boolean), d)
abbrev m_Law_isDigit (d : Nat) (vs : List Value) (h : am_H) (Q : am_Q) : Prop := am_M shX y_Law_isDigit prog_6_method_15_code 1 (some .boolean) d vs h Q
theorem p_Law_isDigit : y_Law_isDigit.cls ≠ "java/lang/invoke/MethodHandle" ∧ y_Law_isDigit.cls ≠ "java/lang/invoke/VarHandle" ∧ (parseMethodDescriptor y_Law_isDigit.desc).map (fun d => d.parameters.length) = some 1 := by decide +kernel
theorem e_Law_isDigit {d : Nat} {x0 : Int32} {h : am_H} {Q : am_Q} (k : am_W (X_Law_isDigit d) 0 [some (.int x0)] [] h Q) : m_Law_isDigit d [.int x0] h Q := am_enter pl_Law rfl (Nat.le_of_ble_eq_true rfl) k
abbrev y_Law_write : MethodName := ⟨"WhichClub$Law", "write", "(I)V"⟩
abbrev X_Law_write (d : Nat) : am_X := (shX, "WhichClub$Law", prog_6_method_16_code, 2, none, d)
abbrev m_Law_write (d : Nat) (vs : List Value) (h : am_H) (Q : am_Q) : Prop := am_M shX y_Law_write prog_6_method_16_code 2 none d vs h Q
theorem p_Law_write : y_Law_write.cls ≠ "java/lang/invoke/MethodHandle" ∧ y_Law_write.cls ≠ "java/lang/invoke/VarHandle" ∧ (parseMethodDescriptor y_Law_write.desc).map (fun d => d.parameters.length) = some 1 := by decide +kernel
theorem e_Law_write {d : Nat} {x1 : Int32} {h : am_H} {Q : am_Q} (k : am_W (X_Law_write d) 0 [some (.ref 6), some (.int x1)] [] h Q) : m_Law_write d [.ref 6, .int x1] h Q := am_enter pl_Law rfl (Nat.le_of_ble_eq_true rfl) k
abbrev y_Law_readNumber : MethodName := ⟨"WhichClub$Law", "readNumber", "()Z"⟩
abbrev X_Law_readNumber (d : Nat) : am_X := (shX, "WhichClub$Law", prog_6_method_14_code, 3, (some .boolean), d)
abbrev m_Law_readNumber (d : Nat) (vs : List Value) (h : am_H) (Q : am_Q) : Prop := am_M shX y_Law_readNumber prog_6_method_14_code 3 (some .boolean) d vs h Q
theorem p_Law_readNumber : y_Law_readNumber.cls ≠ "java/lang/invoke/MethodHandle" ∧ y_Law_readNumber.cls ≠ "java/lang/invoke/VarHandle" ∧ (parseMethodDescriptor y_Law_readNumber.desc).map (fun d => d.parameters.length) = some 0 := by decide +kernel
theorem e_Law_readNumber {d : Nat} {h : am_H} {Q : am_Q} (k : am_W (X_Law_readNumber d) 0 [some (.ref 6), none, none] [] h Q) : m_Law_readNumber d [.ref 6] h Q := am_enter pl_Law rfl (Nat.le_of_ble_eq_true rfl) k
abbrev y_Str_isLatin1 : MethodName := ⟨"java/lang/String", "isLatin1", "()Z"⟩
abbrev X_Str_isLatin1 (d : Nat) : am_X := (shX, "java/lang/String", prog_15_method_154_code, 1, (some .boolean), d)
abbrev m_Str_isLatin1 (d : Nat) (vs : List Value) (h : am_H) (Q : am_Q) : Prop := am_M shX y_Str_isLatin1 prog_15_method_154_code 1 (some .boolean) d vs h Q
theorem p_Str_isLatin1 : y_Str_isLatin1.cls ≠ "java/lang/invoke/MethodHandle" ∧ y_Str_isLatin1.cls ≠ "java/lang/invoke/VarHandle" ∧ (parseMethodDescriptor y_Str_isLatin1.desc).map (fun d => d.parameters.length) = some 0 := by decide +kernel
theorem e_Str_isLatin1 {d : Nat} {h : am_H} {Q : am_Q} (k : am_W (X_Str_isLatin1 d) 0 [some (.ref 106)] [] h Q) : m_Str_isLatin1 d [.ref 106] h Q := am_enter pl_Str rfl (Nat.le_of_ble_eq_true rfl) k
abbrev y_Str_coder : MethodName := ⟨"java/lang/String", "coder", "()B"⟩
abbrev X_Str_coder (d : Nat) : am_X := (shX, "java/lang/String", prog_15_method_152_code, 1, (some .byte), d)
abbrev m_Str_coder (d : Nat) (vs : List Value) (h : am_H) (Q : am_Q) : Prop := am_M shX y_Str_coder prog_15_method_152_code 1 (some .byte) d vs h Q
theorem p_Str_coder : y_Str_coder.cls ≠ "java/lang/invoke/MethodHandle" ∧ y_Str_coder.cls ≠ "java/lang/invoke/VarHandle" ∧ (parseMethodDescriptor y_Str_coder.desc).map (fun d => d.parameters.length) = some 0 := by decide +kernel
theorem e_Str_coder {d : Nat} {h : am_H} {Q : am_Q} (k : am_W (X_Str_coder d) 0 [some (.ref 106)] [] h Q) : m_Str_coder d [.ref 106] h Q := am_enter pl_Str rfl (Nat.le_of_ble_eq_true rfl) k
abbrev y_Str_length : MethodName := ⟨"java/lang/String", "length", "()I"⟩
abbrev X_Str_length (d : Nat) : am_X := (shX, "java/lang/String", prog_15_method_54_code, 1, (some .int), d)
abbrev m_Str_length (d : Nat) (vs : List Value) (h : am_H) (Q : am_Q) : Prop := am_M shX y_Str_length prog_15_method_54_code 1 (some .int) d vs h Q
theorem p_Str_length : y_Str_length.cls ≠ "java/lang/invoke/MethodHandle" ∧ y_Str_length.cls ≠ "java/lang/invoke/VarHandle" ∧ (parseMethodDescriptor y_Str_length.desc).map (fun d => d.parameters.length) = some 0 := by decide +kernel
theorem e_Str_length {d : Nat} {h : am_H} {Q : am_Q} (k : am_W (X_Str_length d) 0 [some (.ref 106)] [] h Q) : m_Str_length d [.ref 106] h Q := am_enter pl_Str rfl (Nat.le_of_ble_eq_true rfl) k
abbrev y_Lat_canEncode : MethodName := ⟨"java/lang/StringLatin1", "canEncode", "(I)Z"⟩
abbrev X_Lat_canEncode (d : Nat) : am_X := (shX, "java/lang/StringLatin1", prog_16_method_4_code, 1, (some .boolean), d)
abbrev m_Lat_canEncode (d : Nat) (vs : List Value) (h : am_H) (Q : am_Q) : Prop := am_M shX y_Lat_canEncode prog_16_method_4_code 1 (some .boolean) d vs h Q
theorem p_Lat_canEncode : y_Lat_canEncode.cls ≠ "java/lang/invoke/MethodHandle" ∧ y_Lat_canEncode.cls ≠ "java/lang/invoke/VarHandle" ∧ (parseMethodDescriptor y_Lat_canEncode.desc).map (fun d => d.parameters.length) = some 1 := by decide +kernel
theorem e_Lat_canEncode {d : Nat} {x0 : Int32} {h : am_H} {Q : am_Q} (k : am_W (X_Lat_canEncode d) 0 [some (.int x0)] [] h Q) : m_Lat_canEncode d [.int x0] h Q := am_enter pl_Lat rfl (Nat.le_of_ble_eq_true rfl) k
abbrev y_Lat_indexOfChar : MethodName := ⟨"java/lang/StringLatin1", "indexOfChar", "([BIII)I"⟩
abbrev X_Lat_indexOfChar (d : Nat) : am_X := (shX, "java/lang/StringLatin1", prog_16_method_23_code, 6, (some .int), d)
abbrev m_Lat_indexOfChar (d : Nat) (vs : List Value) (h : am_H) (Q : am_Q) : Prop := am_M shX y_Lat_indexOfChar prog_16_method_23_code 6 (some .int) d vs h Q
theorem p_Lat_indexOfChar : y_Lat_indexOfChar.cls ≠ "java/lang/invoke/MethodHandle" ∧ y_Lat_indexOfChar.cls ≠ "java/lang/invoke/VarHandle" ∧ (parseMethodDescriptor y_Lat_indexOfChar.desc).map (fun d => d.parameters.length) = some 4 := by decide +kernel
theorem e_Lat_indexOfChar {d : Nat} {x1 : Int32} {x2 : Int32} {x3 : Int32} {h : am_H} {Q : am_Q} (k : am_W (X_Lat_indexOfChar d) 0 [some (.ref 107), some (.int x1), some (.int x2), some (.int x3), none, none] [] h Q) : m_Lat_indexOfChar d [.ref 107, .int x1, .int x2, .int x3] h Q := am_enter pl_Lat rfl (Nat.le_of_ble_eq_true rfl) k
abbrev y_Lat_indexOf : MethodName := ⟨"java/lang/StringLatin1", "indexOf", "([BIII)I"⟩
abbrev X_Lat_indexOf (d : Nat) : am_X := (shX, "java/lang/StringLatin1", prog_16_method_22_code, 4, (some .int), d)
abbrev m_Lat_indexOf (d : Nat) (vs : List Value) (h : am_H) (Q : am_Q) : Prop := am_M shX y_Lat_indexOf prog_16_method_22_code 4 (some .int) d vs h Q
theorem p_Lat_indexOf : y_Lat_indexOf.cls ≠ "java/lang/invoke/MethodHandle" ∧ y_Lat_indexOf.cls ≠ "java/lang/invoke/VarHandle" ∧ (parseMethodDescriptor y_Lat_indexOf.desc).map (fun d => d.parameters.length) = some 4 := by decide +kernel
theorem e_Lat_indexOf {d : Nat} {x1 : Int32} {x2 : Int32} {x3 : Int32} {h : am_H} {Q : am_Q} (k : am_W (X_Lat_indexOf d) 0 [some (.ref 107), some (.int x1), some (.int x2), some (.int x3)] [] h Q) : m_Lat_indexOf d [.ref 107, .int x1, .int x2, .int x3] h Q := am_enter pl_Lat rfl (Nat.le_of_ble_eq_true rfl) k
abbrev y_Str_indexOf_II : MethodName := ⟨"java/lang/String", "indexOf", "(II)I"⟩
abbrev X_Str_indexOf_II (d : Nat) : am_X := (shX, "java/lang/String", prog_15_method_80_code, 3, (some .int), d)
abbrev m_Str_indexOf_II (d : Nat) (vs : List Value) (h : am_H) (Q : am_Q) : Prop := am_M shX y_Str_indexOf_II prog_15_method_80_code 3 (some .int) d vs h Q
theorem p_Str_indexOf_II : y_Str_indexOf_II.cls ≠ "java/lang/invoke/MethodHandle" ∧ y_Str_indexOf_II.cls ≠ "java/lang/invoke/VarHandle" ∧ (parseMethodDescriptor y_Str_indexOf_II.desc).map (fun d => d.parameters.length) = some 2 := by decide +kernel
theorem e_Str_indexOf_II {d : Nat} {x1 : Int32} {x2 : Int32} {h : am_H} {Q : am_Q} (k : am_W (X_Str_indexOf_II d) 0 [some (.ref 106), some (.int x1), some (.int x2)] [] h Q) : m_Str_indexOf_II d [.ref 106, .int x1, .int x2] h Q := am_enter pl_Str rfl (Nat.le_of_ble_eq_true rfl) k
abbrev y_Str_indexOf_I : MethodName := ⟨"java/lang/String", "indexOf", "(I)I"⟩
abbrev X_Str_indexOf_I (d : Nat) : am_X := (shX, "java/lang/String", prog_15_method_79_code, 2, (some .int), d)
abbrev m_Str_indexOf_I (d : Nat) (vs : List Value) (h : am_H) (Q : am_Q) : Prop := am_M shX y_Str_indexOf_I prog_15_method_79_code 2 (some .int) d vs h Q
theorem p_Str_indexOf_I : y_Str_indexOf_I.cls ≠ "java/lang/invoke/MethodHandle" ∧ y_Str_indexOf_I.cls ≠ "java/lang/invoke/VarHandle" ∧ (parseMethodDescriptor y_Str_indexOf_I.desc).map (fun d => d.parameters.length) = some 1 := by decide +kernel
theorem e_Str_indexOf_I {d : Nat} {x1 : Int32} {h : am_H} {Q : am_Q} (k : am_W (X_Str_indexOf_I d) 0 [some (.ref 106), some (.int x1)] [] h Q) : m_Str_indexOf_I d [.ref 106, .int x1] h Q := am_enter pl_Str rfl (Nat.le_of_ble_eq_true rfl) k
abbrev y_Law_readBracket : MethodName := ⟨"WhichClub$Law", "readBracket", "(I)Z"⟩
abbrev X_Law_readBracket (d : Nat) : am_X := (shX, "WhichClub$Law", prog_6_method_13_code, 2, (some .boolean), d)
abbrev m_Law_readBracket (d : Nat) (vs : List Value) (h : am_H) (Q : am_Q) : Prop := am_M shX y_Law_readBracket prog_6_method_13_code 2 (some .boolean) d vs h Q
theorem p_Law_readBracket : y_Law_readBracket.cls ≠ "java/lang/invoke/MethodHandle" ∧ y_Law_readBracket.cls ≠ "java/lang/invoke/VarHandle" ∧ (parseMethodDescriptor y_Law_readBracket.desc).map (fun d => d.parameters.length) = some 1 := by decide +kernel
theorem e_Law_readBracket {d : Nat} {x1 : Int32} {h : am_H} {Q : am_Q} (k : am_W (X_Law_readBracket d) 0 [some (.ref 6), some (.int x1)] [] h Q) : m_Law_readBracket d [.ref 6, .int x1] h Q := am_enter pl_Law rfl (Nat.le_of_ble_eq_true rfl) k
abbrev y_Law_readLevel : MethodName := ⟨"WhichClub$Law", "readLevel", "(II)Z"⟩
abbrev X_Law_readLevel (d : Nat) : am_X := (shX, "WhichClub$Law", prog_6_method_9_code, 5, (some .boolean), d)
abbrev m_Law_readLevel (d : Nat) (vs : List Value) (h : am_H) (Q : am_Q) : Prop := am_M shX y_Law_readLevel prog_6_method_9_code 5 (some .boolean) d vs h Q
theorem p_Law_readLevel : y_Law_readLevel.cls ≠ "java/lang/invoke/MethodHandle" ∧ y_Law_readLevel.cls ≠ "java/lang/invoke/VarHandle" ∧ (parseMethodDescriptor y_Law_readLevel.desc).map (fun d => d.parameters.length) = some 2 := by decide +kernel
theorem e_Law_readLevel {d : Nat} {x1 : Int32} {x2 : Int32} {h : am_H} {Q : am_Q} (k : am_W (X_Law_readLevel d) 0 [some (.ref 6), some (.int x1), some (.int x2), none, none] [] h Q) : m_Law_readLevel d [.ref 6, .int x1, .int x2] h Q := am_enter pl_Law rfl (Nat.le_of_ble_eq_true rfl) k
abbrev y_Law_readOperand : MethodName := ⟨"WhichClub$Law", "readOperand", "(I)Z"⟩
abbrev X_Law_readOperand (d : Nat) : am_X := (shX, "WhichClub$Law", prog_6_method_11_code, 4, (some .boolean), d)
abbrev m_Law_readOperand (d : Nat) (vs : List Value) (h : am_H) (Q : am_Q) : Prop := am_M shX y_Law_readOperand prog_6_method_11_code 4 (some .boolean) d vs h Q
theorem p_Law_readOperand : y_Law_readOperand.cls ≠ "java/lang/invoke/MethodHandle" ∧ y_Law_readOperand.cls ≠ "java/lang/invoke/VarHandle" ∧ (parseMethodDescriptor y_Law_readOperand.desc).map (fun d => d.parameters.length) = some 1 := by decide +kernel
theorem e_Law_readOperand {d : Nat} {x1 : Int32} {h : am_H} {Q : am_Q} (k : am_W (X_Law_readOperand d) 0 [some (.ref 6), some (.int x1), none, none] [] h Q) : m_Law_readOperand d [.ref 6, .int x1] h Q := am_enter pl_Law rfl (Nat.le_of_ble_eq_true rfl) k
abbrev y_Law_readPrefixed : MethodName := ⟨"WhichClub$Law", "readPrefixed", "(II)Z"⟩
abbrev X_Law_readPrefixed (d : Nat) : am_X := (shX, "WhichClub$Law", prog_6_method_12_code, 3, (some .boolean), d)
abbrev m_Law_readPrefixed (d : Nat) (vs : List Value) (h : am_H) (Q : am_Q) : Prop := am_M shX y_Law_readPrefixed prog_6_method_12_code 3 (some .boolean) d vs h Q
theorem p_Law_readPrefixed : y_Law_readPrefixed.cls ≠ "java/lang/invoke/MethodHandle" ∧ y_Law_readPrefixed.cls ≠ "java/lang/invoke/VarHandle" ∧ (parseMethodDescriptor y_Law_readPrefixed.desc).map (fun d => d.parameters.length) = some 2 := by decide +kernel
theorem e_Law_readPrefixed {d : Nat} {x1 : Int32} {x2 : Int32} {h : am_H} {Q : am_Q} (k : am_W (X_Law_readPrefixed d) 0 [some (.ref 6), some (.int x1), some (.int x2)] [] h Q) : m_Law_readPrefixed d [.ref 6, .int x1, .int x2] h Q := am_enter pl_Law rfl (Nat.le_of_ble_eq_true rfl) k
abbrev y_Law_readLine : MethodName := ⟨"WhichClub$Law", "readLine", "()Z"⟩
abbrev X_Law_readLine (d : Nat) : am_X := (shX, "WhichClub$Law", prog_6_method_8_code, 1, (some .boolean), d)
abbrev m_Law_readLine (d : Nat) (vs : List Value) (h : am_H) (Q : am_Q) : Prop := am_M shX y_Law_readLine prog_6_method_8_code 1 (some .boolean) d vs h Q
theorem p_Law_readLine : y_Law_readLine.cls ≠ "java/lang/invoke/MethodHandle" ∧ y_Law_readLine.cls ≠ "java/lang/invoke/VarHandle" ∧ (parseMethodDescriptor y_Law_readLine.desc).map (fun d => d.parameters.length) = some 0 := by decide +kernel
theorem e_Law_readLine {d : Nat} {h : am_H} {Q : am_Q} (k : am_W (X_Law_readLine d) 0 [some (.ref 6)] [] h Q) : m_Law_readLine d [.ref 6] h Q := am_enter pl_Law rfl (Nat.le_of_ble_eq_true rfl) k
abbrev y_Law_readLines : MethodName := ⟨"WhichClub$Law", "readLines", "()Z"⟩
abbrev X_Law_readLines (d : Nat) : am_X := (shX, "WhichClub$Law", prog_6_method_7_code, 2, (some .boolean), d)
abbrev m_Law_readLines (d : Nat) (vs : List Value) (h : am_H) (Q : am_Q) : Prop := am_M shX y_Law_readLines prog_6_method_7_code 2 (some .boolean) d vs h Q
theorem p_Law_readLines : y_Law_readLines.cls ≠ "java/lang/invoke/MethodHandle" ∧ y_Law_readLines.cls ≠ "java/lang/invoke/VarHandle" ∧ (parseMethodDescriptor y_Law_readLines.desc).map (fun d => d.parameters.length) = some 0 := by decide +kernel
theorem e_Law_readLines {d : Nat} {h : am_H} {Q : am_Q} (k : am_W (X_Law_readLines d) 0 [some (.ref 6), none] [] h Q) : m_Law_readLines d [.ref 6] h Q := am_enter pl_Law rfl (Nat.le_of_ble_eq_true rfl) k
abbrev y_Law_readTape : MethodName := ⟨"WhichClub$Law", "readTape", "()I"⟩
abbrev X_Law_readTape (d : Nat) : am_X := (shX, "WhichClub$Law", prog_6_method_5_code, 2, (some .int), d)
abbrev m_Law_readTape (d : Nat) (vs : List Value) (h : am_H) (Q : am_Q) : Prop := am_M shX y_Law_readTape prog_6_method_5_code 2 (some .int) d vs h Q
theorem p_Law_readTape : y_Law_readTape.cls ≠ "java/lang/invoke/MethodHandle" ∧ y_Law_readTape.cls ≠ "java/lang/invoke/VarHandle" ∧ (parseMethodDescriptor y_Law_readTape.desc).map (fun d => d.parameters.length) = some 0 := by decide +kernel
theorem e_Law_readTape {d : Nat} {h : am_H} {Q : am_Q} (k : am_W (X_Law_readTape d) 0 [some (.ref 6), none] [] h Q) : m_Law_readTape d [.ref 6] h Q := am_enter pl_Law rfl (Nat.le_of_ble_eq_true rfl) k
abbrev y_Club_law : MethodName := ⟨"WhichClub", "law", "()I"⟩
abbrev X_Club_law (d : Nat) : am_X := (shX, "WhichClub", prog_1_method_7_code, 1, (some .int), d)
abbrev m_Club_law (d : Nat) (vs : List Value) (h : am_H) (Q : am_Q) : Prop := am_M shX y_Club_law prog_1_method_7_code 1 (some .int) d vs h Q
theorem p_Club_law : y_Club_law.cls ≠ "java/lang/invoke/MethodHandle" ∧ y_Club_law.cls ≠ "java/lang/invoke/VarHandle" ∧ (parseMethodDescriptor y_Club_law.desc).map (fun d => d.parameters.length) = some 0 := by decide +kernel
theorem e_Club_law {d : Nat} {h : am_H} {Q : am_Q} (k : am_W (X_Club_law d) 0 [some (.ref 0)] [] h Q) : m_Club_law d [.ref 0] h Q := am_enter pl_Club rfl (Nat.le_of_ble_eq_true rfl) k
abbrev y_Club_isFractionPart : MethodName := ⟨"WhichClub", "isFractionPart", "(I)Z"⟩
abbrev X_Club_isFractionPart (d : Nat) : am_X := (shX, "WhichClub", prog_1_method_44_code, 1, (some .boolean), d)
abbrev m_Club_isFractionPart (d : Nat) (vs : List Value) (h : am_H) (Q : am_Q) : Prop := am_M shX y_Club_isFractionPart prog_1_method_44_code 1 (some .boolean) d vs h Q
theorem p_Club_isFractionPart : y_Club_isFractionPart.cls ≠ "java/lang/invoke/MethodHandle" ∧ y_Club_isFractionPart.cls ≠ "java/lang/invoke/VarHandle" ∧ (parseMethodDescriptor y_Club_isFractionPart.desc).map (fun d => d.parameters.length) = some 1 := by decide +kernel
theorem e_Club_isFractionPart {d : Nat} {x0 : Int32} {h : am_H} {Q : am_Q} (k : am_W (X_Club_isFractionPart d) 0 [some (.int x0)] [] h Q) : m_Club_isFractionPart d [.int x0] h Q := am_enter pl_Club rfl (Nat.le_of_ble_eq_true rfl) k
abbrev y_Hole_isGreen : MethodName := ⟨"WhichClub$Hole", "isGreen", "(I)Z"⟩
abbrev X_Hole_isGreen (d : Nat) : am_X := (shX, "WhichClub$Hole", prog_5_method_19_code, 2, (some .boolean), d)
abbrev m_Hole_isGreen (d : Nat) (vs : List Value) (h : am_H) (Q : am_Q) : Prop := am_M shX y_Hole_isGreen prog_5_method_19_code 2 (some .boolean) d vs h Q
theorem p_Hole_isGreen : y_Hole_isGreen.cls ≠ "java/lang/invoke/MethodHandle" ∧ y_Hole_isGreen.cls ≠ "java/lang/invoke/VarHandle" ∧ (parseMethodDescriptor y_Hole_isGreen.desc).map (fun d => d.parameters.length) = some 1 := by decide +kernel
theorem e_Hole_isGreen {d : Nat} {x1 : Int32} {h : am_H} {Q : am_Q} (k : am_W (X_Hole_isGreen d) 0 [some (.ref 1), some (.int x1)] [] h Q) : m_Hole_isGreen d [.ref 1, .int x1] h Q := am_enter pl_Hole rfl (Nat.le_of_ble_eq_true rfl) k
abbrev y_Hole_isOffGreen : MethodName := ⟨"WhichClub$Hole", "isOffGreen", "(I)Z"⟩
abbrev X_Hole_isOffGreen (d : Nat) : am_X := (shX, "WhichClub$Hole", prog_5_method_20_code, 2, (some .boolean), d)
abbrev m_Hole_isOffGreen (d : Nat) (vs : List Value) (h : am_H) (Q : am_Q) : Prop := am_M shX y_Hole_isOffGreen prog_5_method_20_code 2 (some .boolean) d vs h Q
theorem p_Hole_isOffGreen : y_Hole_isOffGreen.cls ≠ "java/lang/invoke/MethodHandle" ∧ y_Hole_isOffGreen.cls ≠ "java/lang/invoke/VarHandle" ∧ (parseMethodDescriptor y_Hole_isOffGreen.desc).map (fun d => d.parameters.length) = some 1 := by decide +kernel
theorem e_Hole_isOffGreen {d : Nat} {x1 : Int32} {h : am_H} {Q : am_Q} (k : am_W (X_Hole_isOffGreen d) 0 [some (.ref 1), some (.int x1)] [] h Q) : m_Hole_isOffGreen d [.ref 1, .int x1] h Q := am_enter pl_Hole rfl (Nat.le_of_ble_eq_true rfl) k
abbrev y_Club_isShot : MethodName := ⟨"WhichClub", "isShot", "(I)Z"⟩
abbrev X_Club_isShot (d : Nat) : am_X := (shX, "WhichClub", prog_1_method_13_code, 2, (some .boolean), d)
abbrev m_Club_isShot (d : Nat) (vs : List Value) (h : am_H) (Q : am_Q) : Prop := am_M shX y_Club_isShot prog_1_method_13_code 2 (some .boolean) d vs h Q
theorem p_Club_isShot : y_Club_isShot.cls ≠ "java/lang/invoke/MethodHandle" ∧ y_Club_isShot.cls ≠ "java/lang/invoke/VarHandle" ∧ (parseMethodDescriptor y_Club_isShot.desc).map (fun d => d.parameters.length) = some 1 := by decide +kernel
theorem e_Club_isShot {d : Nat} {x1 : Int32} {h : am_H} {Q : am_Q} (k : am_W (X_Club_isShot d) 0 [some (.ref 0), some (.int x1)] [] h Q) : m_Club_isShot d [.ref 0, .int x1] h Q := am_enter pl_Club rfl (Nat.le_of_ble_eq_true rfl) k
abbrev y_Club_sharedDivisor : MethodName := ⟨"WhichClub", "sharedDivisor", "(JJ)J"⟩
abbrev X_Club_sharedDivisor (d : Nat) : am_X := (shX, "WhichClub", prog_1_method_46_code, 7, (some .long), d)
abbrev m_Club_sharedDivisor (d : Nat) (vs : List Value) (h : am_H) (Q : am_Q) : Prop := am_M shX y_Club_sharedDivisor prog_1_method_46_code 7 (some .long) d vs h Q
theorem p_Club_sharedDivisor : y_Club_sharedDivisor.cls ≠ "java/lang/invoke/MethodHandle" ∧ y_Club_sharedDivisor.cls ≠ "java/lang/invoke/VarHandle" ∧ (parseMethodDescriptor y_Club_sharedDivisor.desc).map (fun d => d.parameters.length) = some 2 := by decide +kernel
theorem e_Club_sharedDivisor {d : Nat} {x0 : Int64} {x2 : Int64} {h : am_H} {Q : am_Q} (k : am_W (X_Club_sharedDivisor d) 0 [some (.long x0), none, some (.long x2), none, none, none, none] [] h Q) : m_Club_sharedDivisor d [.long x0, .long x2] h Q := am_enter pl_Club rfl (Nat.le_of_ble_eq_true rfl) k
abbrev y_Club_partOf : MethodName := ⟨"WhichClub", "partOf", "(JJI)J"⟩
abbrev X_Club_partOf (d : Nat) : am_X := (shX, "WhichClub", prog_1_method_45_code, 7, (some .long), d)
abbrev m_Club_partOf (d : Nat) (vs : List Value) (h : am_H) (Q : am_Q) : Prop := am_M shX y_Club_partOf prog_1_method_45_code 7 (some .long) d vs h Q
theorem p_Club_partOf : y_Club_partOf.cls ≠ "java/lang/invoke/MethodHandle" ∧ y_Club_partOf.cls ≠ "java/lang/invoke/VarHandle" ∧ (parseMethodDescriptor y_Club_partOf.desc).map (fun d => d.parameters.length) = some 3 := by decide +kernel
theorem e_Club_partOf {d : Nat} {x0 : Int64} {x2 : Int64} {x4 : Int32} {h : am_H} {Q : am_Q} (k : am_W (X_Club_partOf d) 0 [some (.long x0), none, some (.long x2), none, some (.int x4), none, none] [] h Q) : m_Club_partOf d [.long x0, .long x2, .int x4] h Q := am_enter pl_Club rfl (Nat.le_of_ble_eq_true rfl) k
abbrev y_Hole_carryOf : MethodName := ⟨"WhichClub$Hole", "carryOf", "(I)I"⟩
abbrev X_Hole_carryOf (d : Nat) : am_X := (shX, "WhichClub$Hole", prog_5_method_15_code, 2, (some .int), d)
abbrev m_Hole_carryOf (d : Nat) (vs : List Value) (h : am_H) (Q : am_Q) : Prop := am_M shX y_Hole_carryOf prog_5_method_15_code 2 (some .int) d vs h Q
theorem p_Hole_carryOf : y_Hole_carryOf.cls ≠ "java/lang/invoke/MethodHandle" ∧ y_Hole_carryOf.cls ≠ "java/lang/invoke/VarHandle" ∧ (parseMethodDescriptor y_Hole_carryOf.desc).map (fun d => d.parameters.length) = some 1 := by decide +kernel
theorem e_Hole_carryOf {d : Nat} {x1 : Int32} {h : am_H} {Q : am_Q} (k : am_W (X_Hole_carryOf d) 0 [some (.ref 1), some (.int x1)] [] h Q) : m_Hole_carryOf d [.ref 1, .int x1] h Q := am_enter pl_Hole rfl (Nat.le_of_ble_eq_true rfl) k
abbrev y_Hole_spreadOf : MethodName := ⟨"WhichClub$Hole", "spreadOf", "(I)I"⟩
abbrev X_Hole_spreadOf (d : Nat) : am_X := (shX, "WhichClub$Hole", prog_5_method_16_code, 2, (some .int), d)
abbrev m_Hole_spreadOf (d : Nat) (vs : List Value) (h : am_H) (Q : am_Q) : Prop := am_M shX y_Hole_spreadOf prog_5_method_16_code 2 (some .int) d vs h Q
theorem p_Hole_spreadOf : y_Hole_spreadOf.cls ≠ "java/lang/invoke/MethodHandle" ∧ y_Hole_spreadOf.cls ≠ "java/lang/invoke/VarHandle" ∧ (parseMethodDescriptor y_Hole_spreadOf.desc).map (fun d => d.parameters.length) = some 1 := by decide +kernel
theorem e_Hole_spreadOf {d : Nat} {x1 : Int32} {h : am_H} {Q : am_Q} (k : am_W (X_Hole_spreadOf d) 0 [some (.ref 1), some (.int x1)] [] h Q) : m_Hole_spreadOf d [.ref 1, .int x1] h Q := am_enter pl_Hole rfl (Nat.le_of_ble_eq_true rfl) k
abbrev y_Hole_waysOf : MethodName := ⟨"WhichClub$Hole", "waysOf", "(I)I"⟩
abbrev X_Hole_waysOf (d : Nat) : am_X := (shX, "WhichClub$Hole", prog_5_method_18_code, 2, (some .int), d)
abbrev m_Hole_waysOf (d : Nat) (vs : List Value) (h : am_H) (Q : am_Q) : Prop := am_M shX y_Hole_waysOf prog_5_method_18_code 2 (some .int) d vs h Q
theorem p_Hole_waysOf : y_Hole_waysOf.cls ≠ "java/lang/invoke/MethodHandle" ∧ y_Hole_waysOf.cls ≠ "java/lang/invoke/VarHandle" ∧ (parseMethodDescriptor y_Hole_waysOf.desc).map (fun d => d.parameters.length) = some 1 := by decide +kernel
theorem e_Hole_waysOf {d : Nat} {x1 : Int32} {h : am_H} {Q : am_Q} (k : am_W (X_Hole_waysOf d) 0 [some (.ref 1), some (.int x1)] [] h Q) : m_Hole_waysOf d [.ref 1, .int x1] h Q := am_enter pl_Hole rfl (Nat.le_of_ble_eq_true rfl) k
abbrev y_Hole_aim : MethodName := ⟨"WhichClub$Hole", "aim", "(II)I"⟩
abbrev X_Hole_aim (d : Nat) : am_X := (shX, "WhichClub$Hole", prog_5_method_31_code, 5, (some .int), d)
abbrev m_Hole_aim (d : Nat) (vs : List Value) (h : am_H) (Q : am_Q) : Prop := am_M shX y_Hole_aim prog_5_method_31_code 5 (some .int) d vs h Q
theorem p_Hole_aim : y_Hole_aim.cls ≠ "java/lang/invoke/MethodHandle" ∧ y_Hole_aim.cls ≠ "java/lang/invoke/VarHandle" ∧ (parseMethodDescriptor y_Hole_aim.desc).map (fun d => d.parameters.length) = some 2 := by decide +kernel
theorem e_Hole_aim {d : Nat} {x1 : Int32} {x2 : Int32} {h : am_H} {Q : am_Q} (k : am_W (X_Hole_aim d) 0 [some (.ref 1), some (.int x1), some (.int x2), none, none] [] h Q) : m_Hole_aim d [.ref 1, .int x1, .int x2] h Q := am_enter pl_Hole rfl (Nat.le_of_ble_eq_true rfl) k
abbrev y_Hole_held : MethodName := ⟨"WhichClub$Hole", "held", "(I)I"⟩
abbrev X_Hole_held (d : Nat) : am_X := (shX, "WhichClub$Hole", prog_5_method_32_code, 1, (some .int), d)
abbrev m_Hole_held (d : Nat) (vs : List Value) (h : am_H) (Q : am_Q) : Prop := am_M shX y_Hole_held prog_5_method_32_code 1 (some .int) d vs h Q
theorem p_Hole_held : y_Hole_held.cls ≠ "java/lang/invoke/MethodHandle" ∧ y_Hole_held.cls ≠ "java/lang/invoke/VarHandle" ∧ (parseMethodDescriptor y_Hole_held.desc).map (fun d => d.parameters.length) = some 1 := by decide +kernel
theorem e_Hole_held {d : Nat} {x0 : Int32} {h : am_H} {Q : am_Q} (k : am_W (X_Hole_held d) 0 [some (.int x0)] [] h Q) : m_Hole_held d [.int x0] h Q := am_enter pl_Hole rfl (Nat.le_of_ble_eq_true rfl) k
abbrev y_Hole_isWater : MethodName := ⟨"WhichClub$Hole", "isWater", "(I)Z"⟩
abbrev X_Hole_isWater (d : Nat) : am_X := (shX, "WhichClub$Hole", prog_5_method_21_code, 2, (some .boolean), d)
abbrev m_Hole_isWater (d : Nat) (vs : List Value) (h : am_H) (Q : am_Q) : Prop := am_M shX y_Hole_isWater prog_5_method_21_code 2 (some .boolean) d vs h Q
theorem p_Hole_isWater : y_Hole_isWater.cls ≠ "java/lang/invoke/MethodHandle" ∧ y_Hole_isWater.cls ≠ "java/lang/invoke/VarHandle" ∧ (parseMethodDescriptor y_Hole_isWater.desc).map (fun d => d.parameters.length) = some 1 := by decide +kernel
theorem e_Hole_isWater {d : Nat} {x1 : Int32} {h : am_H} {Q : am_Q} (k : am_W (X_Hole_isWater d) 0 [some (.ref 1), some (.int x1)] [] h Q) : m_Hole_isWater d [.ref 1, .int x1] h Q := am_enter pl_Hole rfl (Nat.le_of_ble_eq_true rfl) k
abbrev y_Hole_waysToLie : MethodName := ⟨"WhichClub$Hole", "waysToLie", "(IIII)I"⟩
abbrev X_Hole_waysToLie (d : Nat) : am_X := (shX, "WhichClub$Hole", prog_5_method_33_code, 10, (some .int), d)
abbrev m_Hole_waysToLie (d : Nat) (vs : List Value) (h : am_H) (Q : am_Q) : Prop := am_M shX y_Hole_waysToLie prog_5_method_33_code 10 (some .int) d vs h Q
theorem p_Hole_waysToLie : y_Hole_waysToLie.cls ≠ "java/lang/invoke/MethodHandle" ∧ y_Hole_waysToLie.cls ≠ "java/lang/invoke/VarHandle" ∧ (parseMethodDescriptor y_Hole_waysToLie.desc).map (fun d => d.parameters.length) = some 4 := by decide +kernel
theorem e_Hole_waysToLie {d : Nat} {x1 : Int32} {x2 : Int32} {x3 : Int32} {x4 : Int32} {h : am_H} {Q : am_Q} (k : am_W (X_Hole_waysToLie d) 0 [some (.ref 1), some (.int x1), some (.int x2), some (.int x3), some (.int x4), none, none, none, none, none] [] h Q) : m_Hole_waysToLie d [.ref 1, .int x1, .int x2, .int x3, .int x4] h Q := am_enter pl_Hole rfl (Nat.le_of_ble_eq_true rfl) k
abbrev y_Club_lies : MethodName := ⟨"WhichClub", "lies", "(III)J"⟩
abbrev X_Club_lies (d : Nat) : am_X := (shX, "WhichClub", prog_1_method_9_code, 6, (some .long), d)
abbrev m_Club_lies (d : Nat) (vs : List Value) (h : am_H) (Q : am_Q) : Prop := am_M shX y_Club_lies prog_1_method_9_code 6 (some .long) d vs h Q
theorem p_Club_lies : y_Club_lies.cls ≠ "java/lang/invoke/MethodHandle" ∧ y_Club_lies.cls ≠ "java/lang/invoke/VarHandle" ∧ (parseMethodDescriptor y_Club_lies.desc).map (fun d => d.parameters.length) = some 3 := by decide +kernel
theorem e_Club_lies {d : Nat} {x1 : Int32} {x2 : Int32} {x3 : Int32} {h : am_H} {Q : am_Q} (k : am_W (X_Club_lies d) 0 [some (.ref 0), some (.int x1), some (.int x2), some (.int x3), none, none] [] h Q) : m_Club_lies d [.ref 0, .int x1, .int x2, .int x3] h Q := am_enter pl_Club rfl (Nat.le_of_ble_eq_true rfl) k
abbrev y_Hole_waysInto : MethodName := ⟨"WhichClub$Hole", "waysInto", "(ZII)I"⟩
abbrev X_Hole_waysInto (d : Nat) : am_X := (shX, "WhichClub$Hole", prog_5_method_34_code, 9, (some .int), d)
abbrev m_Hole_waysInto (d : Nat) (vs : List Value) (h : am_H) (Q : am_Q) : Prop := am_M shX y_Hole_waysInto prog_5_method_34_code 9 (some .int) d vs h Q
theorem p_Hole_waysInto : y_Hole_waysInto.cls ≠ "java/lang/invoke/MethodHandle" ∧ y_Hole_waysInto.cls ≠ "java/lang/invoke/VarHandle" ∧ (parseMethodDescriptor y_Hole_waysInto.desc).map (fun d => d.parameters.length) = some 3 := by decide +kernel
theorem e_Hole_waysInto {d : Nat} {x1 : Int32} {x2 : Int32} {x3 : Int32} {h : am_H} {Q : am_Q} (k : am_W (X_Hole_waysInto d) 0 [some (.ref 1), some (.int x1), some (.int x2), some (.int x3), none, none, none, none, none] [] h Q) : m_Hole_waysInto d [.ref 1, .int x1, .int x2, .int x3] h Q := am_enter pl_Hole rfl (Nat.le_of_ble_eq_true rfl) k
abbrev y_Club_chance : MethodName := ⟨"WhichClub", "chance", "(III)J"⟩
abbrev X_Club_chance (d : Nat) : am_X := (shX, "WhichClub", prog_1_method_10_code, 5, (some .long), d)
abbrev m_Club_chance (d : Nat) (vs : List Value) (h : am_H) (Q : am_Q) : Prop := am_M shX y_Club_chance prog_1_method_10_code 5 (some .long) d vs h Q
theorem p_Club_chance : y_Club_chance.cls ≠ "java/lang/invoke/MethodHandle" ∧ y_Club_chance.cls ≠ "java/lang/invoke/VarHandle" ∧ (parseMethodDescriptor y_Club_chance.desc).map (fun d => d.parameters.length) = some 3 := by decide +kernel
theorem e_Club_chance {d : Nat} {x1 : Int32} {x2 : Int32} {x3 : Int32} {h : am_H} {Q : am_Q} (k : am_W (X_Club_chance d) 0 [some (.ref 0), some (.int x1), some (.int x2), some (.int x3), none] [] h Q) : m_Club_chance d [.ref 0, .int x1, .int x2, .int x3] h Q := am_enter pl_Club rfl (Nat.le_of_ble_eq_true rfl) k
abbrev y_Hole_hasNoClubs : MethodName := ⟨"WhichClub$Hole", "hasNoClubs", "()Z"⟩
abbrev X_Hole_hasNoClubs (d : Nat) : am_X := (shX, "WhichClub$Hole", prog_5_method_10_code, 1, (some .boolean), d)
abbrev m_Hole_hasNoClubs (d : Nat) (vs : List Value) (h : am_H) (Q : am_Q) : Prop := am_M shX y_Hole_hasNoClubs prog_5_method_10_code 1 (some .boolean) d vs h Q
theorem p_Hole_hasNoClubs : y_Hole_hasNoClubs.cls ≠ "java/lang/invoke/MethodHandle" ∧ y_Hole_hasNoClubs.cls ≠ "java/lang/invoke/VarHandle" ∧ (parseMethodDescriptor y_Hole_hasNoClubs.desc).map (fun d => d.parameters.length) = some 0 := by decide +kernel
theorem e_Hole_hasNoClubs {d : Nat} {h : am_H} {Q : am_Q} (k : am_W (X_Hole_hasNoClubs d) 0 [some (.ref 1)] [] h Q) : m_Hole_hasNoClubs d [.ref 1] h Q := am_enter pl_Hole rfl (Nat.le_of_ble_eq_true rfl) k
abbrev y_Hole_clubsHeld : MethodName := ⟨"WhichClub$Hole", "clubsHeld", "()I"⟩
abbrev X_Hole_clubsHeld (d : Nat) : am_X := (shX, "WhichClub$Hole", prog_5_method_9_code, 1, (some .int), d)
abbrev m_Hole_clubsHeld (d : Nat) (vs : List Value) (h : am_H) (Q : am_Q) : Prop := am_M shX y_Hole_clubsHeld prog_5_method_9_code 1 (some .int) d vs h Q
theorem p_Hole_clubsHeld : y_Hole_clubsHeld.cls ≠ "java/lang/invoke/MethodHandle" ∧ y_Hole_clubsHeld.cls ≠ "java/lang/invoke/VarHandle" ∧ (parseMethodDescriptor y_Hole_clubsHeld.desc).map (fun d => d.parameters.length) = some 0 := by decide +kernel
theorem e_Hole_clubsHeld {d : Nat} {h : am_H} {Q : am_Q} (k : am_W (X_Hole_clubsHeld d) 0 [some (.ref 1)] [] h Q) : m_Hole_clubsHeld d [.ref 1] h Q := am_enter pl_Hole rfl (Nat.le_of_ble_eq_true rfl) k
abbrev y_Hole_believedOf : MethodName := ⟨"WhichClub$Hole", "believedOf", "(I)I"⟩
abbrev X_Hole_believedOf (d : Nat) : am_X := (shX, "WhichClub$Hole", prog_5_method_17_code, 2, (some .int), d)
abbrev m_Hole_believedOf (d : Nat) (vs : List Value) (h : am_H) (Q : am_Q) : Prop := am_M shX y_Hole_believedOf prog_5_method_17_code 2 (some .int) d vs h Q
theorem p_Hole_believedOf : y_Hole_believedOf.cls ≠ "java/lang/invoke/MethodHandle" ∧ y_Hole_believedOf.cls ≠ "java/lang/invoke/VarHandle" ∧ (parseMethodDescriptor y_Hole_believedOf.desc).map (fun d => d.parameters.length) = some 1 := by decide +kernel
theorem e_Hole_believedOf {d : Nat} {x1 : Int32} {h : am_H} {Q : am_Q} (k : am_W (X_Hole_believedOf d) 0 [some (.ref 1), some (.int x1)] [] h Q) : m_Hole_believedOf d [.ref 1, .int x1] h Q := am_enter pl_Hole rfl (Nat.le_of_ble_eq_true rfl) k
abbrev y_Hole_cellsToPin : MethodName := ⟨"WhichClub$Hole", "cellsToPin", "(I)I"⟩
abbrev X_Hole_cellsToPin (d : Nat) : am_X := (shX, "WhichClub$Hole", prog_5_method_28_code, 2, (some .int), d)
abbrev m_Hole_cellsToPin (d : Nat) (vs : List Value) (h : am_H) (Q : am_Q) : Prop := am_M shX y_Hole_cellsToPin prog_5_method_28_code 2 (some .int) d vs h Q
theorem p_Hole_cellsToPin : y_Hole_cellsToPin.cls ≠ "java/lang/invoke/MethodHandle" ∧ y_Hole_cellsToPin.cls ≠ "java/lang/invoke/VarHandle" ∧ (parseMethodDescriptor y_Hole_cellsToPin.desc).map (fun d => d.parameters.length) = some 1 := by decide +kernel
theorem e_Hole_cellsToPin {d : Nat} {x1 : Int32} {h : am_H} {Q : am_Q} (k : am_W (X_Hole_cellsToPin d) 0 [some (.ref 1), some (.int x1)] [] h Q) : m_Hole_cellsToPin d [.ref 1, .int x1] h Q := am_enter pl_Hole rfl (Nat.le_of_ble_eq_true rfl) k
abbrev y_Hole_groundOf : MethodName := ⟨"WhichClub$Hole", "groundOf", "(I)I"⟩
abbrev X_Hole_groundOf (d : Nat) : am_X := (shX, "WhichClub$Hole", prog_5_method_24_code, 2, (some .int), d)
abbrev m_Hole_groundOf (d : Nat) (vs : List Value) (h : am_H) (Q : am_Q) : Prop := am_M shX y_Hole_groundOf prog_5_method_24_code 2 (some .int) d vs h Q
theorem p_Hole_groundOf : y_Hole_groundOf.cls ≠ "java/lang/invoke/MethodHandle" ∧ y_Hole_groundOf.cls ≠ "java/lang/invoke/VarHandle" ∧ (parseMethodDescriptor y_Hole_groundOf.desc).map (fun d => d.parameters.length) = some 1 := by decide +kernel
theorem e_Hole_groundOf {d : Nat} {x1 : Int32} {h : am_H} {Q : am_Q} (k : am_W (X_Hole_groundOf d) 0 [some (.ref 1), some (.int x1)] [] h Q) : m_Hole_groundOf d [.ref 1, .int x1] h Q := am_enter pl_Hole rfl (Nat.le_of_ble_eq_true rfl) k
abbrev y_Hole_windNow : MethodName := ⟨"WhichClub$Hole", "windNow", "()I"⟩
abbrev X_Hole_windNow (d : Nat) : am_X := (shX, "WhichClub$Hole", prog_5_method_25_code, 1, (some .int), d)
abbrev m_Hole_windNow (d : Nat) (vs : List Value) (h : am_H) (Q : am_Q) : Prop := am_M shX y_Hole_windNow prog_5_method_25_code 1 (some .int) d vs h Q
theorem p_Hole_windNow : y_Hole_windNow.cls ≠ "java/lang/invoke/MethodHandle" ∧ y_Hole_windNow.cls ≠ "java/lang/invoke/VarHandle" ∧ (parseMethodDescriptor y_Hole_windNow.desc).map (fun d => d.parameters.length) = some 0 := by decide +kernel
theorem e_Hole_windNow {d : Nat} {h : am_H} {Q : am_Q} (k : am_W (X_Hole_windNow d) 0 [some (.ref 1)] [] h Q) : m_Hole_windNow d [.ref 1] h Q := am_enter pl_Hole rfl (Nat.le_of_ble_eq_true rfl) k
abbrev y_Law_hasText : MethodName := ⟨"WhichClub$Law", "hasText", "()Z"⟩
abbrev X_Law_hasText (d : Nat) : am_X := (shX, "WhichClub$Law", prog_6_method_17_code, 1, (some .boolean), d)
abbrev m_Law_hasText (d : Nat) (vs : List Value) (h : am_H) (Q : am_Q) : Prop := am_M shX y_Law_hasText prog_6_method_17_code 1 (some .boolean) d vs h Q
theorem p_Law_hasText : y_Law_hasText.cls ≠ "java/lang/invoke/MethodHandle" ∧ y_Law_hasText.cls ≠ "java/lang/invoke/VarHandle" ∧ (parseMethodDescriptor y_Law_hasText.desc).map (fun d => d.parameters.length) = some 0 := by decide +kernel
theorem e_Law_hasText {d : Nat} {h : am_H} {Q : am_Q} (k : am_W (X_Law_hasText d) 0 [some (.ref 6)] [] h Q) : m_Law_hasText d [.ref 6] h Q := am_enter pl_Law rfl (Nat.le_of_ble_eq_true rfl) k
abbrev y_Law_nameNumbers : MethodName := ⟨"WhichClub$Law", "nameNumbers", "(IIIIII)V"⟩
abbrev X_Law_nameNumbers (d : Nat) : am_X := (shX, "WhichClub$Law", prog_6_method_18_code, 7, none, d)
abbrev m_Law_nameNumbers (d : Nat) (vs : List Value) (h : am_H) (Q : am_Q) : Prop := am_M shX y_Law_nameNumbers prog_6_method_18_code 7 none d vs h Q
theorem p_Law_nameNumbers : y_Law_nameNumbers.cls ≠ "java/lang/invoke/MethodHandle" ∧ y_Law_nameNumbers.cls ≠ "java/lang/invoke/VarHandle" ∧ (parseMethodDescriptor y_Law_nameNumbers.desc).map (fun d => d.parameters.length) = some 6 := by decide +kernel
theorem e_Law_nameNumbers {d : Nat} {x1 : Int32} {x2 : Int32} {x3 : Int32} {x4 : Int32} {x5 : Int32} {x6 : Int32} {h : am_H} {Q : am_Q} (k : am_W (X_Law_nameNumbers d) 0 [some (.ref 6), some (.int x1), some (.int x2), some (.int x3), some (.int x4), some (.int x5), some (.int x6)] [] h Q) : m_Law_nameNumbers d [.ref 6, .int x1, .int x2, .int x3, .int x4, .int x5, .int x6] h Q := am_enter pl_Law rfl (Nat.le_of_ble_eq_true rfl) k
abbrev y_Law_join : MethodName := ⟨"WhichClub$Law", "join", "(III)I"⟩
abbrev X_Law_join (d : Nat) : am_X := (shX, "WhichClub$Law", prog_6_method_21_code, 3, (some .int), d)
abbrev m_Law_join (d : Nat) (vs : List Value) (h : am_H) (Q : am_Q) : Prop := am_M shX y_Law_join prog_6_method_21_code 3 (some .int) d vs h Q
theorem p_Law_join : y_Law_join.cls ≠ "java/lang/invoke/MethodHandle" ∧ y_Law_join.cls ≠ "java/lang/invoke/VarHandle" ∧ (parseMethodDescriptor y_Law_join.desc).map (fun d => d.parameters.length) = some 3 := by decide +kernel
theorem e_Law_join {d : Nat} {x0 : Int32} {x1 : Int32} {x2 : Int32} {h : am_H} {Q : am_Q} (k : am_W (X_Law_join d) 0 [some (.int x0), some (.int x1), some (.int x2)] [] h Q) : m_Law_join d [.int x0, .int x1, .int x2] h Q := am_enter pl_Law rfl (Nat.le_of_ble_eq_true rfl) k
abbrev y_Law_valueOf : MethodName := ⟨"WhichClub$Law", "valueOf", "(I)I"⟩
abbrev X_Law_valueOf (d : Nat) : am_X := (shX, "WhichClub$Law", prog_6_method_20_code, 3, (some .int), d)
abbrev m_Law_valueOf (d : Nat) (vs : List Value) (h : am_H) (Q : am_Q) : Prop := am_M shX y_Law_valueOf prog_6_method_20_code 3 (some .int) d vs h Q
theorem p_Law_valueOf : y_Law_valueOf.cls ≠ "java/lang/invoke/MethodHandle" ∧ y_Law_valueOf.cls ≠ "java/lang/invoke/VarHandle" ∧ (parseMethodDescriptor y_Law_valueOf.desc).map (fun d => d.parameters.length) = some 1 := by decide +kernel
theorem e_Law_valueOf {d : Nat} {x1 : Int32} {h : am_H} {Q : am_Q} (k : am_W (X_Law_valueOf d) 0 [some (.ref 6), some (.int x1), none] [] h Q) : m_Law_valueOf d [.ref 6, .int x1] h Q := am_enter pl_Law rfl (Nat.le_of_ble_eq_true rfl) k
abbrev y_Law_workOut : MethodName := ⟨"WhichClub$Law", "workOut", "()I"⟩
abbrev X_Law_workOut (d : Nat) : am_X := (shX, "WhichClub$Law", prog_6_method_19_code, 5, (some .int), d)
abbrev m_Law_workOut (d : Nat) (vs : List Value) (h : am_H) (Q : am_Q) : Prop := am_M shX y_Law_workOut prog_6_method_19_code 5 (some .int) d vs h Q
theorem p_Law_workOut : y_Law_workOut.cls ≠ "java/lang/invoke/MethodHandle" ∧ y_Law_workOut.cls ≠ "java/lang/invoke/VarHandle" ∧ (parseMethodDescriptor y_Law_workOut.desc).map (fun d => d.parameters.length) = some 0 := by decide +kernel
theorem e_Law_workOut {d : Nat} {h : am_H} {Q : am_Q} (k : am_W (X_Law_workOut d) 0 [some (.ref 6), none, none, none, none] [] h Q) : m_Law_workOut d [.ref 6] h Q := am_enter pl_Law rfl (Nat.le_of_ble_eq_true rfl) k
abbrev y_Reck_rankOf : MethodName := ⟨"WhichClub$Reckoning", "rankOf", "(III)I"⟩
abbrev X_Reck_rankOf (d : Nat) : am_X := (shX, "WhichClub$Reckoning", prog_7_method_7_code, 7, (some .int), d)
abbrev m_Reck_rankOf (d : Nat) (vs : List Value) (h : am_H) (Q : am_Q) : Prop := am_M shX y_Reck_rankOf prog_7_method_7_code 7 (some .int) d vs h Q
theorem p_Reck_rankOf : y_Reck_rankOf.cls ≠ "java/lang/invoke/MethodHandle" ∧ y_Reck_rankOf.cls ≠ "java/lang/invoke/VarHandle" ∧ (parseMethodDescriptor y_Reck_rankOf.desc).map (fun d => d.parameters.length) = some 3 := by decide +kernel
theorem e_Reck_rankOf {d : Nat} {x1 : Int32} {x2 : Int32} {x3 : Int32} {h : am_H} {Q : am_Q} (k : am_W (X_Reck_rankOf d) 0 [some (.ref 12), some (.int x1), some (.int x2), some (.int x3), none, none, none] [] h Q) : m_Reck_rankOf d [.ref 12, .int x1, .int x2, .int x3] h Q := am_enter pl_Reck rfl (Nat.le_of_ble_eq_true rfl) k
abbrev y_Reck_clubTold : MethodName := ⟨"WhichClub$Reckoning", "clubTold", "(II)I"⟩
abbrev X_Reck_clubTold (d : Nat) : am_X := (shX, "WhichClub$Reckoning", prog_7_method_6_code, 7, (some .int), d)
abbrev m_Reck_clubTold (d : Nat) (vs : List Value) (h : am_H) (Q : am_Q) : Prop := am_M shX y_Reck_clubTold prog_7_method_6_code 7 (some .int) d vs h Q
theorem p_Reck_clubTold : y_Reck_clubTold.cls ≠ "java/lang/invoke/MethodHandle" ∧ y_Reck_clubTold.cls ≠ "java/lang/invoke/VarHandle" ∧ (parseMethodDescriptor y_Reck_clubTold.desc).map (fun d => d.parameters.length) = some 2 := by decide +kernel
theorem e_Reck_clubTold {d : Nat} {x1 : Int32} {x2 : Int32} {h : am_H} {Q : am_Q} (k : am_W (X_Reck_clubTold d) 0 [some (.ref 12), some (.int x1), some (.int x2), none, none, none, none] [] h Q) : m_Reck_clubTold d [.ref 12, .int x1, .int x2] h Q := am_enter pl_Reck rfl (Nat.le_of_ble_eq_true rfl) k
abbrev y_Club_believed : MethodName := ⟨"WhichClub", "believed", "(I)I"⟩
abbrev X_Club_believed (d : Nat) : am_X := (shX, "WhichClub", prog_1_method_11_code, 2, (some .int), d)
abbrev m_Club_believed (d : Nat) (vs : List Value) (h : am_H) (Q : am_Q) : Prop := am_M shX y_Club_believed prog_1_method_11_code 2 (some .int) d vs h Q
theorem p_Club_believed : y_Club_believed.cls ≠ "java/lang/invoke/MethodHandle" ∧ y_Club_believed.cls ≠ "java/lang/invoke/VarHandle" ∧ (parseMethodDescriptor y_Club_believed.desc).map (fun d => d.parameters.length) = some 1 := by decide +kernel
theorem e_Club_believed {d : Nat} {x1 : Int32} {h : am_H} {Q : am_Q} (k : am_W (X_Club_believed d) 0 [some (.ref 0), some (.int x1)] [] h Q) : m_Club_believed d [.ref 0, .int x1] h Q := am_enter pl_Club rfl (Nat.le_of_ble_eq_true rfl) k
abbrev y_Hole_farthestDry : MethodName := ⟨"WhichClub$Hole", "farthestDry", "(I)I"⟩
abbrev X_Hole_farthestDry (d : Nat) : am_X := (shX, "WhichClub$Hole", prog_5_method_35_code, 6, (some .int), d)
abbrev m_Hole_farthestDry (d : Nat) (vs : List Value) (h : am_H) (Q : am_Q) : Prop := am_M shX y_Hole_farthestDry prog_5_method_35_code 6 (some .int) d vs h Q
theorem p_Hole_farthestDry : y_Hole_farthestDry.cls ≠ "java/lang/invoke/MethodHandle" ∧ y_Hole_farthestDry.cls ≠ "java/lang/invoke/VarHandle" ∧ (parseMethodDescriptor y_Hole_farthestDry.desc).map (fun d => d.parameters.length) = some 1 := by decide +kernel
theorem e_Hole_farthestDry {d : Nat} {x1 : Int32} {h : am_H} {Q : am_Q} (k : am_W (X_Hole_farthestDry d) 0 [some (.ref 1), some (.int x1), none, none, none, none] [] h Q) : m_Hole_farthestDry d [.ref 1, .int x1] h Q := am_enter pl_Hole rfl (Nat.le_of_ble_eq_true rfl) k
abbrev y_Club_layUp : MethodName := ⟨"WhichClub", "layUp", "(I)I"⟩
abbrev X_Club_layUp (d : Nat) : am_X := (shX, "WhichClub", prog_1_method_12_code, 2, (some .int), d)
abbrev m_Club_layUp (d : Nat) (vs : List Value) (h : am_H) (Q : am_Q) : Prop := am_M shX y_Club_layUp prog_1_method_12_code 2 (some .int) d vs h Q
theorem p_Club_layUp : y_Club_layUp.cls ≠ "java/lang/invoke/MethodHandle" ∧ y_Club_layUp.cls ≠ "java/lang/invoke/VarHandle" ∧ (parseMethodDescriptor y_Club_layUp.desc).map (fun d => d.parameters.length) = some 1 := by decide +kernel
theorem e_Club_layUp {d : Nat} {x1 : Int32} {h : am_H} {Q : am_Q} (k : am_W (X_Club_layUp d) 0 [some (.ref 0), some (.int x1)] [] h Q) : m_Club_layUp d [.ref 0, .int x1] h Q := am_enter pl_Club rfl (Nat.le_of_ble_eq_true rfl) k
abbrev y_Reck_bestClub : MethodName := ⟨"WhichClub$Reckoning", "bestClub", "(II)I"⟩
abbrev X_Reck_bestClub (d : Nat) : am_X := (shX, "WhichClub$Reckoning", prog_7_method_14_code, 4, (some .int), d)
abbrev m_Reck_bestClub (d : Nat) (vs : List Value) (h : am_H) (Q : am_Q) : Prop := am_M shX y_Reck_bestClub prog_7_method_14_code 4 (some .int) d vs h Q
theorem p_Reck_bestClub : y_Reck_bestClub.cls ≠ "java/lang/invoke/MethodHandle" ∧ y_Reck_bestClub.cls ≠ "java/lang/invoke/VarHandle" ∧ (parseMethodDescriptor y_Reck_bestClub.desc).map (fun d => d.parameters.length) = some 2 := by decide +kernel
theorem e_Reck_bestClub {d : Nat} {x1 : Int32} {x2 : Int32} {h : am_H} {Q : am_Q} (k : am_W (X_Reck_bestClub d) 0 [some (.ref 12), some (.int x1), some (.int x2), none] [] h Q) : m_Reck_bestClub d [.ref 12, .int x1, .int x2] h Q := am_enter pl_Reck rfl (Nat.le_of_ble_eq_true rfl) k
abbrev y_Hole_puttTwelfths : MethodName := ⟨"WhichClub$Hole", "puttTwelfths", "(I)I"⟩
abbrev X_Hole_puttTwelfths (d : Nat) : am_X := (shX, "WhichClub$Hole", prog_5_method_29_code, 2, (some .int), d)
abbrev m_Hole_puttTwelfths (d : Nat) (vs : List Value) (h : am_H) (Q : am_Q) : Prop := am_M shX y_Hole_puttTwelfths prog_5_method_29_code 2 (some .int) d vs h Q
theorem p_Hole_puttTwelfths : y_Hole_puttTwelfths.cls ≠ "java/lang/invoke/MethodHandle" ∧ y_Hole_puttTwelfths.cls ≠ "java/lang/invoke/VarHandle" ∧ (parseMethodDescriptor y_Hole_puttTwelfths.desc).map (fun d => d.parameters.length) = some 1 := by decide +kernel
theorem e_Hole_puttTwelfths {d : Nat} {x1 : Int32} {h : am_H} {Q : am_Q} (k : am_W (X_Hole_puttTwelfths d) 0 [some (.ref 1), some (.int x1)] [] h Q) : m_Hole_puttTwelfths d [.ref 1, .int x1] h Q := am_enter pl_Hole rfl (Nat.le_of_ble_eq_true rfl) k
abbrev y_Hole_strokesUnplayed : MethodName := ⟨"WhichClub$Hole", "strokesUnplayed", "(I)I"⟩
abbrev X_Hole_strokesUnplayed (d : Nat) : am_X := (shX, "WhichClub$Hole", prog_5_method_30_code, 2, (some .int), d)
abbrev m_Hole_strokesUnplayed (d : Nat) (vs : List Value) (h : am_H) (Q : am_Q) : Prop := am_M shX y_Hole_strokesUnplayed prog_5_method_30_code 2 (some .int) d vs h Q
theorem p_Hole_strokesUnplayed : y_Hole_strokesUnplayed.cls ≠ "java/lang/invoke/MethodHandle" ∧ y_Hole_strokesUnplayed.cls ≠ "java/lang/invoke/VarHandle" ∧ (parseMethodDescriptor y_Hole_strokesUnplayed.desc).map (fun d => d.parameters.length) = some 1 := by decide +kernel
theorem e_Hole_strokesUnplayed {d : Nat} {x1 : Int32} {h : am_H} {Q : am_Q} (k : am_W (X_Hole_strokesUnplayed d) 0 [some (.ref 1), some (.int x1)] [] h Q) : m_Hole_strokesUnplayed d [.ref 1, .int x1] h Q := am_enter pl_Hole rfl (Nat.le_of_ble_eq_true rfl) k
abbrev y_Reck_keepBest : MethodName := ⟨"WhichClub$Reckoning", "keepBest", "(III)V"⟩
abbrev X_Reck_keepBest (d : Nat) : am_X := (shX, "WhichClub$Reckoning", prog_7_method_13_code, 5, none, d)
abbrev m_Reck_keepBest (d : Nat) (vs : List Value) (h : am_H) (Q : am_Q) : Prop := am_M shX y_Reck_keepBest prog_7_method_13_code 5 none d vs h Q
theorem p_Reck_keepBest : y_Reck_keepBest.cls ≠ "java/lang/invoke/MethodHandle" ∧ y_Reck_keepBest.cls ≠ "java/lang/invoke/VarHandle" ∧ (parseMethodDescriptor y_Reck_keepBest.desc).map (fun d => d.parameters.length) = some 3 := by decide +kernel
theorem e_Reck_keepBest {d : Nat} {x1 : Int32} {x2 : Int32} {x3 : Int32} {h : am_H} {Q : am_Q} (k : am_W (X_Reck_keepBest d) 0 [some (.ref 12), some (.int x1), some (.int x2), some (.int x3), none] [] h Q) : m_Reck_keepBest d [.ref 12, .int x1, .int x2, .int x3] h Q := am_enter pl_Reck rfl (Nat.le_of_ble_eq_true rfl) k
abbrev y_Reck_lawfulClub : MethodName := ⟨"WhichClub$Reckoning", "lawfulClub", "(I)I"⟩
abbrev X_Reck_lawfulClub (d : Nat) : am_X := (shX, "WhichClub$Reckoning", prog_7_method_15_code, 2, (some .int), d)
abbrev m_Reck_lawfulClub (d : Nat) (vs : List Value) (h : am_H) (Q : am_Q) : Prop := am_M shX y_Reck_lawfulClub prog_7_method_15_code 2 (some .int) d vs h Q
theorem p_Reck_lawfulClub : y_Reck_lawfulClub.cls ≠ "java/lang/invoke/MethodHandle" ∧ y_Reck_lawfulClub.cls ≠ "java/lang/invoke/VarHandle" ∧ (parseMethodDescriptor y_Reck_lawfulClub.desc).map (fun d => d.parameters.length) = some 1 := by decide +kernel
theorem e_Reck_lawfulClub {d : Nat} {x1 : Int32} {h : am_H} {Q : am_Q} (k : am_W (X_Reck_lawfulClub d) 0 [some (.ref 12), some (.int x1)] [] h Q) : m_Reck_lawfulClub d [.ref 12, .int x1] h Q := am_enter pl_Reck rfl (Nat.le_of_ble_eq_true rfl) k
abbrev y_Reck_unit : MethodName := ⟨"WhichClub$Reckoning", "unit", "(I)J"⟩
abbrev X_Reck_unit (d : Nat) : am_X := (shX, "WhichClub$Reckoning", prog_7_method_5_code, 1, (some .long), d)
abbrev m_Reck_unit (d : Nat) (vs : List Value) (h : am_H) (Q : am_Q) : Prop := am_M shX y_Reck_unit prog_7_method_5_code 1 (some .long) d vs h Q
theorem p_Reck_unit : y_Reck_unit.cls ≠ "java/lang/invoke/MethodHandle" ∧ y_Reck_unit.cls ≠ "java/lang/invoke/VarHandle" ∧ (parseMethodDescriptor y_Reck_unit.desc).map (fun d => d.parameters.length) = some 1 := by decide +kernel
theorem e_Reck_unit {d : Nat} {x0 : Int32} {h : am_H} {Q : am_Q} (k : am_W (X_Reck_unit d) 0 [some (.int x0)] [] h Q) : m_Reck_unit d [.int x0] h Q := am_enter pl_Reck rfl (Nat.le_of_ble_eq_true rfl) k
abbrev y_Reck_meanByClub : MethodName := ⟨"WhichClub$Reckoning", "meanByClub", "(IIII)J"⟩
abbrev X_Reck_meanByClub (d : Nat) : am_X := (shX, "WhichClub$Reckoning", prog_7_method_12_code, 14, (some .long), d)
abbrev m_Reck_meanByClub (d : Nat) (vs : List Value) (h : am_H) (Q : am_Q) : Prop := am_M shX y_Reck_meanByClub prog_7_method_12_code 14 (some .long) d vs h Q
theorem p_Reck_meanByClub : y_Reck_meanByClub.cls ≠ "java/lang/invoke/MethodHandle" ∧ y_Reck_meanByClub.cls ≠ "java/lang/invoke/VarHandle" ∧ (parseMethodDescriptor y_Reck_meanByClub.desc).map (fun d => d.parameters.length) = some 4 := by decide +kernel
theorem e_Reck_meanByClub {d : Nat} {x1 : Int32} {x2 : Int32} {x3 : Int32} {x4 : Int32} {h : am_H} {Q : am_Q} (k : am_W (X_Reck_meanByClub d) 0 [some (.ref 12), some (.int x1), some (.int x2), some (.int x3), some (.int x4), none, none, none, none, none, none, none, none, none] [] h Q) : m_Reck_meanByClub d [.ref 12, .int x1, .int x2, .int x3, .int x4] h Q := am_enter pl_Reck rfl (Nat.le_of_ble_eq_true rfl) k
abbrev y_Reck_workOut : MethodName := ⟨"WhichClub$Reckoning", "workOut", "(III)J"⟩
abbrev X_Reck_workOut (d : Nat) : am_X := (shX, "WhichClub$Reckoning", prog_7_method_11_code, 10, (some .long), d)
abbrev m_Reck_workOut (d : Nat) (vs : List Value) (h : am_H) (Q : am_Q) : Prop := am_M shX y_Reck_workOut prog_7_method_11_code 10 (some .long) d vs h Q
theorem p_Reck_workOut : y_Reck_workOut.cls ≠ "java/lang/invoke/MethodHandle" ∧ y_Reck_workOut.cls ≠ "java/lang/invoke/VarHandle" ∧ (parseMethodDescriptor y_Reck_workOut.desc).map (fun d => d.parameters.length) = some 3 := by decide +kernel
theorem e_Reck_workOut {d : Nat} {x1 : Int32} {x2 : Int32} {x3 : Int32} {h : am_H} {Q : am_Q} (k : am_W (X_Reck_workOut d) 0 [some (.ref 12), some (.int x1), some (.int x2), some (.int x3), none, none, none, none, none, none] [] h Q) : m_Reck_workOut d [.ref 12, .int x1, .int x2, .int x3] h Q := am_enter pl_Reck rfl (Nat.le_of_ble_eq_true rfl) k
abbrev y_Reck_mean : MethodName := ⟨"WhichClub$Reckoning", "mean", "(III)J"⟩
abbrev X_Reck_mean (d : Nat) : am_X := (shX, "WhichClub$Reckoning", prog_7_method_10_code, 8, (some .long), d)
abbrev m_Reck_mean (d : Nat) (vs : List Value) (h : am_H) (Q : am_Q) : Prop := am_M shX y_Reck_mean prog_7_method_10_code 8 (some .long) d vs h Q
theorem p_Reck_mean : y_Reck_mean.cls ≠ "java/lang/invoke/MethodHandle" ∧ y_Reck_mean.cls ≠ "java/lang/invoke/VarHandle" ∧ (parseMethodDescriptor y_Reck_mean.desc).map (fun d => d.parameters.length) = some 3 := by decide +kernel
theorem e_Reck_mean {d : Nat} {x1 : Int32} {x2 : Int32} {x3 : Int32} {h : am_H} {Q : am_Q} (k : am_W (X_Reck_mean d) 0 [some (.ref 12), some (.int x1), some (.int x2), some (.int x3), none, none, none, none] [] h Q) : m_Reck_mean d [.ref 12, .int x1, .int x2, .int x3] h Q := am_enter pl_Reck rfl (Nat.le_of_ble_eq_true rfl) k
abbrev y_Club_strokes : MethodName := ⟨"WhichClub", "strokes", "(III)J"⟩
abbrev X_Club_strokes (d : Nat) : am_X := (shX, "WhichClub", prog_1_method_14_code, 6, (some .long), d)
abbrev m_Club_strokes (d : Nat) (vs : List Value) (h : am_H) (Q : am_Q) : Prop := am_M shX y_Club_strokes prog_1_method_14_code 6 (some .long) d vs h Q
theorem p_Club_strokes : y_Club_strokes.cls ≠ "java/lang/invoke/MethodHandle" ∧ y_Club_strokes.cls ≠ "java/lang/invoke/VarHandle" ∧ (parseMethodDescriptor y_Club_strokes.desc).map (fun d => d.parameters.length) = some 3 := by decide +kernel
theorem e_Club_strokes {d : Nat} {x1 : Int32} {x2 : Int32} {x3 : Int32} {h : am_H} {Q : am_Q} (k : am_W (X_Club_strokes d) 0 [some (.ref 0), some (.int x1), some (.int x2), some (.int x3), none, none] [] h Q) : m_Club_strokes d [.ref 0, .int x1, .int x2, .int x3] h Q := am_enter pl_Club rfl (Nat.le_of_ble_eq_true rfl) k
abbrev y_Reck_findLawfulClubs : MethodName := ⟨"WhichClub$Reckoning", "findLawfulClubs", "()V"⟩
abbrev X_Reck_findLawfulClubs (d : Nat) : am_X := (shX, "WhichClub$Reckoning", prog_7_method_8_code, 2, none, d)
abbrev m_Reck_findLawfulClubs (d : Nat) (vs : List Value) (h : am_H) (Q : am_Q) : Prop := am_M shX y_Reck_findLawfulClubs prog_7_method_8_code 2 none d vs h Q
theorem p_Reck_findLawfulClubs : y_Reck_findLawfulClubs.cls ≠ "java/lang/invoke/MethodHandle" ∧ y_Reck_findLawfulClubs.cls ≠ "java/lang/invoke/VarHandle" ∧ (parseMethodDescriptor y_Reck_findLawfulClubs.desc).map (fun d => d.parameters.length) = some 0 := by decide +kernel
theorem e_Reck_findLawfulClubs {d : Nat} {h : am_H} {Q : am_Q} (k : am_W (X_Reck_findLawfulClubs d) 0 [some (.ref 12), none] [] h Q) : m_Reck_findLawfulClubs d [.ref 12] h Q := am_enter pl_Reck rfl (Nat.le_of_ble_eq_true rfl) k
abbrev y_Reck_meanByLaw : MethodName := ⟨"WhichClub$Reckoning", "meanByLaw", "(II)J"⟩
abbrev X_Reck_meanByLaw (d : Nat) : am_X := (shX, "WhichClub$Reckoning", prog_7_method_9_code, 3, (some .long), d)
abbrev m_Reck_meanByLaw (d : Nat) (vs : List Value) (h : am_H) (Q : am_Q) : Prop := am_M shX y_Reck_meanByLaw prog_7_method_9_code 3 (some .long) d vs h Q
theorem p_Reck_meanByLaw : y_Reck_meanByLaw.cls ≠ "java/lang/invoke/MethodHandle" ∧ y_Reck_meanByLaw.cls ≠ "java/lang/invoke/VarHandle" ∧ (parseMethodDescriptor y_Reck_meanByLaw.desc).map (fun d => d.parameters.length) = some 2 := by decide +kernel
theorem e_Reck_meanByLaw {d : Nat} {x1 : Int32} {x2 : Int32} {h : am_H} {Q : am_Q} (k : am_W (X_Reck_meanByLaw d) 0 [some (.ref 12), some (.int x1), some (.int x2)] [] h Q) : m_Reck_meanByLaw d [.ref 12, .int x1, .int x2] h Q := am_enter pl_Reck rfl (Nat.le_of_ble_eq_true rfl) k
abbrev y_Club_byLaw : MethodName := ⟨"WhichClub", "byLaw", "(III)J"⟩
abbrev X_Club_byLaw (d : Nat) : am_X := (shX, "WhichClub", prog_1_method_15_code, 4, (some .long), d)
abbrev m_Club_byLaw (d : Nat) (vs : List Value) (h : am_H) (Q : am_Q) : Prop := am_M shX y_Club_byLaw prog_1_method_15_code 4 (some .long) d vs h Q
theorem p_Club_byLaw : y_Club_byLaw.cls ≠ "java/lang/invoke/MethodHandle" ∧ y_Club_byLaw.cls ≠ "java/lang/invoke/VarHandle" ∧ (parseMethodDescriptor y_Club_byLaw.desc).map (fun d => d.parameters.length) = some 3 := by decide +kernel
theorem e_Club_byLaw {d : Nat} {x1 : Int32} {x2 : Int32} {x3 : Int32} {h : am_H} {Q : am_Q} (k : am_W (X_Club_byLaw d) 0 [some (.ref 0), some (.int x1), some (.int x2), some (.int x3)] [] h Q) : m_Club_byLaw d [.ref 0, .int x1, .int x2, .int x3] h Q := am_enter pl_Club rfl (Nat.le_of_ble_eq_true rfl) k
abbrev y_Reck_meanTold : MethodName := ⟨"WhichClub$Reckoning", "meanTold", "(III)J"⟩
abbrev X_Reck_meanTold (d : Nat) : am_X := (shX, "WhichClub$Reckoning", prog_7_method_17_code, 4, (some .long), d)
abbrev m_Reck_meanTold (d : Nat) (vs : List Value) (h : am_H) (Q : am_Q) : Prop := am_M shX y_Reck_meanTold prog_7_method_17_code 4 (some .long) d vs h Q
theorem p_Reck_meanTold : y_Reck_meanTold.cls ≠ "java/lang/invoke/MethodHandle" ∧ y_Reck_meanTold.cls ≠ "java/lang/invoke/VarHandle" ∧ (parseMethodDescriptor y_Reck_meanTold.desc).map (fun d => d.parameters.length) = some 3 := by decide +kernel
theorem e_Reck_meanTold {d : Nat} {x1 : Int32} {x2 : Int32} {x3 : Int32} {h : am_H} {Q : am_Q} (k : am_W (X_Reck_meanTold d) 0 [some (.ref 12), some (.int x1), some (.int x2), some (.int x3)] [] h Q) : m_Reck_meanTold d [.ref 12, .int x1, .int x2, .int x3] h Q := am_enter pl_Reck rfl (Nat.le_of_ble_eq_true rfl) k
abbrev y_Reck_bestLie : MethodName := ⟨"WhichClub$Reckoning", "bestLie", "(III)I"⟩
abbrev X_Reck_bestLie (d : Nat) : am_X := (shX, "WhichClub$Reckoning", prog_7_method_18_code, 13, (some .int), d)
abbrev m_Reck_bestLie (d : Nat) (vs : List Value) (h : am_H) (Q : am_Q) : Prop := am_M shX y_Reck_bestLie prog_7_method_18_code 13 (some .int) d vs h Q
theorem p_Reck_bestLie : y_Reck_bestLie.cls ≠ "java/lang/invoke/MethodHandle" ∧ y_Reck_bestLie.cls ≠ "java/lang/invoke/VarHandle" ∧ (parseMethodDescriptor y_Reck_bestLie.desc).map (fun d => d.parameters.length) = some 3 := by decide +kernel
theorem e_Reck_bestLie {d : Nat} {x1 : Int32} {x2 : Int32} {x3 : Int32} {h : am_H} {Q : am_Q} (k : am_W (X_Reck_bestLie d) 0 [some (.ref 12), some (.int x1), some (.int x2), some (.int x3), none, none, none, none, none, none, none, none, none] [] h Q) : m_Reck_bestLie d [.ref 12, .int x1, .int x2, .int x3] h Q := am_enter pl_Reck rfl (Nat.le_of_ble_eq_true rfl) k
abbrev y_Club_lie : MethodName := ⟨"WhichClub", "lie", "(III)J"⟩
abbrev X_Club_lie (d : Nat) : am_X := (shX, "WhichClub", prog_1_method_16_code, 13, (some .long), d)
abbrev m_Club_lie (d : Nat) (vs : List Value) (h : am_H) (Q : am_Q) : Prop := am_M shX y_Club_lie prog_1_method_16_code 13 (some .long) d vs h Q
theorem p_Club_lie : y_Club_lie.cls ≠ "java/lang/invoke/MethodHandle" ∧ y_Club_lie.cls ≠ "java/lang/invoke/VarHandle" ∧ (parseMethodDescriptor y_Club_lie.desc).map (fun d => d.parameters.length) = some 3 := by decide +kernel
theorem e_Club_lie {d : Nat} {x1 : Int32} {x2 : Int32} {x3 : Int32} {h : am_H} {Q : am_Q} (k : am_W (X_Club_lie d) 0 [some (.ref 0), some (.int x1), some (.int x2), some (.int x3), none, none, none, none, none, none, none, none, none] [] h Q) : m_Club_lie d [.ref 0, .int x1, .int x2, .int x3] h Q := am_enter pl_Club rfl (Nat.le_of_ble_eq_true rfl) k
abbrev y_Hole_waysAtBest : MethodName := ⟨"WhichClub$Hole", "waysAtBest", "(II)I"⟩
abbrev X_Hole_waysAtBest (d : Nat) : am_X := (shX, "WhichClub$Hole", prog_5_method_38_code, 3, (some .int), d)
abbrev m_Hole_waysAtBest (d : Nat) (vs : List Value) (h : am_H) (Q : am_Q) : Prop := am_M shX y_Hole_waysAtBest prog_5_method_38_code 3 (some .int) d vs h Q
theorem p_Hole_waysAtBest : y_Hole_waysAtBest.cls ≠ "java/lang/invoke/MethodHandle" ∧ y_Hole_waysAtBest.cls ≠ "java/lang/invoke/VarHandle" ∧ (parseMethodDescriptor y_Hole_waysAtBest.desc).map (fun d => d.parameters.length) = some 2 := by decide +kernel
theorem e_Hole_waysAtBest {d : Nat} {x1 : Int32} {x2 : Int32} {h : am_H} {Q : am_Q} (k : am_W (X_Hole_waysAtBest d) 0 [some (.ref 1), some (.int x1), some (.int x2)] [] h Q) : m_Hole_waysAtBest d [.ref 1, .int x1, .int x2] h Q := am_enter pl_Hole rfl (Nat.le_of_ble_eq_true rfl) k
abbrev y_Hole_waysBold : MethodName := ⟨"WhichClub$Hole", "waysBold", "(II)I"⟩
abbrev X_Hole_waysBold (d : Nat) : am_X := (shX, "WhichClub$Hole", prog_5_method_40_code, 3, (some .int), d)
abbrev m_Hole_waysBold (d : Nat) (vs : List Value) (h : am_H) (Q : am_Q) : Prop := am_M shX y_Hole_waysBold prog_5_method_40_code 3 (some .int) d vs h Q
theorem p_Hole_waysBold : y_Hole_waysBold.cls ≠ "java/lang/invoke/MethodHandle" ∧ y_Hole_waysBold.cls ≠ "java/lang/invoke/VarHandle" ∧ (parseMethodDescriptor y_Hole_waysBold.desc).map (fun d => d.parameters.length) = some 2 := by decide +kernel
theorem e_Hole_waysBold {d : Nat} {x1 : Int32} {x2 : Int32} {h : am_H} {Q : am_Q} (k : am_W (X_Hole_waysBold d) 0 [some (.ref 1), some (.int x1), some (.int x2)] [] h Q) : m_Hole_waysBold d [.ref 1, .int x1, .int x2] h Q := am_enter pl_Hole rfl (Nat.le_of_ble_eq_true rfl) k
abbrev y_Hole_waysSafe : MethodName := ⟨"WhichClub$Hole", "waysSafe", "(II)I"⟩
abbrev X_Hole_waysSafe (d : Nat) : am_X := (shX, "WhichClub$Hole", prog_5_method_39_code, 3, (some .int), d)
abbrev m_Hole_waysSafe (d : Nat) (vs : List Value) (h : am_H) (Q : am_Q) : Prop := am_M shX y_Hole_waysSafe prog_5_method_39_code 3 (some .int) d vs h Q
theorem p_Hole_waysSafe : y_Hole_waysSafe.cls ≠ "java/lang/invoke/MethodHandle" ∧ y_Hole_waysSafe.cls ≠ "java/lang/invoke/VarHandle" ∧ (parseMethodDescriptor y_Hole_waysSafe.desc).map (fun d => d.parameters.length) = some 2 := by decide +kernel
theorem e_Hole_waysSafe {d : Nat} {x1 : Int32} {x2 : Int32} {h : am_H} {Q : am_Q} (k : am_W (X_Hole_waysSafe d) 0 [some (.ref 1), some (.int x1), some (.int x2)] [] h Q) : m_Hole_waysSafe d [.ref 1, .int x1, .int x2] h Q := am_enter pl_Hole rfl (Nat.le_of_ble_eq_true rfl) k
abbrev y_Hole_isBoldBetter : MethodName := ⟨"WhichClub$Hole", "isBoldBetter", "(II)Z"⟩
abbrev X_Hole_isBoldBetter (d : Nat) : am_X := (shX, "WhichClub$Hole", prog_5_method_37_code, 3, (some .boolean), d)
abbrev m_Hole_isBoldBetter (d : Nat) (vs : List Value) (h : am_H) (Q : am_Q) : Prop := am_M shX y_Hole_isBoldBetter prog_5_method_37_code 3 (some .boolean) d vs h Q
theorem p_Hole_isBoldBetter : y_Hole_isBoldBetter.cls ≠ "java/lang/invoke/MethodHandle" ∧ y_Hole_isBoldBetter.cls ≠ "java/lang/invoke/VarHandle" ∧ (parseMethodDescriptor y_Hole_isBoldBetter.desc).map (fun d => d.parameters.length) = some 2 := by decide +kernel
theorem e_Hole_isBoldBetter {d : Nat} {x1 : Int32} {x2 : Int32} {h : am_H} {Q : am_Q} (k : am_W (X_Hole_isBoldBetter d) 0 [some (.ref 1), some (.int x1), some (.int x2)] [] h Q) : m_Hole_isBoldBetter d [.ref 1, .int x1, .int x2] h Q := am_enter pl_Hole rfl (Nat.le_of_ble_eq_true rfl) k
abbrev y_Hole_waysToBeEven : MethodName := ⟨"WhichClub$Hole", "waysToBeEven", "(II)I"⟩
abbrev X_Hole_waysToBeEven (d : Nat) : am_X := (shX, "WhichClub$Hole", prog_5_method_36_code, 3, (some .int), d)
abbrev m_Hole_waysToBeEven (d : Nat) (vs : List Value) (h : am_H) (Q : am_Q) : Prop := am_M shX y_Hole_waysToBeEven prog_5_method_36_code 3 (some .int) d vs h Q
theorem p_Hole_waysToBeEven : y_Hole_waysToBeEven.cls ≠ "java/lang/invoke/MethodHandle" ∧ y_Hole_waysToBeEven.cls ≠ "java/lang/invoke/VarHandle" ∧ (parseMethodDescriptor y_Hole_waysToBeEven.desc).map (fun d => d.parameters.length) = some 2 := by decide +kernel
theorem e_Hole_waysToBeEven {d : Nat} {x1 : Int32} {x2 : Int32} {h : am_H} {Q : am_Q} (k : am_W (X_Hole_waysToBeEven d) 0 [some (.ref 1), some (.int x1), some (.int x2)] [] h Q) : m_Hole_waysToBeEven d [.ref 1, .int x1, .int x2] h Q := am_enter pl_Hole rfl (Nat.le_of_ble_eq_true rfl) k
abbrev y_Club_atPin : MethodName := ⟨"WhichClub", "atPin", "(II)J"⟩
abbrev X_Club_atPin (d : Nat) : am_X := (shX, "WhichClub", prog_1_method_17_code, 6, (some .long), d)
abbrev m_Club_atPin (d : Nat) (vs : List Value) (h : am_H) (Q : am_Q) : Prop := am_M shX y_Club_atPin prog_1_method_17_code 6 (some .long) d vs h Q
theorem p_Club_atPin : y_Club_atPin.cls ≠ "java/lang/invoke/MethodHandle" ∧ y_Club_atPin.cls ≠ "java/lang/invoke/VarHandle" ∧ (parseMethodDescriptor y_Club_atPin.desc).map (fun d => d.parameters.length) = some 2 := by decide +kernel
theorem e_Club_atPin {d : Nat} {x1 : Int32} {x2 : Int32} {h : am_H} {Q : am_Q} (k : am_W (X_Club_atPin d) 0 [some (.ref 0), some (.int x1), some (.int x2), none, none, none] [] h Q) : m_Club_atPin d [.ref 0, .int x1, .int x2] h Q := am_enter pl_Club rfl (Nat.le_of_ble_eq_true rfl) k
abbrev y_Reck_gainBy : MethodName := ⟨"WhichClub$Reckoning", "gainBy", "(JIII)J"⟩
abbrev X_Reck_gainBy (d : Nat) : am_X := (shX, "WhichClub$Reckoning", prog_7_method_22_code, 9, (some .long), d)
abbrev m_Reck_gainBy (d : Nat) (vs : List Value) (h : am_H) (Q : am_Q) : Prop := am_M shX y_Reck_gainBy prog_7_method_22_code 9 (some .long) d vs h Q
theorem p_Reck_gainBy : y_Reck_gainBy.cls ≠ "java/lang/invoke/MethodHandle" ∧ y_Reck_gainBy.cls ≠ "java/lang/invoke/VarHandle" ∧ (parseMethodDescriptor y_Reck_gainBy.desc).map (fun d => d.parameters.length) = some 4 := by decide +kernel
theorem e_Reck_gainBy {d : Nat} {x1 : Int64} {x3 : Int32} {x4 : Int32} {x5 : Int32} {h : am_H} {Q : am_Q} (k : am_W (X_Reck_gainBy d) 0 [some (.ref 12), some (.long x1), none, some (.int x3), some (.int x4), some (.int x5), none, none, none] [] h Q) : m_Reck_gainBy d [.ref 12, .long x1, .int x3, .int x4, .int x5] h Q := am_enter pl_Reck rfl (Nat.le_of_ble_eq_true rfl) k
abbrev y_Reck_findPractice : MethodName := ⟨"WhichClub$Reckoning", "findPractice", "()V"⟩
abbrev X_Reck_findPractice (d : Nat) : am_X := (shX, "WhichClub$Reckoning", prog_7_method_21_code, 9, none, d)
abbrev m_Reck_findPractice (d : Nat) (vs : List Value) (h : am_H) (Q : am_Q) : Prop := am_M shX y_Reck_findPractice prog_7_method_21_code 9 none d vs h Q
theorem p_Reck_findPractice : y_Reck_findPractice.cls ≠ "java/lang/invoke/MethodHandle" ∧ y_Reck_findPractice.cls ≠ "java/lang/invoke/VarHandle" ∧ (parseMethodDescriptor y_Reck_findPractice.desc).map (fun d => d.parameters.length) = some 0 := by decide +kernel
theorem e_Reck_findPractice {d : Nat} {h : am_H} {Q : am_Q} (k : am_W (X_Reck_findPractice d) 0 [some (.ref 12), none, none, none, none, none, none, none, none] [] h Q) : m_Reck_findPractice d [.ref 12] h Q := am_enter pl_Reck rfl (Nat.le_of_ble_eq_true rfl) k
abbrev y_Reck_practiceGain : MethodName := ⟨"WhichClub$Reckoning", "practiceGain", "()J"⟩
abbrev X_Reck_practiceGain (d : Nat) : am_X := (shX, "WhichClub$Reckoning", prog_7_method_20_code, 1, (some .long), d)
abbrev m_Reck_practiceGain (d : Nat) (vs : List Value) (h : am_H) (Q : am_Q) : Prop := am_M shX y_Reck_practiceGain prog_7_method_20_code 1 (some .long) d vs h Q
theorem p_Reck_practiceGain : y_Reck_practiceGain.cls ≠ "java/lang/invoke/MethodHandle" ∧ y_Reck_practiceGain.cls ≠ "java/lang/invoke/VarHandle" ∧ (parseMethodDescriptor y_Reck_practiceGain.desc).map (fun d => d.parameters.length) = some 0 := by decide +kernel
theorem e_Reck_practiceGain {d : Nat} {h : am_H} {Q : am_Q} (k : am_W (X_Reck_practiceGain d) 0 [some (.ref 12)] [] h Q) : m_Reck_practiceGain d [.ref 12] h Q := am_enter pl_Reck rfl (Nat.le_of_ble_eq_true rfl) k
abbrev y_Reck_practiceWhich : MethodName := ⟨"WhichClub$Reckoning", "practiceWhich", "()I"⟩
abbrev X_Reck_practiceWhich (d : Nat) : am_X := (shX, "WhichClub$Reckoning", prog_7_method_19_code, 1, (some .int), d)
abbrev m_Reck_practiceWhich (d : Nat) (vs : List Value) (h : am_H) (Q : am_Q) : Prop := am_M shX y_Reck_practiceWhich prog_7_method_19_code 1 (some .int) d vs h Q
theorem p_Reck_practiceWhich : y_Reck_practiceWhich.cls ≠ "java/lang/invoke/MethodHandle" ∧ y_Reck_practiceWhich.cls ≠ "java/lang/invoke/VarHandle" ∧ (parseMethodDescriptor y_Reck_practiceWhich.desc).map (fun d => d.parameters.length) = some 0 := by decide +kernel
theorem e_Reck_practiceWhich {d : Nat} {h : am_H} {Q : am_Q} (k : am_W (X_Reck_practiceWhich d) 0 [some (.ref 12)] [] h Q) : m_Reck_practiceWhich d [.ref 12] h Q := am_enter pl_Reck rfl (Nat.le_of_ble_eq_true rfl) k
abbrev y_Club_practise : MethodName := ⟨"WhichClub", "practise", "(I)J"⟩
abbrev X_Club_practise (d : Nat) : am_X := (shX, "WhichClub", prog_1_method_18_code, 2, (some .long), d)
abbrev m_Club_practise (d : Nat) (vs : List Value) (h : am_H) (Q : am_Q) : Prop := am_M shX y_Club_practise prog_1_method_18_code 2 (some .long) d vs h Q
theorem p_Club_practise : y_Club_practise.cls ≠ "java/lang/invoke/MethodHandle" ∧ y_Club_practise.cls ≠ "java/lang/invoke/VarHandle" ∧ (parseMethodDescriptor y_Club_practise.desc).map (fun d => d.parameters.length) = some 1 := by decide +kernel
theorem e_Club_practise {d : Nat} {x1 : Int32} {h : am_H} {Q : am_Q} (k : am_W (X_Club_practise d) 0 [some (.ref 0), some (.int x1)] [] h Q) : m_Club_practise d [.ref 0, .int x1] h Q := am_enter pl_Club rfl (Nat.le_of_ble_eq_true rfl) k
abbrev y_Reck_costOfBelief : MethodName := ⟨"WhichClub$Reckoning", "costOfBelief", "()J"⟩
abbrev X_Reck_costOfBelief (d : Nat) : am_X := (shX, "WhichClub$Reckoning", prog_7_method_23_code, 5, (some .long), d)
abbrev m_Reck_costOfBelief (d : Nat) (vs : List Value) (h : am_H) (Q : am_Q) : Prop := am_M shX y_Reck_costOfBelief prog_7_method_23_code 5 (some .long) d vs h Q
theorem p_Reck_costOfBelief : y_Reck_costOfBelief.cls ≠ "java/lang/invoke/MethodHandle" ∧ y_Reck_costOfBelief.cls ≠ "java/lang/invoke/VarHandle" ∧ (parseMethodDescriptor y_Reck_costOfBelief.desc).map (fun d => d.parameters.length) = some 0 := by decide +kernel
theorem e_Reck_costOfBelief {d : Nat} {h : am_H} {Q : am_Q} (k : am_W (X_Reck_costOfBelief d) 0 [some (.ref 12), none, none, none, none] [] h Q) : m_Reck_costOfBelief d [.ref 12] h Q := am_enter pl_Reck rfl (Nat.le_of_ble_eq_true rfl) k
abbrev y_Club_dream : MethodName := ⟨"WhichClub", "dream", "(I)J"⟩
abbrev X_Club_dream (d : Nat) : am_X := (shX, "WhichClub", prog_1_method_19_code, 2, (some .long), d)
abbrev m_Club_dream (d : Nat) (vs : List Value) (h : am_H) (Q : am_Q) : Prop := am_M shX y_Club_dream prog_1_method_19_code 2 (some .long) d vs h Q
theorem p_Club_dream : y_Club_dream.cls ≠ "java/lang/invoke/MethodHandle" ∧ y_Club_dream.cls ≠ "java/lang/invoke/VarHandle" ∧ (parseMethodDescriptor y_Club_dream.desc).map (fun d => d.parameters.length) = some 1 := by decide +kernel
theorem e_Club_dream {d : Nat} {x1 : Int32} {h : am_H} {Q : am_Q} (k : am_W (X_Club_dream d) 0 [some (.ref 0), some (.int x1)] [] h Q) : m_Club_dream d [.ref 0, .int x1] h Q := am_enter pl_Club rfl (Nat.le_of_ble_eq_true rfl) k
abbrev y_Club_refuseRound : MethodName := ⟨"WhichClub", "refuseRound", "(I)I"⟩
abbrev X_Club_refuseRound (d : Nat) : am_X := (shX, "WhichClub", prog_1_method_24_code, 2, (some .int), d)
abbrev m_Club_refuseRound (d : Nat) (vs : List Value) (h : am_H) (Q : am_Q) : Prop := am_M shX y_Club_refuseRound prog_1_method_24_code 2 (some .int) d vs h Q
theorem p_Club_refuseRound : y_Club_refuseRound.cls ≠ "java/lang/invoke/MethodHandle" ∧ y_Club_refuseRound.cls ≠ "java/lang/invoke/VarHandle" ∧ (parseMethodDescriptor y_Club_refuseRound.desc).map (fun d => d.parameters.length) = some 1 := by decide +kernel
theorem e_Club_refuseRound {d : Nat} {x1 : Int32} {h : am_H} {Q : am_Q} (k : am_W (X_Club_refuseRound d) 0 [some (.ref 0), some (.int x1)] [] h Q) : m_Club_refuseRound d [.ref 0, .int x1] h Q := am_enter pl_Club rfl (Nat.le_of_ble_eq_true rfl) k
abbrev y_Rounds_waysToBe : MethodName := ⟨"WhichClub$Rounds", "waysToBe", "(IIII)I"⟩
abbrev X_Rounds_waysToBe (d : Nat) : am_X := (shX, "WhichClub$Rounds", prog_8_method_3_code, 5, (some .int), d)
abbrev m_Rounds_waysToBe (d : Nat) (vs : List Value) (h : am_H) (Q : am_Q) : Prop := am_M shX y_Rounds_waysToBe prog_8_method_3_code 5 (some .int) d vs h Q
theorem p_Rounds_waysToBe : y_Rounds_waysToBe.cls ≠ "java/lang/invoke/MethodHandle" ∧ y_Rounds_waysToBe.cls ≠ "java/lang/invoke/VarHandle" ∧ (parseMethodDescriptor y_Rounds_waysToBe.desc).map (fun d => d.parameters.length) = some 4 := by decide +kernel
theorem e_Rounds_waysToBe {d : Nat} {x1 : Int32} {x2 : Int32} {x3 : Int32} {x4 : Int32} {h : am_H} {Q : am_Q} (k : am_W (X_Rounds_waysToBe d) 0 [some (.ref 17), some (.int x1), some (.int x2), some (.int x3), some (.int x4)] [] h Q) : m_Rounds_waysToBe d [.ref 17, .int x1, .int x2, .int x3, .int x4] h Q := am_enter pl_Rounds rfl (Nat.le_of_ble_eq_true rfl) k
abbrev y_Shelf_length : MethodName := ⟨"WhichClub$Shelf", "length", "()I"⟩
abbrev X_Shelf_length (d : Nat) : am_X := (shX, "WhichClub$Shelf", prog_9_method_11_code, 1, (some .int), d)
abbrev m_Shelf_length (d : Nat) (vs : List Value) (h : am_H) (Q : am_Q) : Prop := am_M shX y_Shelf_length prog_9_method_11_code 1 (some .int) d vs h Q
theorem p_Shelf_length : y_Shelf_length.cls ≠ "java/lang/invoke/MethodHandle" ∧ y_Shelf_length.cls ≠ "java/lang/invoke/VarHandle" ∧ (parseMethodDescriptor y_Shelf_length.desc).map (fun d => d.parameters.length) = some 0 := by decide +kernel
theorem e_Shelf_length {d : Nat} {a0 : Nat} {h : am_H} {Q : am_Q} (k : am_W (X_Shelf_length d) 0 [some (.ref a0)] [] h Q) : m_Shelf_length d [.ref a0] h Q := am_enter pl_Shelf rfl (Nat.le_of_ble_eq_true rfl) k
abbrev y_Rounds_firstWrong : MethodName := ⟨"WhichClub$Rounds", "firstWrong", "(LWhichClub$Shelf;)I"⟩
abbrev X_Rounds_firstWrong (d : Nat) : am_X := (shX, "WhichClub$Rounds", prog_8_method_2_code, 7, (some .int), d)
abbrev m_Rounds_firstWrong (d : Nat) (vs : List Value) (h : am_H) (Q : am_Q) : Prop := am_M shX y_Rounds_firstWrong prog_8_method_2_code 7 (some .int) d vs h Q
theorem p_Rounds_firstWrong : y_Rounds_firstWrong.cls ≠ "java/lang/invoke/MethodHandle" ∧ y_Rounds_firstWrong.cls ≠ "java/lang/invoke/VarHandle" ∧ (parseMethodDescriptor y_Rounds_firstWrong.desc).map (fun d => d.parameters.length) = some 1 := by decide +kernel
theorem e_Rounds_firstWrong {d : Nat} {a1 : Nat} {h : am_H} {Q : am_Q} (k : am_W (X_Rounds_firstWrong d) 0 [some (.ref 17), some (.ref a1), none, none, none, none, none] [] h Q) : m_Rounds_firstWrong d [.ref 17, .ref a1] h Q := am_enter pl_Rounds rfl (Nat.le_of_ble_eq_true rfl) k
abbrev y_Club_judge : MethodName := ⟨"WhichClub", "judge", "(I)I"⟩
abbrev X_Club_judge (d : Nat) : am_X := (shX, "WhichClub", prog_1_method_20_code, 3, (some .int), d)
abbrev m_Club_judge (d : Nat) (vs : List Value) (h : am_H) (Q : am_Q) : Prop := am_M shX y_Club_judge prog_1_method_20_code 3 (some .int) d vs h Q
theorem p_Club_judge : y_Club_judge.cls ≠ "java/lang/invoke/MethodHandle" ∧ y_Club_judge.cls ≠ "java/lang/invoke/VarHandle" ∧ (parseMethodDescriptor y_Club_judge.desc).map (fun d => d.parameters.length) = some 1 := by decide +kernel
theorem e_Club_judge {d : Nat} {x1 : Int32} {h : am_H} {Q : am_Q} (k : am_W (X_Club_judge d) 0 [some (.ref 0), some (.int x1), none] [] h Q) : m_Club_judge d [.ref 0, .int x1] h Q := am_enter pl_Club rfl (Nat.le_of_ble_eq_true rfl) k
abbrev y_Rounds_isToldOf : MethodName := ⟨"WhichClub$Rounds", "isToldOf", "(LWhichClub$Shelf;I)Z"⟩
abbrev X_Rounds_isToldOf (d : Nat) : am_X := (shX, "WhichClub$Rounds", prog_8_method_5_code, 4, (some .boolean), d)
abbrev m_Rounds_isToldOf (d : Nat) (vs : List Value) (h : am_H) (Q : am_Q) : Prop := am_M shX y_Rounds_isToldOf prog_8_method_5_code 4 (some .boolean) d vs h Q
theorem p_Rounds_isToldOf : y_Rounds_isToldOf.cls ≠ "java/lang/invoke/MethodHandle" ∧ y_Rounds_isToldOf.cls ≠ "java/lang/invoke/VarHandle" ∧ (parseMethodDescriptor y_Rounds_isToldOf.desc).map (fun d => d.parameters.length) = some 2 := by decide +kernel
theorem e_Rounds_isToldOf {d : Nat} {a1 : Nat} {x2 : Int32} {h : am_H} {Q : am_Q} (k : am_W (X_Rounds_isToldOf d) 0 [some (.ref 17), some (.ref a1), some (.int x2), none] [] h Q) : m_Rounds_isToldOf d [.ref 17, .ref a1, .int x2] h Q := am_enter pl_Rounds rfl (Nat.le_of_ble_eq_true rfl) k
abbrev y_Rounds_waysOfAll : MethodName := ⟨"WhichClub$Rounds", "waysOfAll", "(LWhichClub$Shelf;II)J"⟩
abbrev X_Rounds_waysOfAll (d : Nat) : am_X := (shX, "WhichClub$Rounds", prog_8_method_6_code, 8, (some .long), d)
abbrev m_Rounds_waysOfAll (d : Nat) (vs : List Value) (h : am_H) (Q : am_Q) : Prop := am_M shX y_Rounds_waysOfAll prog_8_method_6_code 8 (some .long) d vs h Q
theorem p_Rounds_waysOfAll : y_Rounds_waysOfAll.cls ≠ "java/lang/invoke/MethodHandle" ∧ y_Rounds_waysOfAll.cls ≠ "java/lang/invoke/VarHandle" ∧ (parseMethodDescriptor y_Rounds_waysOfAll.desc).map (fun d => d.parameters.length) = some 3 := by decide +kernel
theorem e_Rounds_waysOfAll {d : Nat} {a1 : Nat} {x2 : Int32} {x3 : Int32} {h : am_H} {Q : am_Q} (k : am_W (X_Rounds_waysOfAll d) 0 [some (.ref 17), some (.ref a1), some (.int x2), some (.int x3), none, none, none, none] [] h Q) : m_Rounds_waysOfAll d [.ref 17, .ref a1, .int x2, .int x3] h Q := am_enter pl_Rounds rfl (Nat.le_of_ble_eq_true rfl) k
abbrev y_Rounds_likeliestCarry : MethodName := ⟨"WhichClub$Rounds", "likeliestCarry", "(LWhichClub$Shelf;I)I"⟩
abbrev X_Rounds_likeliestCarry (d : Nat) : am_X := (shX, "WhichClub$Rounds", prog_8_method_4_code, 9, (some .int), d)
abbrev m_Rounds_likeliestCarry (d : Nat) (vs : List Value) (h : am_H) (Q : am_Q) : Prop := am_M shX y_Rounds_likeliestCarry prog_8_method_4_code 9 (some .int) d vs h Q
theorem p_Rounds_likeliestCarry : y_Rounds_likeliestCarry.cls ≠ "java/lang/invoke/MethodHandle" ∧ y_Rounds_likeliestCarry.cls ≠ "java/lang/invoke/VarHandle" ∧ (parseMethodDescriptor y_Rounds_likeliestCarry.desc).map (fun d => d.parameters.length) = some 2 := by decide +kernel
theorem e_Rounds_likeliestCarry {d : Nat} {a1 : Nat} {x2 : Int32} {h : am_H} {Q : am_Q} (k : am_W (X_Rounds_likeliestCarry d) 0 [some (.ref 17), some (.ref a1), some (.int x2), none, none, none, none, none, none] [] h Q) : m_Rounds_likeliestCarry d [.ref 17, .ref a1, .int x2] h Q := am_enter pl_Rounds rfl (Nat.le_of_ble_eq_true rfl) k
abbrev y_Club_truly : MethodName := ⟨"WhichClub", "truly", "(II)I"⟩
abbrev X_Club_truly (d : Nat) : am_X := (shX, "WhichClub", prog_1_method_21_code, 4, (some .int), d)
abbrev m_Club_truly (d : Nat) (vs : List Value) (h : am_H) (Q : am_Q) : Prop := am_M shX y_Club_truly prog_1_method_21_code 4 (some .int) d vs h Q
theorem p_Club_truly : y_Club_truly.cls ≠ "java/lang/invoke/MethodHandle" ∧ y_Club_truly.cls ≠ "java/lang/invoke/VarHandle" ∧ (parseMethodDescriptor y_Club_truly.desc).map (fun d => d.parameters.length) = some 2 := by decide +kernel
theorem e_Club_truly {d : Nat} {x1 : Int32} {x2 : Int32} {h : am_H} {Q : am_Q} (k : am_W (X_Club_truly d) 0 [some (.ref 0), some (.int x1), some (.int x2), none] [] h Q) : m_Club_truly d [.ref 0, .int x1, .int x2] h Q := am_enter pl_Club rfl (Nat.le_of_ble_eq_true rfl) k
abbrev y_Rounds_tookByLaw : MethodName := ⟨"WhichClub$Rounds", "tookByLaw", "(LWhichClub$Shelf;)I"⟩
abbrev X_Rounds_tookByLaw (d : Nat) : am_X := (shX, "WhichClub$Rounds", prog_8_method_7_code, 6, (some .int), d)
abbrev m_Rounds_tookByLaw (d : Nat) (vs : List Value) (h : am_H) (Q : am_Q) : Prop := am_M shX y_Rounds_tookByLaw prog_8_method_7_code 6 (some .int) d vs h Q
theorem p_Rounds_tookByLaw : y_Rounds_tookByLaw.cls ≠ "java/lang/invoke/MethodHandle" ∧ y_Rounds_tookByLaw.cls ≠ "java/lang/invoke/VarHandle" ∧ (parseMethodDescriptor y_Rounds_tookByLaw.desc).map (fun d => d.parameters.length) = some 1 := by decide +kernel
theorem e_Rounds_tookByLaw {d : Nat} {a1 : Nat} {h : am_H} {Q : am_Q} (k : am_W (X_Rounds_tookByLaw d) 0 [some (.ref 17), some (.ref a1), none, none, none, none] [] h Q) : m_Rounds_tookByLaw d [.ref 17, .ref a1] h Q := am_enter pl_Rounds rfl (Nat.le_of_ble_eq_true rfl) k
abbrev y_Club_guessed : MethodName := ⟨"WhichClub", "guessed", "(I)I"⟩
abbrev X_Club_guessed (d : Nat) : am_X := (shX, "WhichClub", prog_1_method_22_code, 3, (some .int), d)
abbrev m_Club_guessed (d : Nat) (vs : List Value) (h : am_H) (Q : am_Q) : Prop := am_M shX y_Club_guessed prog_1_method_22_code 3 (some .int) d vs h Q
theorem p_Club_guessed : y_Club_guessed.cls ≠ "java/lang/invoke/MethodHandle" ∧ y_Club_guessed.cls ≠ "java/lang/invoke/VarHandle" ∧ (parseMethodDescriptor y_Club_guessed.desc).map (fun d => d.parameters.length) = some 1 := by decide +kernel
theorem e_Club_guessed {d : Nat} {x1 : Int32} {h : am_H} {Q : am_Q} (k : am_W (X_Club_guessed d) 0 [some (.ref 0), some (.int x1), none] [] h Q) : m_Club_guessed d [.ref 0, .int x1] h Q := am_enter pl_Club rfl (Nat.le_of_ble_eq_true rfl) k
abbrev y_Draws_begin : MethodName := ⟨"WhichClub$Draws", "begin", "(I)V"⟩
abbrev X_Draws_begin (d : Nat) : am_X := (shX, "WhichClub$Draws", prog_4_method_2_code, 2, none, d)
abbrev m_Draws_begin (d : Nat) (vs : List Value) (h : am_H) (Q : am_Q) : Prop := am_M shX y_Draws_begin prog_4_method_2_code 2 none d vs h Q
theorem p_Draws_begin : y_Draws_begin.cls ≠ "java/lang/invoke/MethodHandle" ∧ y_Draws_begin.cls ≠ "java/lang/invoke/VarHandle" ∧ (parseMethodDescriptor y_Draws_begin.desc).map (fun d => d.parameters.length) = some 1 := by decide +kernel
theorem e_Draws_begin {d : Nat} {x1 : Int32} {h : am_H} {Q : am_Q} (k : am_W (X_Draws_begin d) 0 [some (.ref 18), some (.int x1)] [] h Q) : m_Draws_begin d [.ref 18, .int x1] h Q := am_enter pl_Draws rfl (Nat.le_of_ble_eq_true rfl) k
abbrev y_Draws_draw : MethodName := ⟨"WhichClub$Draws", "draw", "(I)I"⟩
abbrev X_Draws_draw (d : Nat) : am_X := (shX, "WhichClub$Draws", prog_4_method_3_code, 2, (some .int), d)
abbrev m_Draws_draw (d : Nat) (vs : List Value) (h : am_H) (Q : am_Q) : Prop := am_M shX y_Draws_draw prog_4_method_3_code 2 (some .int) d vs h Q
theorem p_Draws_draw : y_Draws_draw.cls ≠ "java/lang/invoke/MethodHandle" ∧ y_Draws_draw.cls ≠ "java/lang/invoke/VarHandle" ∧ (parseMethodDescriptor y_Draws_draw.desc).map (fun d => d.parameters.length) = some 1 := by decide +kernel
theorem e_Draws_draw {d : Nat} {x1 : Int32} {h : am_H} {Q : am_Q} (k : am_W (X_Draws_draw d) 0 [some (.ref 18), some (.int x1)] [] h Q) : m_Draws_draw d [.ref 18, .int x1] h Q := am_enter pl_Draws rfl (Nat.le_of_ble_eq_true rfl) k
abbrev y_Draws_fall : MethodName := ⟨"WhichClub$Draws", "fall", "(II)I"⟩
abbrev X_Draws_fall (d : Nat) : am_X := (shX, "WhichClub$Draws", prog_4_method_4_code, 4, (some .int), d)
abbrev m_Draws_fall (d : Nat) (vs : List Value) (h : am_H) (Q : am_Q) : Prop := am_M shX y_Draws_fall prog_4_method_4_code 4 (some .int) d vs h Q
theorem p_Draws_fall : y_Draws_fall.cls ≠ "java/lang/invoke/MethodHandle" ∧ y_Draws_fall.cls ≠ "java/lang/invoke/VarHandle" ∧ (parseMethodDescriptor y_Draws_fall.desc).map (fun d => d.parameters.length) = some 2 := by decide +kernel
theorem e_Draws_fall {d : Nat} {x1 : Int32} {x2 : Int32} {h : am_H} {Q : am_Q} (k : am_W (X_Draws_fall d) 0 [some (.ref 18), some (.int x1), some (.int x2), none] [] h Q) : m_Draws_fall d [.ref 18, .int x1, .int x2] h Q := am_enter pl_Draws rfl (Nat.le_of_ble_eq_true rfl) k
abbrev y_Hole_isPin : MethodName := ⟨"WhichClub$Hole", "isPin", "(I)Z"⟩
abbrev X_Hole_isPin (d : Nat) : am_X := (shX, "WhichClub$Hole", prog_5_method_27_code, 2, (some .boolean), d)
abbrev m_Hole_isPin (d : Nat) (vs : List Value) (h : am_H) (Q : am_Q) : Prop := am_M shX y_Hole_isPin prog_5_method_27_code 2 (some .boolean) d vs h Q
theorem p_Hole_isPin : y_Hole_isPin.cls ≠ "java/lang/invoke/MethodHandle" ∧ y_Hole_isPin.cls ≠ "java/lang/invoke/VarHandle" ∧ (parseMethodDescriptor y_Hole_isPin.desc).map (fun d => d.parameters.length) = some 1 := by decide +kernel
theorem e_Hole_isPin {d : Nat} {x1 : Int32} {h : am_H} {Q : am_Q} (k : am_W (X_Hole_isPin d) 0 [some (.ref 1), some (.int x1)] [] h Q) : m_Hole_isPin d [.ref 1, .int x1] h Q := am_enter pl_Hole rfl (Nat.le_of_ble_eq_true rfl) k
abbrev y_Hole_touchNow : MethodName := ⟨"WhichClub$Hole", "touchNow", "()I"⟩
abbrev X_Hole_touchNow (d : Nat) : am_X := (shX, "WhichClub$Hole", prog_5_method_26_code, 1, (some .int), d)
abbrev m_Hole_touchNow (d : Nat) (vs : List Value) (h : am_H) (Q : am_Q) : Prop := am_M shX y_Hole_touchNow prog_5_method_26_code 1 (some .int) d vs h Q
theorem p_Hole_touchNow : y_Hole_touchNow.cls ≠ "java/lang/invoke/MethodHandle" ∧ y_Hole_touchNow.cls ≠ "java/lang/invoke/VarHandle" ∧ (parseMethodDescriptor y_Hole_touchNow.desc).map (fun d => d.parameters.length) = some 0 := by decide +kernel
theorem e_Hole_touchNow {d : Nat} {h : am_H} {Q : am_Q} (k : am_W (X_Hole_touchNow d) 0 [some (.ref 1)] [] h Q) : m_Hole_touchNow d [.ref 1] h Q := am_enter pl_Hole rfl (Nat.le_of_ble_eq_true rfl) k
abbrev y_Draws_puttsFrom : MethodName := ⟨"WhichClub$Draws", "puttsFrom", "(I)I"⟩
abbrev X_Draws_puttsFrom (d : Nat) : am_X := (shX, "WhichClub$Draws", prog_4_method_5_code, 2, (some .int), d)
abbrev m_Draws_puttsFrom (d : Nat) (vs : List Value) (h : am_H) (Q : am_Q) : Prop := am_M shX y_Draws_puttsFrom prog_4_method_5_code 2 (some .int) d vs h Q
theorem p_Draws_puttsFrom : y_Draws_puttsFrom.cls ≠ "java/lang/invoke/MethodHandle" ∧ y_Draws_puttsFrom.cls ≠ "java/lang/invoke/VarHandle" ∧ (parseMethodDescriptor y_Draws_puttsFrom.desc).map (fun d => d.parameters.length) = some 1 := by decide +kernel
theorem e_Draws_puttsFrom {d : Nat} {x1 : Int32} {h : am_H} {Q : am_Q} (k : am_W (X_Draws_puttsFrom d) 0 [some (.ref 18), some (.int x1)] [] h Q) : m_Draws_puttsFrom d [.ref 18, .int x1] h Q := am_enter pl_Draws rfl (Nat.le_of_ble_eq_true rfl) k
abbrev y_Draws_playHole : MethodName := ⟨"WhichClub$Draws", "playHole", "(I)V"⟩
abbrev X_Draws_playHole (d : Nat) : am_X := (shX, "WhichClub$Draws", prog_4_method_7_code, 6, none, d)
abbrev m_Draws_playHole (d : Nat) (vs : List Value) (h : am_H) (Q : am_Q) : Prop := am_M shX y_Draws_playHole prog_4_method_7_code 6 none d vs h Q
theorem p_Draws_playHole : y_Draws_playHole.cls ≠ "java/lang/invoke/MethodHandle" ∧ y_Draws_playHole.cls ≠ "java/lang/invoke/VarHandle" ∧ (parseMethodDescriptor y_Draws_playHole.desc).map (fun d => d.parameters.length) = some 1 := by decide +kernel
theorem e_Draws_playHole {d : Nat} {x1 : Int32} {h : am_H} {Q : am_Q} (k : am_W (X_Draws_playHole d) 0 [some (.ref 18), some (.int x1), none, none, none, none] [] h Q) : m_Draws_playHole d [.ref 18, .int x1] h Q := am_enter pl_Draws rfl (Nat.le_of_ble_eq_true rfl) k
abbrev y_Draws_playHoles : MethodName := ⟨"WhichClub$Draws", "playHoles", "(III)V"⟩
abbrev X_Draws_playHoles (d : Nat) : am_X := (shX, "WhichClub$Draws", prog_4_method_6_code, 5, none, d)
abbrev m_Draws_playHoles (d : Nat) (vs : List Value) (h : am_H) (Q : am_Q) : Prop := am_M shX y_Draws_playHoles prog_4_method_6_code 5 none d vs h Q
theorem p_Draws_playHoles : y_Draws_playHoles.cls ≠ "java/lang/invoke/MethodHandle" ∧ y_Draws_playHoles.cls ≠ "java/lang/invoke/VarHandle" ∧ (parseMethodDescriptor y_Draws_playHoles.desc).map (fun d => d.parameters.length) = some 3 := by decide +kernel
theorem e_Draws_playHoles {d : Nat} {x1 : Int32} {x2 : Int32} {x3 : Int32} {h : am_H} {Q : am_Q} (k : am_W (X_Draws_playHoles d) 0 [some (.ref 18), some (.int x1), some (.int x2), some (.int x3), none] [] h Q) : m_Draws_playHoles d [.ref 18, .int x1, .int x2, .int x3] h Q := am_enter pl_Draws rfl (Nat.le_of_ble_eq_true rfl) k
abbrev y_Draws_strokesPlayed : MethodName := ⟨"WhichClub$Draws", "strokesPlayed", "()I"⟩
abbrev X_Draws_strokesPlayed (d : Nat) : am_X := (shX, "WhichClub$Draws", prog_4_method_8_code, 1, (some .int), d)
abbrev m_Draws_strokesPlayed (d : Nat) (vs : List Value) (h : am_H) (Q : am_Q) : Prop := am_M shX y_Draws_strokesPlayed prog_4_method_8_code 1 (some .int) d vs h Q
theorem p_Draws_strokesPlayed : y_Draws_strokesPlayed.cls ≠ "java/lang/invoke/MethodHandle" ∧ y_Draws_strokesPlayed.cls ≠ "java/lang/invoke/VarHandle" ∧ (parseMethodDescriptor y_Draws_strokesPlayed.desc).map (fun d => d.parameters.length) = some 0 := by decide +kernel
theorem e_Draws_strokesPlayed {d : Nat} {h : am_H} {Q : am_Q} (k : am_W (X_Draws_strokesPlayed d) 0 [some (.ref 18)] [] h Q) : m_Draws_strokesPlayed d [.ref 18] h Q := am_enter pl_Draws rfl (Nat.le_of_ble_eq_true rfl) k
abbrev y_Draws_timesInWater : MethodName := ⟨"WhichClub$Draws", "timesInWater", "()I"⟩
abbrev X_Draws_timesInWater (d : Nat) : am_X := (shX, "WhichClub$Draws", prog_4_method_9_code, 1, (some .int), d)
abbrev m_Draws_timesInWater (d : Nat) (vs : List Value) (h : am_H) (Q : am_Q) : Prop := am_M shX y_Draws_timesInWater prog_4_method_9_code 1 (some .int) d vs h Q
theorem p_Draws_timesInWater : y_Draws_timesInWater.cls ≠ "java/lang/invoke/MethodHandle" ∧ y_Draws_timesInWater.cls ≠ "java/lang/invoke/VarHandle" ∧ (parseMethodDescriptor y_Draws_timesInWater.desc).map (fun d => d.parameters.length) = some 0 := by decide +kernel
theorem e_Draws_timesInWater {d : Nat} {h : am_H} {Q : am_Q} (k : am_W (X_Draws_timesInWater d) 0 [some (.ref 18)] [] h Q) : m_Draws_timesInWater d [.ref 18] h Q := am_enter pl_Draws rfl (Nat.le_of_ble_eq_true rfl) k
abbrev y_Reck_findClubs : MethodName := ⟨"WhichClub$Reckoning", "findClubs", "(II)V"⟩
abbrev X_Reck_findClubs (d : Nat) : am_X := (shX, "WhichClub$Reckoning", prog_7_method_16_code, 4, none, d)
abbrev m_Reck_findClubs (d : Nat) (vs : List Value) (h : am_H) (Q : am_Q) : Prop := am_M shX y_Reck_findClubs prog_7_method_16_code 4 none d vs h Q
theorem p_Reck_findClubs : y_Reck_findClubs.cls ≠ "java/lang/invoke/MethodHandle" ∧ y_Reck_findClubs.cls ≠ "java/lang/invoke/VarHandle" ∧ (parseMethodDescriptor y_Reck_findClubs.desc).map (fun d => d.parameters.length) = some 2 := by decide +kernel
theorem e_Reck_findClubs {d : Nat} {x1 : Int32} {x2 : Int32} {h : am_H} {Q : am_Q} (k : am_W (X_Reck_findClubs d) 0 [some (.ref 12), some (.int x1), some (.int x2), none] [] h Q) : m_Reck_findClubs d [.ref 12, .int x1, .int x2] h Q := am_enter pl_Reck rfl (Nat.le_of_ble_eq_true rfl) k
abbrev y_Club_drawn : MethodName := ⟨"WhichClub", "drawn", "(III)I"⟩
abbrev X_Club_drawn (d : Nat) : am_X := (shX, "WhichClub", prog_1_method_23_code, 7, (some .int), d)
abbrev m_Club_drawn (d : Nat) (vs : List Value) (h : am_H) (Q : am_Q) : Prop := am_M shX y_Club_drawn prog_1_method_23_code 7 (some .int) d vs h Q
theorem p_Club_drawn : y_Club_drawn.cls ≠ "java/lang/invoke/MethodHandle" ∧ y_Club_drawn.cls ≠ "java/lang/invoke/VarHandle" ∧ (parseMethodDescriptor y_Club_drawn.desc).map (fun d => d.parameters.length) = some 3 := by decide +kernel
theorem e_Club_drawn {d : Nat} {x1 : Int32} {x2 : Int32} {x3 : Int32} {h : am_H} {Q : am_Q} (k : am_W (X_Club_drawn d) 0 [some (.ref 0), some (.int x1), some (.int x2), some (.int x3), none, none, none] [] h Q) : m_Club_drawn d [.ref 0, .int x1, .int x2, .int x3] h Q := am_enter pl_Club rfl (Nat.le_of_ble_eq_true rfl) k
abbrev y_Deed_playShot : MethodName := ⟨"WhichClub$Deed", "playShot", "(II)I"⟩
abbrev X_Deed_playShot (d : Nat) : am_X := (shX, "WhichClub$Deed", prog_3_method_4_code, 4, (some .int), d)
abbrev m_Deed_playShot (d : Nat) (vs : List Value) (h : am_H) (Q : am_Q) : Prop := am_M shX y_Deed_playShot prog_3_method_4_code 4 (some .int) d vs h Q
theorem p_Deed_playShot : y_Deed_playShot.cls ≠ "java/lang/invoke/MethodHandle" ∧ y_Deed_playShot.cls ≠ "java/lang/invoke/VarHandle" ∧ (parseMethodDescriptor y_Deed_playShot.desc).map (fun d => d.parameters.length) = some 2 := by decide +kernel
theorem e_Deed_playShot {d : Nat} {x1 : Int32} {x2 : Int32} {h : am_H} {Q : am_Q} (k : am_W (X_Deed_playShot d) 0 [some (.ref 19), some (.int x1), some (.int x2), none] [] h Q) : m_Deed_playShot d [.ref 19, .int x1, .int x2] h Q := am_enter pl_Deed rfl (Nat.le_of_ble_eq_true rfl) k
abbrev y_Club_hit : MethodName := ⟨"WhichClub", "hit", "(II)I"⟩
abbrev X_Club_hit (d : Nat) : am_X := (shX, "WhichClub", prog_1_method_25_code, 3, (some .int), d)
abbrev m_Club_hit (d : Nat) (vs : List Value) (h : am_H) (Q : am_Q) : Prop := am_M shX y_Club_hit prog_1_method_25_code 3 (some .int) d vs h Q
theorem p_Club_hit : y_Club_hit.cls ≠ "java/lang/invoke/MethodHandle" ∧ y_Club_hit.cls ≠ "java/lang/invoke/VarHandle" ∧ (parseMethodDescriptor y_Club_hit.desc).map (fun d => d.parameters.length) = some 2 := by decide +kernel
theorem e_Club_hit {d : Nat} {x1 : Int32} {x2 : Int32} {h : am_H} {Q : am_Q} (k : am_W (X_Club_hit d) 0 [some (.ref 0), some (.int x1), some (.int x2)] [] h Q) : m_Club_hit d [.ref 0, .int x1, .int x2] h Q := am_enter pl_Club rfl (Nat.le_of_ble_eq_true rfl) k
abbrev y_Deed_playPutts : MethodName := ⟨"WhichClub$Deed", "playPutts", "(I)I"⟩
abbrev X_Deed_playPutts (d : Nat) : am_X := (shX, "WhichClub$Deed", prog_3_method_5_code, 4, (some .int), d)
abbrev m_Deed_playPutts (d : Nat) (vs : List Value) (h : am_H) (Q : am_Q) : Prop := am_M shX y_Deed_playPutts prog_3_method_5_code 4 (some .int) d vs h Q
theorem p_Deed_playPutts : y_Deed_playPutts.cls ≠ "java/lang/invoke/MethodHandle" ∧ y_Deed_playPutts.cls ≠ "java/lang/invoke/VarHandle" ∧ (parseMethodDescriptor y_Deed_playPutts.desc).map (fun d => d.parameters.length) = some 1 := by decide +kernel
theorem e_Deed_playPutts {d : Nat} {x1 : Int32} {h : am_H} {Q : am_Q} (k : am_W (X_Deed_playPutts d) 0 [some (.ref 19), some (.int x1), none, none] [] h Q) : m_Deed_playPutts d [.ref 19, .int x1] h Q := am_enter pl_Deed rfl (Nat.le_of_ble_eq_true rfl) k
abbrev y_Club_putt : MethodName := ⟨"WhichClub", "putt", "(I)I"⟩
abbrev X_Club_putt (d : Nat) : am_X := (shX, "WhichClub", prog_1_method_26_code, 2, (some .int), d)
abbrev m_Club_putt (d : Nat) (vs : List Value) (h : am_H) (Q : am_Q) : Prop := am_M shX y_Club_putt prog_1_method_26_code 2 (some .int) d vs h Q
theorem p_Club_putt : y_Club_putt.cls ≠ "java/lang/invoke/MethodHandle" ∧ y_Club_putt.cls ≠ "java/lang/invoke/VarHandle" ∧ (parseMethodDescriptor y_Club_putt.desc).map (fun d => d.parameters.length) = some 1 := by decide +kernel
theorem e_Club_putt {d : Nat} {x1 : Int32} {h : am_H} {Q : am_Q} (k : am_W (X_Club_putt d) 0 [some (.ref 0), some (.int x1)] [] h Q) : m_Club_putt d [.ref 0, .int x1] h Q := am_enter pl_Club rfl (Nat.le_of_ble_eq_true rfl) k
abbrev y_Deed_tally : MethodName := ⟨"WhichClub$Deed", "tally", "(I)I"⟩
abbrev X_Deed_tally (d : Nat) : am_X := (shX, "WhichClub$Deed", prog_3_method_3_code, 2, (some .int), d)
abbrev m_Deed_tally (d : Nat) (vs : List Value) (h : am_H) (Q : am_Q) : Prop := am_M shX y_Deed_tally prog_3_method_3_code 2 (some .int) d vs h Q
theorem p_Deed_tally : y_Deed_tally.cls ≠ "java/lang/invoke/MethodHandle" ∧ y_Deed_tally.cls ≠ "java/lang/invoke/VarHandle" ∧ (parseMethodDescriptor y_Deed_tally.desc).map (fun d => d.parameters.length) = some 1 := by decide +kernel
theorem e_Deed_tally {d : Nat} {x1 : Int32} {h : am_H} {Q : am_Q} (k : am_W (X_Deed_tally d) 0 [some (.ref 19), some (.int x1)] [] h Q) : m_Deed_tally d [.ref 19, .int x1] h Q := am_enter pl_Deed rfl (Nat.le_of_ble_eq_true rfl) k
abbrev y_Club_led : MethodName := ⟨"WhichClub", "led", "(I)I"⟩
abbrev X_Club_led (d : Nat) : am_X := (shX, "WhichClub", prog_1_method_27_code, 2, (some .int), d)
abbrev m_Club_led (d : Nat) (vs : List Value) (h : am_H) (Q : am_Q) : Prop := am_M shX y_Club_led prog_1_method_27_code 2 (some .int) d vs h Q
theorem p_Club_led : y_Club_led.cls ≠ "java/lang/invoke/MethodHandle" ∧ y_Club_led.cls ≠ "java/lang/invoke/VarHandle" ∧ (parseMethodDescriptor y_Club_led.desc).map (fun d => d.parameters.length) = some 1 := by decide +kernel
theorem e_Club_led {d : Nat} {x1 : Int32} {h : am_H} {Q : am_Q} (k : am_W (X_Club_led d) 0 [some (.ref 0), some (.int x1)] [] h Q) : m_Club_led d [.ref 0, .int x1] h Q := am_enter pl_Club rfl (Nat.le_of_ble_eq_true rfl) k
abbrev y_Deed_keepImage : MethodName := ⟨"WhichClub$Deed", "keepImage", "()I"⟩
abbrev X_Deed_keepImage (d : Nat) : am_X := (shX, "WhichClub$Deed", prog_3_method_7_code, 1, (some .int), d)
abbrev m_Deed_keepImage (d : Nat) (vs : List Value) (h : am_H) (Q : am_Q) : Prop := am_M shX y_Deed_keepImage prog_3_method_7_code 1 (some .int) d vs h Q
theorem p_Deed_keepImage : y_Deed_keepImage.cls ≠ "java/lang/invoke/MethodHandle" ∧ y_Deed_keepImage.cls ≠ "java/lang/invoke/VarHandle" ∧ (parseMethodDescriptor y_Deed_keepImage.desc).map (fun d => d.parameters.length) = some 0 := by decide +kernel
theorem e_Deed_keepImage {d : Nat} {h : am_H} {Q : am_Q} (k : am_W (X_Deed_keepImage d) 0 [some (.ref 19)] [] h Q) : m_Deed_keepImage d [.ref 19] h Q := am_enter pl_Deed rfl (Nat.le_of_ble_eq_true rfl) k
abbrev y_Club_image : MethodName := ⟨"WhichClub", "image", "()I"⟩
abbrev X_Club_image (d : Nat) : am_X := (shX, "WhichClub", prog_1_method_28_code, 1, (some .int), d)
abbrev m_Club_image (d : Nat) (vs : List Value) (h : am_H) (Q : am_Q) : Prop := am_M shX y_Club_image prog_1_method_28_code 1 (some .int) d vs h Q
theorem p_Club_image : y_Club_image.cls ≠ "java/lang/invoke/MethodHandle" ∧ y_Club_image.cls ≠ "java/lang/invoke/VarHandle" ∧ (parseMethodDescriptor y_Club_image.desc).map (fun d => d.parameters.length) = some 0 := by decide +kernel
theorem e_Club_image {d : Nat} {h : am_H} {Q : am_Q} (k : am_W (X_Club_image d) 0 [some (.ref 0)] [] h Q) : m_Club_image d [.ref 0] h Q := am_enter pl_Club rfl (Nat.le_of_ble_eq_true rfl) k
abbrev y_Deed_hasImage : MethodName := ⟨"WhichClub$Deed", "hasImage", "()Z"⟩
abbrev X_Deed_hasImage (d : Nat) : am_X := (shX, "WhichClub$Deed", prog_3_method_6_code, 1, (some .boolean), d)
abbrev m_Deed_hasImage (d : Nat) (vs : List Value) (h : am_H) (Q : am_Q) : Prop := am_M shX y_Deed_hasImage prog_3_method_6_code 1 (some .boolean) d vs h Q
theorem p_Deed_hasImage : y_Deed_hasImage.cls ≠ "java/lang/invoke/MethodHandle" ∧ y_Deed_hasImage.cls ≠ "java/lang/invoke/VarHandle" ∧ (parseMethodDescriptor y_Deed_hasImage.desc).map (fun d => d.parameters.length) = some 0 := by decide +kernel
theorem e_Deed_hasImage {d : Nat} {h : am_H} {Q : am_Q} (k : am_W (X_Deed_hasImage d) 0 [some (.ref 19)] [] h Q) : m_Deed_hasImage d [.ref 19] h Q := am_enter pl_Deed rfl (Nat.le_of_ble_eq_true rfl) k
abbrev y_Deed_layImageBack : MethodName := ⟨"WhichClub$Deed", "layImageBack", "()I"⟩
abbrev X_Deed_layImageBack (d : Nat) : am_X := (shX, "WhichClub$Deed", prog_3_method_8_code, 1, (some .int), d)
abbrev m_Deed_layImageBack (d : Nat) (vs : List Value) (h : am_H) (Q : am_Q) : Prop := am_M shX y_Deed_layImageBack prog_3_method_8_code 1 (some .int) d vs h Q
theorem p_Deed_layImageBack : y_Deed_layImageBack.cls ≠ "java/lang/invoke/MethodHandle" ∧ y_Deed_layImageBack.cls ≠ "java/lang/invoke/VarHandle" ∧ (parseMethodDescriptor y_Deed_layImageBack.desc).map (fun d => d.parameters.length) = some 0 := by decide +kernel
theorem e_Deed_layImageBack {d : Nat} {h : am_H} {Q : am_Q} (k : am_W (X_Deed_layImageBack d) 0 [some (.ref 19)] [] h Q) : m_Deed_layImageBack d [.ref 19] h Q := am_enter pl_Deed rfl (Nat.le_of_ble_eq_true rfl) k
abbrev y_Club_back : MethodName := ⟨"WhichClub", "back", "()I"⟩
abbrev X_Club_back (d : Nat) : am_X := (shX, "WhichClub", prog_1_method_29_code, 1, (some .int), d)
abbrev m_Club_back (d : Nat) (vs : List Value) (h : am_H) (Q : am_Q) : Prop := am_M shX y_Club_back prog_1_method_29_code 1 (some .int) d vs h Q
theorem p_Club_back : y_Club_back.cls ≠ "java/lang/invoke/MethodHandle" ∧ y_Club_back.cls ≠ "java/lang/invoke/VarHandle" ∧ (parseMethodDescriptor y_Club_back.desc).map (fun d => d.parameters.length) = some 0 := by decide +kernel
theorem e_Club_back {d : Nat} {h : am_H} {Q : am_Q} (k : am_W (X_Club_back d) 0 [some (.ref 0)] [] h Q) : m_Club_back d [.ref 0] h Q := am_enter pl_Club rfl (Nat.le_of_ble_eq_true rfl) k
abbrev y_Changes_isPlace : MethodName := ⟨"WhichClub$Changes", "isPlace", "(I)Z"⟩
abbrev X_Changes_isPlace (d : Nat) : am_X := (shX, "WhichClub$Changes", prog_2_method_8_code, 1, (some .boolean), d)
abbrev m_Changes_isPlace (d : Nat) (vs : List Value) (h : am_H) (Q : am_Q) : Prop := am_M shX y_Changes_isPlace prog_2_method_8_code 1 (some .boolean) d vs h Q
theorem p_Changes_isPlace : y_Changes_isPlace.cls ≠ "java/lang/invoke/MethodHandle" ∧ y_Changes_isPlace.cls ≠ "java/lang/invoke/VarHandle" ∧ (parseMethodDescriptor y_Changes_isPlace.desc).map (fun d => d.parameters.length) = some 1 := by decide +kernel
theorem e_Changes_isPlace {d : Nat} {x0 : Int32} {h : am_H} {Q : am_Q} (k : am_W (X_Changes_isPlace d) 0 [some (.int x0)] [] h Q) : m_Changes_isPlace d [.int x0] h Q := am_enter pl_Changes rfl (Nat.le_of_ble_eq_true rfl) k
abbrev y_Changes_numberOf : MethodName := ⟨"WhichClub$Changes", "numberOf", "(I)I"⟩
abbrev X_Changes_numberOf (d : Nat) : am_X := (shX, "WhichClub$Changes", prog_2_method_9_code, 2, (some .int), d)
abbrev m_Changes_numberOf (d : Nat) (vs : List Value) (h : am_H) (Q : am_Q) : Prop := am_M shX y_Changes_numberOf prog_2_method_9_code 2 (some .int) d vs h Q
theorem p_Changes_numberOf : y_Changes_numberOf.cls ≠ "java/lang/invoke/MethodHandle" ∧ y_Changes_numberOf.cls ≠ "java/lang/invoke/VarHandle" ∧ (parseMethodDescriptor y_Changes_numberOf.desc).map (fun d => d.parameters.length) = some 1 := by decide +kernel
theorem e_Changes_numberOf {d : Nat} {x1 : Int32} {h : am_H} {Q : am_Q} (k : am_W (X_Changes_numberOf d) 0 [some (.ref 22), some (.int x1)] [] h Q) : m_Changes_numberOf d [.ref 22, .int x1] h Q := am_enter pl_Changes rfl (Nat.le_of_ble_eq_true rfl) k
abbrev y_Changes_stepBack : MethodName := ⟨"WhichClub$Changes", "stepBack", "()I"⟩
abbrev X_Changes_stepBack (d : Nat) : am_X := (shX, "WhichClub$Changes", prog_2_method_6_code, 1, (some .int), d)
abbrev m_Changes_stepBack (d : Nat) (vs : List Value) (h : am_H) (Q : am_Q) : Prop := am_M shX y_Changes_stepBack prog_2_method_6_code 1 (some .int) d vs h Q
theorem p_Changes_stepBack : y_Changes_stepBack.cls ≠ "java/lang/invoke/MethodHandle" ∧ y_Changes_stepBack.cls ≠ "java/lang/invoke/VarHandle" ∧ (parseMethodDescriptor y_Changes_stepBack.desc).map (fun d => d.parameters.length) = some 0 := by decide +kernel
theorem e_Changes_stepBack {d : Nat} {h : am_H} {Q : am_Q} (k : am_W (X_Changes_stepBack d) 0 [some (.ref 22)] [] h Q) : m_Changes_stepBack d [.ref 22] h Q := am_enter pl_Changes rfl (Nat.le_of_ble_eq_true rfl) k
abbrev y_Changes_toUndo : MethodName := ⟨"WhichClub$Changes", "toUndo", "()I"⟩
abbrev X_Changes_toUndo (d : Nat) : am_X := (shX, "WhichClub$Changes", prog_2_method_2_code, 1, (some .int), d)
abbrev m_Changes_toUndo (d : Nat) (vs : List Value) (h : am_H) (Q : am_Q) : Prop := am_M shX y_Changes_toUndo prog_2_method_2_code 1 (some .int) d vs h Q
theorem p_Changes_toUndo : y_Changes_toUndo.cls ≠ "java/lang/invoke/MethodHandle" ∧ y_Changes_toUndo.cls ≠ "java/lang/invoke/VarHandle" ∧ (parseMethodDescriptor y_Changes_toUndo.desc).map (fun d => d.parameters.length) = some 0 := by decide +kernel
theorem e_Changes_toUndo {d : Nat} {h : am_H} {Q : am_Q} (k : am_W (X_Changes_toUndo d) 0 [some (.ref 22)] [] h Q) : m_Changes_toUndo d [.ref 22] h Q := am_enter pl_Changes rfl (Nat.le_of_ble_eq_true rfl) k
abbrev y_Changes_wasOf : MethodName := ⟨"WhichClub$Changes", "wasOf", "(I)I"⟩
abbrev X_Changes_wasOf (d : Nat) : am_X := (shX, "WhichClub$Changes", prog_2_method_11_code, 2, (some .int), d)
abbrev m_Changes_wasOf (d : Nat) (vs : List Value) (h : am_H) (Q : am_Q) : Prop := am_M shX y_Changes_wasOf prog_2_method_11_code 2 (some .int) d vs h Q
theorem p_Changes_wasOf : y_Changes_wasOf.cls ≠ "java/lang/invoke/MethodHandle" ∧ y_Changes_wasOf.cls ≠ "java/lang/invoke/VarHandle" ∧ (parseMethodDescriptor y_Changes_wasOf.desc).map (fun d => d.parameters.length) = some 1 := by decide +kernel
theorem e_Changes_wasOf {d : Nat} {x1 : Int32} {h : am_H} {Q : am_Q} (k : am_W (X_Changes_wasOf d) 0 [some (.ref 22), some (.int x1)] [] h Q) : m_Changes_wasOf d [.ref 22, .int x1] h Q := am_enter pl_Changes rfl (Nat.le_of_ble_eq_true rfl) k
abbrev y_Changes_whatOf : MethodName := ⟨"WhichClub$Changes", "whatOf", "(I)I"⟩
abbrev X_Changes_whatOf (d : Nat) : am_X := (shX, "WhichClub$Changes", prog_2_method_10_code, 2, (some .int), d)
abbrev m_Changes_whatOf (d : Nat) (vs : List Value) (h : am_H) (Q : am_Q) : Prop := am_M shX y_Changes_whatOf prog_2_method_10_code 2 (some .int) d vs h Q
theorem p_Changes_whatOf : y_Changes_whatOf.cls ≠ "java/lang/invoke/MethodHandle" ∧ y_Changes_whatOf.cls ≠ "java/lang/invoke/VarHandle" ∧ (parseMethodDescriptor y_Changes_whatOf.desc).map (fun d => d.parameters.length) = some 1 := by decide +kernel
theorem e_Changes_whatOf {d : Nat} {x1 : Int32} {h : am_H} {Q : am_Q} (k : am_W (X_Changes_whatOf d) 0 [some (.ref 22), some (.int x1)] [] h Q) : m_Changes_whatOf d [.ref 22, .int x1] h Q := am_enter pl_Changes rfl (Nat.le_of_ble_eq_true rfl) k
abbrev y_Club_undo : MethodName := ⟨"WhichClub", "undo", "()I"⟩
abbrev X_Club_undo (d : Nat) : am_X := (shX, "WhichClub", prog_1_method_30_code, 2, (some .int), d)
abbrev m_Club_undo (d : Nat) (vs : List Value) (h : am_H) (Q : am_Q) : Prop := am_M shX y_Club_undo prog_1_method_30_code 2 (some .int) d vs h Q
theorem p_Club_undo : y_Club_undo.cls ≠ "java/lang/invoke/MethodHandle" ∧ y_Club_undo.cls ≠ "java/lang/invoke/VarHandle" ∧ (parseMethodDescriptor y_Club_undo.desc).map (fun d => d.parameters.length) = some 0 := by decide +kernel
theorem e_Club_undo {d : Nat} {h : am_H} {Q : am_Q} (k : am_W (X_Club_undo d) 0 [some (.ref 0), none] [] h Q) : m_Club_undo d [.ref 0] h Q := am_enter pl_Club rfl (Nat.le_of_ble_eq_true rfl) k
abbrev y_Changes_becameOf : MethodName := ⟨"WhichClub$Changes", "becameOf", "(I)I"⟩
abbrev X_Changes_becameOf (d : Nat) : am_X := (shX, "WhichClub$Changes", prog_2_method_12_code, 2, (some .int), d)
abbrev m_Changes_becameOf (d : Nat) (vs : List Value) (h : am_H) (Q : am_Q) : Prop := am_M shX y_Changes_becameOf prog_2_method_12_code 2 (some .int) d vs h Q
theorem p_Changes_becameOf : y_Changes_becameOf.cls ≠ "java/lang/invoke/MethodHandle" ∧ y_Changes_becameOf.cls ≠ "java/lang/invoke/VarHandle" ∧ (parseMethodDescriptor y_Changes_becameOf.desc).map (fun d => d.parameters.length) = some 1 := by decide +kernel
theorem e_Changes_becameOf {d : Nat} {x1 : Int32} {h : am_H} {Q : am_Q} (k : am_W (X_Changes_becameOf d) 0 [some (.ref 22), some (.int x1)] [] h Q) : m_Changes_becameOf d [.ref 22, .int x1] h Q := am_enter pl_Changes rfl (Nat.le_of_ble_eq_true rfl) k
abbrev y_Changes_stepOn : MethodName := ⟨"WhichClub$Changes", "stepOn", "()I"⟩
abbrev X_Changes_stepOn (d : Nat) : am_X := (shX, "WhichClub$Changes", prog_2_method_7_code, 1, (some .int), d)
abbrev m_Changes_stepOn (d : Nat) (vs : List Value) (h : am_H) (Q : am_Q) : Prop := am_M shX y_Changes_stepOn prog_2_method_7_code 1 (some .int) d vs h Q
theorem p_Changes_stepOn : y_Changes_stepOn.cls ≠ "java/lang/invoke/MethodHandle" ∧ y_Changes_stepOn.cls ≠ "java/lang/invoke/VarHandle" ∧ (parseMethodDescriptor y_Changes_stepOn.desc).map (fun d => d.parameters.length) = some 0 := by decide +kernel
theorem e_Changes_stepOn {d : Nat} {h : am_H} {Q : am_Q} (k : am_W (X_Changes_stepOn d) 0 [some (.ref 22)] [] h Q) : m_Changes_stepOn d [.ref 22] h Q := am_enter pl_Changes rfl (Nat.le_of_ble_eq_true rfl) k
abbrev y_Changes_toRedo : MethodName := ⟨"WhichClub$Changes", "toRedo", "()I"⟩
abbrev X_Changes_toRedo (d : Nat) : am_X := (shX, "WhichClub$Changes", prog_2_method_3_code, 1, (some .int), d)
abbrev m_Changes_toRedo (d : Nat) (vs : List Value) (h : am_H) (Q : am_Q) : Prop := am_M shX y_Changes_toRedo prog_2_method_3_code 1 (some .int) d vs h Q
theorem p_Changes_toRedo : y_Changes_toRedo.cls ≠ "java/lang/invoke/MethodHandle" ∧ y_Changes_toRedo.cls ≠ "java/lang/invoke/VarHandle" ∧ (parseMethodDescriptor y_Changes_toRedo.desc).map (fun d => d.parameters.length) = some 0 := by decide +kernel
theorem e_Changes_toRedo {d : Nat} {h : am_H} {Q : am_Q} (k : am_W (X_Changes_toRedo d) 0 [some (.ref 22)] [] h Q) : m_Changes_toRedo d [.ref 22] h Q := am_enter pl_Changes rfl (Nat.le_of_ble_eq_true rfl) k
abbrev y_Club_redo : MethodName := ⟨"WhichClub", "redo", "()I"⟩
abbrev X_Club_redo (d : Nat) : am_X := (shX, "WhichClub", prog_1_method_31_code, 2, (some .int), d)
abbrev m_Club_redo (d : Nat) (vs : List Value) (h : am_H) (Q : am_Q) : Prop := am_M shX y_Club_redo prog_1_method_31_code 2 (some .int) d vs h Q
theorem p_Club_redo : y_Club_redo.cls ≠ "java/lang/invoke/MethodHandle" ∧ y_Club_redo.cls ≠ "java/lang/invoke/VarHandle" ∧ (parseMethodDescriptor y_Club_redo.desc).map (fun d => d.parameters.length) = some 0 := by decide +kernel
theorem e_Club_redo {d : Nat} {h : am_H} {Q : am_Q} (k : am_W (X_Club_redo d) 0 [some (.ref 0), none] [] h Q) : m_Club_redo d [.ref 0] h Q := am_enter pl_Club rfl (Nat.le_of_ble_eq_true rfl) k
abbrev y_Words_addWord : MethodName := ⟨"WhichClub$Words", "addWord", "(I)I"⟩
abbrev X_Words_addWord (d : Nat) : am_X := (shX, "WhichClub$Words", prog_10_method_7_code, 2, (some .int), d)
abbrev m_Words_addWord (d : Nat) (vs : List Value) (h : am_H) (Q : am_Q) : Prop := am_M shX y_Words_addWord prog_10_method_7_code 2 (some .int) d vs h Q
theorem p_Words_addWord : y_Words_addWord.cls ≠ "java/lang/invoke/MethodHandle" ∧ y_Words_addWord.cls ≠ "java/lang/invoke/VarHandle" ∧ (parseMethodDescriptor y_Words_addWord.desc).map (fun d => d.parameters.length) = some 1 := by decide +kernel
theorem e_Words_addWord {d : Nat} {x1 : Int32} {h : am_H} {Q : am_Q} (k : am_W (X_Words_addWord d) 0 [some (.ref 27), some (.int x1)] [] h Q) : m_Words_addWord d [.ref 27, .int x1] h Q := am_enter pl_Words rfl (Nat.le_of_ble_eq_true rfl) k
abbrev y_Words_isFull : MethodName := ⟨"WhichClub$Words", "isFull", "()Z"⟩
abbrev X_Words_isFull (d : Nat) : am_X := (shX, "WhichClub$Words", prog_10_method_4_code, 1, (some .boolean), d)
abbrev m_Words_isFull (d : Nat) (vs : List Value) (h : am_H) (Q : am_Q) : Prop := am_M shX y_Words_isFull prog_10_method_4_code 1 (some .boolean) d vs h Q
theorem p_Words_isFull : y_Words_isFull.cls ≠ "java/lang/invoke/MethodHandle" ∧ y_Words_isFull.cls ≠ "java/lang/invoke/VarHandle" ∧ (parseMethodDescriptor y_Words_isFull.desc).map (fun d => d.parameters.length) = some 0 := by decide +kernel
theorem e_Words_isFull {d : Nat} {h : am_H} {Q : am_Q} (k : am_W (X_Words_isFull d) 0 [some (.ref 27)] [] h Q) : m_Words_isFull d [.ref 27] h Q := am_enter pl_Words rfl (Nat.le_of_ble_eq_true rfl) k
abbrev y_Words_isKind : MethodName := ⟨"WhichClub$Words", "isKind", "(I)Z"⟩
abbrev X_Words_isKind (d : Nat) : am_X := (shX, "WhichClub$Words", prog_10_method_2_code, 1, (some .boolean), d)
abbrev m_Words_isKind (d : Nat) (vs : List Value) (h : am_H) (Q : am_Q) : Prop := am_M shX y_Words_isKind prog_10_method_2_code 1 (some .boolean) d vs h Q
theorem p_Words_isKind : y_Words_isKind.cls ≠ "java/lang/invoke/MethodHandle" ∧ y_Words_isKind.cls ≠ "java/lang/invoke/VarHandle" ∧ (parseMethodDescriptor y_Words_isKind.desc).map (fun d => d.parameters.length) = some 1 := by decide +kernel
theorem e_Words_isKind {d : Nat} {x0 : Int32} {h : am_H} {Q : am_Q} (k : am_W (X_Words_isKind d) 0 [some (.int x0)] [] h Q) : m_Words_isKind d [.int x0] h Q := am_enter pl_Words rfl (Nat.le_of_ble_eq_true rfl) k
abbrev y_Club_body : MethodName := ⟨"WhichClub", "body", "(I)I"⟩
abbrev X_Club_body (d : Nat) : am_X := (shX, "WhichClub", prog_1_method_32_code, 2, (some .int), d)
abbrev m_Club_body (d : Nat) (vs : List Value) (h : am_H) (Q : am_Q) : Prop := am_M shX y_Club_body prog_1_method_32_code 2 (some .int) d vs h Q
theorem p_Club_body : y_Club_body.cls ≠ "java/lang/invoke/MethodHandle" ∧ y_Club_body.cls ≠ "java/lang/invoke/VarHandle" ∧ (parseMethodDescriptor y_Club_body.desc).map (fun d => d.parameters.length) = some 1 := by decide +kernel
theorem e_Club_body {d : Nat} {x1 : Int32} {h : am_H} {Q : am_Q} (k : am_W (X_Club_body d) 0 [some (.ref 0), some (.int x1)] [] h Q) : m_Club_body d [.ref 0, .int x1] h Q := am_enter pl_Club rfl (Nat.le_of_ble_eq_true rfl) k
abbrev y_Words_holderOf : MethodName := ⟨"WhichClub$Words", "holderOf", "(II)I"⟩
abbrev X_Words_holderOf (d : Nat) : am_X := (shX, "WhichClub$Words", prog_10_method_14_code, 5, (some .int), d)
abbrev m_Words_holderOf (d : Nat) (vs : List Value) (h : am_H) (Q : am_Q) : Prop := am_M shX y_Words_holderOf prog_10_method_14_code 5 (some .int) d vs h Q
theorem p_Words_holderOf : y_Words_holderOf.cls ≠ "java/lang/invoke/MethodHandle" ∧ y_Words_holderOf.cls ≠ "java/lang/invoke/VarHandle" ∧ (parseMethodDescriptor y_Words_holderOf.desc).map (fun d => d.parameters.length) = some 2 := by decide +kernel
theorem e_Words_holderOf {d : Nat} {x0 : Int32} {x1 : Int32} {h : am_H} {Q : am_Q} (k : am_W (X_Words_holderOf d) 0 [some (.int x0), some (.int x1), none, none, none] [] h Q) : m_Words_holderOf d [.int x0, .int x1] h Q := am_enter pl_Words rfl (Nat.le_of_ble_eq_true rfl) k
abbrev y_Words_note : MethodName := ⟨"WhichClub$Words", "note", "(I)V"⟩
abbrev X_Words_note (d : Nat) : am_X := (shX, "WhichClub$Words", prog_10_method_15_code, 2, none, d)
abbrev m_Words_note (d : Nat) (vs : List Value) (h : am_H) (Q : am_Q) : Prop := am_M shX y_Words_note prog_10_method_15_code 2 none d vs h Q
theorem p_Words_note : y_Words_note.cls ≠ "java/lang/invoke/MethodHandle" ∧ y_Words_note.cls ≠ "java/lang/invoke/VarHandle" ∧ (parseMethodDescriptor y_Words_note.desc).map (fun d => d.parameters.length) = some 1 := by decide +kernel
theorem e_Words_note {d : Nat} {x1 : Int32} {h : am_H} {Q : am_Q} (k : am_W (X_Words_note d) 0 [some (.ref 27), some (.int x1)] [] h Q) : m_Words_note d [.ref 27, .int x1] h Q := am_enter pl_Words rfl (Nat.le_of_ble_eq_true rfl) k
abbrev y_Words_hasWord : MethodName := ⟨"WhichClub$Words", "hasWord", "(I)Z"⟩
abbrev X_Words_hasWord (d : Nat) : am_X := (shX, "WhichClub$Words", prog_10_method_5_code, 2, (some .boolean), d)
abbrev m_Words_hasWord (d : Nat) (vs : List Value) (h : am_H) (Q : am_Q) : Prop := am_M shX y_Words_hasWord prog_10_method_5_code 2 (some .boolean) d vs h Q
theorem p_Words_hasWord : y_Words_hasWord.cls ≠ "java/lang/invoke/MethodHandle" ∧ y_Words_hasWord.cls ≠ "java/lang/invoke/VarHandle" ∧ (parseMethodDescriptor y_Words_hasWord.desc).map (fun d => d.parameters.length) = some 1 := by decide +kernel
theorem e_Words_hasWord {d : Nat} {x1 : Int32} {h : am_H} {Q : am_Q} (k : am_W (X_Words_hasWord d) 0 [some (.ref 27), some (.int x1)] [] h Q) : m_Words_hasWord d [.ref 27, .int x1] h Q := am_enter pl_Words rfl (Nat.le_of_ble_eq_true rfl) k
abbrev y_Words_kindOf : MethodName := ⟨"WhichClub$Words", "kindOf", "(I)I"⟩
abbrev X_Words_kindOf (d : Nat) : am_X := (shX, "WhichClub$Words", prog_10_method_8_code, 2, (some .int), d)
abbrev m_Words_kindOf (d : Nat) (vs : List Value) (h : am_H) (Q : am_Q) : Prop := am_M shX y_Words_kindOf prog_10_method_8_code 2 (some .int) d vs h Q
theorem p_Words_kindOf : y_Words_kindOf.cls ≠ "java/lang/invoke/MethodHandle" ∧ y_Words_kindOf.cls ≠ "java/lang/invoke/VarHandle" ∧ (parseMethodDescriptor y_Words_kindOf.desc).map (fun d => d.parameters.length) = some 1 := by decide +kernel
theorem e_Words_kindOf {d : Nat} {x1 : Int32} {h : am_H} {Q : am_Q} (k : am_W (X_Words_kindOf d) 0 [some (.ref 27), some (.int x1)] [] h Q) : m_Words_kindOf d [.ref 27, .int x1] h Q := am_enter pl_Words rfl (Nat.le_of_ble_eq_true rfl) k
abbrev y_Words_call : MethodName := ⟨"WhichClub$Words", "call", "(IIIII)I"⟩
abbrev X_Words_call (d : Nat) : am_X := (shX, "WhichClub$Words", prog_10_method_13_code, 8, (some .int), d)
abbrev m_Words_call (d : Nat) (vs : List Value) (h : am_H) (Q : am_Q) : Prop := am_M shX y_Words_call prog_10_method_13_code 8 (some .int) d vs h Q
theorem p_Words_call : y_Words_call.cls ≠ "java/lang/invoke/MethodHandle" ∧ y_Words_call.cls ≠ "java/lang/invoke/VarHandle" ∧ (parseMethodDescriptor y_Words_call.desc).map (fun d => d.parameters.length) = some 5 := by decide +kernel
theorem e_Words_call {d : Nat} {x1 : Int32} {x2 : Int32} {x3 : Int32} {x4 : Int32} {x5 : Int32} {h : am_H} {Q : am_Q} (k : am_W (X_Words_call d) 0 [some (.ref 27), some (.int x1), some (.int x2), some (.int x3), some (.int x4), some (.int x5), none, none] [] h Q) : m_Words_call d [.ref 27, .int x1, .int x2, .int x3, .int x4, .int x5] h Q := am_enter pl_Words rfl (Nat.le_of_ble_eq_true rfl) k
abbrev y_Words_runBody : MethodName := ⟨"WhichClub$Words", "runBody", "(IIIII)I"⟩
abbrev X_Words_runBody (d : Nat) : am_X := (shX, "WhichClub$Words", prog_10_method_16_code, 8, (some .int), d)
abbrev m_Words_runBody (d : Nat) (vs : List Value) (h : am_H) (Q : am_Q) : Prop := am_M shX y_Words_runBody prog_10_method_16_code 8 (some .int) d vs h Q
theorem p_Words_runBody : y_Words_runBody.cls ≠ "java/lang/invoke/MethodHandle" ∧ y_Words_runBody.cls ≠ "java/lang/invoke/VarHandle" ∧ (parseMethodDescriptor y_Words_runBody.desc).map (fun d => d.parameters.length) = some 5 := by decide +kernel
theorem e_Words_runBody {d : Nat} {x1 : Int32} {x2 : Int32} {x3 : Int32} {x4 : Int32} {x5 : Int32} {h : am_H} {Q : am_Q} (k : am_W (X_Words_runBody d) 0 [some (.ref 27), some (.int x1), some (.int x2), some (.int x3), some (.int x4), some (.int x5), none, none] [] h Q) : m_Words_runBody d [.ref 27, .int x1, .int x2, .int x3, .int x4, .int x5] h Q := am_enter pl_Words rfl (Nat.le_of_ble_eq_true rfl) k
abbrev y_Words_perform : MethodName := ⟨"WhichClub$Words", "perform", "(III)I"⟩
abbrev X_Words_perform (d : Nat) : am_X := (shX, "WhichClub$Words", prog_10_method_12_code, 4, (some .int), d)
abbrev m_Words_perform (d : Nat) (vs : List Value) (h : am_H) (Q : am_Q) : Prop := am_M shX y_Words_perform prog_10_method_12_code 4 (some .int) d vs h Q
theorem p_Words_perform : y_Words_perform.cls ≠ "java/lang/invoke/MethodHandle" ∧ y_Words_perform.cls ≠ "java/lang/invoke/VarHandle" ∧ (parseMethodDescriptor y_Words_perform.desc).map (fun d => d.parameters.length) = some 3 := by decide +kernel
theorem e_Words_perform {d : Nat} {x1 : Int32} {x2 : Int32} {x3 : Int32} {h : am_H} {Q : am_Q} (k : am_W (X_Words_perform d) 0 [some (.ref 27), some (.int x1), some (.int x2), some (.int x3)] [] h Q) : m_Words_perform d [.ref 27, .int x1, .int x2, .int x3] h Q := am_enter pl_Words rfl (Nat.le_of_ble_eq_true rfl) k
abbrev y_Club_act : MethodName := ⟨"WhichClub", "act", "(III)I"⟩
abbrev X_Club_act (d : Nat) : am_X := (shX, "WhichClub", prog_1_method_33_code, 4, (some .int), d)
abbrev m_Club_act (d : Nat) (vs : List Value) (h : am_H) (Q : am_Q) : Prop := am_M shX y_Club_act prog_1_method_33_code 4 (some .int) d vs h Q
theorem p_Club_act : y_Club_act.cls ≠ "java/lang/invoke/MethodHandle" ∧ y_Club_act.cls ≠ "java/lang/invoke/VarHandle" ∧ (parseMethodDescriptor y_Club_act.desc).map (fun d => d.parameters.length) = some 3 := by decide +kernel
theorem e_Club_act {d : Nat} {x1 : Int32} {x2 : Int32} {x3 : Int32} {h : am_H} {Q : am_Q} (k : am_W (X_Club_act d) 0 [some (.ref 0), some (.int x1), some (.int x2), some (.int x3)] [] h Q) : m_Club_act d [.ref 0, .int x1, .int x2, .int x3] h Q := am_enter pl_Club rfl (Nat.le_of_ble_eq_true rfl) k
abbrev y_Words_ranAt : MethodName := ⟨"WhichClub$Words", "ranAt", "(I)I"⟩
abbrev X_Words_ranAt (d : Nat) : am_X := (shX, "WhichClub$Words", prog_10_method_11_code, 2, (some .int), d)
abbrev m_Words_ranAt (d : Nat) (vs : List Value) (h : am_H) (Q : am_Q) : Prop := am_M shX y_Words_ranAt prog_10_method_11_code 2 (some .int) d vs h Q
theorem p_Words_ranAt : y_Words_ranAt.cls ≠ "java/lang/invoke/MethodHandle" ∧ y_Words_ranAt.cls ≠ "java/lang/invoke/VarHandle" ∧ (parseMethodDescriptor y_Words_ranAt.desc).map (fun d => d.parameters.length) = some 1 := by decide +kernel
theorem e_Words_ranAt {d : Nat} {x1 : Int32} {h : am_H} {Q : am_Q} (k : am_W (X_Words_ranAt d) 0 [some (.ref 27), some (.int x1)] [] h Q) : m_Words_ranAt d [.ref 27, .int x1] h Q := am_enter pl_Words rfl (Nat.le_of_ble_eq_true rfl) k
abbrev y_Words_ranKept : MethodName := ⟨"WhichClub$Words", "ranKept", "()I"⟩
abbrev X_Words_ranKept (d : Nat) : am_X := (shX, "WhichClub$Words", prog_10_method_10_code, 1, (some .int), d)
abbrev m_Words_ranKept (d : Nat) (vs : List Value) (h : am_H) (Q : am_Q) : Prop := am_M shX y_Words_ranKept prog_10_method_10_code 1 (some .int) d vs h Q
theorem p_Words_ranKept : y_Words_ranKept.cls ≠ "java/lang/invoke/MethodHandle" ∧ y_Words_ranKept.cls ≠ "java/lang/invoke/VarHandle" ∧ (parseMethodDescriptor y_Words_ranKept.desc).map (fun d => d.parameters.length) = some 0 := by decide +kernel
theorem e_Words_ranKept {d : Nat} {h : am_H} {Q : am_Q} (k : am_W (X_Words_ranKept d) 0 [some (.ref 27)] [] h Q) : m_Words_ranKept d [.ref 27] h Q := am_enter pl_Words rfl (Nat.le_of_ble_eq_true rfl) k
abbrev y_Club_trace : MethodName := ⟨"WhichClub", "trace", "(I)I"⟩
abbrev X_Club_trace (d : Nat) : am_X := (shX, "WhichClub", prog_1_method_34_code, 2, (some .int), d)
abbrev m_Club_trace (d : Nat) (vs : List Value) (h : am_H) (Q : am_Q) : Prop := am_M shX y_Club_trace prog_1_method_34_code 2 (some .int) d vs h Q
theorem p_Club_trace : y_Club_trace.cls ≠ "java/lang/invoke/MethodHandle" ∧ y_Club_trace.cls ≠ "java/lang/invoke/VarHandle" ∧ (parseMethodDescriptor y_Club_trace.desc).map (fun d => d.parameters.length) = some 1 := by decide +kernel
theorem e_Club_trace {d : Nat} {x1 : Int32} {h : am_H} {Q : am_Q} (k : am_W (X_Club_trace d) 0 [some (.ref 0), some (.int x1)] [] h Q) : m_Club_trace d [.ref 0, .int x1] h Q := am_enter pl_Club rfl (Nat.le_of_ble_eq_true rfl) k
abbrev y_Shelf_holdNothing : MethodName := ⟨"WhichClub$Shelf", "holdNothing", "()V"⟩
abbrev X_Shelf_holdNothing (d : Nat) : am_X := (shX, "WhichClub$Shelf", prog_9_method_3_code, 1, none, d)
abbrev m_Shelf_holdNothing (d : Nat) (vs : List Value) (h : am_H) (Q : am_Q) : Prop := am_M shX y_Shelf_holdNothing prog_9_method_3_code 1 none d vs h Q
theorem p_Shelf_holdNothing : y_Shelf_holdNothing.cls ≠ "java/lang/invoke/MethodHandle" ∧ y_Shelf_holdNothing.cls ≠ "java/lang/invoke/VarHandle" ∧ (parseMethodDescriptor y_Shelf_holdNothing.desc).map (fun d => d.parameters.length) = some 0 := by decide +kernel
theorem e_Shelf_holdNothing {d : Nat} {a0 : Nat} {h : am_H} {Q : am_Q} (k : am_W (X_Shelf_holdNothing d) 0 [some (.ref a0)] [] h Q) : m_Shelf_holdNothing d [.ref a0] h Q := am_enter pl_Shelf rfl (Nat.le_of_ble_eq_true rfl) k
abbrev y_Shelf_holdWord : MethodName := ⟨"WhichClub$Shelf", "holdWord", "(I)V"⟩
abbrev X_Shelf_holdWord (d : Nat) : am_X := (shX, "WhichClub$Shelf", prog_9_method_4_code, 2, none, d)
abbrev m_Shelf_holdWord (d : Nat) (vs : List Value) (h : am_H) (Q : am_Q) : Prop := am_M shX y_Shelf_holdWord prog_9_method_4_code 2 none d vs h Q
theorem p_Shelf_holdWord : y_Shelf_holdWord.cls ≠ "java/lang/invoke/MethodHandle" ∧ y_Shelf_holdWord.cls ≠ "java/lang/invoke/VarHandle" ∧ (parseMethodDescriptor y_Shelf_holdWord.desc).map (fun d => d.parameters.length) = some 1 := by decide +kernel
theorem e_Shelf_holdWord {d : Nat} {a0 : Nat} {x1 : Int32} {h : am_H} {Q : am_Q} (k : am_W (X_Shelf_holdWord d) 0 [some (.ref a0), some (.int x1)] [] h Q) : m_Shelf_holdWord d [.ref a0, .int x1] h Q := am_enter pl_Shelf rfl (Nat.le_of_ble_eq_true rfl) k
abbrev y_Club_keep : MethodName := ⟨"WhichClub", "keep", "(II)I"⟩
abbrev X_Club_keep (d : Nat) : am_X := (shX, "WhichClub", prog_1_method_35_code, 3, (some .int), d)
abbrev m_Club_keep (d : Nat) (vs : List Value) (h : am_H) (Q : am_Q) : Prop := am_M shX y_Club_keep prog_1_method_35_code 3 (some .int) d vs h Q
theorem p_Club_keep : y_Club_keep.cls ≠ "java/lang/invoke/MethodHandle" ∧ y_Club_keep.cls ≠ "java/lang/invoke/VarHandle" ∧ (parseMethodDescriptor y_Club_keep.desc).map (fun d => d.parameters.length) = some 2 := by decide +kernel
theorem e_Club_keep {d : Nat} {x1 : Int32} {x2 : Int32} {h : am_H} {Q : am_Q} (k : am_W (X_Club_keep d) 0 [some (.ref 0), some (.int x1), some (.int x2)] [] h Q) : m_Club_keep d [.ref 0, .int x1, .int x2] h Q := am_enter pl_Club rfl (Nat.le_of_ble_eq_true rfl) k
abbrev y_Shelf_holdRow : MethodName := ⟨"WhichClub$Shelf", "holdRow", "(II)V"⟩
abbrev X_Shelf_holdRow (d : Nat) : am_X := (shX, "WhichClub$Shelf", prog_9_method_5_code, 3, none, d)
abbrev m_Shelf_holdRow (d : Nat) (vs : List Value) (h : am_H) (Q : am_Q) : Prop := am_M shX y_Shelf_holdRow prog_9_method_5_code 3 none d vs h Q
theorem p_Shelf_holdRow : y_Shelf_holdRow.cls ≠ "java/lang/invoke/MethodHandle" ∧ y_Shelf_holdRow.cls ≠ "java/lang/invoke/VarHandle" ∧ (parseMethodDescriptor y_Shelf_holdRow.desc).map (fun d => d.parameters.length) = some 2 := by decide +kernel
theorem e_Shelf_holdRow {d : Nat} {a0 : Nat} {x1 : Int32} {x2 : Int32} {h : am_H} {Q : am_Q} (k : am_W (X_Shelf_holdRow d) 0 [some (.ref a0), some (.int x1), some (.int x2)] [] h Q) : m_Shelf_holdRow d [.ref a0, .int x1, .int x2] h Q := am_enter pl_Shelf rfl (Nat.le_of_ble_eq_true rfl) k
abbrev y_Shelf_isSort : MethodName := ⟨"WhichClub$Shelf", "isSort", "(I)Z"⟩
abbrev X_Shelf_isSort (d : Nat) : am_X := (shX, "WhichClub$Shelf", prog_9_method_2_code, 1, (some .boolean), d)
abbrev m_Shelf_isSort (d : Nat) (vs : List Value) (h : am_H) (Q : am_Q) : Prop := am_M shX y_Shelf_isSort prog_9_method_2_code 1 (some .boolean) d vs h Q
theorem p_Shelf_isSort : y_Shelf_isSort.cls ≠ "java/lang/invoke/MethodHandle" ∧ y_Shelf_isSort.cls ≠ "java/lang/invoke/VarHandle" ∧ (parseMethodDescriptor y_Shelf_isSort.desc).map (fun d => d.parameters.length) = some 1 := by decide +kernel
theorem e_Shelf_isSort {d : Nat} {x0 : Int32} {h : am_H} {Q : am_Q} (k : am_W (X_Shelf_isSort d) 0 [some (.int x0)] [] h Q) : m_Shelf_isSort d [.int x0] h Q := am_enter pl_Shelf rfl (Nat.le_of_ble_eq_true rfl) k
abbrev y_Club_row : MethodName := ⟨"WhichClub", "row", "(III)I"⟩
abbrev X_Club_row (d : Nat) : am_X := (shX, "WhichClub", prog_1_method_36_code, 4, (some .int), d)
abbrev m_Club_row (d : Nat) (vs : List Value) (h : am_H) (Q : am_Q) : Prop := am_M shX y_Club_row prog_1_method_36_code 4 (some .int) d vs h Q
theorem p_Club_row : y_Club_row.cls ≠ "java/lang/invoke/MethodHandle" ∧ y_Club_row.cls ≠ "java/lang/invoke/VarHandle" ∧ (parseMethodDescriptor y_Club_row.desc).map (fun d => d.parameters.length) = some 3 := by decide +kernel
theorem e_Club_row {d : Nat} {x1 : Int32} {x2 : Int32} {x3 : Int32} {h : am_H} {Q : am_Q} (k : am_W (X_Club_row d) 0 [some (.ref 0), some (.int x1), some (.int x2), some (.int x3)] [] h Q) : m_Club_row d [.ref 0, .int x1, .int x2, .int x3] h Q := am_enter pl_Club rfl (Nat.le_of_ble_eq_true rfl) k
abbrev y_Shelf_isRow : MethodName := ⟨"WhichClub$Shelf", "isRow", "()Z"⟩
abbrev X_Shelf_isRow (d : Nat) : am_X := (shX, "WhichClub$Shelf", prog_9_method_7_code, 1, (some .boolean), d)
abbrev m_Shelf_isRow (d : Nat) (vs : List Value) (h : am_H) (Q : am_Q) : Prop := am_M shX y_Shelf_isRow prog_9_method_7_code 1 (some .boolean) d vs h Q
theorem p_Shelf_isRow : y_Shelf_isRow.cls ≠ "java/lang/invoke/MethodHandle" ∧ y_Shelf_isRow.cls ≠ "java/lang/invoke/VarHandle" ∧ (parseMethodDescriptor y_Shelf_isRow.desc).map (fun d => d.parameters.length) = some 0 := by decide +kernel
theorem e_Shelf_isRow {d : Nat} {a0 : Nat} {h : am_H} {Q : am_Q} (k : am_W (X_Shelf_isRow d) 0 [some (.ref a0)] [] h Q) : m_Shelf_isRow d [.ref a0] h Q := am_enter pl_Shelf rfl (Nat.le_of_ble_eq_true rfl) k
abbrev y_Club_refuseElement : MethodName := ⟨"WhichClub", "refuseElement", "(II)I"⟩
abbrev X_Club_refuseElement (d : Nat) : am_X := (shX, "WhichClub", prog_1_method_42_code, 4, (some .int), d)
abbrev m_Club_refuseElement (d : Nat) (vs : List Value) (h : am_H) (Q : am_Q) : Prop := am_M shX y_Club_refuseElement prog_1_method_42_code 4 (some .int) d vs h Q
theorem p_Club_refuseElement : y_Club_refuseElement.cls ≠ "java/lang/invoke/MethodHandle" ∧ y_Club_refuseElement.cls ≠ "java/lang/invoke/VarHandle" ∧ (parseMethodDescriptor y_Club_refuseElement.desc).map (fun d => d.parameters.length) = some 2 := by decide +kernel
theorem e_Club_refuseElement {d : Nat} {x1 : Int32} {x2 : Int32} {h : am_H} {Q : am_Q} (k : am_W (X_Club_refuseElement d) 0 [some (.ref 0), some (.int x1), some (.int x2), none] [] h Q) : m_Club_refuseElement d [.ref 0, .int x1, .int x2] h Q := am_enter pl_Club rfl (Nat.le_of_ble_eq_true rfl) k
abbrev y_Shelf_lowestBits : MethodName := ⟨"WhichClub$Shelf", "lowestBits", "(J)J"⟩
abbrev X_Shelf_lowestBits (d : Nat) : am_X := (shX, "WhichClub$Shelf", prog_9_method_15_code, 3, (some .long), d)
abbrev m_Shelf_lowestBits (d : Nat) (vs : List Value) (h : am_H) (Q : am_Q) : Prop := am_M shX y_Shelf_lowestBits prog_9_method_15_code 3 (some .long) d vs h Q
theorem p_Shelf_lowestBits : y_Shelf_lowestBits.cls ≠ "java/lang/invoke/MethodHandle" ∧ y_Shelf_lowestBits.cls ≠ "java/lang/invoke/VarHandle" ∧ (parseMethodDescriptor y_Shelf_lowestBits.desc).map (fun d => d.parameters.length) = some 1 := by decide +kernel
theorem e_Shelf_lowestBits {d : Nat} {a0 : Nat} {x1 : Int64} {h : am_H} {Q : am_Q} (k : am_W (X_Shelf_lowestBits d) 0 [some (.ref a0), some (.long x1), none] [] h Q) : m_Shelf_lowestBits d [.ref a0, .long x1] h Q := am_enter pl_Shelf rfl (Nat.le_of_ble_eq_true rfl) k
abbrev y_Shelf_write : MethodName := ⟨"WhichClub$Shelf", "write", "(IJ)V"⟩
abbrev X_Shelf_write (d : Nat) : am_X := (shX, "WhichClub$Shelf", prog_9_method_14_code, 4, none, d)
abbrev m_Shelf_write (d : Nat) (vs : List Value) (h : am_H) (Q : am_Q) : Prop := am_M shX y_Shelf_write prog_9_method_14_code 4 none d vs h Q
theorem p_Shelf_write : y_Shelf_write.cls ≠ "java/lang/invoke/MethodHandle" ∧ y_Shelf_write.cls ≠ "java/lang/invoke/VarHandle" ∧ (parseMethodDescriptor y_Shelf_write.desc).map (fun d => d.parameters.length) = some 2 := by decide +kernel
theorem e_Shelf_write {d : Nat} {a0 : Nat} {x1 : Int32} {x2 : Int64} {h : am_H} {Q : am_Q} (k : am_W (X_Shelf_write d) 0 [some (.ref a0), some (.int x1), some (.long x2), none] [] h Q) : m_Shelf_write d [.ref a0, .int x1, .long x2] h Q := am_enter pl_Shelf rfl (Nat.le_of_ble_eq_true rfl) k
abbrev y_Club_put : MethodName := ⟨"WhichClub", "put", "(IIJ)I"⟩
abbrev X_Club_put (d : Nat) : am_X := (shX, "WhichClub", prog_1_method_37_code, 6, (some .int), d)
abbrev m_Club_put (d : Nat) (vs : List Value) (h : am_H) (Q : am_Q) : Prop := am_M shX y_Club_put prog_1_method_37_code 6 (some .int) d vs h Q
theorem p_Club_put : y_Club_put.cls ≠ "java/lang/invoke/MethodHandle" ∧ y_Club_put.cls ≠ "java/lang/invoke/VarHandle" ∧ (parseMethodDescriptor y_Club_put.desc).map (fun d => d.parameters.length) = some 3 := by decide +kernel
theorem e_Club_put {d : Nat} {x1 : Int32} {x2 : Int32} {x3 : Int64} {h : am_H} {Q : am_Q} (k : am_W (X_Club_put d) 0 [some (.ref 0), some (.int x1), some (.int x2), some (.long x3), none, none] [] h Q) : m_Club_put d [.ref 0, .int x1, .int x2, .long x3] h Q := am_enter pl_Club rfl (Nat.le_of_ble_eq_true rfl) k
abbrev y_Club_element : MethodName := ⟨"WhichClub", "element", "(II)J"⟩
abbrev X_Club_element (d : Nat) : am_X := (shX, "WhichClub", prog_1_method_38_code, 3, (some .long), d)
abbrev m_Club_element (d : Nat) (vs : List Value) (h : am_H) (Q : am_Q) : Prop := am_M shX y_Club_element prog_1_method_38_code 3 (some .long) d vs h Q
theorem p_Club_element : y_Club_element.cls ≠ "java/lang/invoke/MethodHandle" ∧ y_Club_element.cls ≠ "java/lang/invoke/VarHandle" ∧ (parseMethodDescriptor y_Club_element.desc).map (fun d => d.parameters.length) = some 2 := by decide +kernel
theorem e_Club_element {d : Nat} {x1 : Int32} {x2 : Int32} {h : am_H} {Q : am_Q} (k : am_W (X_Club_element d) 0 [some (.ref 0), some (.int x1), some (.int x2)] [] h Q) : m_Club_element d [.ref 0, .int x1, .int x2] h Q := am_enter pl_Club rfl (Nat.le_of_ble_eq_true rfl) k
abbrev y_Shelf_copyFrom : MethodName := ⟨"WhichClub$Shelf", "copyFrom", "(LWhichClub$Shelf;III)V"⟩
abbrev X_Shelf_copyFrom (d : Nat) : am_X := (shX, "WhichClub$Shelf", prog_9_method_16_code, 5, none, d)
abbrev m_Shelf_copyFrom (d : Nat) (vs : List Value) (h : am_H) (Q : am_Q) : Prop := am_M shX y_Shelf_copyFrom prog_9_method_16_code 5 none d vs h Q
theorem p_Shelf_copyFrom : y_Shelf_copyFrom.cls ≠ "java/lang/invoke/MethodHandle" ∧ y_Shelf_copyFrom.cls ≠ "java/lang/invoke/VarHandle" ∧ (parseMethodDescriptor y_Shelf_copyFrom.desc).map (fun d => d.parameters.length) = some 4 := by decide +kernel
theorem e_Shelf_copyFrom {d : Nat} {a0 : Nat} {a1 : Nat} {x2 : Int32} {x3 : Int32} {x4 : Int32} {h : am_H} {Q : am_Q} (k : am_W (X_Shelf_copyFrom d) 0 [some (.ref a0), some (.ref a1), some (.int x2), some (.int x3), some (.int x4)] [] h Q) : m_Shelf_copyFrom d [.ref a0, .ref a1, .int x2, .int x3, .int x4] h Q := am_enter pl_Shelf rfl (Nat.le_of_ble_eq_true rfl) k
abbrev y_Shelf_sortHeld : MethodName := ⟨"WhichClub$Shelf", "sortHeld", "()I"⟩
abbrev X_Shelf_sortHeld (d : Nat) : am_X := (shX, "WhichClub$Shelf", prog_9_method_10_code, 1, (some .int), d)
abbrev m_Shelf_sortHeld (d : Nat) (vs : List Value) (h : am_H) (Q : am_Q) : Prop := am_M shX y_Shelf_sortHeld prog_9_method_10_code 1 (some .int) d vs h Q
theorem p_Shelf_sortHeld : y_Shelf_sortHeld.cls ≠ "java/lang/invoke/MethodHandle" ∧ y_Shelf_sortHeld.cls ≠ "java/lang/invoke/VarHandle" ∧ (parseMethodDescriptor y_Shelf_sortHeld.desc).map (fun d => d.parameters.length) = some 0 := by decide +kernel
theorem e_Shelf_sortHeld {d : Nat} {a0 : Nat} {h : am_H} {Q : am_Q} (k : am_W (X_Shelf_sortHeld d) 0 [some (.ref a0)] [] h Q) : m_Shelf_sortHeld d [.ref a0] h Q := am_enter pl_Shelf rfl (Nat.le_of_ble_eq_true rfl) k
abbrev y_Club_shift : MethodName := ⟨"WhichClub", "shift", "(IIIII)I"⟩
abbrev X_Club_shift (d : Nat) : am_X := (shX, "WhichClub", prog_1_method_39_code, 8, (some .int), d)
abbrev m_Club_shift (d : Nat) (vs : List Value) (h : am_H) (Q : am_Q) : Prop := am_M shX y_Club_shift prog_1_method_39_code 8 (some .int) d vs h Q
theorem p_Club_shift : y_Club_shift.cls ≠ "java/lang/invoke/MethodHandle" ∧ y_Club_shift.cls ≠ "java/lang/invoke/VarHandle" ∧ (parseMethodDescriptor y_Club_shift.desc).map (fun d => d.parameters.length) = some 5 := by decide +kernel
theorem e_Club_shift {d : Nat} {x1 : Int32} {x2 : Int32} {x3 : Int32} {x4 : Int32} {x5 : Int32} {h : am_H} {Q : am_Q} (k : am_W (X_Club_shift d) 0 [some (.ref 0), some (.int x1), some (.int x2), some (.int x3), some (.int x4), some (.int x5), none, none] [] h Q) : m_Club_shift d [.ref 0, .int x1, .int x2, .int x3, .int x4, .int x5] h Q := am_enter pl_Club rfl (Nat.le_of_ble_eq_true rfl) k
abbrev y_Shelf_wordHeld : MethodName := ⟨"WhichClub$Shelf", "wordHeld", "()I"⟩
abbrev X_Shelf_wordHeld (d : Nat) : am_X := (shX, "WhichClub$Shelf", prog_9_method_9_code, 1, (some .int), d)
abbrev m_Shelf_wordHeld (d : Nat) (vs : List Value) (h : am_H) (Q : am_Q) : Prop := am_M shX y_Shelf_wordHeld prog_9_method_9_code 1 (some .int) d vs h Q
theorem p_Shelf_wordHeld : y_Shelf_wordHeld.cls ≠ "java/lang/invoke/MethodHandle" ∧ y_Shelf_wordHeld.cls ≠ "java/lang/invoke/VarHandle" ∧ (parseMethodDescriptor y_Shelf_wordHeld.desc).map (fun d => d.parameters.length) = some 0 := by decide +kernel
theorem e_Shelf_wordHeld {d : Nat} {a0 : Nat} {h : am_H} {Q : am_Q} (k : am_W (X_Shelf_wordHeld d) 0 [some (.ref a0)] [] h Q) : m_Shelf_wordHeld d [.ref a0] h Q := am_enter pl_Shelf rfl (Nat.le_of_ble_eq_true rfl) k
abbrev y_Words_isUnder : MethodName := ⟨"WhichClub$Words", "isUnder", "(II)Z"⟩
abbrev X_Words_isUnder (d : Nat) : am_X := (shX, "WhichClub$Words", prog_10_method_3_code, 4, (some .boolean), d)
abbrev m_Words_isUnder (d : Nat) (vs : List Value) (h : am_H) (Q : am_Q) : Prop := am_M shX y_Words_isUnder prog_10_method_3_code 4 (some .boolean) d vs h Q
theorem p_Words_isUnder : y_Words_isUnder.cls ≠ "java/lang/invoke/MethodHandle" ∧ y_Words_isUnder.cls ≠ "java/lang/invoke/VarHandle" ∧ (parseMethodDescriptor y_Words_isUnder.desc).map (fun d => d.parameters.length) = some 2 := by decide +kernel
theorem e_Words_isUnder {d : Nat} {x0 : Int32} {x1 : Int32} {h : am_H} {Q : am_Q} (k : am_W (X_Words_isUnder d) 0 [some (.int x0), some (.int x1), none, none] [] h Q) : m_Words_isUnder d [.int x0, .int x1] h Q := am_enter pl_Words rfl (Nat.le_of_ble_eq_true rfl) k
abbrev y_Club_taken : MethodName := ⟨"WhichClub", "taken", "(II)I"⟩
abbrev X_Club_taken (d : Nat) : am_X := (shX, "WhichClub", prog_1_method_40_code, 5, (some .int), d)
abbrev m_Club_taken (d : Nat) (vs : List Value) (h : am_H) (Q : am_Q) : Prop := am_M shX y_Club_taken prog_1_method_40_code 5 (some .int) d vs h Q
theorem p_Club_taken : y_Club_taken.cls ≠ "java/lang/invoke/MethodHandle" ∧ y_Club_taken.cls ≠ "java/lang/invoke/VarHandle" ∧ (parseMethodDescriptor y_Club_taken.desc).map (fun d => d.parameters.length) = some 2 := by decide +kernel
theorem e_Club_taken {d : Nat} {x1 : Int32} {x2 : Int32} {h : am_H} {Q : am_Q} (k : am_W (X_Club_taken d) 0 [some (.ref 0), some (.int x1), some (.int x2), none, none] [] h Q) : m_Club_taken d [.ref 0, .int x1, .int x2] h Q := am_enter pl_Club rfl (Nat.le_of_ble_eq_true rfl) k
abbrev y_Hole_greenCells : MethodName := ⟨"WhichClub$Hole", "greenCells", "()I"⟩
abbrev X_Hole_greenCells (d : Nat) : am_X := (shX, "WhichClub$Hole", prog_5_method_22_code, 3, (some .int), d)
abbrev m_Hole_greenCells (d : Nat) (vs : List Value) (h : am_H) (Q : am_Q) : Prop := am_M shX y_Hole_greenCells prog_5_method_22_code 3 (some .int) d vs h Q
theorem p_Hole_greenCells : y_Hole_greenCells.cls ≠ "java/lang/invoke/MethodHandle" ∧ y_Hole_greenCells.cls ≠ "java/lang/invoke/VarHandle" ∧ (parseMethodDescriptor y_Hole_greenCells.desc).map (fun d => d.parameters.length) = some 0 := by decide +kernel
theorem e_Hole_greenCells {d : Nat} {h : am_H} {Q : am_Q} (k : am_W (X_Hole_greenCells d) 0 [some (.ref 1), none, none] [] h Q) : m_Hole_greenCells d [.ref 1] h Q := am_enter pl_Hole rfl (Nat.le_of_ble_eq_true rfl) k
abbrev y_Hole_waterCells : MethodName := ⟨"WhichClub$Hole", "waterCells", "()I"⟩
abbrev X_Hole_waterCells (d : Nat) : am_X := (shX, "WhichClub$Hole", prog_5_method_23_code, 3, (some .int), d)
abbrev m_Hole_waterCells (d : Nat) (vs : List Value) (h : am_H) (Q : am_Q) : Prop := am_M shX y_Hole_waterCells prog_5_method_23_code 3 (some .int) d vs h Q
theorem p_Hole_waterCells : y_Hole_waterCells.cls ≠ "java/lang/invoke/MethodHandle" ∧ y_Hole_waterCells.cls ≠ "java/lang/invoke/VarHandle" ∧ (parseMethodDescriptor y_Hole_waterCells.desc).map (fun d => d.parameters.length) = some 0 := by decide +kernel
theorem e_Hole_waterCells {d : Nat} {h : am_H} {Q : am_Q} (k : am_W (X_Hole_waterCells d) 0 [some (.ref 1), none, none] [] h Q) : m_Hole_waterCells d [.ref 1] h Q := am_enter pl_Hole rfl (Nat.le_of_ble_eq_true rfl) k
abbrev y_Law_tapeLength : MethodName := ⟨"WhichClub$Law", "tapeLength", "()I"⟩
abbrev X_Law_tapeLength (d : Nat) : am_X := (shX, "WhichClub$Law", prog_6_method_3_code, 1, (some .int), d)
abbrev m_Law_tapeLength (d : Nat) (vs : List Value) (h : am_H) (Q : am_Q) : Prop := am_M shX y_Law_tapeLength prog_6_method_3_code 1 (some .int) d vs h Q
theorem p_Law_tapeLength : y_Law_tapeLength.cls ≠ "java/lang/invoke/MethodHandle" ∧ y_Law_tapeLength.cls ≠ "java/lang/invoke/VarHandle" ∧ (parseMethodDescriptor y_Law_tapeLength.desc).map (fun d => d.parameters.length) = some 0 := by decide +kernel
theorem e_Law_tapeLength {d : Nat} {h : am_H} {Q : am_Q} (k : am_W (X_Law_tapeLength d) 0 [some (.ref 6)] [] h Q) : m_Law_tapeLength d [.ref 6] h Q := am_enter pl_Law rfl (Nat.le_of_ble_eq_true rfl) k
abbrev y_Words_ranInAll : MethodName := ⟨"WhichClub$Words", "ranInAll", "()I"⟩
abbrev X_Words_ranInAll (d : Nat) : am_X := (shX, "WhichClub$Words", prog_10_method_9_code, 1, (some .int), d)
abbrev m_Words_ranInAll (d : Nat) (vs : List Value) (h : am_H) (Q : am_Q) : Prop := am_M shX y_Words_ranInAll prog_10_method_9_code 1 (some .int) d vs h Q
theorem p_Words_ranInAll : y_Words_ranInAll.cls ≠ "java/lang/invoke/MethodHandle" ∧ y_Words_ranInAll.cls ≠ "java/lang/invoke/VarHandle" ∧ (parseMethodDescriptor y_Words_ranInAll.desc).map (fun d => d.parameters.length) = some 0 := by decide +kernel
theorem e_Words_ranInAll {d : Nat} {h : am_H} {Q : am_Q} (k : am_W (X_Words_ranInAll d) 0 [some (.ref 27)] [] h Q) : m_Words_ranInAll d [.ref 27] h Q := am_enter pl_Words rfl (Nat.le_of_ble_eq_true rfl) k
abbrev y_Words_wordsHeld : MethodName := ⟨"WhichClub$Words", "wordsHeld", "()I"⟩
abbrev X_Words_wordsHeld (d : Nat) : am_X := (shX, "WhichClub$Words", prog_10_method_6_code, 1, (some .int), d)
abbrev m_Words_wordsHeld (d : Nat) (vs : List Value) (h : am_H) (Q : am_Q) : Prop := am_M shX y_Words_wordsHeld prog_10_method_6_code 1 (some .int) d vs h Q
theorem p_Words_wordsHeld : y_Words_wordsHeld.cls ≠ "java/lang/invoke/MethodHandle" ∧ y_Words_wordsHeld.cls ≠ "java/lang/invoke/VarHandle" ∧ (parseMethodDescriptor y_Words_wordsHeld.desc).map (fun d => d.parameters.length) = some 0 := by decide +kernel
theorem e_Words_wordsHeld {d : Nat} {h : am_H} {Q : am_Q} (k : am_W (X_Words_wordsHeld d) 0 [some (.ref 27)] [] h Q) : m_Words_wordsHeld d [.ref 27] h Q := am_enter pl_Words rfl (Nat.le_of_ble_eq_true rfl) k
abbrev y_Club_count : MethodName := ⟨"WhichClub", "count", "(I)I"⟩
abbrev X_Club_count (d : Nat) : am_X := (shX, "WhichClub", prog_1_method_41_code, 2, (some .int), d)
abbrev m_Club_count (d : Nat) (vs : List Value) (h : am_H) (Q : am_Q) : Prop := am_M shX y_Club_count prog_1_method_41_code 2 (some .int) d vs h Q
theorem p_Club_count : y_Club_count.cls ≠ "java/lang/invoke/MethodHandle" ∧ y_Club_count.cls ≠ "java/lang/invoke/VarHandle" ∧ (parseMethodDescriptor y_Club_count.desc).map (fun d => d.parameters.length) = some 1 := by decide +kernel
theorem e_Club_count {d : Nat} {x1 : Int32} {h : am_H} {Q : am_Q} (k : am_W (X_Club_count d) 0 [some (.ref 0), some (.int x1)] [] h Q) : m_Club_count d [.ref 0, .int x1] h Q := am_enter pl_Club rfl (Nat.le_of_ble_eq_true rfl) k
abbrev y_Model_within : MethodName := ⟨"WhichClubModel", "within", "(JJJ)Z"⟩
abbrev X_Model_within (d : Nat) : am_X := (shM, "WhichClubModel", prog_12_method_1_code, 6, (some .boolean), d)
abbrev m_Model_within (d : Nat) (vs : List Value) (h : am_H) (Q : am_Q) : Prop := am_M shM y_Model_within prog_12_method_1_code 6 (some .boolean) d vs h Q
theorem p_Model_within : y_Model_within.cls ≠ "java/lang/invoke/MethodHandle" ∧ y_Model_within.cls ≠ "java/lang/invoke/VarHandle" ∧ (parseMethodDescriptor y_Model_within.desc).map (fun d => d.parameters.length) = some 3 := by decide +kernel
theorem e_Model_within {d : Nat} {x0 : Int64} {x2 : Int64} {x4 : Int64} {h : am_H} {Q : am_Q} (k : am_W (X_Model_within d) 0 [some (.long x0), none, some (.long x2), none, some (.long x4), none] [] h Q) : m_Model_within d [.long x0, .long x2, .long x4] h Q := am_enter pl_Model rfl (Nat.le_of_ble_eq_true rfl) k
abbrev y_Model_sizeOf : MethodName := ⟨"WhichClubModel", "sizeOf", "(I)I"⟩
abbrev X_Model_sizeOf (d : Nat) : am_X := (shM, "WhichClubModel", prog_12_method_2_code, 1, (some .int), d)
abbrev m_Model_sizeOf (d : Nat) (vs : List Value) (h : am_H) (Q : am_Q) : Prop := am_M shM y_Model_sizeOf prog_12_method_2_code 1 (some .int) d vs h Q
theorem p_Model_sizeOf : y_Model_sizeOf.cls ≠ "java/lang/invoke/MethodHandle" ∧ y_Model_sizeOf.cls ≠ "java/lang/invoke/VarHandle" ∧ (parseMethodDescriptor y_Model_sizeOf.desc).map (fun d => d.parameters.length) = some 1 := by decide +kernel
theorem e_Model_sizeOf {d : Nat} {x0 : Int32} {h : am_H} {Q : am_Q} (k : am_W (X_Model_sizeOf d) 0 [some (.int x0)] [] h Q) : m_Model_sizeOf d [.int x0] h Q := am_enter pl_Model rfl (Nat.le_of_ble_eq_true rfl) k
abbrev y_Model_becomes : MethodName := ⟨"WhichClubModel", "becomes", "(II)I"⟩
abbrev X_Model_becomes (d : Nat) : am_X := (shM, "WhichClubModel", prog_12_method_4_code, 5, (some .int), d)
abbrev m_Model_becomes (d : Nat) (vs : List Value) (h : am_H) (Q : am_Q) : Prop := am_M shM y_Model_becomes prog_12_method_4_code 5 (some .int) d vs h Q
theorem p_Model_becomes : y_Model_becomes.cls ≠ "java/lang/invoke/MethodHandle" ∧ y_Model_becomes.cls ≠ "java/lang/invoke/VarHandle" ∧ (parseMethodDescriptor y_Model_becomes.desc).map (fun d => d.parameters.length) = some 2 := by decide +kernel
theorem e_Model_becomes {d : Nat} {x1 : Int32} {x2 : Int32} {h : am_H} {Q : am_Q} (k : am_W (X_Model_becomes d) 0 [some (.ref 0), some (.int x1), some (.int x2), none, none] [] h Q) : m_Model_becomes d [.ref 0, .int x1, .int x2] h Q := am_enter pl_Model rfl (Nat.le_of_ble_eq_true rfl) k
abbrev y_Model_undo : MethodName := ⟨"WhichClubModel", "undo", "()I"⟩
abbrev X_Model_undo (d : Nat) : am_X := (shM, "WhichClubModel", prog_12_method_5_code, 1, (some .int), d)
abbrev m_Model_undo (d : Nat) (vs : List Value) (h : am_H) (Q : am_Q) : Prop := am_M shM y_Model_undo prog_12_method_5_code 1 (some .int) d vs h Q
theorem p_Model_undo : y_Model_undo.cls ≠ "java/lang/invoke/MethodHandle" ∧ y_Model_undo.cls ≠ "java/lang/invoke/VarHandle" ∧ (parseMethodDescriptor y_Model_undo.desc).map (fun d => d.parameters.length) = some 0 := by decide +kernel
theorem e_Model_undo {d : Nat} {h : am_H} {Q : am_Q} (k : am_W (X_Model_undo d) 0 [some (.ref 0)] [] h Q) : m_Model_undo d [.ref 0] h Q := am_enter pl_Model rfl (Nat.le_of_ble_eq_true rfl) k
abbrev y_Model_redo : MethodName := ⟨"WhichClubModel", "redo", "()I"⟩
abbrev X_Model_redo (d : Nat) : am_X := (shM, "WhichClubModel", prog_12_method_6_code, 1, (some .int), d)
abbrev m_Model_redo (d : Nat) (vs : List Value) (h : am_H) (Q : am_Q) : Prop := am_M shM y_Model_redo prog_12_method_6_code 1 (some .int) d vs h Q
theorem p_Model_redo : y_Model_redo.cls ≠ "java/lang/invoke/MethodHandle" ∧ y_Model_redo.cls ≠ "java/lang/invoke/VarHandle" ∧ (parseMethodDescriptor y_Model_redo.desc).map (fun d => d.parameters.length) = some 0 := by decide +kernel
theorem e_Model_redo {d : Nat} {h : am_H} {Q : am_Q} (k : am_W (X_Model_redo d) 0 [some (.ref 0)] [] h Q) : m_Model_redo d [.ref 0] h Q := am_enter pl_Model rfl (Nat.le_of_ble_eq_true rfl) k
abbrev y_Model_isClub : MethodName := ⟨"WhichClubModel", "isClub", "(J)Z"⟩
abbrev X_Model_isClub (d : Nat) : am_X := (shM, "WhichClubModel", prog_12_method_7_code, 3, (some .boolean), d)
abbrev m_Model_isClub (d : Nat) (vs : List Value) (h : am_H) (Q : am_Q) : Prop := am_M shM y_Model_isClub prog_12_method_7_code 3 (some .boolean) d vs h Q
theorem p_Model_isClub : y_Model_isClub.cls ≠ "java/lang/invoke/MethodHandle" ∧ y_Model_isClub.cls ≠ "java/lang/invoke/VarHandle" ∧ (parseMethodDescriptor y_Model_isClub.desc).map (fun d => d.parameters.length) = some 1 := by decide +kernel
theorem e_Model_isClub {d : Nat} {x1 : Int64} {h : am_H} {Q : am_Q} (k : am_W (X_Model_isClub d) 0 [some (.ref 0), some (.long x1), none] [] h Q) : m_Model_isClub d [.ref 0, .long x1] h Q := am_enter pl_Model rfl (Nat.le_of_ble_eq_true rfl) k
abbrev y_Model_isCell : MethodName := ⟨"WhichClubModel", "isCell", "(J)Z"⟩
abbrev X_Model_isCell (d : Nat) : am_X := (shM, "WhichClubModel", prog_12_method_8_code, 2, (some .boolean), d)
abbrev m_Model_isCell (d : Nat) (vs : List Value) (h : am_H) (Q : am_Q) : Prop := am_M shM y_Model_isCell prog_12_method_8_code 2 (some .boolean) d vs h Q
theorem p_Model_isCell : y_Model_isCell.cls ≠ "java/lang/invoke/MethodHandle" ∧ y_Model_isCell.cls ≠ "java/lang/invoke/VarHandle" ∧ (parseMethodDescriptor y_Model_isCell.desc).map (fun d => d.parameters.length) = some 1 := by decide +kernel
theorem e_Model_isCell {d : Nat} {x0 : Int64} {h : am_H} {Q : am_Q} (k : am_W (X_Model_isCell d) 0 [some (.long x0), none] [] h Q) : m_Model_isCell d [.long x0] h Q := am_enter pl_Model rfl (Nat.le_of_ble_eq_true rfl) k
abbrev y_Model_isGreen : MethodName := ⟨"WhichClubModel", "isGreen", "(I)Z"⟩
abbrev X_Model_isGreen (d : Nat) : am_X := (shM, "WhichClubModel", prog_12_method_9_code, 2, (some .boolean), d)
abbrev m_Model_isGreen (d : Nat) (vs : List Value) (h : am_H) (Q : am_Q) : Prop := am_M shM y_Model_isGreen prog_12_method_9_code 2 (some .boolean) d vs h Q
theorem p_Model_isGreen : y_Model_isGreen.cls ≠ "java/lang/invoke/MethodHandle" ∧ y_Model_isGreen.cls ≠ "java/lang/invoke/VarHandle" ∧ (parseMethodDescriptor y_Model_isGreen.desc).map (fun d => d.parameters.length) = some 1 := by decide +kernel
theorem e_Model_isGreen {d : Nat} {x1 : Int32} {h : am_H} {Q : am_Q} (k : am_W (X_Model_isGreen d) 0 [some (.ref 0), some (.int x1)] [] h Q) : m_Model_isGreen d [.ref 0, .int x1] h Q := am_enter pl_Model rfl (Nat.le_of_ble_eq_true rfl) k
abbrev y_Model_isWater : MethodName := ⟨"WhichClubModel", "isWater", "(I)Z"⟩
abbrev X_Model_isWater (d : Nat) : am_X := (shM, "WhichClubModel", prog_12_method_10_code, 2, (some .boolean), d)
abbrev m_Model_isWater (d : Nat) (vs : List Value) (h : am_H) (Q : am_Q) : Prop := am_M shM y_Model_isWater prog_12_method_10_code 2 (some .boolean) d vs h Q
theorem p_Model_isWater : y_Model_isWater.cls ≠ "java/lang/invoke/MethodHandle" ∧ y_Model_isWater.cls ≠ "java/lang/invoke/VarHandle" ∧ (parseMethodDescriptor y_Model_isWater.desc).map (fun d => d.parameters.length) = some 1 := by decide +kernel
theorem e_Model_isWater {d : Nat} {x1 : Int32} {h : am_H} {Q : am_Q} (k : am_W (X_Model_isWater d) 0 [some (.ref 0), some (.int x1)] [] h Q) : m_Model_isWater d [.ref 0, .int x1] h Q := am_enter pl_Model rfl (Nat.le_of_ble_eq_true rfl) k
abbrev y_Model_adds : MethodName := ⟨"WhichClubModel", "adds", "(III)V"⟩
abbrev X_Model_adds (d : Nat) : am_X := (shM, "WhichClubModel", prog_12_method_11_code, 4, none, d)
abbrev m_Model_adds (d : Nat) (vs : List Value) (h : am_H) (Q : am_Q) : Prop := am_M shM y_Model_adds prog_12_method_11_code 4 none d vs h Q
theorem p_Model_adds : y_Model_adds.cls ≠ "java/lang/invoke/MethodHandle" ∧ y_Model_adds.cls ≠ "java/lang/invoke/VarHandle" ∧ (parseMethodDescriptor y_Model_adds.desc).map (fun d => d.parameters.length) = some 3 := by decide +kernel
theorem e_Model_adds {d : Nat} {x1 : Int32} {x2 : Int32} {x3 : Int32} {h : am_H} {Q : am_Q} (k : am_W (X_Model_adds d) 0 [some (.ref 0), some (.int x1), some (.int x2), some (.int x3)] [] h Q) : m_Model_adds d [.ref 0, .int x1, .int x2, .int x3] h Q := am_enter pl_Model rfl (Nat.le_of_ble_eq_true rfl) k
abbrev y_Model_isOne : MethodName := ⟨"WhichClubModel", "isOne", "(JJ)Z"⟩
abbrev X_Model_isOne (d : Nat) : am_X := (shM, "WhichClubModel", prog_12_method_12_code, 4, (some .boolean), d)
abbrev m_Model_isOne (d : Nat) (vs : List Value) (h : am_H) (Q : am_Q) : Prop := am_M shM y_Model_isOne prog_12_method_12_code 4 (some .boolean) d vs h Q
theorem p_Model_isOne : y_Model_isOne.cls ≠ "java/lang/invoke/MethodHandle" ∧ y_Model_isOne.cls ≠ "java/lang/invoke/VarHandle" ∧ (parseMethodDescriptor y_Model_isOne.desc).map (fun d => d.parameters.length) = some 2 := by decide +kernel
theorem e_Model_isOne {d : Nat} {x0 : Int64} {x2 : Int64} {h : am_H} {Q : am_Q} (k : am_W (X_Model_isOne d) 0 [some (.long x0), none, some (.long x2), none] [] h Q) : m_Model_isOne d [.long x0, .long x2] h Q := am_enter pl_Model rfl (Nat.le_of_ble_eq_true rfl) k
abbrev y_Model_club : MethodName := ⟨"WhichClubModel", "club", "(I)I"⟩
abbrev X_Model_club (d : Nat) : am_X := (shM, "WhichClubModel", prog_12_method_13_code, 2, (some .int), d)
abbrev m_Model_club (d : Nat) (vs : List Value) (h : am_H) (Q : am_Q) : Prop := am_M shM y_Model_club prog_12_method_13_code 2 (some .int) d vs h Q
theorem p_Model_club : y_Model_club.cls ≠ "java/lang/invoke/MethodHandle" ∧ y_Model_club.cls ≠ "java/lang/invoke/VarHandle" ∧ (parseMethodDescriptor y_Model_club.desc).map (fun d => d.parameters.length) = some 1 := by decide +kernel
theorem e_Model_club {d : Nat} {x1 : Int32} {h : am_H} {Q : am_Q} (k : am_W (X_Model_club d) 0 [some (.ref 0), some (.int x1)] [] h Q) : m_Model_club d [.ref 0, .int x1] h Q := am_enter pl_Model rfl (Nat.le_of_ble_eq_true rfl) k
abbrev y_Model_isShelf : MethodName := ⟨"WhichClubModel", "isShelf", "(I)Z"⟩
abbrev X_Model_isShelf (d : Nat) : am_X := (shM, "WhichClubModel", prog_12_method_87_code, 1, (some .boolean), d)
abbrev m_Model_isShelf (d : Nat) (vs : List Value) (h : am_H) (Q : am_Q) : Prop := am_M shM y_Model_isShelf prog_12_method_87_code 1 (some .boolean) d vs h Q
theorem p_Model_isShelf : y_Model_isShelf.cls ≠ "java/lang/invoke/MethodHandle" ∧ y_Model_isShelf.cls ≠ "java/lang/invoke/VarHandle" ∧ (parseMethodDescriptor y_Model_isShelf.desc).map (fun d => d.parameters.length) = some 1 := by decide +kernel
theorem e_Model_isShelf {d : Nat} {x0 : Int32} {h : am_H} {Q : am_Q} (k : am_W (X_Model_isShelf d) 0 [some (.int x0)] [] h Q) : m_Model_isShelf d [.int x0] h Q := am_enter pl_Model rfl (Nat.le_of_ble_eq_true rfl) k
abbrev y_Model_clubs : MethodName := ⟨"WhichClubModel", "clubs", "(III)I"⟩
abbrev X_Model_clubs (d : Nat) : am_X := (shM, "WhichClubModel", prog_12_method_14_code, 7, (some .int), d)
abbrev m_Model_clubs (d : Nat) (vs : List Value) (h : am_H) (Q : am_Q) : Prop := am_M shM y_Model_clubs prog_12_method_14_code 7 (some .int) d vs h Q
theorem p_Model_clubs : y_Model_clubs.cls ≠ "java/lang/invoke/MethodHandle" ∧ y_Model_clubs.cls ≠ "java/lang/invoke/VarHandle" ∧ (parseMethodDescriptor y_Model_clubs.desc).map (fun d => d.parameters.length) = some 3 := by decide +kernel
theorem e_Model_clubs {d : Nat} {x1 : Int32} {x2 : Int32} {x3 : Int32} {h : am_H} {Q : am_Q} (k : am_W (X_Model_clubs d) 0 [some (.ref 0), some (.int x1), some (.int x2), some (.int x3), none, none, none] [] h Q) : m_Model_clubs d [.ref 0, .int x1, .int x2, .int x3] h Q := am_enter pl_Model rfl (Nat.le_of_ble_eq_true rfl) k
abbrev y_Model_placeOf : MethodName := ⟨"WhichClubModel", "placeOf", "(II)I"⟩
abbrev X_Model_placeOf (d : Nat) : am_X := (shM, "WhichClubModel", prog_12_method_15_code, 3, (some .int), d)
abbrev m_Model_placeOf (d : Nat) (vs : List Value) (h : am_H) (Q : am_Q) : Prop := am_M shM y_Model_placeOf prog_12_method_15_code 3 (some .int) d vs h Q
theorem p_Model_placeOf : y_Model_placeOf.cls ≠ "java/lang/invoke/MethodHandle" ∧ y_Model_placeOf.cls ≠ "java/lang/invoke/VarHandle" ∧ (parseMethodDescriptor y_Model_placeOf.desc).map (fun d => d.parameters.length) = some 2 := by decide +kernel
theorem e_Model_placeOf {d : Nat} {x1 : Int32} {x2 : Int32} {h : am_H} {Q : am_Q} (k : am_W (X_Model_placeOf d) 0 [some (.ref 0), some (.int x1), some (.int x2)] [] h Q) : m_Model_placeOf d [.ref 0, .int x1, .int x2] h Q := am_enter pl_Model rfl (Nat.le_of_ble_eq_true rfl) k
abbrev y_Model_mayBecome : MethodName := ⟨"WhichClubModel", "mayBecome", "(II)Z"⟩
abbrev X_Model_mayBecome (d : Nat) : am_X := (shM, "WhichClubModel", prog_12_method_16_code, 3, (some .boolean), d)
abbrev m_Model_mayBecome (d : Nat) (vs : List Value) (h : am_H) (Q : am_Q) : Prop := am_M shM y_Model_mayBecome prog_12_method_16_code 3 (some .boolean) d vs h Q
theorem p_Model_mayBecome : y_Model_mayBecome.cls ≠ "java/lang/invoke/MethodHandle" ∧ y_Model_mayBecome.cls ≠ "java/lang/invoke/VarHandle" ∧ (parseMethodDescriptor y_Model_mayBecome.desc).map (fun d => d.parameters.length) = some 2 := by decide +kernel
theorem e_Model_mayBecome {d : Nat} {x1 : Int32} {x2 : Int32} {h : am_H} {Q : am_Q} (k : am_W (X_Model_mayBecome d) 0 [some (.ref 0), some (.int x1), some (.int x2)] [] h Q) : m_Model_mayBecome d [.ref 0, .int x1, .int x2] h Q := am_enter pl_Model rfl (Nat.le_of_ble_eq_true rfl) k
abbrev y_Model_mend : MethodName := ⟨"WhichClubModel", "mend", "(III)I"⟩
abbrev X_Model_mend (d : Nat) : am_X := (shM, "WhichClubModel", prog_12_method_17_code, 5, (some .int), d)
abbrev m_Model_mend (d : Nat) (vs : List Value) (h : am_H) (Q : am_Q) : Prop := am_M shM y_Model_mend prog_12_method_17_code 5 (some .int) d vs h Q
theorem p_Model_mend : y_Model_mend.cls ≠ "java/lang/invoke/MethodHandle" ∧ y_Model_mend.cls ≠ "java/lang/invoke/VarHandle" ∧ (parseMethodDescriptor y_Model_mend.desc).map (fun d => d.parameters.length) = some 3 := by decide +kernel
theorem e_Model_mend {d : Nat} {x1 : Int32} {x2 : Int32} {x3 : Int32} {h : am_H} {Q : am_Q} (k : am_W (X_Model_mend d) 0 [some (.ref 0), some (.int x1), some (.int x2), some (.int x3), none] [] h Q) : m_Model_mend d [.ref 0, .int x1, .int x2, .int x3] h Q := am_enter pl_Model rfl (Nat.le_of_ble_eq_true rfl) k
abbrev y_Model_of : MethodName := ⟨"WhichClubModel", "of", "(II)I"⟩
abbrev X_Model_of (d : Nat) : am_X := (shM, "WhichClubModel", prog_12_method_18_code, 4, (some .int), d)
abbrev m_Model_of (d : Nat) (vs : List Value) (h : am_H) (Q : am_Q) : Prop := am_M shM y_Model_of prog_12_method_18_code 4 (some .int) d vs h Q
theorem p_Model_of : y_Model_of.cls ≠ "java/lang/invoke/MethodHandle" ∧ y_Model_of.cls ≠ "java/lang/invoke/VarHandle" ∧ (parseMethodDescriptor y_Model_of.desc).map (fun d => d.parameters.length) = some 2 := by decide +kernel
theorem e_Model_of {d : Nat} {x1 : Int32} {x2 : Int32} {h : am_H} {Q : am_Q} (k : am_W (X_Model_of d) 0 [some (.ref 0), some (.int x1), some (.int x2), none] [] h Q) : m_Model_of d [.ref 0, .int x1, .int x2] h Q := am_enter pl_Model rfl (Nat.le_of_ble_eq_true rfl) k
abbrev y_Model_feed : MethodName := ⟨"WhichClubModel", "feed", "(I)I"⟩
abbrev X_Model_feed (d : Nat) : am_X := (shM, "WhichClubModel", prog_12_method_19_code, 2, (some .int), d)
abbrev m_Model_feed (d : Nat) (vs : List Value) (h : am_H) (Q : am_Q) : Prop := am_M shM y_Model_feed prog_12_method_19_code 2 (some .int) d vs h Q
theorem p_Model_feed : y_Model_feed.cls ≠ "java/lang/invoke/MethodHandle" ∧ y_Model_feed.cls ≠ "java/lang/invoke/VarHandle" ∧ (parseMethodDescriptor y_Model_feed.desc).map (fun d => d.parameters.length) = some 1 := by decide +kernel
theorem e_Model_feed {d : Nat} {x1 : Int32} {h : am_H} {Q : am_Q} (k : am_W (X_Model_feed d) 0 [some (.ref 0), some (.int x1)] [] h Q) : m_Model_feed d [.ref 0, .int x1] h Q := am_enter pl_Model rfl (Nat.le_of_ble_eq_true rfl) k
abbrev y_Model_byteAt : MethodName := ⟨"WhichClubModel", "byteAt", "()I"⟩
abbrev X_Model_byteAt (d : Nat) : am_X := (shM, "WhichClubModel", prog_12_method_20_code, 1, (some .int), d)
abbrev m_Model_byteAt (d : Nat) (vs : List Value) (h : am_H) (Q : am_Q) : Prop := am_M shM y_Model_byteAt prog_12_method_20_code 1 (some .int) d vs h Q
theorem p_Model_byteAt : y_Model_byteAt.cls ≠ "java/lang/invoke/MethodHandle" ∧ y_Model_byteAt.cls ≠ "java/lang/invoke/VarHandle" ∧ (parseMethodDescriptor y_Model_byteAt.desc).map (fun d => d.parameters.length) = some 0 := by decide +kernel
theorem e_Model_byteAt {d : Nat} {h : am_H} {Q : am_Q} (k : am_W (X_Model_byteAt d) 0 [some (.ref 0)] [] h Q) : m_Model_byteAt d [.ref 0] h Q := am_enter pl_Model rfl (Nat.le_of_ble_eq_true rfl) k
abbrev y_Model_wrong : MethodName := ⟨"WhichClubModel", "wrong", "()I"⟩
abbrev X_Model_wrong (d : Nat) : am_X := (shM, "WhichClubModel", prog_12_method_21_code, 1, (some .int), d)
abbrev m_Model_wrong (d : Nat) (vs : List Value) (h : am_H) (Q : am_Q) : Prop := am_M shM y_Model_wrong prog_12_method_21_code 1 (some .int) d vs h Q
theorem p_Model_wrong : y_Model_wrong.cls ≠ "java/lang/invoke/MethodHandle" ∧ y_Model_wrong.cls ≠ "java/lang/invoke/VarHandle" ∧ (parseMethodDescriptor y_Model_wrong.desc).map (fun d => d.parameters.length) = some 0 := by decide +kernel
theorem e_Model_wrong {d : Nat} {h : am_H} {Q : am_Q} (k : am_W (X_Model_wrong d) 0 [some (.ref 0)] [] h Q) : m_Model_wrong d [.ref 0] h Q := am_enter pl_Model rfl (Nat.le_of_ble_eq_true rfl) k
abbrev y_Model_takes : MethodName := ⟨"WhichClubModel", "takes", "(I)Z"⟩
abbrev X_Model_takes (d : Nat) : am_X := (shM, "WhichClubModel", prog_12_method_22_code, 2, (some .boolean), d)
abbrev m_Model_takes (d : Nat) (vs : List Value) (h : am_H) (Q : am_Q) : Prop := am_M shM y_Model_takes prog_12_method_22_code 2 (some .boolean) d vs h Q
theorem p_Model_takes : y_Model_takes.cls ≠ "java/lang/invoke/MethodHandle" ∧ y_Model_takes.cls ≠ "java/lang/invoke/VarHandle" ∧ (parseMethodDescriptor y_Model_takes.desc).map (fun d => d.parameters.length) = some 1 := by decide +kernel
theorem e_Model_takes {d : Nat} {x1 : Int32} {h : am_H} {Q : am_Q} (k : am_W (X_Model_takes d) 0 [some (.ref 0), some (.int x1)] [] h Q) : m_Model_takes d [.ref 0, .int x1] h Q := am_enter pl_Model rfl (Nat.le_of_ble_eq_true rfl) k
abbrev y_Model_nameOf : MethodName := ⟨"WhichClubModel", "nameOf", "(I)I"⟩
abbrev X_Model_nameOf (d : Nat) : am_X := (shM, "WhichClubModel", prog_12_method_28_code, 1, (some .int), d)
abbrev m_Model_nameOf (d : Nat) (vs : List Value) (h : am_H) (Q : am_Q) : Prop := am_M shM y_Model_nameOf prog_12_method_28_code 1 (some .int) d vs h Q
theorem p_Model_nameOf : y_Model_nameOf.cls ≠ "java/lang/invoke/MethodHandle" ∧ y_Model_nameOf.cls ≠ "java/lang/invoke/VarHandle" ∧ (parseMethodDescriptor y_Model_nameOf.desc).map (fun d => d.parameters.length) = some 1 := by decide +kernel
theorem e_Model_nameOf {d : Nat} {x0 : Int32} {h : am_H} {Q : am_Q} (k : am_W (X_Model_nameOf d) 0 [some (.int x0)] [] h Q) : m_Model_nameOf d [.int x0] h Q := am_enter pl_Model rfl (Nat.le_of_ble_eq_true rfl) k
abbrev y_Model_both : MethodName := ⟨"WhichClubModel", "both", "()I"⟩
abbrev X_Model_both (d : Nat) : am_X := (shM, "WhichClubModel", prog_12_method_24_code, 3, (some .int), d)
abbrev m_Model_both (d : Nat) (vs : List Value) (h : am_H) (Q : am_Q) : Prop := am_M shM y_Model_both prog_12_method_24_code 3 (some .int) d vs h Q
theorem p_Model_both : y_Model_both.cls ≠ "java/lang/invoke/MethodHandle" ∧ y_Model_both.cls ≠ "java/lang/invoke/VarHandle" ∧ (parseMethodDescriptor y_Model_both.desc).map (fun d => d.parameters.length) = some 0 := by decide +kernel
theorem e_Model_both {d : Nat} {h : am_H} {Q : am_Q} (k : am_W (X_Model_both d) 0 [some (.ref 0), none, none] [] h Q) : m_Model_both d [.ref 0] h Q := am_enter pl_Model rfl (Nat.le_of_ble_eq_true rfl) k
abbrev y_Model_compared : MethodName := ⟨"WhichClubModel", "compared", "()I"⟩
abbrev X_Model_compared (d : Nat) : am_X := (shM, "WhichClubModel", prog_12_method_25_code, 4, (some .int), d)
abbrev m_Model_compared (d : Nat) (vs : List Value) (h : am_H) (Q : am_Q) : Prop := am_M shM y_Model_compared prog_12_method_25_code 4 (some .int) d vs h Q
theorem p_Model_compared : y_Model_compared.cls ≠ "java/lang/invoke/MethodHandle" ∧ y_Model_compared.cls ≠ "java/lang/invoke/VarHandle" ∧ (parseMethodDescriptor y_Model_compared.desc).map (fun d => d.parameters.length) = some 0 := by decide +kernel
theorem e_Model_compared {d : Nat} {h : am_H} {Q : am_Q} (k : am_W (X_Model_compared d) 0 [some (.ref 0), none, none, none] [] h Q) : m_Model_compared d [.ref 0] h Q := am_enter pl_Model rfl (Nat.le_of_ble_eq_true rfl) k
abbrev y_Model_either : MethodName := ⟨"WhichClubModel", "either", "()I"⟩
abbrev X_Model_either (d : Nat) : am_X := (shM, "WhichClubModel", prog_12_method_23_code, 3, (some .int), d)
abbrev m_Model_either (d : Nat) (vs : List Value) (h : am_H) (Q : am_Q) : Prop := am_M shM y_Model_either prog_12_method_23_code 3 (some .int) d vs h Q
theorem p_Model_either : y_Model_either.cls ≠ "java/lang/invoke/MethodHandle" ∧ y_Model_either.cls ≠ "java/lang/invoke/VarHandle" ∧ (parseMethodDescriptor y_Model_either.desc).map (fun d => d.parameters.length) = some 0 := by decide +kernel
theorem e_Model_either {d : Nat} {h : am_H} {Q : am_Q} (k : am_W (X_Model_either d) 0 [some (.ref 0), none, none] [] h Q) : m_Model_either d [.ref 0] h Q := am_enter pl_Model rfl (Nat.le_of_ble_eq_true rfl) k
abbrev y_Model_one : MethodName := ⟨"WhichClubModel", "one", "()I"⟩
abbrev X_Model_one (d : Nat) : am_X := (shM, "WhichClubModel", prog_12_method_29_code, 5, (some .int), d)
abbrev m_Model_one (d : Nat) (vs : List Value) (h : am_H) (Q : am_Q) : Prop := am_M shM y_Model_one prog_12_method_29_code 5 (some .int) d vs h Q
theorem p_Model_one : y_Model_one.cls ≠ "java/lang/invoke/MethodHandle" ∧ y_Model_one.cls ≠ "java/lang/invoke/VarHandle" ∧ (parseMethodDescriptor y_Model_one.desc).map (fun d => d.parameters.length) = some 0 := by decide +kernel
theorem e_Model_one {d : Nat} {h : am_H} {Q : am_Q} (k : am_W (X_Model_one d) 0 [some (.ref 0), none, none, none, none] [] h Q) : m_Model_one d [.ref 0] h Q := am_enter pl_Model rfl (Nat.le_of_ble_eq_true rfl) k
abbrev y_Model_product : MethodName := ⟨"WhichClubModel", "product", "()I"⟩
abbrev X_Model_product (d : Nat) : am_X := (shM, "WhichClubModel", prog_12_method_27_code, 4, (some .int), d)
abbrev m_Model_product (d : Nat) (vs : List Value) (h : am_H) (Q : am_Q) : Prop := am_M shM y_Model_product prog_12_method_27_code 4 (some .int) d vs h Q
theorem p_Model_product : y_Model_product.cls ≠ "java/lang/invoke/MethodHandle" ∧ y_Model_product.cls ≠ "java/lang/invoke/VarHandle" ∧ (parseMethodDescriptor y_Model_product.desc).map (fun d => d.parameters.length) = some 0 := by decide +kernel
theorem e_Model_product {d : Nat} {h : am_H} {Q : am_Q} (k : am_W (X_Model_product d) 0 [some (.ref 0), none, none, none] [] h Q) : m_Model_product d [.ref 0] h Q := am_enter pl_Model rfl (Nat.le_of_ble_eq_true rfl) k
abbrev y_Model_sums : MethodName := ⟨"WhichClubModel", "sums", "()I"⟩
abbrev X_Model_sums (d : Nat) : am_X := (shM, "WhichClubModel", prog_12_method_26_code, 4, (some .int), d)
abbrev m_Model_sums (d : Nat) (vs : List Value) (h : am_H) (Q : am_Q) : Prop := am_M shM y_Model_sums prog_12_method_26_code 4 (some .int) d vs h Q
theorem p_Model_sums : y_Model_sums.cls ≠ "java/lang/invoke/MethodHandle" ∧ y_Model_sums.cls ≠ "java/lang/invoke/VarHandle" ∧ (parseMethodDescriptor y_Model_sums.desc).map (fun d => d.parameters.length) = some 0 := by decide +kernel
theorem e_Model_sums {d : Nat} {h : am_H} {Q : am_Q} (k : am_W (X_Model_sums d) 0 [some (.ref 0), none, none, none] [] h Q) : m_Model_sums d [.ref 0] h Q := am_enter pl_Model rfl (Nat.le_of_ble_eq_true rfl) k
abbrev y_Model_workOut : MethodName := ⟨"WhichClubModel", "workOut", "(II)I"⟩
abbrev X_Model_workOut (d : Nat) : am_X := (shM, "WhichClubModel", prog_12_method_30_code, 8, (some .int), d)
abbrev m_Model_workOut (d : Nat) (vs : List Value) (h : am_H) (Q : am_Q) : Prop := am_M shM y_Model_workOut prog_12_method_30_code 8 (some .int) d vs h Q
theorem p_Model_workOut : y_Model_workOut.cls ≠ "java/lang/invoke/MethodHandle" ∧ y_Model_workOut.cls ≠ "java/lang/invoke/VarHandle" ∧ (parseMethodDescriptor y_Model_workOut.desc).map (fun d => d.parameters.length) = some 2 := by decide +kernel
theorem e_Model_workOut {d : Nat} {x1 : Int32} {x2 : Int32} {h : am_H} {Q : am_Q} (k : am_W (X_Model_workOut d) 0 [some (.ref 0), some (.int x1), some (.int x2), none, none, none, none, none] [] h Q) : m_Model_workOut d [.ref 0, .int x1, .int x2] h Q := am_enter pl_Model rfl (Nat.le_of_ble_eq_true rfl) k
abbrev y_Model_law : MethodName := ⟨"WhichClubModel", "law", "()I"⟩
abbrev X_Model_law (d : Nat) : am_X := (shM, "WhichClubModel", prog_12_method_31_code, 4, (some .int), d)
abbrev m_Model_law (d : Nat) (vs : List Value) (h : am_H) (Q : am_Q) : Prop := am_M shM y_Model_law prog_12_method_31_code 4 (some .int) d vs h Q
theorem p_Model_law : y_Model_law.cls ≠ "java/lang/invoke/MethodHandle" ∧ y_Model_law.cls ≠ "java/lang/invoke/VarHandle" ∧ (parseMethodDescriptor y_Model_law.desc).map (fun d => d.parameters.length) = some 0 := by decide +kernel
theorem e_Model_law {d : Nat} {h : am_H} {Q : am_Q} (k : am_W (X_Model_law d) 0 [some (.ref 0), none, none, none] [] h Q) : m_Model_law d [.ref 0] h Q := am_enter pl_Model rfl (Nat.le_of_ble_eq_true rfl) k
abbrev y_Model_rankOf : MethodName := ⟨"WhichClubModel", "rankOf", "(III)I"⟩
abbrev X_Model_rankOf (d : Nat) : am_X := (shM, "WhichClubModel", prog_12_method_32_code, 6, (some .int), d)
abbrev m_Model_rankOf (d : Nat) (vs : List Value) (h : am_H) (Q : am_Q) : Prop := am_M shM y_Model_rankOf prog_12_method_32_code 6 (some .int) d vs h Q
theorem p_Model_rankOf : y_Model_rankOf.cls ≠ "java/lang/invoke/MethodHandle" ∧ y_Model_rankOf.cls ≠ "java/lang/invoke/VarHandle" ∧ (parseMethodDescriptor y_Model_rankOf.desc).map (fun d => d.parameters.length) = some 3 := by decide +kernel
theorem e_Model_rankOf {d : Nat} {x1 : Int32} {x2 : Int32} {x3 : Int32} {h : am_H} {Q : am_Q} (k : am_W (X_Model_rankOf d) 0 [some (.ref 0), some (.int x1), some (.int x2), some (.int x3), none, none] [] h Q) : m_Model_rankOf d [.ref 0, .int x1, .int x2, .int x3] h Q := am_enter pl_Model rfl (Nat.le_of_ble_eq_true rfl) k
abbrev y_Model_takenFrom : MethodName := ⟨"WhichClubModel", "takenFrom", "(II)I"⟩
abbrev X_Model_takenFrom (d : Nat) : am_X := (shM, "WhichClubModel", prog_12_method_33_code, 7, (some .int), d)
abbrev m_Model_takenFrom (d : Nat) (vs : List Value) (h : am_H) (Q : am_Q) : Prop := am_M shM y_Model_takenFrom prog_12_method_33_code 7 (some .int) d vs h Q
theorem p_Model_takenFrom : y_Model_takenFrom.cls ≠ "java/lang/invoke/MethodHandle" ∧ y_Model_takenFrom.cls ≠ "java/lang/invoke/VarHandle" ∧ (parseMethodDescriptor y_Model_takenFrom.desc).map (fun d => d.parameters.length) = some 2 := by decide +kernel
theorem e_Model_takenFrom {d : Nat} {x1 : Int32} {x2 : Int32} {h : am_H} {Q : am_Q} (k : am_W (X_Model_takenFrom d) 0 [some (.ref 0), some (.int x1), some (.int x2), none, none, none, none] [] h Q) : m_Model_takenFrom d [.ref 0, .int x1, .int x2] h Q := am_enter pl_Model rfl (Nat.le_of_ble_eq_true rfl) k
abbrev y_Model_believed : MethodName := ⟨"WhichClubModel", "believed", "(I)I"⟩
abbrev X_Model_believed (d : Nat) : am_X := (shM, "WhichClubModel", prog_12_method_34_code, 2, (some .int), d)
abbrev m_Model_believed (d : Nat) (vs : List Value) (h : am_H) (Q : am_Q) : Prop := am_M shM y_Model_believed prog_12_method_34_code 2 (some .int) d vs h Q
theorem p_Model_believed : y_Model_believed.cls ≠ "java/lang/invoke/MethodHandle" ∧ y_Model_believed.cls ≠ "java/lang/invoke/VarHandle" ∧ (parseMethodDescriptor y_Model_believed.desc).map (fun d => d.parameters.length) = some 1 := by decide +kernel
theorem e_Model_believed {d : Nat} {x1 : Int32} {h : am_H} {Q : am_Q} (k : am_W (X_Model_believed d) 0 [some (.ref 0), some (.int x1)] [] h Q) : m_Model_believed d [.ref 0, .int x1] h Q := am_enter pl_Model rfl (Nat.le_of_ble_eq_true rfl) k
abbrev y_Model_lengthOf : MethodName := ⟨"WhichClubModel", "lengthOf", "(II)I"⟩
abbrev X_Model_lengthOf (d : Nat) : am_X := (shM, "WhichClubModel", prog_12_method_35_code, 6, (some .int), d)
abbrev m_Model_lengthOf (d : Nat) (vs : List Value) (h : am_H) (Q : am_Q) : Prop := am_M shM y_Model_lengthOf prog_12_method_35_code 6 (some .int) d vs h Q
theorem p_Model_lengthOf : y_Model_lengthOf.cls ≠ "java/lang/invoke/MethodHandle" ∧ y_Model_lengthOf.cls ≠ "java/lang/invoke/VarHandle" ∧ (parseMethodDescriptor y_Model_lengthOf.desc).map (fun d => d.parameters.length) = some 2 := by decide +kernel
theorem e_Model_lengthOf {d : Nat} {x1 : Int32} {x2 : Int32} {h : am_H} {Q : am_Q} (k : am_W (X_Model_lengthOf d) 0 [some (.ref 0), some (.int x1), some (.int x2), none, none, none] [] h Q) : m_Model_lengthOf d [.ref 0, .int x1, .int x2] h Q := am_enter pl_Model rfl (Nat.le_of_ble_eq_true rfl) k
abbrev y_Model_downOf : MethodName := ⟨"WhichClubModel", "downOf", "(III)I"⟩
abbrev X_Model_downOf (d : Nat) : am_X := (shM, "WhichClubModel", prog_12_method_36_code, 6, (some .int), d)
abbrev m_Model_downOf (d : Nat) (vs : List Value) (h : am_H) (Q : am_Q) : Prop := am_M shM y_Model_downOf prog_12_method_36_code 6 (some .int) d vs h Q
theorem p_Model_downOf : y_Model_downOf.cls ≠ "java/lang/invoke/MethodHandle" ∧ y_Model_downOf.cls ≠ "java/lang/invoke/VarHandle" ∧ (parseMethodDescriptor y_Model_downOf.desc).map (fun d => d.parameters.length) = some 3 := by decide +kernel
theorem e_Model_downOf {d : Nat} {x1 : Int32} {x2 : Int32} {x3 : Int32} {h : am_H} {Q : am_Q} (k : am_W (X_Model_downOf d) 0 [some (.ref 0), some (.int x1), some (.int x2), some (.int x3), none, none] [] h Q) : m_Model_downOf d [.ref 0, .int x1, .int x2, .int x3] h Q := am_enter pl_Model rfl (Nat.le_of_ble_eq_true rfl) k
abbrev y_Model_isCc : MethodName := ⟨"WhichClubModel", "isCc", "(I)Z"⟩
abbrev X_Model_isCc (d : Nat) : am_X := (shM, "WhichClubModel", prog_12_method_37_code, 2, (some .boolean), d)
abbrev m_Model_isCc (d : Nat) (vs : List Value) (h : am_H) (Q : am_Q) : Prop := am_M shM y_Model_isCc prog_12_method_37_code 2 (some .boolean) d vs h Q
theorem p_Model_isCc : y_Model_isCc.cls ≠ "java/lang/invoke/MethodHandle" ∧ y_Model_isCc.cls ≠ "java/lang/invoke/VarHandle" ∧ (parseMethodDescriptor y_Model_isCc.desc).map (fun d => d.parameters.length) = some 1 := by decide +kernel
theorem e_Model_isCc {d : Nat} {x1 : Int32} {h : am_H} {Q : am_Q} (k : am_W (X_Model_isCc d) 0 [some (.ref 0), some (.int x1)] [] h Q) : m_Model_isCc d [.ref 0, .int x1] h Q := am_enter pl_Model rfl (Nat.le_of_ble_eq_true rfl) k
abbrev y_Model_commonOf : MethodName := ⟨"WhichClubModel", "commonOf", "(JJ)J"⟩
abbrev X_Model_commonOf (d : Nat) : am_X := (shM, "WhichClubModel", prog_12_method_38_code, 10, (some .long), d)
abbrev m_Model_commonOf (d : Nat) (vs : List Value) (h : am_H) (Q : am_Q) : Prop := am_M shM y_Model_commonOf prog_12_method_38_code 10 (some .long) d vs h Q
theorem p_Model_commonOf : y_Model_commonOf.cls ≠ "java/lang/invoke/MethodHandle" ∧ y_Model_commonOf.cls ≠ "java/lang/invoke/VarHandle" ∧ (parseMethodDescriptor y_Model_commonOf.desc).map (fun d => d.parameters.length) = some 2 := by decide +kernel
theorem e_Model_commonOf {d : Nat} {x0 : Int64} {x2 : Int64} {h : am_H} {Q : am_Q} (k : am_W (X_Model_commonOf d) 0 [some (.long x0), none, some (.long x2), none, none, none, none, none, none, none] [] h Q) : m_Model_commonOf d [.long x0, .long x2] h Q := am_enter pl_Model rfl (Nat.le_of_ble_eq_true rfl) k
abbrev y_Model_partOf : MethodName := ⟨"WhichClubModel", "partOf", "(JJI)J"⟩
abbrev X_Model_partOf (d : Nat) : am_X := (shM, "WhichClubModel", prog_12_method_39_code, 7, (some .long), d)
abbrev m_Model_partOf (d : Nat) (vs : List Value) (h : am_H) (Q : am_Q) : Prop := am_M shM y_Model_partOf prog_12_method_39_code 7 (some .long) d vs h Q
theorem p_Model_partOf : y_Model_partOf.cls ≠ "java/lang/invoke/MethodHandle" ∧ y_Model_partOf.cls ≠ "java/lang/invoke/VarHandle" ∧ (parseMethodDescriptor y_Model_partOf.desc).map (fun d => d.parameters.length) = some 3 := by decide +kernel
theorem e_Model_partOf {d : Nat} {x0 : Int64} {x2 : Int64} {x4 : Int32} {h : am_H} {Q : am_Q} (k : am_W (X_Model_partOf d) 0 [some (.long x0), none, some (.long x2), none, some (.int x4), none, none] [] h Q) : m_Model_partOf d [.long x0, .long x2, .int x4] h Q := am_enter pl_Model rfl (Nat.le_of_ble_eq_true rfl) k
abbrev y_Model_waysTo : MethodName := ⟨"WhichClubModel", "waysTo", "(IIII)I"⟩
abbrev X_Model_waysTo (d : Nat) : am_X := (shM, "WhichClubModel", prog_12_method_40_code, 8, (some .int), d)
abbrev m_Model_waysTo (d : Nat) (vs : List Value) (h : am_H) (Q : am_Q) : Prop := am_M shM y_Model_waysTo prog_12_method_40_code 8 (some .int) d vs h Q
theorem p_Model_waysTo : y_Model_waysTo.cls ≠ "java/lang/invoke/MethodHandle" ∧ y_Model_waysTo.cls ≠ "java/lang/invoke/VarHandle" ∧ (parseMethodDescriptor y_Model_waysTo.desc).map (fun d => d.parameters.length) = some 4 := by decide +kernel
theorem e_Model_waysTo {d : Nat} {x1 : Int32} {x2 : Int32} {x3 : Int32} {x4 : Int32} {h : am_H} {Q : am_Q} (k : am_W (X_Model_waysTo d) 0 [some (.ref 0), some (.int x1), some (.int x2), some (.int x3), some (.int x4), none, none, none] [] h Q) : m_Model_waysTo d [.ref 0, .int x1, .int x2, .int x3, .int x4] h Q := am_enter pl_Model rfl (Nat.le_of_ble_eq_true rfl) k
abbrev y_Model_lies : MethodName := ⟨"WhichClubModel", "lies", "(III)J"⟩
abbrev X_Model_lies (d : Nat) : am_X := (shM, "WhichClubModel", prog_12_method_41_code, 5, (some .long), d)
abbrev m_Model_lies (d : Nat) (vs : List Value) (h : am_H) (Q : am_Q) : Prop := am_M shM y_Model_lies prog_12_method_41_code 5 (some .long) d vs h Q
theorem p_Model_lies : y_Model_lies.cls ≠ "java/lang/invoke/MethodHandle" ∧ y_Model_lies.cls ≠ "java/lang/invoke/VarHandle" ∧ (parseMethodDescriptor y_Model_lies.desc).map (fun d => d.parameters.length) = some 3 := by decide +kernel
theorem e_Model_lies {d : Nat} {x1 : Int32} {x2 : Int32} {x3 : Int32} {h : am_H} {Q : am_Q} (k : am_W (X_Model_lies d) 0 [some (.ref 0), some (.int x1), some (.int x2), some (.int x3), none] [] h Q) : m_Model_lies d [.ref 0, .int x1, .int x2, .int x3] h Q := am_enter pl_Model rfl (Nat.le_of_ble_eq_true rfl) k
abbrev y_Model_wetWays : MethodName := ⟨"WhichClubModel", "wetWays", "(II)I"⟩
abbrev X_Model_wetWays (d : Nat) : am_X := (shM, "WhichClubModel", prog_12_method_42_code, 5, (some .int), d)
abbrev m_Model_wetWays (d : Nat) (vs : List Value) (h : am_H) (Q : am_Q) : Prop := am_M shM y_Model_wetWays prog_12_method_42_code 5 (some .int) d vs h Q
theorem p_Model_wetWays : y_Model_wetWays.cls ≠ "java/lang/invoke/MethodHandle" ∧ y_Model_wetWays.cls ≠ "java/lang/invoke/VarHandle" ∧ (parseMethodDescriptor y_Model_wetWays.desc).map (fun d => d.parameters.length) = some 2 := by decide +kernel
theorem e_Model_wetWays {d : Nat} {x1 : Int32} {x2 : Int32} {h : am_H} {Q : am_Q} (k : am_W (X_Model_wetWays d) 0 [some (.ref 0), some (.int x1), some (.int x2), none, none] [] h Q) : m_Model_wetWays d [.ref 0, .int x1, .int x2] h Q := am_enter pl_Model rfl (Nat.le_of_ble_eq_true rfl) k
abbrev y_Model_greenWays : MethodName := ⟨"WhichClubModel", "greenWays", "(II)I"⟩
abbrev X_Model_greenWays (d : Nat) : am_X := (shM, "WhichClubModel", prog_12_method_43_code, 5, (some .int), d)
abbrev m_Model_greenWays (d : Nat) (vs : List Value) (h : am_H) (Q : am_Q) : Prop := am_M shM y_Model_greenWays prog_12_method_43_code 5 (some .int) d vs h Q
theorem p_Model_greenWays : y_Model_greenWays.cls ≠ "java/lang/invoke/MethodHandle" ∧ y_Model_greenWays.cls ≠ "java/lang/invoke/VarHandle" ∧ (parseMethodDescriptor y_Model_greenWays.desc).map (fun d => d.parameters.length) = some 2 := by decide +kernel
theorem e_Model_greenWays {d : Nat} {x1 : Int32} {x2 : Int32} {h : am_H} {Q : am_Q} (k : am_W (X_Model_greenWays d) 0 [some (.ref 0), some (.int x1), some (.int x2), none, none] [] h Q) : m_Model_greenWays d [.ref 0, .int x1, .int x2] h Q := am_enter pl_Model rfl (Nat.le_of_ble_eq_true rfl) k
abbrev y_Model_chance : MethodName := ⟨"WhichClubModel", "chance", "(III)J"⟩
abbrev X_Model_chance (d : Nat) : am_X := (shM, "WhichClubModel", prog_12_method_44_code, 5, (some .long), d)
abbrev m_Model_chance (d : Nat) (vs : List Value) (h : am_H) (Q : am_Q) : Prop := am_M shM y_Model_chance prog_12_method_44_code 5 (some .long) d vs h Q
theorem p_Model_chance : y_Model_chance.cls ≠ "java/lang/invoke/MethodHandle" ∧ y_Model_chance.cls ≠ "java/lang/invoke/VarHandle" ∧ (parseMethodDescriptor y_Model_chance.desc).map (fun d => d.parameters.length) = some 3 := by decide +kernel
theorem e_Model_chance {d : Nat} {x1 : Int32} {x2 : Int32} {x3 : Int32} {h : am_H} {Q : am_Q} (k : am_W (X_Model_chance d) 0 [some (.ref 0), some (.int x1), some (.int x2), some (.int x3), none] [] h Q) : m_Model_chance d [.ref 0, .int x1, .int x2, .int x3] h Q := am_enter pl_Model rfl (Nat.le_of_ble_eq_true rfl) k
abbrev y_Model_layUp : MethodName := ⟨"WhichClubModel", "layUp", "(I)I"⟩
abbrev X_Model_layUp (d : Nat) : am_X := (shM, "WhichClubModel", prog_12_method_45_code, 6, (some .int), d)
abbrev m_Model_layUp (d : Nat) (vs : List Value) (h : am_H) (Q : am_Q) : Prop := am_M shM y_Model_layUp prog_12_method_45_code 6 (some .int) d vs h Q
theorem p_Model_layUp : y_Model_layUp.cls ≠ "java/lang/invoke/MethodHandle" ∧ y_Model_layUp.cls ≠ "java/lang/invoke/VarHandle" ∧ (parseMethodDescriptor y_Model_layUp.desc).map (fun d => d.parameters.length) = some 1 := by decide +kernel
theorem e_Model_layUp {d : Nat} {x1 : Int32} {h : am_H} {Q : am_Q} (k : am_W (X_Model_layUp d) 0 [some (.ref 0), some (.int x1), none, none, none, none] [] h Q) : m_Model_layUp d [.ref 0, .int x1] h Q := am_enter pl_Model rfl (Nat.le_of_ble_eq_true rfl) k
abbrev y_Model_byClub : MethodName := ⟨"WhichClubModel", "byClub", "(III)J"⟩
abbrev X_Model_byClub (d : Nat) : am_X := (shM, "WhichClubModel", prog_12_method_46_code, 10, (some .long), d)
abbrev m_Model_byClub (d : Nat) (vs : List Value) (h : am_H) (Q : am_Q) : Prop := am_M shM y_Model_byClub prog_12_method_46_code 10 (some .long) d vs h Q
theorem p_Model_byClub : y_Model_byClub.cls ≠ "java/lang/invoke/MethodHandle" ∧ y_Model_byClub.cls ≠ "java/lang/invoke/VarHandle" ∧ (parseMethodDescriptor y_Model_byClub.desc).map (fun d => d.parameters.length) = some 3 := by decide +kernel
theorem e_Model_byClub {d : Nat} {x1 : Int32} {x2 : Int32} {x3 : Int32} {h : am_H} {Q : am_Q} (k : am_W (X_Model_byClub d) 0 [some (.ref 0), some (.int x1), some (.int x2), some (.int x3), none, none, none, none, none, none] [] h Q) : m_Model_byClub d [.ref 0, .int x1, .int x2, .int x3] h Q := am_enter pl_Model rfl (Nat.le_of_ble_eq_true rfl) k
abbrev y_Model_onGreen : MethodName := ⟨"WhichClubModel", "onGreen", "(II)J"⟩
abbrev X_Model_onGreen (d : Nat) : am_X := (shM, "WhichClubModel", prog_12_method_47_code, 3, (some .long), d)
abbrev m_Model_onGreen (d : Nat) (vs : List Value) (h : am_H) (Q : am_Q) : Prop := am_M shM y_Model_onGreen prog_12_method_47_code 3 (some .long) d vs h Q
theorem p_Model_onGreen : y_Model_onGreen.cls ≠ "java/lang/invoke/MethodHandle" ∧ y_Model_onGreen.cls ≠ "java/lang/invoke/VarHandle" ∧ (parseMethodDescriptor y_Model_onGreen.desc).map (fun d => d.parameters.length) = some 2 := by decide +kernel
theorem e_Model_onGreen {d : Nat} {x1 : Int32} {x2 : Int32} {h : am_H} {Q : am_Q} (k : am_W (X_Model_onGreen d) 0 [some (.ref 0), some (.int x1), some (.int x2)] [] h Q) : m_Model_onGreen d [.ref 0, .int x1, .int x2] h Q := am_enter pl_Model rfl (Nat.le_of_ble_eq_true rfl) k
abbrev y_Model_fills : MethodName := ⟨"WhichClubModel", "fills", "(I)V"⟩
abbrev X_Model_fills (d : Nat) : am_X := (shM, "WhichClubModel", prog_12_method_48_code, 9, none, d)
abbrev m_Model_fills (d : Nat) (vs : List Value) (h : am_H) (Q : am_Q) : Prop := am_M shM y_Model_fills prog_12_method_48_code 9 none d vs h Q
theorem p_Model_fills : y_Model_fills.cls ≠ "java/lang/invoke/MethodHandle" ∧ y_Model_fills.cls ≠ "java/lang/invoke/VarHandle" ∧ (parseMethodDescriptor y_Model_fills.desc).map (fun d => d.parameters.length) = some 1 := by decide +kernel
theorem e_Model_fills {d : Nat} {x1 : Int32} {h : am_H} {Q : am_Q} (k : am_W (X_Model_fills d) 0 [some (.ref 0), some (.int x1), none, none, none, none, none, none, none] [] h Q) : m_Model_fills d [.ref 0, .int x1] h Q := am_enter pl_Model rfl (Nat.le_of_ble_eq_true rfl) k
abbrev y_Model_strokes : MethodName := ⟨"WhichClubModel", "strokes", "(III)J"⟩
abbrev X_Model_strokes (d : Nat) : am_X := (shM, "WhichClubModel", prog_12_method_49_code, 4, (some .long), d)
abbrev m_Model_strokes (d : Nat) (vs : List Value) (h : am_H) (Q : am_Q) : Prop := am_M shM y_Model_strokes prog_12_method_49_code 4 (some .long) d vs h Q
theorem p_Model_strokes : y_Model_strokes.cls ≠ "java/lang/invoke/MethodHandle" ∧ y_Model_strokes.cls ≠ "java/lang/invoke/VarHandle" ∧ (parseMethodDescriptor y_Model_strokes.desc).map (fun d => d.parameters.length) = some 3 := by decide +kernel
theorem e_Model_strokes {d : Nat} {x1 : Int32} {x2 : Int32} {x3 : Int32} {h : am_H} {Q : am_Q} (k : am_W (X_Model_strokes d) 0 [some (.ref 0), some (.int x1), some (.int x2), some (.int x3)] [] h Q) : m_Model_strokes d [.ref 0, .int x1, .int x2, .int x3] h Q := am_enter pl_Model rfl (Nat.le_of_ble_eq_true rfl) k
abbrev y_Model_byLaw : MethodName := ⟨"WhichClubModel", "byLaw", "(III)J"⟩
abbrev X_Model_byLaw (d : Nat) : am_X := (shM, "WhichClubModel", prog_12_method_50_code, 4, (some .long), d)
abbrev m_Model_byLaw (d : Nat) (vs : List Value) (h : am_H) (Q : am_Q) : Prop := am_M shM y_Model_byLaw prog_12_method_50_code 4 (some .long) d vs h Q
theorem p_Model_byLaw : y_Model_byLaw.cls ≠ "java/lang/invoke/MethodHandle" ∧ y_Model_byLaw.cls ≠ "java/lang/invoke/VarHandle" ∧ (parseMethodDescriptor y_Model_byLaw.desc).map (fun d => d.parameters.length) = some 3 := by decide +kernel
theorem e_Model_byLaw {d : Nat} {x1 : Int32} {x2 : Int32} {x3 : Int32} {h : am_H} {Q : am_Q} (k : am_W (X_Model_byLaw d) 0 [some (.ref 0), some (.int x1), some (.int x2), some (.int x3)] [] h Q) : m_Model_byLaw d [.ref 0, .int x1, .int x2, .int x3] h Q := am_enter pl_Model rfl (Nat.le_of_ble_eq_true rfl) k
abbrev y_Model_lie : MethodName := ⟨"WhichClubModel", "lie", "(III)J"⟩
abbrev X_Model_lie (d : Nat) : am_X := (shM, "WhichClubModel", prog_12_method_51_code, 17, (some .long), d)
abbrev m_Model_lie (d : Nat) (vs : List Value) (h : am_H) (Q : am_Q) : Prop := am_M shM y_Model_lie prog_12_method_51_code 17 (some .long) d vs h Q
theorem p_Model_lie : y_Model_lie.cls ≠ "java/lang/invoke/MethodHandle" ∧ y_Model_lie.cls ≠ "java/lang/invoke/VarHandle" ∧ (parseMethodDescriptor y_Model_lie.desc).map (fun d => d.parameters.length) = some 3 := by decide +kernel
theorem e_Model_lie {d : Nat} {x1 : Int32} {x2 : Int32} {x3 : Int32} {h : am_H} {Q : am_Q} (k : am_W (X_Model_lie d) 0 [some (.ref 0), some (.int x1), some (.int x2), some (.int x3), none, none, none, none, none, none, none, none, none, none, none, none, none] [] h Q) : m_Model_lie d [.ref 0, .int x1, .int x2, .int x3] h Q := am_enter pl_Model rfl (Nat.le_of_ble_eq_true rfl) k
abbrev y_Model_even : MethodName := ⟨"WhichClubModel", "even", "(II)I"⟩
abbrev X_Model_even (d : Nat) : am_X := (shM, "WhichClubModel", prog_12_method_53_code, 5, (some .int), d)
abbrev m_Model_even (d : Nat) (vs : List Value) (h : am_H) (Q : am_Q) : Prop := am_M shM y_Model_even prog_12_method_53_code 5 (some .int) d vs h Q
theorem p_Model_even : y_Model_even.cls ≠ "java/lang/invoke/MethodHandle" ∧ y_Model_even.cls ≠ "java/lang/invoke/VarHandle" ∧ (parseMethodDescriptor y_Model_even.desc).map (fun d => d.parameters.length) = some 2 := by decide +kernel
theorem e_Model_even {d : Nat} {x1 : Int32} {x2 : Int32} {h : am_H} {Q : am_Q} (k : am_W (X_Model_even d) 0 [some (.ref 0), some (.int x1), some (.int x2), none, none] [] h Q) : m_Model_even d [.ref 0, .int x1, .int x2] h Q := am_enter pl_Model rfl (Nat.le_of_ble_eq_true rfl) k
abbrev y_Model_evenBy : MethodName := ⟨"WhichClubModel", "evenBy", "(III)I"⟩
abbrev X_Model_evenBy (d : Nat) : am_X := (shM, "WhichClubModel", prog_12_method_52_code, 6, (some .int), d)
abbrev m_Model_evenBy (d : Nat) (vs : List Value) (h : am_H) (Q : am_Q) : Prop := am_M shM y_Model_evenBy prog_12_method_52_code 6 (some .int) d vs h Q
theorem p_Model_evenBy : y_Model_evenBy.cls ≠ "java/lang/invoke/MethodHandle" ∧ y_Model_evenBy.cls ≠ "java/lang/invoke/VarHandle" ∧ (parseMethodDescriptor y_Model_evenBy.desc).map (fun d => d.parameters.length) = some 3 := by decide +kernel
theorem e_Model_evenBy {d : Nat} {x1 : Int32} {x2 : Int32} {x3 : Int32} {h : am_H} {Q : am_Q} (k : am_W (X_Model_evenBy d) 0 [some (.ref 0), some (.int x1), some (.int x2), some (.int x3), none, none] [] h Q) : m_Model_evenBy d [.ref 0, .int x1, .int x2, .int x3] h Q := am_enter pl_Model rfl (Nat.le_of_ble_eq_true rfl) k
abbrev y_Model_atPin : MethodName := ⟨"WhichClubModel", "atPin", "(II)J"⟩
abbrev X_Model_atPin (d : Nat) : am_X := (shM, "WhichClubModel", prog_12_method_54_code, 5, (some .long), d)
abbrev m_Model_atPin (d : Nat) (vs : List Value) (h : am_H) (Q : am_Q) : Prop := am_M shM y_Model_atPin prog_12_method_54_code 5 (some .long) d vs h Q
theorem p_Model_atPin : y_Model_atPin.cls ≠ "java/lang/invoke/MethodHandle" ∧ y_Model_atPin.cls ≠ "java/lang/invoke/VarHandle" ∧ (parseMethodDescriptor y_Model_atPin.desc).map (fun d => d.parameters.length) = some 2 := by decide +kernel
theorem e_Model_atPin {d : Nat} {x1 : Int32} {x2 : Int32} {h : am_H} {Q : am_Q} (k : am_W (X_Model_atPin d) 0 [some (.ref 0), some (.int x1), some (.int x2), none, none] [] h Q) : m_Model_atPin d [.ref 0, .int x1, .int x2] h Q := am_enter pl_Model rfl (Nat.le_of_ble_eq_true rfl) k
abbrev y_Model_fromTee : MethodName := ⟨"WhichClubModel", "fromTee", "(I)J"⟩
abbrev X_Model_fromTee (d : Nat) : am_X := (shM, "WhichClubModel", prog_12_method_55_code, 2, (some .long), d)
abbrev m_Model_fromTee (d : Nat) (vs : List Value) (h : am_H) (Q : am_Q) : Prop := am_M shM y_Model_fromTee prog_12_method_55_code 2 (some .long) d vs h Q
theorem p_Model_fromTee : y_Model_fromTee.cls ≠ "java/lang/invoke/MethodHandle" ∧ y_Model_fromTee.cls ≠ "java/lang/invoke/VarHandle" ∧ (parseMethodDescriptor y_Model_fromTee.desc).map (fun d => d.parameters.length) = some 1 := by decide +kernel
theorem e_Model_fromTee {d : Nat} {x1 : Int32} {h : am_H} {Q : am_Q} (k : am_W (X_Model_fromTee d) 0 [some (.ref 0), some (.int x1)] [] h Q) : m_Model_fromTee d [.ref 0, .int x1] h Q := am_enter pl_Model rfl (Nat.le_of_ble_eq_true rfl) k
abbrev y_Model_teeWith : MethodName := ⟨"WhichClubModel", "teeWith", "(II)J"⟩
abbrev X_Model_teeWith (d : Nat) : am_X := (shM, "WhichClubModel", prog_12_method_56_code, 6, (some .long), d)
abbrev m_Model_teeWith (d : Nat) (vs : List Value) (h : am_H) (Q : am_Q) : Prop := am_M shM y_Model_teeWith prog_12_method_56_code 6 (some .long) d vs h Q
theorem p_Model_teeWith : y_Model_teeWith.cls ≠ "java/lang/invoke/MethodHandle" ∧ y_Model_teeWith.cls ≠ "java/lang/invoke/VarHandle" ∧ (parseMethodDescriptor y_Model_teeWith.desc).map (fun d => d.parameters.length) = some 2 := by decide +kernel
theorem e_Model_teeWith {d : Nat} {x1 : Int32} {x2 : Int32} {h : am_H} {Q : am_Q} (k : am_W (X_Model_teeWith d) 0 [some (.ref 0), some (.int x1), some (.int x2), none, none, none] [] h Q) : m_Model_teeWith d [.ref 0, .int x1, .int x2] h Q := am_enter pl_Model rfl (Nat.le_of_ble_eq_true rfl) k
abbrev y_Model_practise : MethodName := ⟨"WhichClubModel", "practise", "(I)J"⟩
abbrev X_Model_practise (d : Nat) : am_X := (shM, "WhichClubModel", prog_12_method_57_code, 11, (some .long), d)
abbrev m_Model_practise (d : Nat) (vs : List Value) (h : am_H) (Q : am_Q) : Prop := am_M shM y_Model_practise prog_12_method_57_code 11 (some .long) d vs h Q
theorem p_Model_practise : y_Model_practise.cls ≠ "java/lang/invoke/MethodHandle" ∧ y_Model_practise.cls ≠ "java/lang/invoke/VarHandle" ∧ (parseMethodDescriptor y_Model_practise.desc).map (fun d => d.parameters.length) = some 1 := by decide +kernel
theorem e_Model_practise {d : Nat} {x1 : Int32} {h : am_H} {Q : am_Q} (k : am_W (X_Model_practise d) 0 [some (.ref 0), some (.int x1), none, none, none, none, none, none, none, none, none] [] h Q) : m_Model_practise d [.ref 0, .int x1] h Q := am_enter pl_Model rfl (Nat.le_of_ble_eq_true rfl) k
abbrev y_Model_dream : MethodName := ⟨"WhichClubModel", "dream", "(I)J"⟩
abbrev X_Model_dream (d : Nat) : am_X := (shM, "WhichClubModel", prog_12_method_58_code, 7, (some .long), d)
abbrev m_Model_dream (d : Nat) (vs : List Value) (h : am_H) (Q : am_Q) : Prop := am_M shM y_Model_dream prog_12_method_58_code 7 (some .long) d vs h Q
theorem p_Model_dream : y_Model_dream.cls ≠ "java/lang/invoke/MethodHandle" ∧ y_Model_dream.cls ≠ "java/lang/invoke/VarHandle" ∧ (parseMethodDescriptor y_Model_dream.desc).map (fun d => d.parameters.length) = some 1 := by decide +kernel
theorem e_Model_dream {d : Nat} {x1 : Int32} {h : am_H} {Q : am_Q} (k : am_W (X_Model_dream d) 0 [some (.ref 0), some (.int x1), none, none, none, none, none] [] h Q) : m_Model_dream d [.ref 0, .int x1] h Q := am_enter pl_Model rfl (Nat.le_of_ble_eq_true rfl) k
abbrev y_Model_bytesIs : MethodName := ⟨"WhichClubModel", "bytesIs", "(I)I"⟩
abbrev X_Model_bytesIs (d : Nat) : am_X := (shM, "WhichClubModel", prog_12_method_59_code, 2, (some .int), d)
abbrev m_Model_bytesIs (d : Nat) (vs : List Value) (h : am_H) (Q : am_Q) : Prop := am_M shM y_Model_bytesIs prog_12_method_59_code 2 (some .int) d vs h Q
theorem p_Model_bytesIs : y_Model_bytesIs.cls ≠ "java/lang/invoke/MethodHandle" ∧ y_Model_bytesIs.cls ≠ "java/lang/invoke/VarHandle" ∧ (parseMethodDescriptor y_Model_bytesIs.desc).map (fun d => d.parameters.length) = some 1 := by decide +kernel
theorem e_Model_bytesIs {d : Nat} {x1 : Int32} {h : am_H} {Q : am_Q} (k : am_W (X_Model_bytesIs d) 0 [some (.ref 0), some (.int x1)] [] h Q) : m_Model_bytesIs d [.ref 0, .int x1] h Q := am_enter pl_Model rfl (Nat.le_of_ble_eq_true rfl) k
abbrev y_Model_isThree : MethodName := ⟨"WhichClubModel", "isThree", "(II)Z"⟩
abbrev X_Model_isThree (d : Nat) : am_X := (shM, "WhichClubModel", prog_12_method_60_code, 4, (some .boolean), d)
abbrev m_Model_isThree (d : Nat) (vs : List Value) (h : am_H) (Q : am_Q) : Prop := am_M shM y_Model_isThree prog_12_method_60_code 4 (some .boolean) d vs h Q
theorem p_Model_isThree : y_Model_isThree.cls ≠ "java/lang/invoke/MethodHandle" ∧ y_Model_isThree.cls ≠ "java/lang/invoke/VarHandle" ∧ (parseMethodDescriptor y_Model_isThree.desc).map (fun d => d.parameters.length) = some 2 := by decide +kernel
theorem e_Model_isThree {d : Nat} {x1 : Int32} {x2 : Int32} {h : am_H} {Q : am_Q} (k : am_W (X_Model_isThree d) 0 [some (.ref 0), some (.int x1), some (.int x2), none] [] h Q) : m_Model_isThree d [.ref 0, .int x1, .int x2] h Q := am_enter pl_Model rfl (Nat.le_of_ble_eq_true rfl) k
abbrev y_Model_itemOf : MethodName := ⟨"WhichClubModel", "itemOf", "(III)I"⟩
abbrev X_Model_itemOf (d : Nat) : am_X := (shM, "WhichClubModel", prog_12_method_61_code, 4, (some .int), d)
abbrev m_Model_itemOf (d : Nat) (vs : List Value) (h : am_H) (Q : am_Q) : Prop := am_M shM y_Model_itemOf prog_12_method_61_code 4 (some .int) d vs h Q
theorem p_Model_itemOf : y_Model_itemOf.cls ≠ "java/lang/invoke/MethodHandle" ∧ y_Model_itemOf.cls ≠ "java/lang/invoke/VarHandle" ∧ (parseMethodDescriptor y_Model_itemOf.desc).map (fun d => d.parameters.length) = some 3 := by decide +kernel
theorem e_Model_itemOf {d : Nat} {x1 : Int32} {x2 : Int32} {x3 : Int32} {h : am_H} {Q : am_Q} (k : am_W (X_Model_itemOf d) 0 [some (.ref 0), some (.int x1), some (.int x2), some (.int x3)] [] h Q) : m_Model_itemOf d [.ref 0, .int x1, .int x2, .int x3] h Q := am_enter pl_Model rfl (Nat.le_of_ble_eq_true rfl) k
abbrev y_Model_waysOf : MethodName := ⟨"WhichClubModel", "waysOf", "(III)I"⟩
abbrev X_Model_waysOf (d : Nat) : am_X := (shM, "WhichClubModel", prog_12_method_62_code, 4, (some .int), d)
abbrev m_Model_waysOf (d : Nat) (vs : List Value) (h : am_H) (Q : am_Q) : Prop := am_M shM y_Model_waysOf prog_12_method_62_code 4 (some .int) d vs h Q
theorem p_Model_waysOf : y_Model_waysOf.cls ≠ "java/lang/invoke/MethodHandle" ∧ y_Model_waysOf.cls ≠ "java/lang/invoke/VarHandle" ∧ (parseMethodDescriptor y_Model_waysOf.desc).map (fun d => d.parameters.length) = some 3 := by decide +kernel
theorem e_Model_waysOf {d : Nat} {x1 : Int32} {x2 : Int32} {x3 : Int32} {h : am_H} {Q : am_Q} (k : am_W (X_Model_waysOf d) 0 [some (.ref 0), some (.int x1), some (.int x2), some (.int x3)] [] h Q) : m_Model_waysOf d [.ref 0, .int x1, .int x2, .int x3] h Q := am_enter pl_Model rfl (Nat.le_of_ble_eq_true rfl) k
abbrev y_Model_judge : MethodName := ⟨"WhichClubModel", "judge", "(I)I"⟩
abbrev X_Model_judge (d : Nat) : am_X := (shM, "WhichClubModel", prog_12_method_63_code, 3, (some .int), d)
abbrev m_Model_judge (d : Nat) (vs : List Value) (h : am_H) (Q : am_Q) : Prop := am_M shM y_Model_judge prog_12_method_63_code 3 (some .int) d vs h Q
theorem p_Model_judge : y_Model_judge.cls ≠ "java/lang/invoke/MethodHandle" ∧ y_Model_judge.cls ≠ "java/lang/invoke/VarHandle" ∧ (parseMethodDescriptor y_Model_judge.desc).map (fun d => d.parameters.length) = some 1 := by decide +kernel
theorem e_Model_judge {d : Nat} {x1 : Int32} {h : am_H} {Q : am_Q} (k : am_W (X_Model_judge d) 0 [some (.ref 0), some (.int x1), none] [] h Q) : m_Model_judge d [.ref 0, .int x1] h Q := am_enter pl_Model rfl (Nat.le_of_ble_eq_true rfl) k
abbrev y_Model_truly : MethodName := ⟨"WhichClubModel", "truly", "(II)I"⟩
abbrev X_Model_truly (d : Nat) : am_X := (shM, "WhichClubModel", prog_12_method_64_code, 11, (some .int), d)
abbrev m_Model_truly (d : Nat) (vs : List Value) (h : am_H) (Q : am_Q) : Prop := am_M shM y_Model_truly prog_12_method_64_code 11 (some .int) d vs h Q
theorem p_Model_truly : y_Model_truly.cls ≠ "java/lang/invoke/MethodHandle" ∧ y_Model_truly.cls ≠ "java/lang/invoke/VarHandle" ∧ (parseMethodDescriptor y_Model_truly.desc).map (fun d => d.parameters.length) = some 2 := by decide +kernel
theorem e_Model_truly {d : Nat} {x1 : Int32} {x2 : Int32} {h : am_H} {Q : am_Q} (k : am_W (X_Model_truly d) 0 [some (.ref 0), some (.int x1), some (.int x2), none, none, none, none, none, none, none, none] [] h Q) : m_Model_truly d [.ref 0, .int x1, .int x2] h Q := am_enter pl_Model rfl (Nat.le_of_ble_eq_true rfl) k
abbrev y_Model_guessed : MethodName := ⟨"WhichClubModel", "guessed", "(I)I"⟩
abbrev X_Model_guessed (d : Nat) : am_X := (shM, "WhichClubModel", prog_12_method_65_code, 5, (some .int), d)
abbrev m_Model_guessed (d : Nat) (vs : List Value) (h : am_H) (Q : am_Q) : Prop := am_M shM y_Model_guessed prog_12_method_65_code 5 (some .int) d vs h Q
theorem p_Model_guessed : y_Model_guessed.cls ≠ "java/lang/invoke/MethodHandle" ∧ y_Model_guessed.cls ≠ "java/lang/invoke/VarHandle" ∧ (parseMethodDescriptor y_Model_guessed.desc).map (fun d => d.parameters.length) = some 1 := by decide +kernel
theorem e_Model_guessed {d : Nat} {x1 : Int32} {h : am_H} {Q : am_Q} (k : am_W (X_Model_guessed d) 0 [some (.ref 0), some (.int x1), none, none, none] [] h Q) : m_Model_guessed d [.ref 0, .int x1] h Q := am_enter pl_Model rfl (Nat.le_of_ble_eq_true rfl) k
abbrev y_Model_draws : MethodName := ⟨"WhichClubModel", "draws", "(I)I"⟩
abbrev X_Model_draws (d : Nat) : am_X := (shM, "WhichClubModel", prog_12_method_66_code, 2, (some .int), d)
abbrev m_Model_draws (d : Nat) (vs : List Value) (h : am_H) (Q : am_Q) : Prop := am_M shM y_Model_draws prog_12_method_66_code 2 (some .int) d vs h Q
theorem p_Model_draws : y_Model_draws.cls ≠ "java/lang/invoke/MethodHandle" ∧ y_Model_draws.cls ≠ "java/lang/invoke/VarHandle" ∧ (parseMethodDescriptor y_Model_draws.desc).map (fun d => d.parameters.length) = some 1 := by decide +kernel
theorem e_Model_draws {d : Nat} {x1 : Int32} {h : am_H} {Q : am_Q} (k : am_W (X_Model_draws d) 0 [some (.ref 0), some (.int x1)] [] h Q) : m_Model_draws d [.ref 0, .int x1] h Q := am_enter pl_Model rfl (Nat.le_of_ble_eq_true rfl) k
abbrev y_Model_drawnDown : MethodName := ⟨"WhichClubModel", "drawnDown", "(II)I"⟩
abbrev X_Model_drawnDown (d : Nat) : am_X := (shM, "WhichClubModel", prog_12_method_67_code, 4, (some .int), d)
abbrev m_Model_drawnDown (d : Nat) (vs : List Value) (h : am_H) (Q : am_Q) : Prop := am_M shM y_Model_drawnDown prog_12_method_67_code 4 (some .int) d vs h Q
theorem p_Model_drawnDown : y_Model_drawnDown.cls ≠ "java/lang/invoke/MethodHandle" ∧ y_Model_drawnDown.cls ≠ "java/lang/invoke/VarHandle" ∧ (parseMethodDescriptor y_Model_drawnDown.desc).map (fun d => d.parameters.length) = some 2 := by decide +kernel
theorem e_Model_drawnDown {d : Nat} {x1 : Int32} {x2 : Int32} {h : am_H} {Q : am_Q} (k : am_W (X_Model_drawnDown d) 0 [some (.ref 0), some (.int x1), some (.int x2), none] [] h Q) : m_Model_drawnDown d [.ref 0, .int x1, .int x2] h Q := am_enter pl_Model rfl (Nat.le_of_ble_eq_true rfl) k
abbrev y_Model_drawnPutts : MethodName := ⟨"WhichClubModel", "drawnPutts", "(I)I"⟩
abbrev X_Model_drawnPutts (d : Nat) : am_X := (shM, "WhichClubModel", prog_12_method_68_code, 2, (some .int), d)
abbrev m_Model_drawnPutts (d : Nat) (vs : List Value) (h : am_H) (Q : am_Q) : Prop := am_M shM y_Model_drawnPutts prog_12_method_68_code 2 (some .int) d vs h Q
theorem p_Model_drawnPutts : y_Model_drawnPutts.cls ≠ "java/lang/invoke/MethodHandle" ∧ y_Model_drawnPutts.cls ≠ "java/lang/invoke/VarHandle" ∧ (parseMethodDescriptor y_Model_drawnPutts.desc).map (fun d => d.parameters.length) = some 1 := by decide +kernel
theorem e_Model_drawnPutts {d : Nat} {x1 : Int32} {h : am_H} {Q : am_Q} (k : am_W (X_Model_drawnPutts d) 0 [some (.ref 0), some (.int x1)] [] h Q) : m_Model_drawnPutts d [.ref 0, .int x1] h Q := am_enter pl_Model rfl (Nat.le_of_ble_eq_true rfl) k
abbrev y_Model_drawn : MethodName := ⟨"WhichClubModel", "drawn", "(III)I"⟩
abbrev X_Model_drawn (d : Nat) : am_X := (shM, "WhichClubModel", prog_12_method_69_code, 10, (some .int), d)
abbrev m_Model_drawn (d : Nat) (vs : List Value) (h : am_H) (Q : am_Q) : Prop := am_M shM y_Model_drawn prog_12_method_69_code 10 (some .int) d vs h Q
theorem p_Model_drawn : y_Model_drawn.cls ≠ "java/lang/invoke/MethodHandle" ∧ y_Model_drawn.cls ≠ "java/lang/invoke/VarHandle" ∧ (parseMethodDescriptor y_Model_drawn.desc).map (fun d => d.parameters.length) = some 3 := by decide +kernel
theorem e_Model_drawn {d : Nat} {x1 : Int32} {x2 : Int32} {x3 : Int32} {h : am_H} {Q : am_Q} (k : am_W (X_Model_drawn d) 0 [some (.ref 0), some (.int x1), some (.int x2), some (.int x3), none, none, none, none, none, none] [] h Q) : m_Model_drawn d [.ref 0, .int x1, .int x2, .int x3] h Q := am_enter pl_Model rfl (Nat.le_of_ble_eq_true rfl) k
abbrev y_Model_hit : MethodName := ⟨"WhichClubModel", "hit", "(II)I"⟩
abbrev X_Model_hit (d : Nat) : am_X := (shM, "WhichClubModel", prog_12_method_70_code, 4, (some .int), d)
abbrev m_Model_hit (d : Nat) (vs : List Value) (h : am_H) (Q : am_Q) : Prop := am_M shM y_Model_hit prog_12_method_70_code 4 (some .int) d vs h Q
theorem p_Model_hit : y_Model_hit.cls ≠ "java/lang/invoke/MethodHandle" ∧ y_Model_hit.cls ≠ "java/lang/invoke/VarHandle" ∧ (parseMethodDescriptor y_Model_hit.desc).map (fun d => d.parameters.length) = some 2 := by decide +kernel
theorem e_Model_hit {d : Nat} {x1 : Int32} {x2 : Int32} {h : am_H} {Q : am_Q} (k : am_W (X_Model_hit d) 0 [some (.ref 0), some (.int x1), some (.int x2), none] [] h Q) : m_Model_hit d [.ref 0, .int x1, .int x2] h Q := am_enter pl_Model rfl (Nat.le_of_ble_eq_true rfl) k
abbrev y_Model_putt : MethodName := ⟨"WhichClubModel", "putt", "(I)I"⟩
abbrev X_Model_putt (d : Nat) : am_X := (shM, "WhichClubModel", prog_12_method_71_code, 4, (some .int), d)
abbrev m_Model_putt (d : Nat) (vs : List Value) (h : am_H) (Q : am_Q) : Prop := am_M shM y_Model_putt prog_12_method_71_code 4 (some .int) d vs h Q
theorem p_Model_putt : y_Model_putt.cls ≠ "java/lang/invoke/MethodHandle" ∧ y_Model_putt.cls ≠ "java/lang/invoke/VarHandle" ∧ (parseMethodDescriptor y_Model_putt.desc).map (fun d => d.parameters.length) = some 1 := by decide +kernel
theorem e_Model_putt {d : Nat} {x1 : Int32} {h : am_H} {Q : am_Q} (k : am_W (X_Model_putt d) 0 [some (.ref 0), some (.int x1), none, none] [] h Q) : m_Model_putt d [.ref 0, .int x1] h Q := am_enter pl_Model rfl (Nat.le_of_ble_eq_true rfl) k
abbrev y_Model_led : MethodName := ⟨"WhichClubModel", "led", "(I)I"⟩
abbrev X_Model_led (d : Nat) : am_X := (shM, "WhichClubModel", prog_12_method_72_code, 2, (some .int), d)
abbrev m_Model_led (d : Nat) (vs : List Value) (h : am_H) (Q : am_Q) : Prop := am_M shM y_Model_led prog_12_method_72_code 2 (some .int) d vs h Q
theorem p_Model_led : y_Model_led.cls ≠ "java/lang/invoke/MethodHandle" ∧ y_Model_led.cls ≠ "java/lang/invoke/VarHandle" ∧ (parseMethodDescriptor y_Model_led.desc).map (fun d => d.parameters.length) = some 1 := by decide +kernel
theorem e_Model_led {d : Nat} {x1 : Int32} {h : am_H} {Q : am_Q} (k : am_W (X_Model_led d) 0 [some (.ref 0), some (.int x1)] [] h Q) : m_Model_led d [.ref 0, .int x1] h Q := am_enter pl_Model rfl (Nat.le_of_ble_eq_true rfl) k
abbrev y_Model_image : MethodName := ⟨"WhichClubModel", "image", "()I"⟩
abbrev X_Model_image (d : Nat) : am_X := (shM, "WhichClubModel", prog_12_method_73_code, 2, (some .int), d)
abbrev m_Model_image (d : Nat) (vs : List Value) (h : am_H) (Q : am_Q) : Prop := am_M shM y_Model_image prog_12_method_73_code 2 (some .int) d vs h Q
theorem p_Model_image : y_Model_image.cls ≠ "java/lang/invoke/MethodHandle" ∧ y_Model_image.cls ≠ "java/lang/invoke/VarHandle" ∧ (parseMethodDescriptor y_Model_image.desc).map (fun d => d.parameters.length) = some 0 := by decide +kernel
theorem e_Model_image {d : Nat} {h : am_H} {Q : am_Q} (k : am_W (X_Model_image d) 0 [some (.ref 0), none] [] h Q) : m_Model_image d [.ref 0] h Q := am_enter pl_Model rfl (Nat.le_of_ble_eq_true rfl) k
abbrev y_Model_back : MethodName := ⟨"WhichClubModel", "back", "()I"⟩
abbrev X_Model_back (d : Nat) : am_X := (shM, "WhichClubModel", prog_12_method_74_code, 2, (some .int), d)
abbrev m_Model_back (d : Nat) (vs : List Value) (h : am_H) (Q : am_Q) : Prop := am_M shM y_Model_back prog_12_method_74_code 2 (some .int) d vs h Q
theorem p_Model_back : y_Model_back.cls ≠ "java/lang/invoke/MethodHandle" ∧ y_Model_back.cls ≠ "java/lang/invoke/VarHandle" ∧ (parseMethodDescriptor y_Model_back.desc).map (fun d => d.parameters.length) = some 0 := by decide +kernel
theorem e_Model_back {d : Nat} {h : am_H} {Q : am_Q} (k : am_W (X_Model_back d) 0 [some (.ref 0), none] [] h Q) : m_Model_back d [.ref 0] h Q := am_enter pl_Model rfl (Nat.le_of_ble_eq_true rfl) k
abbrev y_Model_cellsOf : MethodName := ⟨"WhichClubModel", "cellsOf", "(Z)I"⟩
abbrev X_Model_cellsOf (d : Nat) : am_X := (shM, "WhichClubModel", prog_12_method_75_code, 4, (some .int), d)
abbrev m_Model_cellsOf (d : Nat) (vs : List Value) (h : am_H) (Q : am_Q) : Prop := am_M shM y_Model_cellsOf prog_12_method_75_code 4 (some .int) d vs h Q
theorem p_Model_cellsOf : y_Model_cellsOf.cls ≠ "java/lang/invoke/MethodHandle" ∧ y_Model_cellsOf.cls ≠ "java/lang/invoke/VarHandle" ∧ (parseMethodDescriptor y_Model_cellsOf.desc).map (fun d => d.parameters.length) = some 1 := by decide +kernel
theorem e_Model_cellsOf {d : Nat} {x1 : Int32} {h : am_H} {Q : am_Q} (k : am_W (X_Model_cellsOf d) 0 [some (.ref 0), some (.int x1), none, none] [] h Q) : m_Model_cellsOf d [.ref 0, .int x1] h Q := am_enter pl_Model rfl (Nat.le_of_ble_eq_true rfl) k
abbrev y_Model_isBody : MethodName := ⟨"WhichClubModel", "isBody", "(I)Z"⟩
abbrev X_Model_isBody (d : Nat) : am_X := (shM, "WhichClubModel", prog_12_method_76_code, 2, (some .boolean), d)
abbrev m_Model_isBody (d : Nat) (vs : List Value) (h : am_H) (Q : am_Q) : Prop := am_M shM y_Model_isBody prog_12_method_76_code 2 (some .boolean) d vs h Q
theorem p_Model_isBody : y_Model_isBody.cls ≠ "java/lang/invoke/MethodHandle" ∧ y_Model_isBody.cls ≠ "java/lang/invoke/VarHandle" ∧ (parseMethodDescriptor y_Model_isBody.desc).map (fun d => d.parameters.length) = some 1 := by decide +kernel
theorem e_Model_isBody {d : Nat} {x1 : Int32} {h : am_H} {Q : am_Q} (k : am_W (X_Model_isBody d) 0 [some (.ref 0), some (.int x1)] [] h Q) : m_Model_isBody d [.ref 0, .int x1] h Q := am_enter pl_Model rfl (Nat.le_of_ble_eq_true rfl) k
abbrev y_Model_kindOf : MethodName := ⟨"WhichClubModel", "kindOf", "(I)I"⟩
abbrev X_Model_kindOf (d : Nat) : am_X := (shM, "WhichClubModel", prog_12_method_77_code, 2, (some .int), d)
abbrev m_Model_kindOf (d : Nat) (vs : List Value) (h : am_H) (Q : am_Q) : Prop := am_M shM y_Model_kindOf prog_12_method_77_code 2 (some .int) d vs h Q
theorem p_Model_kindOf : y_Model_kindOf.cls ≠ "java/lang/invoke/MethodHandle" ∧ y_Model_kindOf.cls ≠ "java/lang/invoke/VarHandle" ∧ (parseMethodDescriptor y_Model_kindOf.desc).map (fun d => d.parameters.length) = some 1 := by decide +kernel
theorem e_Model_kindOf {d : Nat} {x1 : Int32} {h : am_H} {Q : am_Q} (k : am_W (X_Model_kindOf d) 0 [some (.ref 0), some (.int x1)] [] h Q) : m_Model_kindOf d [.ref 0, .int x1] h Q := am_enter pl_Model rfl (Nat.le_of_ble_eq_true rfl) k
abbrev y_Model_body : MethodName := ⟨"WhichClubModel", "body", "(I)I"⟩
abbrev X_Model_body (d : Nat) : am_X := (shM, "WhichClubModel", prog_12_method_78_code, 2, (some .int), d)
abbrev m_Model_body (d : Nat) (vs : List Value) (h : am_H) (Q : am_Q) : Prop := am_M shM y_Model_body prog_12_method_78_code 2 (some .int) d vs h Q
theorem p_Model_body : y_Model_body.cls ≠ "java/lang/invoke/MethodHandle" ∧ y_Model_body.cls ≠ "java/lang/invoke/VarHandle" ∧ (parseMethodDescriptor y_Model_body.desc).map (fun d => d.parameters.length) = some 1 := by decide +kernel
theorem e_Model_body {d : Nat} {x1 : Int32} {h : am_H} {Q : am_Q} (k : am_W (X_Model_body d) 0 [some (.ref 0), some (.int x1)] [] h Q) : m_Model_body d [.ref 0, .int x1] h Q := am_enter pl_Model rfl (Nat.le_of_ble_eq_true rfl) k
abbrev y_Model_above : MethodName := ⟨"WhichClubModel", "above", "(I)I"⟩
abbrev X_Model_above (d : Nat) : am_X := (shM, "WhichClubModel", prog_12_method_79_code, 1, (some .int), d)
abbrev m_Model_above (d : Nat) (vs : List Value) (h : am_H) (Q : am_Q) : Prop := am_M shM y_Model_above prog_12_method_79_code 1 (some .int) d vs h Q
theorem p_Model_above : y_Model_above.cls ≠ "java/lang/invoke/MethodHandle" ∧ y_Model_above.cls ≠ "java/lang/invoke/VarHandle" ∧ (parseMethodDescriptor y_Model_above.desc).map (fun d => d.parameters.length) = some 1 := by decide +kernel
theorem e_Model_above {d : Nat} {x0 : Int32} {h : am_H} {Q : am_Q} (k : am_W (X_Model_above d) 0 [some (.int x0)] [] h Q) : m_Model_above d [.int x0] h Q := am_enter pl_Model rfl (Nat.le_of_ble_eq_true rfl) k
abbrev y_Model_begins : MethodName := ⟨"WhichClubModel", "begins", "(I)V"⟩
abbrev X_Model_begins (d : Nat) : am_X := (shM, "WhichClubModel", prog_12_method_80_code, 2, none, d)
abbrev m_Model_begins (d : Nat) (vs : List Value) (h : am_H) (Q : am_Q) : Prop := am_M shM y_Model_begins prog_12_method_80_code 2 none d vs h Q
theorem p_Model_begins : y_Model_begins.cls ≠ "java/lang/invoke/MethodHandle" ∧ y_Model_begins.cls ≠ "java/lang/invoke/VarHandle" ∧ (parseMethodDescriptor y_Model_begins.desc).map (fun d => d.parameters.length) = some 1 := by decide +kernel
theorem e_Model_begins {d : Nat} {x1 : Int32} {h : am_H} {Q : am_Q} (k : am_W (X_Model_begins d) 0 [some (.ref 0), some (.int x1)] [] h Q) : m_Model_begins d [.ref 0, .int x1] h Q := am_enter pl_Model rfl (Nat.le_of_ble_eq_true rfl) k
abbrev y_Model_saysAs : MethodName := ⟨"WhichClubModel", "saysAs", "(II)I"⟩
abbrev X_Model_saysAs (d : Nat) : am_X := (shM, "WhichClubModel", prog_12_method_81_code, 3, (some .int), d)
abbrev m_Model_saysAs (d : Nat) (vs : List Value) (h : am_H) (Q : am_Q) : Prop := am_M shM y_Model_saysAs prog_12_method_81_code 3 (some .int) d vs h Q
theorem p_Model_saysAs : y_Model_saysAs.cls ≠ "java/lang/invoke/MethodHandle" ∧ y_Model_saysAs.cls ≠ "java/lang/invoke/VarHandle" ∧ (parseMethodDescriptor y_Model_saysAs.desc).map (fun d => d.parameters.length) = some 2 := by decide +kernel
theorem e_Model_saysAs {d : Nat} {x1 : Int32} {x2 : Int32} {h : am_H} {Q : am_Q} (k : am_W (X_Model_saysAs d) 0 [some (.ref 0), some (.int x1), some (.int x2)] [] h Q) : m_Model_saysAs d [.ref 0, .int x1, .int x2] h Q := am_enter pl_Model rfl (Nat.le_of_ble_eq_true rfl) k
abbrev y_Model_liesAs : MethodName := ⟨"WhichClubModel", "liesAs", "(II)I"⟩
abbrev X_Model_liesAs (d : Nat) : am_X := (shM, "WhichClubModel", prog_12_method_83_code, 4, (some .int), d)
abbrev m_Model_liesAs (d : Nat) (vs : List Value) (h : am_H) (Q : am_Q) : Prop := am_M shM y_Model_liesAs prog_12_method_83_code 4 (some .int) d vs h Q
theorem p_Model_liesAs : y_Model_liesAs.cls ≠ "java/lang/invoke/MethodHandle" ∧ y_Model_liesAs.cls ≠ "java/lang/invoke/VarHandle" ∧ (parseMethodDescriptor y_Model_liesAs.desc).map (fun d => d.parameters.length) = some 2 := by decide +kernel
theorem e_Model_liesAs {d : Nat} {x1 : Int32} {x2 : Int32} {h : am_H} {Q : am_Q} (k : am_W (X_Model_liesAs d) 0 [some (.ref 0), some (.int x1), some (.int x2), none] [] h Q) : m_Model_liesAs d [.ref 0, .int x1, .int x2] h Q := am_enter pl_Model rfl (Nat.le_of_ble_eq_true rfl) k
abbrev y_Model_hitsAs : MethodName := ⟨"WhichClubModel", "hitsAs", "(II)I"⟩
abbrev X_Model_hitsAs (d : Nat) : am_X := (shM, "WhichClubModel", prog_12_method_82_code, 4, (some .int), d)
abbrev m_Model_hitsAs (d : Nat) (vs : List Value) (h : am_H) (Q : am_Q) : Prop := am_M shM y_Model_hitsAs prog_12_method_82_code 4 (some .int) d vs h Q
theorem p_Model_hitsAs : y_Model_hitsAs.cls ≠ "java/lang/invoke/MethodHandle" ∧ y_Model_hitsAs.cls ≠ "java/lang/invoke/VarHandle" ∧ (parseMethodDescriptor y_Model_hitsAs.desc).map (fun d => d.parameters.length) = some 2 := by decide +kernel
theorem e_Model_hitsAs {d : Nat} {x1 : Int32} {x2 : Int32} {h : am_H} {Q : am_Q} (k : am_W (X_Model_hitsAs d) 0 [some (.ref 0), some (.int x1), some (.int x2), none] [] h Q) : m_Model_hitsAs d [.ref 0, .int x1, .int x2] h Q := am_enter pl_Model rfl (Nat.le_of_ble_eq_true rfl) k
abbrev y_Model_tellsAs : MethodName := ⟨"WhichClubModel", "tellsAs", "(II)I"⟩
abbrev X_Model_tellsAs (d : Nat) : am_X := (shM, "WhichClubModel", prog_12_method_84_code, 4, (some .int), d)
abbrev m_Model_tellsAs (d : Nat) (vs : List Value) (h : am_H) (Q : am_Q) : Prop := am_M shM y_Model_tellsAs prog_12_method_84_code 4 (some .int) d vs h Q
theorem p_Model_tellsAs : y_Model_tellsAs.cls ≠ "java/lang/invoke/MethodHandle" ∧ y_Model_tellsAs.cls ≠ "java/lang/invoke/VarHandle" ∧ (parseMethodDescriptor y_Model_tellsAs.desc).map (fun d => d.parameters.length) = some 2 := by decide +kernel
theorem e_Model_tellsAs {d : Nat} {x1 : Int32} {x2 : Int32} {h : am_H} {Q : am_Q} (k : am_W (X_Model_tellsAs d) 0 [some (.ref 0), some (.int x1), some (.int x2), none] [] h Q) : m_Model_tellsAs d [.ref 0, .int x1, .int x2] h Q := am_enter pl_Model rfl (Nat.le_of_ble_eq_true rfl) k
abbrev y_Model_act : MethodName := ⟨"WhichClubModel", "act", "(III)I"⟩
abbrev X_Model_act (d : Nat) : am_X := (shM, "WhichClubModel", prog_12_method_85_code, 4, (some .int), d)
abbrev m_Model_act (d : Nat) (vs : List Value) (h : am_H) (Q : am_Q) : Prop := am_M shM y_Model_act prog_12_method_85_code 4 (some .int) d vs h Q
theorem p_Model_act : y_Model_act.cls ≠ "java/lang/invoke/MethodHandle" ∧ y_Model_act.cls ≠ "java/lang/invoke/VarHandle" ∧ (parseMethodDescriptor y_Model_act.desc).map (fun d => d.parameters.length) = some 3 := by decide +kernel
theorem e_Model_act {d : Nat} {x1 : Int32} {x2 : Int32} {x3 : Int32} {h : am_H} {Q : am_Q} (k : am_W (X_Model_act d) 0 [some (.ref 0), some (.int x1), some (.int x2), some (.int x3)] [] h Q) : m_Model_act d [.ref 0, .int x1, .int x2, .int x3] h Q := am_enter pl_Model rfl (Nat.le_of_ble_eq_true rfl) k
abbrev y_Model_trace : MethodName := ⟨"WhichClubModel", "trace", "(I)I"⟩
abbrev X_Model_trace (d : Nat) : am_X := (shM, "WhichClubModel", prog_12_method_86_code, 2, (some .int), d)
abbrev m_Model_trace (d : Nat) (vs : List Value) (h : am_H) (Q : am_Q) : Prop := am_M shM y_Model_trace prog_12_method_86_code 2 (some .int) d vs h Q
theorem p_Model_trace : y_Model_trace.cls ≠ "java/lang/invoke/MethodHandle" ∧ y_Model_trace.cls ≠ "java/lang/invoke/VarHandle" ∧ (parseMethodDescriptor y_Model_trace.desc).map (fun d => d.parameters.length) = some 1 := by decide +kernel
theorem e_Model_trace {d : Nat} {x1 : Int32} {h : am_H} {Q : am_Q} (k : am_W (X_Model_trace d) 0 [some (.ref 0), some (.int x1)] [] h Q) : m_Model_trace d [.ref 0, .int x1] h Q := am_enter pl_Model rfl (Nat.le_of_ble_eq_true rfl) k
abbrev y_Model_keep : MethodName := ⟨"WhichClubModel", "keep", "(II)I"⟩
abbrev X_Model_keep (d : Nat) : am_X := (shM, "WhichClubModel", prog_12_method_88_code, 3, (some .int), d)
abbrev m_Model_keep (d : Nat) (vs : List Value) (h : am_H) (Q : am_Q) : Prop := am_M shM y_Model_keep prog_12_method_88_code 3 (some .int) d vs h Q
theorem p_Model_keep : y_Model_keep.cls ≠ "java/lang/invoke/MethodHandle" ∧ y_Model_keep.cls ≠ "java/lang/invoke/VarHandle" ∧ (parseMethodDescriptor y_Model_keep.desc).map (fun d => d.parameters.length) = some 2 := by decide +kernel
theorem e_Model_keep {d : Nat} {x1 : Int32} {x2 : Int32} {h : am_H} {Q : am_Q} (k : am_W (X_Model_keep d) 0 [some (.ref 0), some (.int x1), some (.int x2)] [] h Q) : m_Model_keep d [.ref 0, .int x1, .int x2] h Q := am_enter pl_Model rfl (Nat.le_of_ble_eq_true rfl) k
abbrev y_Model_row : MethodName := ⟨"WhichClubModel", "row", "(III)I"⟩
abbrev X_Model_row (d : Nat) : am_X := (shM, "WhichClubModel", prog_12_method_89_code, 5, (some .int), d)
abbrev m_Model_row (d : Nat) (vs : List Value) (h : am_H) (Q : am_Q) : Prop := am_M shM y_Model_row prog_12_method_89_code 5 (some .int) d vs h Q
theorem p_Model_row : y_Model_row.cls ≠ "java/lang/invoke/MethodHandle" ∧ y_Model_row.cls ≠ "java/lang/invoke/VarHandle" ∧ (parseMethodDescriptor y_Model_row.desc).map (fun d => d.parameters.length) = some 3 := by decide +kernel
theorem e_Model_row {d : Nat} {x1 : Int32} {x2 : Int32} {x3 : Int32} {h : am_H} {Q : am_Q} (k : am_W (X_Model_row d) 0 [some (.ref 0), some (.int x1), some (.int x2), some (.int x3), none] [] h Q) : m_Model_row d [.ref 0, .int x1, .int x2, .int x3] h Q := am_enter pl_Model rfl (Nat.le_of_ble_eq_true rfl) k
abbrev y_Model_refusal : MethodName := ⟨"WhichClubModel", "refusal", "(II)I"⟩
abbrev X_Model_refusal (d : Nat) : am_X := (shM, "WhichClubModel", prog_12_method_90_code, 3, (some .int), d)
abbrev m_Model_refusal (d : Nat) (vs : List Value) (h : am_H) (Q : am_Q) : Prop := am_M shM y_Model_refusal prog_12_method_90_code 3 (some .int) d vs h Q
theorem p_Model_refusal : y_Model_refusal.cls ≠ "java/lang/invoke/MethodHandle" ∧ y_Model_refusal.cls ≠ "java/lang/invoke/VarHandle" ∧ (parseMethodDescriptor y_Model_refusal.desc).map (fun d => d.parameters.length) = some 2 := by decide +kernel
theorem e_Model_refusal {d : Nat} {x1 : Int32} {x2 : Int32} {h : am_H} {Q : am_Q} (k : am_W (X_Model_refusal d) 0 [some (.ref 0), some (.int x1), some (.int x2)] [] h Q) : m_Model_refusal d [.ref 0, .int x1, .int x2] h Q := am_enter pl_Model rfl (Nat.le_of_ble_eq_true rfl) k
abbrev y_Model_asSort : MethodName := ⟨"WhichClubModel", "asSort", "(IJ)J"⟩
abbrev X_Model_asSort (d : Nat) : am_X := (shM, "WhichClubModel", prog_12_method_91_code, 3, (some .long), d)
abbrev m_Model_asSort (d : Nat) (vs : List Value) (h : am_H) (Q : am_Q) : Prop := am_M shM y_Model_asSort prog_12_method_91_code 3 (some .long) d vs h Q
theorem p_Model_asSort : y_Model_asSort.cls ≠ "java/lang/invoke/MethodHandle" ∧ y_Model_asSort.cls ≠ "java/lang/invoke/VarHandle" ∧ (parseMethodDescriptor y_Model_asSort.desc).map (fun d => d.parameters.length) = some 2 := by decide +kernel
theorem e_Model_asSort {d : Nat} {x0 : Int32} {x1 : Int64} {h : am_H} {Q : am_Q} (k : am_W (X_Model_asSort d) 0 [some (.int x0), some (.long x1), none] [] h Q) : m_Model_asSort d [.int x0, .long x1] h Q := am_enter pl_Model rfl (Nat.le_of_ble_eq_true rfl) k
abbrev y_Model_put : MethodName := ⟨"WhichClubModel", "put", "(IIJ)I"⟩
abbrev X_Model_put (d : Nat) : am_X := (shM, "WhichClubModel", prog_12_method_92_code, 6, (some .int), d)
abbrev m_Model_put (d : Nat) (vs : List Value) (h : am_H) (Q : am_Q) : Prop := am_M shM y_Model_put prog_12_method_92_code 6 (some .int) d vs h Q
theorem p_Model_put : y_Model_put.cls ≠ "java/lang/invoke/MethodHandle" ∧ y_Model_put.cls ≠ "java/lang/invoke/VarHandle" ∧ (parseMethodDescriptor y_Model_put.desc).map (fun d => d.parameters.length) = some 3 := by decide +kernel
theorem e_Model_put {d : Nat} {x1 : Int32} {x2 : Int32} {x3 : Int64} {h : am_H} {Q : am_Q} (k : am_W (X_Model_put d) 0 [some (.ref 0), some (.int x1), some (.int x2), some (.long x3), none, none] [] h Q) : m_Model_put d [.ref 0, .int x1, .int x2, .long x3] h Q := am_enter pl_Model rfl (Nat.le_of_ble_eq_true rfl) k
abbrev y_Model_element : MethodName := ⟨"WhichClubModel", "element", "(II)J"⟩
abbrev X_Model_element (d : Nat) : am_X := (shM, "WhichClubModel", prog_12_method_93_code, 3, (some .long), d)
abbrev m_Model_element (d : Nat) (vs : List Value) (h : am_H) (Q : am_Q) : Prop := am_M shM y_Model_element prog_12_method_93_code 3 (some .long) d vs h Q
theorem p_Model_element : y_Model_element.cls ≠ "java/lang/invoke/MethodHandle" ∧ y_Model_element.cls ≠ "java/lang/invoke/VarHandle" ∧ (parseMethodDescriptor y_Model_element.desc).map (fun d => d.parameters.length) = some 2 := by decide +kernel
theorem e_Model_element {d : Nat} {x1 : Int32} {x2 : Int32} {h : am_H} {Q : am_Q} (k : am_W (X_Model_element d) 0 [some (.ref 0), some (.int x1), some (.int x2)] [] h Q) : m_Model_element d [.ref 0, .int x1, .int x2] h Q := am_enter pl_Model rfl (Nat.le_of_ble_eq_true rfl) k
abbrev y_Model_shift : MethodName := ⟨"WhichClubModel", "shift", "(IIIII)I"⟩
abbrev X_Model_shift (d : Nat) : am_X := (shM, "WhichClubModel", prog_12_method_94_code, 7, (some .int), d)
abbrev m_Model_shift (d : Nat) (vs : List Value) (h : am_H) (Q : am_Q) : Prop := am_M shM y_Model_shift prog_12_method_94_code 7 (some .int) d vs h Q
theorem p_Model_shift : y_Model_shift.cls ≠ "java/lang/invoke/MethodHandle" ∧ y_Model_shift.cls ≠ "java/lang/invoke/VarHandle" ∧ (parseMethodDescriptor y_Model_shift.desc).map (fun d => d.parameters.length) = some 5 := by decide +kernel
theorem e_Model_shift {d : Nat} {x1 : Int32} {x2 : Int32} {x3 : Int32} {x4 : Int32} {x5 : Int32} {h : am_H} {Q : am_Q} (k : am_W (X_Model_shift d) 0 [some (.ref 0), some (.int x1), some (.int x2), some (.int x3), some (.int x4), some (.int x5), none] [] h Q) : m_Model_shift d [.ref 0, .int x1, .int x2, .int x3, .int x4, .int x5] h Q := am_enter pl_Model rfl (Nat.le_of_ble_eq_true rfl) k
abbrev y_Model_taken : MethodName := ⟨"WhichClubModel", "taken", "(II)I"⟩
abbrev X_Model_taken (d : Nat) : am_X := (shM, "WhichClubModel", prog_12_method_95_code, 4, (some .int), d)
abbrev m_Model_taken (d : Nat) (vs : List Value) (h : am_H) (Q : am_Q) : Prop := am_M shM y_Model_taken prog_12_method_95_code 4 (some .int) d vs h Q
theorem p_Model_taken : y_Model_taken.cls ≠ "java/lang/invoke/MethodHandle" ∧ y_Model_taken.cls ≠ "java/lang/invoke/VarHandle" ∧ (parseMethodDescriptor y_Model_taken.desc).map (fun d => d.parameters.length) = some 2 := by decide +kernel
theorem e_Model_taken {d : Nat} {x1 : Int32} {x2 : Int32} {h : am_H} {Q : am_Q} (k : am_W (X_Model_taken d) 0 [some (.ref 0), some (.int x1), some (.int x2), none] [] h Q) : m_Model_taken d [.ref 0, .int x1, .int x2] h Q := am_enter pl_Model rfl (Nat.le_of_ble_eq_true rfl) k
abbrev y_Model_count : MethodName := ⟨"WhichClubModel", "count", "(I)I"⟩
abbrev X_Model_count (d : Nat) : am_X := (shM, "WhichClubModel", prog_12_method_96_code, 2, (some .int), d)
abbrev m_Model_count (d : Nat) (vs : List Value) (h : am_H) (Q : am_Q) : Prop := am_M shM y_Model_count prog_12_method_96_code 2 (some .int) d vs h Q
theorem p_Model_count : y_Model_count.cls ≠ "java/lang/invoke/MethodHandle" ∧ y_Model_count.cls ≠ "java/lang/invoke/VarHandle" ∧ (parseMethodDescriptor y_Model_count.desc).map (fun d => d.parameters.length) = some 1 := by decide +kernel
theorem e_Model_count {d : Nat} {x1 : Int32} {h : am_H} {Q : am_Q} (k : am_W (X_Model_count d) 0 [some (.ref 0), some (.int x1)] [] h Q) : m_Model_count d [.ref 0, .int x1] h Q := am_enter pl_Model rfl (Nat.le_of_ble_eq_true rfl) k
