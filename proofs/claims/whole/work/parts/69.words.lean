/-! each word, both sides at once (by gen69.py) -/
theorem P_club {x m : am_H} (h : Rel x m) (x1 : Int32) : ∃ r xx mm, Rel xx mm ∧ m_Club_club 3 [.ref 0, .int x1] x (fun r' h' => r' = some (.int r) ∧ h' = xx) ∧ m_Model_club 2 [.ref 0, .int x1] m (fun r' h' => r' = some (.int r) ∧ h' = mm) := by
  obtain ⟨r, xx, mm, e1, e2, h2⟩ := R_club h x1
  exact ⟨r, xx, mm, h2, c_Club_club (d := 0) e1 ⟨rfl, rfl⟩, c_Model_club (d := 0) e2 ⟨rfl, rfl⟩⟩
theorem P_clubs {x m : am_H} (h : Rel x m) (x1 : Int32) (x2 : Int32) (x3 : Int32) : ∃ r xx mm, Rel xx mm ∧ m_Club_clubs 3 [.ref 0, .int x1, .int x2, .int x3] x (fun r' h' => r' = some (.int r) ∧ h' = xx) ∧ m_Model_clubs 2 [.ref 0, .int x1, .int x2, .int x3] m (fun r' h' => r' = some (.int r) ∧ h' = mm) := by
  obtain ⟨r, xx, mm, e1, e2, h2⟩ := R_clubs h x1 x2 x3
  exact ⟨r, xx, mm, h2, c_Club_clubs (d := 0) e1 ⟨rfl, rfl⟩, c_Model_clubs (d := 0) e2 ⟨rfl, rfl⟩⟩
theorem P_mend {x m : am_H} (h : Rel x m) (x1 : Int32) (x2 : Int32) (x3 : Int32) : ∃ r xx mm, Rel xx mm ∧ m_Club_mend 4 [.ref 0, .int x1, .int x2, .int x3] x (fun r' h' => r' = some (.int r) ∧ h' = xx) ∧ m_Model_mend 3 [.ref 0, .int x1, .int x2, .int x3] m (fun r' h' => r' = some (.int r) ∧ h' = mm) := by
  obtain ⟨r, xx, mm, e1, e2, h2⟩ := R_mend h x1 x2 x3
  exact ⟨r, xx, mm, h2, c_Club_mend (d := 0) e1 ⟨rfl, rfl⟩, c_Model_mend (d := 0) e2 ⟨rfl, rfl⟩⟩
theorem P_of {x m : am_H} (h : Rel x m) (x1 : Int32) (x2 : Int32) : ∃ r xx mm, Rel xx mm ∧ m_Club_of 2 [.ref 0, .int x1, .int x2] x (fun r' h' => r' = some (.int r) ∧ h' = xx) ∧ m_Model_of 3 [.ref 0, .int x1, .int x2] m (fun r' h' => r' = some (.int r) ∧ h' = mm) := by
  obtain ⟨L, ⟨a1, a2, a3⟩, ⟨b1, b2, b3, b4⟩, -⟩ := id h
  obtain ⟨r, e1, e2⟩ := E_of a1 a2 b1 x1 x2
  exact ⟨r, x, m, h, c_Club_of (d := 0) e1 ⟨rfl, rfl⟩, c_Model_of (d := 0) e2 ⟨rfl, rfl⟩⟩
theorem P_feed {x m : am_H} (h : Rel x m) (x1 : Int32) : ∃ r xx mm, Rel xx mm ∧ m_Club_feed 1 [.ref 0, .int x1] x (fun r' h' => r' = some (.int r) ∧ h' = xx) ∧ m_Model_feed 1 [.ref 0, .int x1] m (fun r' h' => r' = some (.int r) ∧ h' = mm) := by
  obtain ⟨r, xx, mm, e1, e2, h2⟩ := R_feed h x1
  exact ⟨r, xx, mm, h2, c_Club_feed (d := 0) e1 ⟨rfl, rfl⟩, c_Model_feed (d := 0) e2 ⟨rfl, rfl⟩⟩
theorem P_law {x m : am_H} (h : Rel x m) : ∃ r xx mm, Rel xx mm ∧ m_Club_law 71 [.ref 0] x (fun r' h' => r' = some (.int r) ∧ h' = xx) ∧ m_Model_law 67 [.ref 0] m (fun r' h' => r' = some (.int r) ∧ h' = mm) := by
  obtain ⟨r, xx, mm, e1, e2, h2⟩ := RR_law h
  exact ⟨r, xx, mm, h2, c_Club_law (d := 0) e1 ⟨rfl, rfl⟩, c_Model_law (d := 0) e2 ⟨rfl, rfl⟩⟩
theorem P_lies {x m : am_H} (h : Rel x m) (x1 : Int32) (x2 : Int32) (x3 : Int32) : ∃ r xx mm, Rel xx mm ∧ m_Club_lies 4 [.ref 0, .int x1, .int x2, .int x3] x (fun r' h' => r' = some (.long r) ∧ h' = xx) ∧ m_Model_lies 3 [.ref 0, .int x1, .int x2, .int x3] m (fun r' h' => r' = some (.long r) ∧ h' = mm) := by
  obtain ⟨L, ⟨a1, a2, a3⟩, ⟨b1, b2, b3, b4⟩, -⟩ := id h
  obtain ⟨r, e1, e2⟩ := E_lies a1 a2 x1 x2 x3
  exact ⟨r, x, m, h, c_Club_lies (d := 0) e1 ⟨rfl, rfl⟩, c_Model_lies (d := 0) e2 ⟨rfl, rfl⟩⟩
theorem P_chance {x m : am_H} (h : Rel x m) (x1 : Int32) (x2 : Int32) (x3 : Int32) : ∃ r xx mm, Rel xx mm ∧ m_Club_chance 4 [.ref 0, .int x1, .int x2, .int x3] x (fun r' h' => r' = some (.long r) ∧ h' = xx) ∧ m_Model_chance 3 [.ref 0, .int x1, .int x2, .int x3] m (fun r' h' => r' = some (.long r) ∧ h' = mm) := by
  obtain ⟨L, ⟨a1, a2, a3⟩, ⟨b1, b2, b3, b4⟩, -⟩ := id h
  obtain ⟨r, e1, e2⟩ := E_chance a1 a2 x1 x2 x3
  exact ⟨r, x, m, h, c_Club_chance (d := 0) e1 ⟨rfl, rfl⟩, c_Model_chance (d := 0) e2 ⟨rfl, rfl⟩⟩
theorem P_believed {x m : am_H} (h : Rel x m) (x1 : Int32) : ∃ r xx mm, Rel xx mm ∧ m_Club_believed 4 [.ref 0, .int x1] x (fun r' h' => r' = some (.int r) ∧ h' = xx) ∧ m_Model_believed 69 [.ref 0, .int x1] m (fun r' h' => r' = some (.int r) ∧ h' = mm) := by
  obtain ⟨r, xx, mm, e1, e2, h2⟩ := R_believed h x1
  exact ⟨r, xx, mm, h2, c_Club_believed (d := 0) e1 ⟨rfl, rfl⟩, c_Model_believed (d := 0) e2 ⟨rfl, rfl⟩⟩
theorem P_layUp {x m : am_H} (h : Rel x m) (x1 : Int32) : ∃ r xx mm, Rel xx mm ∧ m_Club_layUp 4 [.ref 0, .int x1] x (fun r' h' => r' = some (.int r) ∧ h' = xx) ∧ m_Model_layUp 3 [.ref 0, .int x1] m (fun r' h' => r' = some (.int r) ∧ h' = mm) := by
  obtain ⟨L, ⟨a1, a2, a3⟩, ⟨b1, b2, b3, b4⟩, -⟩ := id h
  obtain ⟨r, e1, e2⟩ := E_layUp a1 a2 x1
  exact ⟨r, x, m, h, c_Club_layUp (d := 0) e1 ⟨rfl, rfl⟩, c_Model_layUp (d := 0) e2 ⟨rfl, rfl⟩⟩
theorem P_strokes {x m : am_H} (h : Rel x m) (x1 : Int32) (x2 : Int32) (x3 : Int32) : ∃ r xx mm, Rel xx mm ∧ m_Club_strokes 5 [.ref 0, .int x1, .int x2, .int x3] x (fun r' h' => r' = some (.long r) ∧ h' = xx) ∧ m_Model_strokes 70 [.ref 0, .int x1, .int x2, .int x3] m (fun r' h' => r' = some (.long r) ∧ h' = mm) := by
  obtain ⟨r, xx, mm, e1, e2, h2⟩ := R_strokes h x1 x2 x3
  exact ⟨r, xx, mm, h2, c_Club_strokes (d := 0) e1 ⟨rfl, rfl⟩, c_Model_strokes (d := 0) e2 ⟨rfl, rfl⟩⟩
theorem P_byLaw {x m : am_H} (h : Rel x m) (x1 : Int32) (x2 : Int32) (x3 : Int32) : ∃ r xx mm, Rel xx mm ∧ m_Club_byLaw 6 [.ref 0, .int x1, .int x2, .int x3] x (fun r' h' => r' = some (.long r) ∧ h' = xx) ∧ m_Model_byLaw 70 [.ref 0, .int x1, .int x2, .int x3] m (fun r' h' => r' = some (.long r) ∧ h' = mm) := by
  obtain ⟨r, xx, mm, e1, e2, h2⟩ := R_byLaw h x1 x2 x3
  exact ⟨r, xx, mm, h2, c_Club_byLaw (d := 0) e1 ⟨rfl, rfl⟩, c_Model_byLaw (d := 0) e2 ⟨rfl, rfl⟩⟩
theorem P_lie {x m : am_H} (h : Rel x m) (x1 : Int32) (x2 : Int32) (x3 : Int32) : ∃ r xx mm, Rel xx mm ∧ m_Club_lie 6 [.ref 0, .int x1, .int x2, .int x3] x (fun r' h' => r' = some (.long r) ∧ h' = xx) ∧ m_Model_lie 70 [.ref 0, .int x1, .int x2, .int x3] m (fun r' h' => r' = some (.long r) ∧ h' = mm) := by
  obtain ⟨r, xx, mm, e1, e2, h2⟩ := R_lie h x1 x2 x3
  exact ⟨r, xx, mm, h2, c_Club_lie (d := 0) e1 ⟨rfl, rfl⟩, c_Model_lie (d := 0) e2 ⟨rfl, rfl⟩⟩
theorem P_atPin {x m : am_H} (h : Rel x m) (x1 : Int32) (x2 : Int32) : ∃ r xx mm, Rel xx mm ∧ m_Club_atPin 66 [.ref 0, .int x1, .int x2] x (fun r' h' => r' = some (.long r) ∧ h' = xx) ∧ m_Model_atPin 65 [.ref 0, .int x1, .int x2] m (fun r' h' => r' = some (.long r) ∧ h' = mm) := by
  obtain ⟨L, ⟨a1, a2, a3⟩, ⟨b1, b2, b3, b4⟩, -⟩ := id h
  obtain ⟨r, e1, e2⟩ := E_atPin a1 x1 x2
  exact ⟨r, x, m, h, c_Club_atPin (d := 0) e1 ⟨rfl, rfl⟩, c_Model_atPin (d := 0) e2 ⟨rfl, rfl⟩⟩
theorem P_practise {x m : am_H} (h : Rel x m) (x1 : Int32) : ∃ r xx mm, Rel xx mm ∧ m_Club_practise 7 [.ref 0, .int x1] x (fun r' h' => r' = some (.long r) ∧ h' = xx) ∧ m_Model_practise 72 [.ref 0, .int x1] m (fun r' h' => r' = some (.long r) ∧ h' = mm) := by
  obtain ⟨r, xx, mm, e1, e2, h2⟩ := R_practise h x1
  exact ⟨r, xx, mm, h2, c_Club_practise (d := 0) e1 ⟨rfl, rfl⟩, c_Model_practise (d := 0) e2 ⟨rfl, rfl⟩⟩
theorem P_dream {x m : am_H} (h : Rel x m) (x1 : Int32) : ∃ r xx mm, Rel xx mm ∧ m_Club_dream 7 [.ref 0, .int x1] x (fun r' h' => r' = some (.long r) ∧ h' = xx) ∧ m_Model_dream 71 [.ref 0, .int x1] m (fun r' h' => r' = some (.long r) ∧ h' = mm) := by
  obtain ⟨r, xx, mm, e1, e2, h2⟩ := R_dream h x1
  exact ⟨r, xx, mm, h2, c_Club_dream (d := 0) e1 ⟨rfl, rfl⟩, c_Model_dream (d := 0) e2 ⟨rfl, rfl⟩⟩
theorem P_judge {x m : am_H} (h : Rel x m) (x1 : Int32) : ∃ r xx mm, Rel xx mm ∧ m_Club_judge 5 [.ref 0, .int x1] x (fun r' h' => r' = some (.int r) ∧ h' = xx) ∧ m_Model_judge 4 [.ref 0, .int x1] m (fun r' h' => r' = some (.int r) ∧ h' = mm) := by
  obtain ⟨L, ⟨a1, a2, a3⟩, ⟨b1, b2, b3, b4⟩, -⟩ := id h
  obtain ⟨r, e1, e2⟩ := E_judge a1 a2 b4 x1
  exact ⟨r, x, m, h, c_Club_judge (d := 0) e1 ⟨rfl, rfl⟩, c_Model_judge (d := 0) e2 ⟨rfl, rfl⟩⟩
theorem P_truly {x m : am_H} (h : Rel x m) (x1 : Int32) (x2 : Int32) : ∃ r xx mm, Rel xx mm ∧ m_Club_truly 6 [.ref 0, .int x1, .int x2] x (fun r' h' => r' = some (.int r) ∧ h' = xx) ∧ m_Model_truly 4 [.ref 0, .int x1, .int x2] m (fun r' h' => r' = some (.int r) ∧ h' = mm) := by
  obtain ⟨L, ⟨a1, a2, a3⟩, ⟨b1, b2, b3, b4⟩, -⟩ := id h
  obtain ⟨r, e1, e2⟩ := E_truly a1 a2 b4 x1 x2
  exact ⟨r, x, m, h, c_Club_truly (d := 0) e1 ⟨rfl, rfl⟩, c_Model_truly (d := 0) e2 ⟨rfl, rfl⟩⟩
theorem P_guessed {x m : am_H} (h : Rel x m) (x1 : Int32) : ∃ r xx mm, Rel xx mm ∧ m_Club_guessed 5 [.ref 0, .int x1] x (fun r' h' => r' = some (.int r) ∧ h' = xx) ∧ m_Model_guessed 69 [.ref 0, .int x1] m (fun r' h' => r' = some (.int r) ∧ h' = mm) := by
  obtain ⟨r, xx, mm, e1, e2, h2⟩ := R_guessed h x1
  exact ⟨r, xx, mm, h2, c_Club_guessed (d := 0) e1 ⟨rfl, rfl⟩, c_Model_guessed (d := 0) e2 ⟨rfl, rfl⟩⟩
theorem P_drawn {x m : am_H} (h : Rel x m) (x1 : Int32) (x2 : Int32) (x3 : Int32) : ∃ r xx mm, Rel xx mm ∧ m_Club_drawn 6 [.ref 0, .int x1, .int x2, .int x3] x (fun r' h' => r' = some (.int r) ∧ h' = xx) ∧ m_Model_drawn 70 [.ref 0, .int x1, .int x2, .int x3] m (fun r' h' => r' = some (.int r) ∧ h' = mm) := by
  obtain ⟨r, xx, mm, e1, e2, h2⟩ := R_drawn h x1 x2 x3
  exact ⟨r, xx, mm, h2, c_Club_drawn (d := 0) e1 ⟨rfl, rfl⟩, c_Model_drawn (d := 0) e2 ⟨rfl, rfl⟩⟩
theorem P_hit {x m : am_H} (h : Rel x m) (x1 : Int32) (x2 : Int32) : ∃ r xx mm, Rel xx mm ∧ m_Club_hit 5 [.ref 0, .int x1, .int x2] x (fun r' h' => r' = some (.int r) ∧ h' = xx) ∧ m_Model_hit 3 [.ref 0, .int x1, .int x2] m (fun r' h' => r' = some (.int r) ∧ h' = mm) := by
  obtain ⟨r, xx, mm, e1, e2, h2⟩ := R_hit h x1 x2
  exact ⟨r, xx, mm, h2, c_Club_hit (d := 0) e1 ⟨rfl, rfl⟩, c_Model_hit (d := 0) e2 ⟨rfl, rfl⟩⟩
theorem P_putt {x m : am_H} (h : Rel x m) (x1 : Int32) : ∃ r xx mm, Rel xx mm ∧ m_Club_putt 3 [.ref 0, .int x1] x (fun r' h' => r' = some (.int r) ∧ h' = xx) ∧ m_Model_putt 2 [.ref 0, .int x1] m (fun r' h' => r' = some (.int r) ∧ h' = mm) := by
  obtain ⟨r, xx, mm, e1, e2, h2⟩ := R_putt h x1
  exact ⟨r, xx, mm, h2, c_Club_putt (d := 0) e1 ⟨rfl, rfl⟩, c_Model_putt (d := 0) e2 ⟨rfl, rfl⟩⟩
theorem P_led {x m : am_H} (h : Rel x m) (x1 : Int32) : ∃ r xx mm, Rel xx mm ∧ m_Club_led 1 [.ref 0, .int x1] x (fun r' h' => r' = some (.int r) ∧ h' = xx) ∧ m_Model_led 1 [.ref 0, .int x1] m (fun r' h' => r' = some (.int r) ∧ h' = mm) := by
  obtain ⟨L, ⟨a1, a2, a3⟩, ⟨b1, b2, b3, b4⟩, -⟩ := id h
  obtain ⟨r, e1, e2⟩ := E_led b1 x1
  exact ⟨r, x, m, h, c_Club_led (d := 0) e1 ⟨rfl, rfl⟩, c_Model_led (d := 0) e2 ⟨rfl, rfl⟩⟩
theorem P_image {x m : am_H} (h : Rel x m) : ∃ r xx mm, Rel xx mm ∧ m_Club_image 1 [.ref 0] x (fun r' h' => r' = some (.int r) ∧ h' = xx) ∧ m_Model_image 0 [.ref 0] m (fun r' h' => r' = some (.int r) ∧ h' = mm) := by
  obtain ⟨r, xx, mm, e1, e2, h2⟩ := R_image h
  exact ⟨r, xx, mm, h2, c_Club_image (d := 0) (Option.some.inj e1) ⟨rfl, rfl⟩, c_Model_image (d := 0) e2 ⟨rfl, rfl⟩⟩
theorem P_back {x m : am_H} (h : Rel x m) : ∃ r xx mm, Rel xx mm ∧ m_Club_back 1 [.ref 0] x (fun r' h' => r' = some (.int r) ∧ h' = xx) ∧ m_Model_back 0 [.ref 0] m (fun r' h' => r' = some (.int r) ∧ h' = mm) := by
  obtain ⟨r, xx, mm, e1, e2, h2⟩ := R_back h
  exact ⟨r, xx, mm, h2, c_Club_back (d := 0) e1 ⟨rfl, rfl⟩, c_Model_back (d := 0) e2 ⟨rfl, rfl⟩⟩
theorem P_undo {x m : am_H} (h : Rel x m) : ∃ r xx mm, Rel xx mm ∧ m_Club_undo 4 [.ref 0] x (fun r' h' => r' = some (.int r) ∧ h' = xx) ∧ m_Model_undo 0 [.ref 0] m (fun r' h' => r' = some (.int r) ∧ h' = mm) := by
  obtain ⟨r, xx, mm, e1, e2, h2⟩ := R_undo h
  exact ⟨r, xx, mm, h2, c_Club_undo (d := 0) e1 ⟨rfl, rfl⟩, c_Model_undo (d := 0) e2 ⟨rfl, rfl⟩⟩
theorem P_redo {x m : am_H} (h : Rel x m) : ∃ r xx mm, Rel xx mm ∧ m_Club_redo 4 [.ref 0] x (fun r' h' => r' = some (.int r) ∧ h' = xx) ∧ m_Model_redo 0 [.ref 0] m (fun r' h' => r' = some (.int r) ∧ h' = mm) := by
  obtain ⟨r, xx, mm, e1, e2, h2⟩ := R_redo h
  exact ⟨r, xx, mm, h2, c_Club_redo (d := 0) e1 ⟨rfl, rfl⟩, c_Model_redo (d := 0) e2 ⟨rfl, rfl⟩⟩
theorem P_body {x m : am_H} (h : Rel x m) (x1 : Int32) : ∃ r xx mm, Rel xx mm ∧ m_Club_body 1 [.ref 0, .int x1] x (fun r' h' => r' = some (.int r) ∧ h' = xx) ∧ m_Model_body 1 [.ref 0, .int x1] m (fun r' h' => r' = some (.int r) ∧ h' = mm) := by
  obtain ⟨r, xx, mm, e1, e2, h2⟩ := R_body h x1
  exact ⟨r, xx, mm, h2, c_Club_body (d := 0) e1 ⟨rfl, rfl⟩, c_Model_body (d := 0) e2 ⟨rfl, rfl⟩⟩
theorem P_act {x m : am_H} (h : Rel x m) (x1 : Int32) (x2 : Int32) (x3 : Int32) : ∃ r xx mm, Rel xx mm ∧ m_Club_act 67 [.ref 0, .int x1, .int x2, .int x3] x (fun r' h' => r' = some (.int r) ∧ h' = xx) ∧ m_Model_act 257 [.ref 0, .int x1, .int x2, .int x3] m (fun r' h' => r' = some (.int r) ∧ h' = mm) := by
  obtain ⟨r, xx, mm, e1, e2, h2⟩ := R_act h x1 x2 x3
  exact ⟨r, xx, mm, h2, c_Club_act (d := 0) e1 ⟨rfl, rfl⟩, c_Model_act (d := 0) e2 ⟨rfl, rfl⟩⟩
theorem P_trace {x m : am_H} (h : Rel x m) (x1 : Int32) : ∃ r xx mm, Rel xx mm ∧ m_Club_trace 1 [.ref 0, .int x1] x (fun r' h' => r' = some (.int r) ∧ h' = xx) ∧ m_Model_trace 0 [.ref 0, .int x1] m (fun r' h' => r' = some (.int r) ∧ h' = mm) := by
  obtain ⟨L, ⟨a1, a2, a3⟩, ⟨b1, b2, b3, b4⟩, -⟩ := id h
  obtain ⟨r, e1, e2⟩ := E_trace b2 x1
  exact ⟨r, x, m, h, c_Club_trace (d := 0) e1 ⟨rfl, rfl⟩, c_Model_trace (d := 0) e2 ⟨rfl, rfl⟩⟩
theorem P_keep {x m : am_H} (h : Rel x m) (x1 : Int32) (x2 : Int32) : ∃ r xx mm, Rel xx mm ∧ m_Club_keep 2 [.ref 0, .int x1, .int x2] x (fun r' h' => r' = some (.int r) ∧ h' = xx) ∧ m_Model_keep 2 [.ref 0, .int x1, .int x2] m (fun r' h' => r' = some (.int r) ∧ h' = mm) := by
  obtain ⟨r, xx, mm, e1, e2, h2⟩ := R_keep h x1 x2
  exact ⟨r, xx, mm, h2, c_Club_keep (d := 0) e1 ⟨rfl, rfl⟩, c_Model_keep (d := 0) e2 ⟨rfl, rfl⟩⟩
theorem P_row {x m : am_H} (h : Rel x m) (x1 : Int32) (x2 : Int32) (x3 : Int32) : ∃ r xx mm, Rel xx mm ∧ m_Club_row 2 [.ref 0, .int x1, .int x2, .int x3] x (fun r' h' => r' = some (.int r) ∧ h' = xx) ∧ m_Model_row 2 [.ref 0, .int x1, .int x2, .int x3] m (fun r' h' => r' = some (.int r) ∧ h' = mm) := by
  obtain ⟨r, xx, mm, e1, e2, h2⟩ := R_row h x1 x2 x3
  exact ⟨r, xx, mm, h2, c_Club_row (d := 0) e1 ⟨rfl, rfl⟩, c_Model_row (d := 0) e2 ⟨rfl, rfl⟩⟩
theorem P_put {x m : am_H} (h : Rel x m) (x1 : Int32) (x2 : Int32) (x3 : Int64) : ∃ r xx mm, Rel xx mm ∧ m_Club_put 2 [.ref 0, .int x1, .int x2, .long x3] x (fun r' h' => r' = some (.int r) ∧ h' = xx) ∧ m_Model_put 3 [.ref 0, .int x1, .int x2, .long x3] m (fun r' h' => r' = some (.int r) ∧ h' = mm) := by
  obtain ⟨r, xx, mm, e1, e2, h2⟩ := R_put h x1 x2 x3
  exact ⟨r, xx, mm, h2, c_Club_put (d := 0) e1 ⟨rfl, rfl⟩, c_Model_put (d := 0) e2 ⟨rfl, rfl⟩⟩
theorem P_element {x m : am_H} (h : Rel x m) (x1 : Int32) (x2 : Int32) : ∃ r xx mm, Rel xx mm ∧ m_Club_element 2 [.ref 0, .int x1, .int x2] x (fun r' h' => r' = some (.long r) ∧ h' = xx) ∧ m_Model_element 3 [.ref 0, .int x1, .int x2] m (fun r' h' => r' = some (.long r) ∧ h' = mm) := by
  obtain ⟨L, ⟨a1, a2, a3⟩, ⟨b1, b2, b3, b4⟩, -⟩ := id h
  obtain ⟨r, e1, e2⟩ := E_element b4 x1 x2
  exact ⟨r, x, m, h, c_Club_element (d := 0) e1 ⟨rfl, rfl⟩, c_Model_element (d := 0) e2 ⟨rfl, rfl⟩⟩
theorem P_shift {x m : am_H} (h : Rel x m) (x1 : Int32) (x2 : Int32) (x3 : Int32) (x4 : Int32) (x5 : Int32) : ∃ r xx mm, Rel xx mm ∧ m_Club_shift 2 [.ref 0, .int x1, .int x2, .int x3, .int x4, .int x5] x (fun r' h' => r' = some (.int r) ∧ h' = xx) ∧ m_Model_shift 2 [.ref 0, .int x1, .int x2, .int x3, .int x4, .int x5] m (fun r' h' => r' = some (.int r) ∧ h' = mm) := by
  obtain ⟨r, xx, mm, e1, e2, h2⟩ := R_shift h x1 x2 x3 x4 x5
  exact ⟨r, xx, mm, h2, c_Club_shift (d := 0) e1 ⟨rfl, rfl⟩, c_Model_shift (d := 0) e2 ⟨rfl, rfl⟩⟩
theorem P_taken {x m : am_H} (h : Rel x m) (x1 : Int32) (x2 : Int32) : ∃ r xx mm, Rel xx mm ∧ m_Club_taken 2 [.ref 0, .int x1, .int x2] x (fun r' h' => r' = some (.int r) ∧ h' = xx) ∧ m_Model_taken 2 [.ref 0, .int x1, .int x2] m (fun r' h' => r' = some (.int r) ∧ h' = mm) := by
  obtain ⟨L, ⟨a1, a2, a3⟩, ⟨b1, b2, b3, b4⟩, -⟩ := id h
  obtain ⟨r, e1, e2⟩ := E_taken b4 b2 x1 x2
  exact ⟨r, x, m, h, c_Club_taken (d := 0) e1 ⟨rfl, rfl⟩, c_Model_taken (d := 0) e2 ⟨rfl, rfl⟩⟩
theorem P_count {x m : am_H} (h : Rel x m) (x1 : Int32) : ∃ r xx mm, Rel xx mm ∧ m_Club_count 3 [.ref 0, .int x1] x (fun r' h' => r' = some (.int r) ∧ h' = xx) ∧ m_Model_count 3 [.ref 0, .int x1] m (fun r' h' => r' = some (.int r) ∧ h' = mm) := by
  obtain ⟨L, ⟨a1, a2, a3⟩, ⟨b1, b2, b3, b4⟩, -⟩ := id h
  obtain ⟨r, e1, e2⟩ := E_count a1 b3 a3 b2 x1
  exact ⟨r, x, m, h, c_Club_count (d := 0) e1 ⟨rfl, rfl⟩, c_Model_count (d := 0) e2 ⟨rfl, rfl⟩⟩
