/-! static tables, small laws (by program: wip/whole/gen3.py) -/
def tc_LEAST : List Value := [.int 0, .int 0, .int 0, .int 0, .int 1, .int (-3), .int 0, .int 0, .int 0]
theorem tb_LEAST : ("WhichClub$Hole", "LEAST", "[I", 100, FieldType.int, tc_LEAST) ∈ am_tb := by
  simp only [am_tb, tc_LEAST]
  simp
def tv_LEAST (i : Int32) : Int32 := ([0, 0, 0, 0, 1, (-3), 0, 0, 0] : List Int32).getD i.toNatClampNeg 0
theorem tv_LEAST_ok {i : Int32} (h : vp_in i 9) : tc_LEAST.getD i.toNatClampNeg .null = .int (tv_LEAST i) := by
  have h2 : i.toNatClampNeg < 9 := Nat.lt_of_not_le (fun q => h (Or.inr q))
  revert h2
  simp only [tv_LEAST, tc_LEAST]
  generalize i.toNatClampNeg = k
  intro h2
  match k, h2 with
  | 0, _ => rfl
  | 1, _ => rfl
  | 2, _ => rfl
  | 3, _ => rfl
  | 4, _ => rfl
  | 5, _ => rfl
  | 6, _ => rfl
  | 7, _ => rfl
  | 8, _ => rfl
  | k + 9, h2 => omega
def tc_MOST : List Value := [.int 4, .int 30, .int 3, .int 9, .int 29, .int 3, .int 12, .int 12, .int 12]
theorem tb_MOST : ("WhichClub$Hole", "MOST", "[I", 101, FieldType.int, tc_MOST) ∈ am_tb := by
  simp only [am_tb, tc_MOST]
  simp
def tv_MOST (i : Int32) : Int32 := ([4, 30, 3, 9, 29, 3, 12, 12, 12] : List Int32).getD i.toNatClampNeg 0
theorem tv_MOST_ok {i : Int32} (h : vp_in i 9) : tc_MOST.getD i.toNatClampNeg .null = .int (tv_MOST i) := by
  have h2 : i.toNatClampNeg < 9 := Nat.lt_of_not_le (fun q => h (Or.inr q))
  revert h2
  simp only [tv_MOST, tc_MOST]
  generalize i.toNatClampNeg = k
  intro h2
  match k, h2 with
  | 0, _ => rfl
  | 1, _ => rfl
  | 2, _ => rfl
  | 3, _ => rfl
  | 4, _ => rfl
  | 5, _ => rfl
  | 6, _ => rfl
  | 7, _ => rfl
  | 8, _ => rfl
  | k + 9, h2 => omega
def tc_UNITS : List Value := [.long 12, .long 1260, .long 132300, .long 13891500, .long 1458607500]
theorem tb_UNITS : ("WhichClub$Reckoning", "UNITS", "[J", 102, FieldType.long, tc_UNITS) ∈ am_tb := by
  simp only [am_tb, tc_UNITS]
  simp
def tv_UNITS (i : Int32) : Int64 := ([12, 1260, 132300, 13891500, 1458607500] : List Int64).getD i.toNatClampNeg 0
theorem tv_UNITS_ok {i : Int32} (h : vp_in i 5) : tc_UNITS.getD i.toNatClampNeg .null = .long (tv_UNITS i) := by
  have h2 : i.toNatClampNeg < 5 := Nat.lt_of_not_le (fun q => h (Or.inr q))
  revert h2
  simp only [tv_UNITS, tc_UNITS]
  generalize i.toNatClampNeg = k
  intro h2
  match k, h2 with
  | 0, _ => rfl
  | 1, _ => rfl
  | 2, _ => rfl
  | 3, _ => rfl
  | 4, _ => rfl
  | k + 5, h2 => omega
def tc_SHARES : List Value := [.int 105, .int 35, .int 21, .int 15]
theorem tb_SHARES : ("WhichClub$Reckoning", "SHARES", "[I", 103, FieldType.int, tc_SHARES) ∈ am_tb := by
  simp only [am_tb, tc_SHARES]
  simp
def tv_SHARES (i : Int32) : Int32 := ([105, 35, 21, 15] : List Int32).getD i.toNatClampNeg 0
theorem tv_SHARES_ok {i : Int32} (h : vp_in i 4) : tc_SHARES.getD i.toNatClampNeg .null = .int (tv_SHARES i) := by
  have h2 : i.toNatClampNeg < 4 := Nat.lt_of_not_le (fun q => h (Or.inr q))
  revert h2
  simp only [tv_SHARES, tc_SHARES]
  generalize i.toNatClampNeg = k
  intro h2
  match k, h2 with
  | 0, _ => rfl
  | 1, _ => rfl
  | 2, _ => rfl
  | 3, _ => rfl
  | k + 4, h2 => omega
def tc_ABOVE : List Value := [.int (-1), .int 0, .int 0, .int 2, .int 1, .int 3, .int 0, .int 4]
theorem tb_ABOVE : ("WhichClub$Words", "ABOVE", "[I", 104, FieldType.int, tc_ABOVE) ∈ am_tb := by
  simp only [am_tb, tc_ABOVE]
  simp
def tv_ABOVE (i : Int32) : Int32 := ([(-1), 0, 0, 2, 1, 3, 0, 4] : List Int32).getD i.toNatClampNeg 0
theorem tv_ABOVE_ok {i : Int32} (h : vp_in i 8) : tc_ABOVE.getD i.toNatClampNeg .null = .int (tv_ABOVE i) := by
  have h2 : i.toNatClampNeg < 8 := Nat.lt_of_not_le (fun q => h (Or.inr q))
  revert h2
  simp only [tv_ABOVE, tc_ABOVE]
  generalize i.toNatClampNeg = k
  intro h2
  match k, h2 with
  | 0, _ => rfl
  | 1, _ => rfl
  | 2, _ => rfl
  | 3, _ => rfl
  | 4, _ => rfl
  | 5, _ => rfl
  | 6, _ => rfl
  | 7, _ => rfl
  | k + 8, h2 => omega
def tc_OWN : List Value := [.int 1, .int 10, .int 11, .int 2, .int 20, .int 0, .int 0, .int 0, .int 0, .int 30, .int 0, .int 0, .int 0, .int 41, .int 40, .int 0, .int 0, .int 0, .int 50, .int 0, .int 0, .int 0, .int 0, .int 60, .int 70, .int 0, .int 0, .int 0, .int 0, .int 80, .int 0, .int 81]
theorem tb_OWN : ("WhichClub$Words", "OWN", "[I", 105, FieldType.int, tc_OWN) ∈ am_tb := by
  simp only [am_tb, tc_OWN]
  simp
def tv_OWN (i : Int32) : Int32 := ([1, 10, 11, 2, 20, 0, 0, 0, 0, 30, 0, 0, 0, 41, 40, 0, 0, 0, 50, 0, 0, 0, 0, 60, 70, 0, 0, 0, 0, 80, 0, 81] : List Int32).getD i.toNatClampNeg 0
theorem tv_OWN_ok {i : Int32} (h : vp_in i 32) : tc_OWN.getD i.toNatClampNeg .null = .int (tv_OWN i) := by
  have h2 : i.toNatClampNeg < 32 := Nat.lt_of_not_le (fun q => h (Or.inr q))
  revert h2
  simp only [tv_OWN, tc_OWN]
  generalize i.toNatClampNeg = k
  intro h2
  match k, h2 with
  | 0, _ => rfl
  | 1, _ => rfl
  | 2, _ => rfl
  | 3, _ => rfl
  | 4, _ => rfl
  | 5, _ => rfl
  | 6, _ => rfl
  | 7, _ => rfl
  | 8, _ => rfl
  | 9, _ => rfl
  | 10, _ => rfl
  | 11, _ => rfl
  | 12, _ => rfl
  | 13, _ => rfl
  | 14, _ => rfl
  | 15, _ => rfl
  | 16, _ => rfl
  | 17, _ => rfl
  | 18, _ => rfl
  | 19, _ => rfl
  | 20, _ => rfl
  | 21, _ => rfl
  | 22, _ => rfl
  | 23, _ => rfl
  | 24, _ => rfl
  | 25, _ => rfl
  | 26, _ => rfl
  | 27, _ => rfl
  | 28, _ => rfl
  | 29, _ => rfl
  | 30, _ => rfl
  | 31, _ => rfl
  | k + 32, h2 => omega
theorem am_vin {i : Int32} {n : Nat} (h : ¬ (i < 0 ∨ n ≤ i.toNatClampNeg)) : vp_in i n := h
def am_ok (i : Int32) (n : Nat) : Bool := decide (¬ (i < 0 ∨ n ≤ i.toNatClampNeg))
theorem am_okv {i : Int32} {n : Nat} (h : am_ok i n = true) : vp_in i n := am_vin (of_decide_eq_true (p := ¬ (i < 0 ∨ n ≤ i.toNatClampNeg)) h)
def am_shf (a : Nat) : Prop := shX[a]? = some (.inl (9, [.ref (a + 1), .int 0, .int 0, .int 0])) ∧ shX[a + 1]? = some (.inr (1, 60, []))
def am_shp (i : Int32) : Nat := 31 + 2 * i.toNatClampNeg
theorem am_shq {i : Int32} (h : vp_in i 6) : ([31, 33, 35, 37, 39, 41] : List Nat)[i.toNatClampNeg]? = some (am_shp i) := by
  have h2 : i.toNatClampNeg < 6 := Nat.lt_of_not_le (fun q => h (Or.inr q))
  revert h2
  simp only [am_shp]
  generalize i.toNatClampNeg = k
  intro h2
  match k, h2 with
  | 0, _ => rfl
  | 1, _ => rfl
  | 2, _ => rfl
  | 3, _ => rfl
  | 4, _ => rfl
  | 5, _ => rfl
  | k + 6, h2 => omega
theorem am_shl {i : Int32} (h : vp_in i 6) : am_shf (am_shp i) := by
  have h2 : i.toNatClampNeg < 6 := Nat.lt_of_not_le (fun q => h (Or.inr q))
  revert h2
  simp only [am_shp]
  generalize i.toNatClampNeg = k
  intro h2
  match k, h2 with
  | 0, _ => exact ⟨rfl, rfl⟩
  | 1, _ => exact ⟨rfl, rfl⟩
  | 2, _ => exact ⟨rfl, rfl⟩
  | 3, _ => exact ⟨rfl, rfl⟩
  | 4, _ => exact ⟨rfl, rfl⟩
  | 5, _ => exact ⟨rfl, rfl⟩
  | k + 6, h2 => omega
def am_b (b : Bool) : Int32 := match b with
  | true => 1
  | false => 0
theorem am_nb {b : Bool} : narrow .boolean (.int (am_b b)) = .int (am_b b) := by cases b <;> decide
theorem am_n01 {x : Int32} (h : x = 0 ∨ x = 1) : narrow .boolean (.int x) = .int x := by rcases h with rfl | rfl <;> decide
theorem am_bz {b : Bool} (h : am_b b = 0) : b = false := by cases b <;> first | rfl | (revert h; decide)
theorem am_bn {b : Bool} (h : ¬ am_b b = 0) : b = true := by cases b <;> first | rfl | (revert h; decide)
theorem am_ift {α : Type} {c : Prop} [inst : Decidable c] {A B r : α} (e : (if c then A else B) = r) (h : c) : A = r := by rw [if_pos h] at e; exact e
theorem am_ife {α : Type} {c : Prop} [inst : Decidable c] {A B r : α} (e : (if c then A else B) = r) (h : ¬ c) : B = r := by rw [if_neg h] at e; exact e
theorem am_iff {α : Type} {b : Bool} {A B r : α} (e : (if b = true then A else B) = r) (h : b = false) : B = r := by rw [h] at e; exact e
theorem am_gd {α : Type} {c : Prop} [inst : Decidable c] {A : Option α} {r : α} (e : (if c then A else none) = some r) : c := by
  by_cases h : c
  · exact h
  · rw [if_neg h] at e; cases e
theorem am_ga {α : Type} {c : Prop} [inst : Decidable c] {A : Option α} {r : α} (e : (if c then A else none) = some r) : A = some r := by
  by_cases h : c
  · rw [if_pos h] at e; exact e
  · rw [if_neg h] at e; cases e
theorem am_bd {α β : Type} {o : Option α} {K : α → Option β} {r : β} (e : o.bind K = some r) : ∃ p, o = some p ∧ K p = some r := by
  cases o with
  | none => cases e
  | some p => exact ⟨p, rfl, e⟩
theorem am_nn {α : Type} {a : α} {P : Prop} (e : (none : Option α) = some a) : P := by cases e
def am_fu : Nat := 5000
def am_le : List (Option Value) → List (Option Value) → Prop
  | [], _ => True
  | none :: a, _ :: b => am_le a b
  | some v :: a, some w :: b => v = w ∧ am_le a b
  | _ :: _, _ => False
theorem am_le_at : ∀ {a b : List (Option Value)} {i : Nat} {v : Value}, am_le a b → a[i]? = some (some v) → b[i]? = some (some v) := by
  intro a
  induction a with
  | nil => intro b i v _ h; simp at h
  | cons x a ih =>
    intro b i v hl h
    match x, b, hl with
    | none, y :: b, hl =>
      match i, h with
      | 0, h => simp at h
      | i + 1, h => simpa using ih hl (by simpa using h)
    | some w, some u :: b, hl =>
      obtain ⟨e, hl⟩ := hl
      match i, h with
      | 0, h => simpa [← e] using h
      | i + 1, h => simpa using ih hl (by simpa using h)
theorem am_wk2 {X : am_X} {pc : Nat} {ls ls2 : List (Option Value)} {st : List Value} {h : am_H} {Q : am_Q} (k : am_W X pc ls2 st h Q) (hl : am_le ls2 ls) : am_W X pc ls st h Q :=
  fun _ _ _ _ _ _ _ _ _ _ _ _ _ _ _ _ C hh => k _ _ _ _ _ _ _ _ _ _ _ _ _ _ _ _ C (am_has_sub hh (fun q hq => by
    obtain ⟨v, hv, he⟩ := am_lv_mem.mp hq
    exact am_lv_mem.mpr ⟨v, am_le_at hl hv, he⟩))
theorem am_rIp {Q : am_Q} {h : am_H} {v : Int32} {res : Int32} (e : some v = some res) (q : Q (some (.int res)) h) : Q (some (.int v)) h := by cases e; exact q
theorem am_rIpi {Q : am_Q} {h : am_H} {v : Int32} {res : Int32 × am_H} (e : some (v, h) = some res) (q : Q (some (.int (res.1))) res.2) : Q (some (.int v)) h := by cases e; exact q
theorem am_rIt {Q : am_Q} {h : am_H} {v : Int32} {res : Int32} (e : v = res) (q : Q (some (.int res)) h) : Q (some (.int v)) h := by cases e; exact q
theorem am_rIti {Q : am_Q} {h : am_H} {v : Int32} {res : Int32 × am_H} (e : (v, h) = res) (q : Q (some (.int (res.1))) res.2) : Q (some (.int v)) h := by cases e; exact q
theorem am_rJp {Q : am_Q} {h : am_H} {v : Int64} {res : Int64} (e : some v = some res) (q : Q (some (.long res)) h) : Q (some (.long v)) h := by cases e; exact q
theorem am_rJpi {Q : am_Q} {h : am_H} {v : Int64} {res : Int64 × am_H} (e : some (v, h) = some res) (q : Q (some (.long (res.1))) res.2) : Q (some (.long v)) h := by cases e; exact q
theorem am_rJt {Q : am_Q} {h : am_H} {v : Int64} {res : Int64} (e : v = res) (q : Q (some (.long res)) h) : Q (some (.long v)) h := by cases e; exact q
theorem am_rJti {Q : am_Q} {h : am_H} {v : Int64} {res : Int64 × am_H} (e : (v, h) = res) (q : Q (some (.long (res.1))) res.2) : Q (some (.long v)) h := by cases e; exact q
theorem am_rZp {Q : am_Q} {h : am_H} {v : Bool} {res : Bool} (e : some v = some res) (q : Q (some (.int (am_b res))) h) : Q (some (.int (am_b v))) h := by cases e; exact q
theorem am_rZpi {Q : am_Q} {h : am_H} {v : Bool} {res : Bool × am_H} (e : some (v, h) = some res) (q : Q (some (.int (am_b (res.1)))) res.2) : Q (some (.int (am_b v))) h := by cases e; exact q
theorem am_rZt {Q : am_Q} {h : am_H} {v : Bool} {res : Bool} (e : v = res) (q : Q (some (.int (am_b res))) h) : Q (some (.int (am_b v))) h := by cases e; exact q
theorem am_rZti {Q : am_Q} {h : am_H} {v : Bool} {res : Bool × am_H} (e : (v, h) = res) (q : Q (some (.int (am_b (res.1)))) res.2) : Q (some (.int (am_b v))) h := by cases e; exact q
theorem am_rVpi {Q : am_Q} {h : am_H} {res : am_H} (e : some h = some res) (q : Q none res) : Q none h := by cases e; exact q
theorem am_rVti {Q : am_Q} {h : am_H} {res : am_H} (e : h = res) (q : Q none res) : Q none h := by cases e; exact q
theorem am_rVp {Q : am_Q} {h : am_H} {res : Unit} (e : some () = some res) (q : Q none h) : Q none h := q
theorem am_rZx {Q : am_Q} {h : am_H} {res : Bool} (x : Int32) (g : x = 0 ∨ x = 1) (e : some (decide (¬ x = 0)) = some res) (q : Q (some (.int (am_b res))) h) : Q (some (.int x)) h := by
  cases e; rcases g with rfl | rfl <;> exact q
