/-! THE ABSTRACT MACHINE: its state, the world that it stands for, the two judgements -/
/-- int slots and long slots, by the place of the cell and the number of the slot -/
abbrev am_H : Type := (Nat → Nat → Int32) × (Nat → Nat → Int64)
def am_v (ad : Nat → Nat) : Value → Value
  | .ref k => .ref (ad k)
  | v => v
def am_fv (ad : Nat → Nat) (h : am_H) (k : Nat) (i : Nat) : Value → Value
  | .int _ => .int (h.1 k i)
  | .long _ => .long (h.2 k i)
  | .ref q => .ref (ad q)
  | v => v
abbrev am_G : Type := ClassId × ClassId × ClassId
def am_e (g : am_G) (ad : Nat → Nat) (h : am_H) (k : Nat) : am_S → va_E
  | .inl (ci, tm) => .inr (ci, tm.mapIdx (am_fv ad h k))
  | .inr (0, n, _) => .inl (g.1, n, .inl (h.1 k))
  | .inr (1, n, _) => .inl (g.2.1, n, .inr (.inl (h.2 k)))
  | .inr (_, n, rs) => .inl (g.2.2, n, .inr (.inr (.inr (.inr (fun i => (rs[i]?).map ad)))))
def am_ws (g : am_G) (ad : Nat → Nat) (h : am_H) (sh : List am_S) : va_W := sh.mapIdx (fun k x => (ad k, am_e g ad h k x))
def am_tys (g : am_G) : List (ClassId × FieldType) := [(g.1, .int), (g.2.1, .long), (g.2.2, .object "WhichClub$Shelf")]
def am_A (ad : Nat → Nat) (n sz : Nat) : Nat → Prop := fun q => (∃ k, k < n ∧ q = ad k) ∨ sz ≤ q
def am_I (ad : Nat → Nat) (n : Nat) : Prop := ∀ i j, i < n → j < n → ad i = ad j → i = j
/-- the static tables: class, field, descriptor, place, type, contents -/
def am_tb : List (String × String × String × Nat × FieldType × List Value) := [
  ("WhichClub$Hole", "LEAST", "[I", 100, .int, [.int 0, .int 0, .int 0, .int 0, .int 1, .int (-3), .int 0, .int 0, .int 0]),
  ("WhichClub$Hole", "MOST", "[I", 101, .int, [.int 4, .int 30, .int 3, .int 9, .int 29, .int 3, .int 12, .int 12, .int 12]),
  ("WhichClub$Reckoning", "UNITS", "[J", 102, .long, [.long 12, .long 1260, .long 132300, .long 13891500, .long 1458607500]),
  ("WhichClub$Reckoning", "SHARES", "[I", 103, .int, [.int 105, .int 35, .int 21, .int 15]),
  ("WhichClub$Words", "ABOVE", "[I", 104, .int, [.int (-1), .int 0, .int 0, .int 2, .int 1, .int 3, .int 0, .int 4]),
  ("WhichClub$Words", "OWN", "[I", 105, .int, [.int 1, .int 10, .int 11, .int 2, .int 20, .int 0, .int 0, .int 0, .int 0, .int 30, .int 0, .int 0, .int 0, .int 41, .int 40, .int 0, .int 0, .int 0, .int 50, .int 0, .int 0, .int 0, .int 0, .int 60, .int 70, .int 0, .int 0, .int 0, .int 0, .int 80, .int 0, .int 81])]
def am_Z1 (ad : Nat → Nat) (A : Nat → Prop) (U : State) (H : Heap) (q : String × String × String × Nat × FieldType × List Value) : Prop :=
  va_Z q.1 q.2.1 q.2.2.1 (.ref (ad q.2.2.2.1)) A U H ∧ va_T q.2.2.2.2.1 (ad q.2.2.2.1) q.2.2.2.2.2.length (fun j => q.2.2.2.2.2.getD j .null) A U H
def am_Z (ad : Nat → Nat) (A : Nat → Prop) (U : State) (H : Heap) : Prop :=
  (∀ q ∈ am_tb, am_Z1 ad A U H q) ∧ vk_S 1 [6] [[100, 103, 99, 115, 119, 107]] (fun _ => ad 106) (fun _ => ad 107) A U H ∧ vk_R "WhichClub$Law" 79 "dgcswk" (ad 106) U ∧ va_Z "java/lang/String" "COMPACT_STRINGS" "Z" (.int 1) A U H
theorem am_Z.warm {ad : Nat → Nat} {A : Nat → Prop} {u U : State} {H : Heap} (hW : u.WarmedH U.vm) (h : am_Z ad A u H) : am_Z ad A U H :=
  ⟨fun q hq => ⟨va_Z.moved hW.alike (h.1 q hq).1, va_T.moved hW.alike (h.1 q hq).2⟩, vk_S.moved hW.alike h.2.1, vk_R.warm hW h.2.2.1, va_Z.moved hW.alike h.2.2.2⟩
theorem am_Z.same {ad : Nat → Nat} {A : Nat → Prop} {u U : State} {H : Heap} (hv : U.vm = u.vm) (h : am_Z ad A u H) : am_Z ad A U H := by
  have ha : u.vm.Alike U.vm := by rw [hv]; exact Vm.Alike.refl u.vm
  exact ⟨fun q hq => ⟨va_Z.moved ha (h.1 q hq).1, va_T.moved ha (h.1 q hq).2⟩, vk_S.moved ha h.2.1, vk_R.same hv h.2.2.1, va_Z.moved ha h.2.2.2⟩
theorem am_Z.kept {ad : Nat → Nat} {A : Nat → Prop} {U : State} {H H1 : Heap} (h : am_Z ad A U H) (hq : ∀ a : Nat, a < H.size → ¬ A a → H1[a]? = H[a]?) : am_Z ad A U H1 :=
  ⟨fun q hm => ⟨(h.1 q hm).1.kept hq, (h.1 q hm).2.kept hq⟩, h.2.1.kept hq, h.2.2.1, h.2.2.2.kept hq⟩
theorem am_Z.narrow {ad : Nat → Nat} {A B : Nat → Prop} {U : State} {H : Heap} (h : am_Z ad A U H) (hAB : ∀ q, B q → A q) : am_Z ad B U H :=
  ⟨fun q hm => ⟨(h.1 q hm).1.narrow hAB, (h.1 q hm).2.narrow hAB⟩, h.2.1.narrow hAB, h.2.2.1, h.2.2.2.narrow hAB⟩
/-- the world of a universe -/
def am_B (sh : List am_S) (D : va_G) (g : am_G) (ad : Nat → Nat) (h : am_H) (U : State) (H : Heap) : Prop := va_K D am_cl (am_tys g) U ∧ va_P D am_cl (am_ws g ad h sh) H
def am_rm (d : Nat) : Room := { frames := d + 1, cells := 0, slots := 0, locals := 64 * (d + 1) }
abbrev am_Q : Type := Option Value → am_H → Prop
def am_Pre (sh : List am_S) (D : va_G) (g : am_G) (ad : Nat → Nat) (sz : Nat) (vs : List Value) (h : am_H) : Array Value → State → Prop :=
  va_Pc (vs.map (am_v ad)) (fun U => U.heap.size = sz ∧ am_B sh D g ad h U U.heap ∧ am_Z ad (am_A ad sh.length sz) U U.heap)
def am_Post (sh : List am_S) (D : va_G) (g : am_G) (ad : Nat → Nat) (sz : Nat) (Q : am_Q) : Array Value → State → Outcome → State → Prop := fun _ st oc t =>
  (∃ (r : Option Value) (h : am_H), oc = .returned (r.map (am_v ad)) ∧ Q r h ∧ am_B sh D g ad h t t.heap) ∧ va_F (am_A ad sh.length sz) st t
/-- the wp of a call -/
def am_M (sh : List am_S) (y : MethodName) (cc : ByteArray) (nL : Nat) (ret : Option FieldType) (d : Nat) (vs : List Value) (h : am_H) (Q : am_Q) : Prop :=
  ∀ (l : Launch) (D : va_G) (g : am_G) (ad : Nat → Nat) (sz : Nat), am_I ad sh.length → Met l y (.code y cc nL ret :: am_T) (am_rm d) (am_Pre sh D g ad sz vs h) (am_Post sh D g ad sz Q) 0 0 (am_A ad sh.length sz)
/-- where a walk stands: shapes, own class, bytes, locals, return type, depth -/
abbrev am_X : Type := List am_S × String × ByteArray × Nat × Option FieldType × Nat
def am_lv (ad : Nat → Nat) (ls : List (Option Value)) : List (Nat × Value) := (List.range ls.length).filterMap (fun i => (ls.getD i none).map (fun v => (i, am_v ad v)))
theorem am_lv_mem {ad : Nat → Nat} {ls : List (Option Value)} {q : Nat × Value} : q ∈ am_lv ad ls ↔ ∃ v, ls[q.1]? = some (some v) ∧ q.2 = am_v ad v := by
  unfold am_lv
  rw [List.mem_filterMap]
  constructor
  · rintro ⟨i, hi, he⟩
    have hi := List.mem_range.mp hi
    cases hg : ls.getD i none with
    | none => rw [hg] at he; cases he
    | some v =>
      rw [hg] at he
      have he := Option.some.inj he
      subst he
      refine ⟨v, ?_, rfl⟩
      rw [List.getD_eq_getElem?_getD] at hg
      rw [List.getElem?_eq_getElem hi] at hg ⊢
      simpa using hg
  · rintro ⟨v, hv, he⟩
    have hi : q.1 < ls.length := (List.getElem?_eq_some_iff.mp hv).1
    refine ⟨q.1, List.mem_range.mpr hi, ?_⟩
    rw [List.getD_eq_getElem?_getD, hv]
    simp [he.symm]
def am_C (X : am_X) (p : Program) (s : State) (m : MethodId) (args : Array Value) (meth : Method) (c : Code) (H : Heap) (locs : List Loc) (D : va_G) (g : am_G) (ad : Nat → Nat) (sz : Nat) (h : am_H) : Prop :=
  p.tables.exec = Jvm.exec ∧ c.code = X.2.2.1 ∧ c.maxLocals = X.2.2.2.1 ∧ s.vm.findClass X.2.1 = some m.cls ∧ meth.sig.returnType = X.2.2.2.2.1 ∧ (∀ w ∈ am_T, w.before args s = true) ∧ meth.locks = false ∧ s.heap.size = sz ∧
  va_K D am_cl (am_tys g) s ∧ va_P D am_cl (am_ws g ad h X.1) H ∧ am_I ad X.1.length ∧ va_S (am_A ad X.1.length sz) s.heap H locs ∧ am_Z ad (am_A ad X.1.length sz) s s.heap
/-- the wp at a place of a method's code -/
def am_W (X : am_X) (pc : Nat) (ls : List (Option Value)) (st : List Value) (h : am_H) (Q : am_Q) : Prop :=
  ∀ (p : Program) (l : Launch) (e : Env) (s : State) (m : MethodId) (args : Array Value) (below : List Frame) (meth : Method) (c : Code) (H : Heap) (locs : List Loc) (lsC : Array Slot) (D : va_G) (g : am_G) (ad : Nat → Nat) (sz : Nat),
    am_C X p s m args meth c H locs D g ad sz h → lv_has lsC X.2.2.2.1 (am_lv ad ls) →
    W p l e (am_rm X.2.2.2.2.2) s m args below meth c H locs 0 0 (MQ below (am_Post X.1 D g ad sz Q) args s 0 0 (am_A ad X.1.length sz)) (F0 m pc lsC (st.map (am_v ad)))
/-! the world's rows -/
theorem am_ws_get {g : am_G} {ad : Nat → Nat} {h : am_H} {sh : List am_S} {k : Nat} {x : am_S} (hx : sh[k]? = some x) : (am_ws g ad h sh)[k]? = some (ad k, am_e g ad h k x) := by
  simp [am_ws, List.getElem?_mapIdx, hx]
theorem am_ws_inv {g : am_G} {ad : Nat → Nat} {h : am_H} {sh : List am_S} {k : Nat} {q : Nat × va_E} (hq : (am_ws g ad h sh)[k]? = some q) : k < sh.length ∧ q.1 = ad k := by
  simp only [am_ws, List.getElem?_mapIdx] at hq
  cases hk : sh[k]? with
  | none => rw [hk] at hq; cases hq
  | some x =>
    rw [hk] at hq
    have hq := Option.some.inj hq
    exact ⟨(List.getElem?_eq_some_iff.mp hk).1, by rw [← hq]⟩
theorem am_wsD {g : am_G} {ad : Nat → Nat} {h : am_H} {sh : List am_S} {sz : Nat} (hI : am_I ad sh.length) : va_D (am_A ad sh.length sz) (am_ws g ad h sh) := by
  refine ⟨fun i j p q hp hq e => ?_, fun k q hq => ?_⟩
  · obtain ⟨a1, a2⟩ := am_ws_inv hp
    obtain ⟨b1, b2⟩ := am_ws_inv hq
    exact hI i j a1 b1 (by rw [← a2, ← b2, e])
  · obtain ⟨a1, a2⟩ := am_ws_inv hq
    exact Or.inl ⟨k, a1, a2⟩
theorem am_fv_congr {ad : Nat → Nat} {h h' : am_H} {k i : Nat} {v : Value} (h1 : h'.1 k i = h.1 k i) (h2 : h'.2 k i = h.2 k i) : am_fv ad h' k i v = am_fv ad h k i v := by
  cases v <;> simp [am_fv, h1, h2]
theorem am_e_congr {g : am_G} {ad : Nat → Nat} {h h' : am_H} {k : Nat} {x : am_S} (h1 : h'.1 k = h.1 k) (h2 : h'.2 k = h.2 k) : am_e g ad h' k x = am_e g ad h k x := by
  match x with
  | .inl (ci, tm) =>
    simp only [am_e]
    have : am_fv ad h' k = am_fv ad h k := by funext i v; exact am_fv_congr (by rw [h1]) (by rw [h2])
    rw [this]
  | .inr (0, n, _) => simp only [am_e, h1]
  | .inr (1, n, _) => simp only [am_e, h2]
  | .inr (_ + 2, n, rs) => simp only [am_e]
theorem am_ws_set {g : am_G} {ad : Nat → Nat} {h h' : am_H} {sh : List am_S} {k : Nat} {x : am_S} (hx : sh[k]? = some x) (h1 : ∀ j, j ≠ k → h'.1 j = h.1 j) (h2 : ∀ j, j ≠ k → h'.2 j = h.2 j) : (am_ws g ad h sh).set k (ad k, am_e g ad h' k x) = am_ws g ad h' sh := by
  apply List.ext_getElem?
  intro j
  rw [List.getElem?_set]
  by_cases hj : k = j
  · subst hj
    have hk : k < (am_ws g ad h sh).length := by rw [am_ws, List.length_mapIdx]; exact (List.getElem?_eq_some_iff.mp hx).1
    rw [if_pos rfl, if_pos hk, am_ws_get hx]
  · rw [if_neg hj]
    simp only [am_ws, List.getElem?_mapIdx]
    cases hs : sh[j]? with
    | none => rfl
    | some y => simp only [Option.map_some]; rw [am_e_congr (h1 j (Ne.symm hj)) (h2 j (Ne.symm hj))]
def am_pI (h : am_H) (k i : Nat) (v : Int32) : am_H := (fun a b => if a = k ∧ b = i then v else h.1 a b, h.2)
def am_pL (h : am_H) (k i : Nat) (v : Int64) : am_H := (h.1, fun a b => if a = k ∧ b = i then v else h.2 a b)
def am_aI (h : am_H) (k : Nat) (f : Nat → Int32) : am_H := (fun a => if a = k then f else h.1 a, h.2)
def am_aL (h : am_H) (k : Nat) (f : Nat → Int64) : am_H := (h.1, fun a => if a = k then f else h.2 a)
theorem am_pI_ne {h : am_H} {k i : Nat} {v : Int32} : ∀ j, j ≠ k → (am_pI h k i v).1 j = h.1 j := by
  intro j hj; funext b; simp [am_pI, hj]
theorem am_pL_ne {h : am_H} {k i : Nat} {v : Int64} : ∀ j, j ≠ k → (am_pL h k i v).2 j = h.2 j := by
  intro j hj; funext b; simp [am_pL, hj]
theorem am_pI_upd {h : am_H} {k i : Nat} {v : Int32} : (am_pI h k i v).1 k = upd (h.1 k) i v := by
  funext b; simp [am_pI, upd]
theorem am_pL_upd {h : am_H} {k i : Nat} {v : Int64} : (am_pL h k i v).2 k = vp_updL (h.2 k) i v := by
  funext b; simp [am_pL, vp_updL]
theorem am_pI_set {ad : Nat → Nat} {h : am_H} {k i : Nat} {v z : Int32} {tm : List Value} (ht : tm[i]? = some (.int z)) : (tm.mapIdx (am_fv ad h k)).set i (.int v) = tm.mapIdx (am_fv ad (am_pI h k i v) k) := by
  apply List.ext_getElem?
  intro j
  rw [List.getElem?_set]
  by_cases hj : i = j
  · subst hj
    have hk : i < (tm.mapIdx (am_fv ad h k)).length := by rw [List.length_mapIdx]; exact (List.getElem?_eq_some_iff.mp ht).1
    rw [if_pos rfl, if_pos hk, List.getElem?_mapIdx, ht]
    simp [am_fv, am_pI]
  · rw [if_neg hj, List.getElem?_mapIdx, List.getElem?_mapIdx]
    cases tm[j]? with
    | none => rfl
    | some w => simp only [Option.map_some]; rw [am_fv_congr (h' := am_pI h k i v) (h := h) (by simp [am_pI, Ne.symm hj]) rfl]
theorem am_pL_set {ad : Nat → Nat} {h : am_H} {k i : Nat} {v z : Int64} {tm : List Value} (ht : tm[i]? = some (.long z)) : (tm.mapIdx (am_fv ad h k)).set i (.long v) = tm.mapIdx (am_fv ad (am_pL h k i v) k) := by
  apply List.ext_getElem?
  intro j
  rw [List.getElem?_set]
  by_cases hj : i = j
  · subst hj
    have hk : i < (tm.mapIdx (am_fv ad h k)).length := by rw [List.length_mapIdx]; exact (List.getElem?_eq_some_iff.mp ht).1
    rw [if_pos rfl, if_pos hk, List.getElem?_mapIdx, ht]
    simp [am_fv, am_pL]
  · rw [if_neg hj, List.getElem?_mapIdx, List.getElem?_mapIdx]
    cases tm[j]? with
    | none => rfl
    | some w => simp only [Option.map_some]; rw [am_fv_congr (h' := am_pL h k i v) (h := h) rfl (by simp [am_pL, Ne.symm hj])]
