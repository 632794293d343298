/-! the law's world: both objects in one heap -/
def lx_F (s : State) (D : va_G) (g : am_G) (adx adm : Nat → Nat) : Prop :=
  va_K D am_cl (am_tys g) s ∧ am_I adx 43 ∧ am_I adm 20 ∧ (∀ i j, i < 43 → j < 20 → adx i ≠ adm j) ∧ (∀ i, i < 43 → s.heap.size ≤ adx i) ∧ (∀ j, j < 20 → s.heap.size ≤ adm j) ∧ am_Z adx (fun q => s.heap.size ≤ q) s s.heap ∧ am_Z adm (fun q => s.heap.size ≤ q) s s.heap
def lx_W (s : State) (D : va_G) (g : am_G) (adx adm : Nat → Nat) (H : Heap) (locs : List Loc) (x m : am_H) : Prop :=
  va_P D am_cl (am_ws g adx x shX) H ∧ va_P D am_cl (am_ws g adm m shM) H ∧ va_S (fun q => s.heap.size ≤ q) s.heap H locs
theorem lx_other {D : va_G} {g : am_G} {ad ad2 : Nat → Nat} {sh sh2 : List am_S} {h2 : am_H} {H H1 : Heap} (hP : va_P D am_cl (am_ws g ad2 h2 sh2) H) (hne : ∀ i j, i < sh.length → j < sh2.length → ad i ≠ ad2 j) (hk : ∀ q : Nat, q < H.size → ¬ am_A ad sh.length H.size q → H1[q]? = H[q]?) : va_P D am_cl (am_ws g ad2 h2 sh2) H1 := by
  refine hP.kept (fun k q hq => ?_)
  have hl := (hP k q hq).lt
  obtain ⟨a1, a2⟩ := am_ws_inv hq
  refine hk q.1 hl (fun hA => ?_)
  rcases hA with ⟨i, hi, he⟩ | hA
  · exact hne i k hi a1 (by rw [← he, a2])
  · exact absurd hl (Nat.not_lt.mpr hA)
section Lx
variable {p : Program} {l : Launch} {e : Env} {s : State} {m0 : MethodId} {args : Array Value} {below : List Frame} {meth : Method} {c : Code} {H : Heap} {locs : List Loc} {cells slots pc : Nat} {ls : Array Slot} {rest : List Value} {Q : State → Prop} {D : va_G} {g : am_G} {adx adm : Nat → Nat} {y : MethodName} {cc : ByteArray} {nL' d index : Nat} {ret : Option FieldType} {vs st0 : List Value} {x m xx mm : am_H} {v : Value}
theorem lx_cX (hx : p.tables.exec = Jvm.exec) (hb : c.code = code) (hml : c.maxLocals = 4) (hown : s.vm.findClass R_law = some m0.cls) (hts : ∀ w ∈ lw_tbl, w.before args s = true) (F : lx_F s D g adx adm) (w : lx_W s D g adx adm H locs x m)
    (hM : am_M shX y cc nL' ret d (.ref 0 :: vs) x (fun r' h' => r' = some v ∧ h' = xx)) (hcls : y.cls = "WhichClub") (hlink : Cond.methodLink R_law index y ∈ lw_tbl) (hin : Cond.instanceMethod y ∈ lw_tbl) (hsel : Cond.selects y.cls y y ∈ lw_tbl) (hini : Cond.initialized y.cls ∈ lw_tbl) (hco : Cond.code y cc nL' ret ∈ am_T) (hy : y.cls ≠ "java/lang/invoke/MethodHandle" ∧ y.cls ≠ "java/lang/invoke/VarHandle" ∧ (parseMethodDescriptor y.desc).map (fun d => d.parameters.length) = some vs.length) (hR : (am_rm d).frames + 1 ≤ room_1.frames ∧ 8 + (nL' + 11) + (am_rm d).locals ≤ room_1.locals) (hcs : cells ≤ room_1.cells ∧ slots ≤ room_1.slots) (hsz : ls.size = 4) (hst : st0 = (vs.map (am_v adx)).reverse ++ .ref (adx 0) :: rest) (hW : (rest.map fun v => v.category).sum ≤ 8) (hv : am_v adx v = v) (hd : decode code pc = .ok (.invokevirtual index, 3))
    (kk : ∀ (H1 : Heap) (locs1 : List Loc), lx_W s D g adx adm H1 locs1 xx m → W p l e room_1 s m0 args below meth c H1 locs1 cells slots Q (F0 m0 (pc + 3) ls (v :: rest))) : W p l e room_1 s m0 args below meth c H locs cells slots Q (F0 m0 pc ls st0) := by
  obtain ⟨hK, hI, hI2, hne, hax, ham, hZ, hZ2⟩ := F
  obtain ⟨hP, hP2, hS⟩ := w
  refine lx_call (ci := 0) (T := T_Club) (N := 9) (sh := shX) hx hb hml hown hts hK hI hP hS hax hZ hM (by rw [hcls]; rfl) rfl hlink hin hsel hini hco hy hR hcs hsz hst hW hd (fun r h' H1 locs1 hq hP1 hz hk hS1 => ?_)
  obtain ⟨rfl, rfl⟩ := hq
  simp only [Option.map_some, Option.toList_some, List.cons_append, List.nil_append, hv]
  exact kk H1 locs1 ⟨hP1, lx_other (sh := shX) (ad := adx) hP2 hne hk, hS1⟩
theorem lx_cM (hx : p.tables.exec = Jvm.exec) (hb : c.code = code) (hml : c.maxLocals = 4) (hown : s.vm.findClass R_law = some m0.cls) (hts : ∀ w ∈ lw_tbl, w.before args s = true) (F : lx_F s D g adx adm) (w : lx_W s D g adx adm H locs x m)
    (hM : am_M shM y cc nL' ret d (.ref 0 :: vs) m (fun r' h' => r' = some v ∧ h' = mm)) (hcls : y.cls = "WhichClubModel") (hlink : Cond.methodLink R_law index y ∈ lw_tbl) (hin : Cond.instanceMethod y ∈ lw_tbl) (hsel : Cond.selects y.cls y y ∈ lw_tbl) (hini : Cond.initialized y.cls ∈ lw_tbl) (hco : Cond.code y cc nL' ret ∈ am_T) (hy : y.cls ≠ "java/lang/invoke/MethodHandle" ∧ y.cls ≠ "java/lang/invoke/VarHandle" ∧ (parseMethodDescriptor y.desc).map (fun d => d.parameters.length) = some vs.length) (hR : (am_rm d).frames + 1 ≤ room_1.frames ∧ 8 + (nL' + 11) + (am_rm d).locals ≤ room_1.locals) (hcs : cells ≤ room_1.cells ∧ slots ≤ room_1.slots) (hsz : ls.size = 4) (hst : st0 = (vs.map (am_v adm)).reverse ++ .ref (adm 0) :: rest) (hW : (rest.map fun v => v.category).sum ≤ 8) (hv : am_v adm v = v) (hd : decode code pc = .ok (.invokevirtual index, 3))
    (kk : ∀ (H1 : Heap) (locs1 : List Loc), lx_W s D g adx adm H1 locs1 x mm → W p l e room_1 s m0 args below meth c H1 locs1 cells slots Q (F0 m0 (pc + 3) ls (v :: rest))) : W p l e room_1 s m0 args below meth c H locs cells slots Q (F0 m0 pc ls st0) := by
  obtain ⟨hK, hI, hI2, hne, hax, ham, hZ, hZ2⟩ := F
  obtain ⟨hP, hP2, hS⟩ := w
  refine lx_call (ci := 10) (T := T_Model) (N := 36) (sh := shM) hx hb hml hown hts hK hI2 hP2 hS ham hZ2 hM (by rw [hcls]; rfl) rfl hlink hin hsel hini hco hy hR hcs hsz hst hW hd (fun r h' H1 locs1 hq hP1 hz hk hS1 => ?_)
  obtain ⟨rfl, rfl⟩ := hq
  simp only [Option.map_some, Option.toList_some, List.cons_append, List.nil_append, hv]
  exact kk H1 locs1 ⟨lx_other (sh := shM) (ad := adm) hP (fun i j hi hj h => hne j i hj hi h.symm) hk, hP1, hS1⟩
end Lx
