/-! a call of a word out of the law -/
theorem lx_good {y : MethodName} {cc : ByteArray} {nL : Nat} {ret : Option FieldType} (hco : Cond.code y cc nL ret ∈ am_T) : GoodIn lw_tbl (Cond.code y cc nL ret :: am_T) := by
  intro w hw
  have hm : w ∈ am_T := by
    rcases List.mem_cons.mp hw with rfl | h
    · exact hco
    · exact h
  exact ⟨(List.mem_filter.mp hm).1, good_of_word (List.mem_filter.mp hm).2⟩
theorem lx_call {p : Program} {l : Launch} {e : Env} {R : Room} {s : State} {m : MethodId} {args : Array Value} {below : List Frame} {meth : Method} {c : Code} {H : Heap} {locs : List Loc} {cells slots pc : Nat} {ls : Array Slot} {rest : List Value} {Q : State → Prop} {D : va_G} {g : am_G} {ad : Nat → Nat} {sh : List am_S} {y : MethodName} {cc code0 : ByteArray} {nL' nL0 d index ci N : Nat} {ret : Option FieldType} {vs st0 tm : List Value} {h : am_H} {Q1 : am_Q} {own : String} {T : u_T}
    (hx : p.tables.exec = Jvm.exec) (hb : c.code = code0) (hml : c.maxLocals = nL0) (hown : s.vm.findClass own = some m.cls) (hts : ∀ w ∈ lw_tbl, w.before args s = true) (hK : va_K D am_cl (am_tys g) s) (hI : am_I ad sh.length) (hP : va_P D am_cl (am_ws g ad h sh) H) (hS : va_S (fun q => s.heap.size ≤ q) s.heap H locs) (had : ∀ k, k < sh.length → s.heap.size ≤ ad k) (hZ : am_Z ad (fun q => s.heap.size ≤ q) s s.heap)
    (hM : am_M sh y cc nL' ret d (.ref 0 :: vs) h Q1) (hc : am_cl[ci]? = some (y.cls, T, N)) (hsh : sh[0]? = some (.inl (ci, tm))) (hlink : Cond.methodLink own index y ∈ lw_tbl) (hin : Cond.instanceMethod y ∈ lw_tbl) (hsel : Cond.selects y.cls y y ∈ lw_tbl) (hini : Cond.initialized y.cls ∈ lw_tbl) (hco : Cond.code y cc nL' ret ∈ am_T) (hy : y.cls ≠ "java/lang/invoke/MethodHandle" ∧ y.cls ≠ "java/lang/invoke/VarHandle" ∧ (parseMethodDescriptor y.desc).map (fun d => d.parameters.length) = some vs.length) (hR : (am_rm d).frames + 1 ≤ R.frames ∧ 8 + (nL' + 11) + (am_rm d).locals ≤ R.locals) (hcs : cells ≤ R.cells ∧ slots ≤ R.slots) (hsz : ls.size = nL0) (hst : st0 = (vs.map (am_v ad)).reverse ++ .ref (ad 0) :: rest) (hW : (rest.map fun v => v.category).sum ≤ 8) (hd : decode code0 pc = .ok (.invokevirtual index, 3))
    (kk : ∀ (r : Option Value) (h' : am_H) (H1 : Heap) (locs1 : List Loc), Q1 r h' → va_P D am_cl (am_ws g ad h' sh) H1 → H.size ≤ H1.size → (∀ q : Nat, q < H.size → ¬ am_A ad sh.length H.size q → H1[q]? = H[q]?) → va_S (fun q => s.heap.size ≤ q) s.heap H1 locs1 → W p l e R s m args below meth c H1 locs1 cells slots Q (F0 m (pc + 3) ls ((r.map (am_v ad)).toList ++ rest))) : W p l e R s m args below meth c H locs cells slots Q (F0 m pc ls st0) := by
  intro Tt hT XS
  have hA : ∀ q, am_A ad sh.length H.size q → s.heap.size ≤ q := by
    intro q hq
    rcases hq with ⟨k, hk, rfl⟩ | hq
    · exact had k hk
    · exact Nat.le_trans hS.1 hq
  have hwarm : ∀ U : State, U.heap = H → s.WarmedH U.vm → am_Pre sh D g ad H.size (.ref 0 :: vs) h (Value.ref (ad 0) :: vs.map (am_v ad)).toArray U := by
    intro U hU hW
    refine ⟨rfl, by rw [hU], ⟨va_K.moved hW.alike hK, by rw [hU]; exact hP⟩, ?_⟩
    rw [hU]
    exact (am_Z.warm hW (hZ.kept hS.2.1)).narrow hA
  obtain ⟨v, st₀, t, T', L, h0, X', hL, e1, e2, ⟨⟨r, h', hv, hq, hK', hP'⟩, hz, hk⟩, go⟩ := va_runV (As := vs.map (am_v ad)) (b := ad 0) (nL := nL0) (n := vs.length) (C := y.cls) (bytes := cc) (maxL := nL') (ret := ret) (rest := rest) (g := F0 m pc ls st0) (Ts := lw_tbl) ⟨hx, hb, hml, hown, hts⟩ (hM l D g ad H.size hI) ⟨callB_of vs.length hts (lx_good hco) rfl rfl rfl (hts _ hini) (hts _ hlink) hy hR, hts _ hin, hts _ hsel⟩ ⟨am_blind, va_recv hK hP hc (am_ws_get hsh), hwarm⟩ rfl (by rw [List.length_map]) hsz hst (lv_room hW) hd hcs Tt hT XS
  have hv : v = r.map (am_v ad) := by cases hv; rfl
  subst hv
  rw [h0] at hz hk
  have hS' : va_S (fun q => s.heap.size ≤ q) s.heap T'.heap (locs ++ L) := by
    rw [e1]
    refine ⟨Nat.le_trans hS.1 hz, fun q h1 h2 => ?_, fun q hq => ?_⟩
    · rw [hk q (Nat.lt_of_lt_of_le h1 hS.1) (fun z => h2 (hA q z))]
      exact hS.2.1 q h1 h2
    · rcases List.mem_append.mp hq with h | h
      · exact hS.2.2 q h
      · exact hA _ (hL q h)
  obtain ⟨t2, a1, b1⟩ := kk r h' T'.heap (locs ++ L) hq (by rw [e1]; exact hP') (by rw [e1]; exact hz) (by rw [e1]; exact hk) hS' T' rfl X'
  exact ⟨t2, go t2 a1, b1⟩
