/-! calls, entries, System.arraycopy, the String constant -/
section AmCalls
variable {X : am_X} {pc : Nat} {ls : List (Option Value)} {st : List Value} {h : am_H} {Q : am_Q}
def am_en : List Value → List (Option Value)
  | [] => []
  | v :: vs => if v.category = 2 then some v :: none :: am_en vs else some v :: am_en vs
theorem am_en_sub {ad : Nat → Nat} : ∀ (vs : List Value) (n j : Nat) (w : Value), (am_en vs)[j]? = some (some w) → (n + j, am_v ad w) ∈ lv_args n (vs.map (am_v ad))
  | [], n, j, w, h => by simp [am_en] at h
  | v :: vs, n, j, w, h => by
    simp only [List.map_cons, lv_args, am_v_cat]
    simp only [am_en] at h
    by_cases hc : v.category = 2
    · rw [if_pos hc] at h
      rw [if_pos hc]
      match j, h with
      | 0, h => simp at h; subst h; exact List.mem_cons_self
      | 1, h => simp at h
      | j + 2, h =>
        have := am_en_sub (ad := ad) vs (n + 2) j w (by simpa using h)
        rw [show n + (j + 2) = n + 2 + j by omega]
        exact List.mem_cons_of_mem _ this
    · rw [if_neg hc] at h
      rw [if_neg hc]
      match j, h with
      | 0, h => simp at h; subst h; exact List.mem_cons_self
      | j + 1, h =>
        have := am_en_sub (ad := ad) vs (n + 1) j w (by simpa using h)
        rw [show n + (j + 1) = n + 1 + j by omega]
        exact List.mem_cons_of_mem _ this
theorem am_en_len {ad : Nat → Nat} : ∀ (vs : List Value), (lg_sl (vs.map (am_v ad))).length = (am_en vs).length
  | [] => rfl
  | v :: vs => by
    have ih := am_en_len (ad := ad) vs
    simp only [lg_sl, List.map_cons, List.flatMap_cons, am_v_cat, am_en] at ih ⊢
    by_cases hc : v.category = 2
    · simp [hc, ih]
    · simp [hc, ih]
/-- from a method's entry -/
theorem am_enter {sh : List am_S} {y : MethodName} {cc : ByteArray} {nL : Nat} {ret : Option FieldType} {d : Nat} {vs : List Value} {ls : List (Option Value)} (hy : plainName y.cls = true) (hls : am_en vs ++ List.replicate (nL - (am_en vs).length) none = ls) (hn : (am_en vs).length ≤ nL) (k : am_W (sh, y.cls, cc, nL, ret, d) 0 ls [] h Q) : am_M sh y cc nL ret d vs h Q := by
  intro l D g ad sz hI
  refine Met.ofW (cc := cc) (maxL := nL) (ret := ret) hy rfl ?_
  intro p e s m args below meth c s₁ B hml hv
  obtain ⟨rfl, hsz, ⟨hK, hP⟩, hZ⟩ := hv
  have hts := atoms_spec (ws := (.code y cc nL ret :: am_T)) B.pre
  have hown : s.vm.findClass y.cls = some m.cls := findClass_of_methodNamed B.named
  rw [lg_entry_eq]
  have hl0 := lv_entry (vs.map (am_v ad)) (n := nL) (by rw [am_en_len]; exact hn)
  refine k p l e s m _ below meth c s.heap [] _ D g ad sz ⟨B.exec, B.bytes, hml, hown, B.returns, fun w hw => hts w (List.mem_cons_of_mem _ hw), B.notSynchronized, hsz, hK, hP, hI, va_S.rf, hZ⟩ (am_has_sub hl0 ?_)
  intro q hq
  obtain ⟨w, hw, he⟩ := am_lv_mem.mp hq
  have h1 : (am_en vs)[q.1]? = some (some w) := by
    rw [← hls] at hw
    by_cases hj : q.1 < (am_en vs).length
    · rw [List.getElem?_append_left hj] at hw; exact hw
    · rw [List.getElem?_append_right (by omega)] at hw
      have := List.eq_of_mem_replicate (List.mem_of_getElem? hw)
      cases this
  have h2 := am_en_sub (ad := ad) vs 0 q.1 w h1
  rw [Nat.zero_add, ← he] at h2
  exact h2
theorem am_M.mono {sh : List am_S} {y : MethodName} {cc : ByteArray} {nL : Nat} {ret : Option FieldType} {d : Nat} {vs : List Value} {Q Q' : am_Q} (hM : am_M sh y cc nL ret d vs h Q) (hQ : ∀ r h', Q r h' → Q' r h') : am_M sh y cc nL ret d vs h Q' := by
  intro l D g ad sz hI p e ha hc hk s m args below hf hfit hP hT
  obtain ⟨k, o, h1, h2, h3, ⟨⟨⟨r, h', e1, e2, e3⟩, h4⟩, h5⟩⟩ := hM l D g ad sz hI p e ha hc hk s m args below hf hfit hP hT
  exact ⟨k, o, h1, h2, h3, ⟨⟨⟨r, h', e1, hQ r h' e2, e3⟩, h4⟩, h5⟩⟩
theorem am_blind {sh : List am_S} {D : va_G} {g : am_G} {ad : Nat → Nat} {sz : Nat} {vs : List Value} : FrameBlind (am_Pre sh D g ad sz vs h) := by
  intro a U g' mk q
  obtain ⟨q0, q1, ⟨qK, qP⟩, qZ⟩ := q
  exact ⟨q0, q1, ⟨va_K.moved (u := U) (U := U.calling g' mk a) (Vm.Alike.refl U.vm) qK, qP⟩, am_Z.same (u := U) (U := U.calling g' mk a) rfl qZ⟩
theorem am_warm {p : Program} {s : State} {m : MethodId} {args : Array Value} {meth : Method} {c : Code} {H : Heap} {locs : List Loc} {D : va_G} {g : am_G} {ad : Nat → Nat} {sz : Nat} {vs : List Value} (C : am_C X p s m args meth c H locs D g ad sz h) : ∀ U : State, U.heap = H → s.WarmedH U.vm → am_Pre X.1 D g ad H.size vs h (vs.map (am_v ad)).toArray U := by
  obtain ⟨hx, hb, hml, hown, hr, hts, hlk, hsz, hK, hP, hI, hS, hZ⟩ := C
  intro U hU hW
  refine ⟨rfl, by rw [hU], ⟨va_K.moved hW.alike hK, by rw [hU]; exact hP⟩, ?_⟩
  rw [hU]
  refine (am_Z.warm hW (hZ.kept hS.2.1)).narrow ?_
  intro q hq
  rcases hq with hq | hq
  · exact Or.inl hq
  · exact Or.inr (by rw [← hsz]; exact Nat.le_trans hS.1 hq)
/-- what stands behind a call -/
theorem am_behind {p : Program} {l : Launch} {e : Env} {s : State} {m : MethodId} {args : Array Value} {below : List Frame} {meth : Method} {c : Code} {H : Heap} {locs : List Loc} {lsC : Array Slot} {D : va_G} {g : am_G} {ad : Nat → Nat} {sz : Nat} {st0 : List Value} {a : Array Value} {Q0 : State → Prop}
    (C : am_C X p s m args meth c H locs D g ad sz h) {Q1 : am_Q} (hr : va_Run p l e (am_rm X.2.2.2.2.2) s m args below meth c H locs 0 0 0 0 (F0 m pc lsC st0) (st.map (am_v ad)) (am_Post X.1 D g ad H.size Q1 a) (am_A ad X.1.length H.size))
    (kk : ∀ (r : Option Value) (h' : am_H) (H1 : Heap) (locs1 : List Loc), Q1 r h' → am_C X p s m args meth c H1 locs1 D g ad sz h' → W p l e (am_rm X.2.2.2.2.2) s m args below meth c H1 locs1 0 0 Q0 (F0 m (pc + 3) lsC ((r.toList ++ st).map (am_v ad)))) :
    W p l e (am_rm X.2.2.2.2.2) s m args below meth c H locs 0 0 Q0 (F0 m pc lsC st0) := by
  intro T hT XS
  obtain ⟨v, st₀, t, T', L, h0, X', hL, e1, e2, ⟨⟨r, h', hv, hq, hK', hP'⟩, hz, hk⟩, go⟩ := hr T hT XS
  obtain ⟨hx, hb, hml, hown, hrt, hts, hlk, hsz, hK, hP, hI, hS, hZ⟩ := C
  have hv : v = r.map (am_v ad) := by cases hv; rfl
  subst hv
  rw [h0] at hz hk
  have hA : ∀ q, am_A ad X.1.length H.size q → am_A ad X.1.length sz q := by
    intro q hq
    rcases hq with hq | hq
    · exact Or.inl hq
    · exact Or.inr (by rw [← hsz]; exact Nat.le_trans hS.1 hq)
  have hS' : va_S (am_A ad X.1.length sz) s.heap T'.heap (locs ++ L) := by
    rw [e1]
    refine ⟨Nat.le_trans hS.1 hz, fun q h1 h2 => ?_, fun q hq => ?_⟩
    · rw [hk q (Nat.lt_of_lt_of_le h1 hS.1) (fun z => h2 (hA q z))]
      exact hS.2.1 q h1 h2
    · rcases List.mem_append.mp hq with h | h
      · exact hS.2.2 q h
      · exact hA _ (hL q h)
  have := kk r h' T'.heap (locs ++ L) hq ⟨hx, hb, hml, hown, hrt, hts, hlk, hsz, hK, by rw [e1]; exact hP', hI, hS', hZ⟩
  obtain ⟨t2, a1, b1⟩ := this T' rfl X'
  refine ⟨t2, go t2 ?_, b1⟩
  have e3 : (Option.map (am_v ad) r).toList ++ st.map (am_v ad) = (r.toList ++ st).map (am_v ad) := by cases r <;> simp
  rw [e3]
  exact a1
theorem am_goodIn {y : MethodName} {cc : ByteArray} {nL : Nat} {ret : Option FieldType} (hco : Cond.code y cc nL ret ∈ am_T) : GoodIn am_T (Cond.code y cc nL ret :: am_T) := by
  intro w hw
  have hm : w ∈ am_T := by
    rcases List.mem_cons.mp hw with rfl | h
    · exact hco
    · exact h
  exact ⟨hm, good_of_word (List.mem_filter.mp hm).2⟩
theorem am_room {d d' nL' : Nat} (hd : d = d' + 1) (hn : nL' ≤ 45) : (am_rm d').frames + 1 ≤ (am_rm d).frames ∧ 8 + (nL' + 11) + (am_rm d').locals ≤ (am_rm d).locals := by
  subst hd
  simp only [am_rm]
  omega
theorem am_cats {ad : Nat → Nat} (hW : (st.map fun v => v.category).sum ≤ 8) : ((st.map (am_v ad)).map fun v => v.category).sum ≤ 8 := by
  rw [List.map_map]
  have : ((fun v : Value => v.category) ∘ am_v ad) = fun v => v.category := by funext v; exact am_v_cat
  rw [this]
  exact hW
theorem am_callV {y : MethodName} {cc : ByteArray} {nL index k ci N d' : Nat} {ret : Option FieldType} {tm : List Value} {T : u_T} {vs : List Value} {st0 : List Value} (hst : st0 = vs.reverse ++ .ref k :: st) (hd : decode X.2.2.1 pc = .ok (.invokevirtual index, 3)) (hc : am_cl[ci]? = some (y.cls, T, N)) (hsh : X.1[k]? = some (.inl (ci, tm)))
    (hlink : Cond.methodLink X.2.1 index y ∈ am_T) (hin : Cond.instanceMethod y ∈ am_T) (hsel : Cond.selects y.cls y y ∈ am_T) (hini : Cond.initialized y.cls ∈ am_T) (hco : Cond.code y cc nL ret ∈ am_T) (hy : y.cls ≠ "java/lang/invoke/MethodHandle" ∧ y.cls ≠ "java/lang/invoke/VarHandle" ∧ (parseMethodDescriptor y.desc).map (fun d => d.parameters.length) = some vs.length) (hnL : nL ≤ 45) (hW : (st.map fun v => v.category).sum ≤ 8) (hdd : X.2.2.2.2.2 = d' + 1)
    (kk : am_M X.1 y cc nL ret d' (.ref k :: vs) h (fun r h' => am_W X (pc + 3) ls (r.toList ++ st) h' Q)) : am_W X pc ls st0 h Q := by
  intro p l e s m args below meth c H locs lsC D g ad sz C hl
  obtain ⟨hx, hb, hml, hown, hr, hts, hlk, hsz, hK, hP, hI, hS, hZ⟩ := id C
  subst hst
  refine am_behind (st := st) C (va_runV (As := vs.map (am_v ad)) (b := ad k) (nL := X.2.2.2.1) (n := vs.length) (C := y.cls) (bytes := cc) (maxL := nL) (ret := ret) ⟨hx, hb, hml, hown, hts⟩ (kk l D g ad H.size hI) ⟨callB_of vs.length hts (am_goodIn hco) rfl rfl rfl (hts _ hini) (hts _ hlink) hy (am_room hdd hnL), hts _ hin, hts _ hsel⟩ ⟨am_blind, va_recv hK hP hc (am_ws_get hsh), am_warm C⟩ rfl (by rw [List.length_map]) hl.1 (by simp [am_v]) (lv_room (am_cats hW)) hd ⟨Nat.le_refl 0, Nat.le_refl 0⟩) (fun r h' H1 locs1 hq C' => hq p l e s m args below meth c H1 locs1 lsC D g ad sz C' hl)
theorem am_callS {y : MethodName} {cc : ByteArray} {nL index d' : Nat} {ret : Option FieldType} {vs : List Value} {st0 : List Value} (hst : st0 = vs.reverse ++ st) (hd : decode X.2.2.1 pc = .ok (.invokestatic index, 3))
    (hlink : Cond.methodLink X.2.1 index y ∈ am_T) (hstt : Cond.static y ∈ am_T) (hini : Cond.initialized y.cls ∈ am_T) (hco : Cond.code y cc nL ret ∈ am_T) (hy : y.cls ≠ "java/lang/invoke/MethodHandle" ∧ y.cls ≠ "java/lang/invoke/VarHandle" ∧ (parseMethodDescriptor y.desc).map (fun d => d.parameters.length) = some vs.length) (hnL : nL ≤ 45) (hW : (st.map fun v => v.category).sum ≤ 8) (hdd : X.2.2.2.2.2 = d' + 1)
    (kk : am_M X.1 y cc nL ret d' vs h (fun r h' => am_W X (pc + 3) ls (r.toList ++ st) h' Q)) : am_W X pc ls st0 h Q := by
  intro p l e s m args below meth c H locs lsC D g ad sz C hl
  obtain ⟨hx, hb, hml, hown, hr, hts, hlk, hsz, hK, hP, hI, hS, hZ⟩ := id C
  subst hst
  refine am_behind (st := st) C (va_runS (As := vs.map (am_v ad)) (nL := X.2.2.2.1) (n := vs.length) (bytes := cc) (maxL := nL) (ret := ret) ⟨hx, hb, hml, hown, hts⟩ (kk l D g ad H.size hI) ⟨callB_of vs.length hts (am_goodIn hco) rfl rfl rfl (hts _ hini) (hts _ hlink) hy (am_room hdd hnL), hts _ hstt⟩ ⟨am_blind, am_warm C⟩ rfl (by rw [List.length_map]) hl.1 (by simp) (lv_room (am_cats hW)) hd ⟨Nat.le_refl 0, Nat.le_refl 0⟩) (fun r h' H1 locs1 hq C' => hq p l e s m args below meth c H1 locs1 lsC D g ad sz C' hl)
/-- System.arraycopy between int rows, between long rows -/
def am_cI (h : am_H) (k0 k1 sp dp n : Nat) : am_H := (fun a => if a = k1 then va_cpy (h.1 k0) (h.1 k1) sp dp n else h.1 a, h.2)
def am_cL (h : am_H) (k0 k1 sp dp n : Nat) : am_H := (h.1, fun a => if a = k1 then va_cpy (h.2 k0) (h.2 k1) sp dp n else h.2 a)
theorem am_copyI {index k0 k1 n0 n1 : Nat} {rs0 rs1 : List Nat} {sp dp n : Int32} (hd : decode X.2.2.1 pc = .ok (.invokestatic index, 3)) (hlink : Cond.methodLink X.2.1 index arraycopyName ∈ am_T) (hnat : Cond.native arraycopyName ∈ am_T) (hstat : Cond.static arraycopyName ∈ am_T) (hini : Cond.initialized "java/lang/System" ∈ am_T)
    (hs0 : X.1[k0]? = some (.inr (0, n0, rs0))) (hs1 : X.1[k1]? = some (.inr (0, n1, rs1))) (h1 : ¬ sp < 0) (h2 : ¬ dp < 0) (h3 : ¬ n < 0) (h4 : sp.toNatClampNeg + n.toNatClampNeg ≤ n0) (h5 : dp.toNatClampNeg + n.toNatClampNeg ≤ n1) (hW : (st.map fun v => v.category).sum ≤ 8)
    (kk : am_W X (pc + 3) ls st (am_cI h k0 k1 sp.toNatClampNeg dp.toNatClampNeg n.toNatClampNeg) Q) : am_W X pc ls (.int n :: .int dp :: .ref k1 :: .int sp :: .ref k0 :: st) h Q := by
  intro p l e s m args below meth c H locs lsC D g ad sz C hl
  obtain ⟨hx, hb, hml, hown, hr, hts, hlk, hsz, hK, hP, hI, hS, hZ⟩ := id C
  refine va_copyi (tys := am_tys g) (ty := .int) hx hb (hml.trans hl.1.symm) hown (hts _ hlink) (hts _ hnat) (hts _ hstat) (hts _ hini) hK hP (am_wsD hI) hS k0 k1 0 0 (am_ws_get hs0) (am_ws_get hs1) rfl rfl rfl h1 h2 h3 h4 h5 (fun _ _ => rfl) (by simp [am_rm]) ?_ hd (fun H1 locs1 hP1 _ hS1 => ?_)
  · refine Nat.le_trans (Nat.add_le_add_right (am_cats hW) _) ?_
    refine Nat.le_trans (m := 64) (by decide) ?_
    simp only [am_rm]; omega
  · refine kk p l e s m args below meth c H1 locs1 lsC D g ad sz ⟨hx, hb, hml, hown, hr, hts, hlk, hsz, hK, ?_, hI, hS1, hZ⟩ hl
    have e : (am_ws g ad h X.1).set k1 (ad k1, am_e g ad (am_cI h k0 k1 sp.toNatClampNeg dp.toNatClampNeg n.toNatClampNeg) k1 (.inr (0, n1, rs1))) = am_ws g ad (am_cI h k0 k1 sp.toNatClampNeg dp.toNatClampNeg n.toNatClampNeg) X.1 := am_ws_set hs1 (fun j hj => by simp [am_cI, hj]) (fun _ _ => rfl)
    rw [← e]
    have e2 : (am_cI h k0 k1 sp.toNatClampNeg dp.toNatClampNeg n.toNatClampNeg).1 k1 = va_cpy (h.1 k0) (h.1 k1) sp.toNatClampNeg dp.toNatClampNeg n.toNatClampNeg := by simp [am_cI]
    simp only [am_e, e2]
    exact hP1
theorem am_copyL {index k0 k1 n0 n1 : Nat} {rs0 rs1 : List Nat} {sp dp n : Int32} (hd : decode X.2.2.1 pc = .ok (.invokestatic index, 3)) (hlink : Cond.methodLink X.2.1 index arraycopyName ∈ am_T) (hnat : Cond.native arraycopyName ∈ am_T) (hstat : Cond.static arraycopyName ∈ am_T) (hini : Cond.initialized "java/lang/System" ∈ am_T)
    (hs0 : X.1[k0]? = some (.inr (1, n0, rs0))) (hs1 : X.1[k1]? = some (.inr (1, n1, rs1))) (h1 : ¬ sp < 0) (h2 : ¬ dp < 0) (h3 : ¬ n < 0) (h4 : sp.toNatClampNeg + n.toNatClampNeg ≤ n0) (h5 : dp.toNatClampNeg + n.toNatClampNeg ≤ n1) (hW : (st.map fun v => v.category).sum ≤ 8)
    (kk : am_W X (pc + 3) ls st (am_cL h k0 k1 sp.toNatClampNeg dp.toNatClampNeg n.toNatClampNeg) Q) : am_W X pc ls (.int n :: .int dp :: .ref k1 :: .int sp :: .ref k0 :: st) h Q := by
  intro p l e s m args below meth c H locs lsC D g ad sz C hl
  obtain ⟨hx, hb, hml, hown, hr, hts, hlk, hsz, hK, hP, hI, hS, hZ⟩ := id C
  refine va_copyl (tys := am_tys g) (ty := .long) hx hb (hml.trans hl.1.symm) hown (hts _ hlink) (hts _ hnat) (hts _ hstat) (hts _ hini) hK hP (am_wsD hI) hS k0 k1 1 1 (am_ws_get hs0) (am_ws_get hs1) rfl rfl rfl h1 h2 h3 h4 h5 (fun _ _ => rfl) (by simp [am_rm]) ?_ hd (fun H1 locs1 hP1 _ hS1 => ?_)
  · refine Nat.le_trans (Nat.add_le_add_right (am_cats hW) _) ?_
    refine Nat.le_trans (m := 64) (by decide) ?_
    simp only [am_rm]; omega
  · refine kk p l e s m args below meth c H1 locs1 lsC D g ad sz ⟨hx, hb, hml, hown, hr, hts, hlk, hsz, hK, ?_, hI, hS1, hZ⟩ hl
    have e : (am_ws g ad h X.1).set k1 (ad k1, am_e g ad (am_cL h k0 k1 sp.toNatClampNeg dp.toNatClampNeg n.toNatClampNeg) k1 (.inr (1, n1, rs1))) = am_ws g ad (am_cL h k0 k1 sp.toNatClampNeg dp.toNatClampNeg n.toNatClampNeg) X.1 := am_ws_set hs1 (fun _ _ => rfl) (fun j hj => by simp [am_cL, hj])
    rw [← e]
    have e2 : (am_cL h k0 k1 sp.toNatClampNeg dp.toNatClampNeg n.toNatClampNeg).2 k1 = va_cpy (h.2 k0) (h.2 k1) sp.toNatClampNeg dp.toNatClampNeg n.toNatClampNeg := by simp [am_cL]
    simp only [am_e, e2]
    exact hP1
/-- the String constant "dgcswk": its reference, its fields, its bytes -/
theorem am_ldcS (ho : X.2.1 = "WhichClub$Law") (hd : decode X.2.2.1 pc = .ok (.ldc 79, 2)) (kk : am_W X (pc + 2) ls (.ref 106 :: st) h Q) : am_W X pc ls st h Q := by
  intro p l e s m args below meth c H locs lsC D g ad sz C hl
  obtain ⟨hx, hb, hml, hown, hr, hts, hlk, hsz, hK, hP, hI, hS, hZ⟩ := id C
  rw [ho] at hown
  exact va_ldcS hx hb hown hZ.2.2.1 hd (kk p l e s m args below meth c H locs lsC D g ad sz C hl)
theorem am_getsC {index : Nat} (hlink : Cond.fieldLink X.2.1 index "java/lang/String" "COMPACT_STRINGS" "Z" ∈ am_T) (hd : decode X.2.2.1 pc = .ok (.getstatic index, 3)) (kk : am_W X (pc + 3) ls (.int 1 :: st) h Q) : am_W X pc ls st h Q := by
  intro p l e s m args below meth c H locs lsC D g ad sz C hl
  obtain ⟨hx, hb, hml, hown, hr, hts, hlk, hsz, hK, hP, hI, hS, hZ⟩ := id C
  exact va_gets hx hb hZ.2.2.2 hS hown (hts _ hlink) (fun _ q => q) hd (kk p l e s m args below meth c H locs lsC D g ad sz C hl)
theorem am_getSc {index : Nat} (hlink : Cond.fieldLink X.2.1 index "java/lang/String" "coder" "B" ∈ am_T) (hd : decode X.2.2.1 pc = .ok (.getfield index, 3)) (kk : am_W X (pc + 3) ls (.int 0 :: st) h Q) : am_W X pc ls (.ref 106 :: st) h Q := by
  intro p l e s m args below meth c H locs lsC D g ad sz C hl
  obtain ⟨hx, hb, hml, hown, hr, hts, hlk, hsz, hK, hP, hI, hS, hZ⟩ := id C
  exact vk_getf hx hb (hZ.2.1.1 0 (by decide)).2.1 hS hown (hts _ hlink) (fun _ q => q) hd (kk p l e s m args below meth c H locs lsC D g ad sz C hl)
theorem am_getSv {index : Nat} (hlink : Cond.fieldLink X.2.1 index "java/lang/String" "value" "[B" ∈ am_T) (hd : decode X.2.2.1 pc = .ok (.getfield index, 3)) (kk : am_W X (pc + 3) ls (.ref 107 :: st) h Q) : am_W X pc ls (.ref 106 :: st) h Q := by
  intro p l e s m args below meth c H locs lsC D g ad sz C hl
  obtain ⟨hx, hb, hml, hown, hr, hts, hlk, hsz, hK, hP, hI, hS, hZ⟩ := id C
  exact vk_getf hx hb (hZ.2.1.1 0 (by decide)).2.2.1 hS hown (hts _ hlink) (fun _ q => q) hd (kk p l e s m args below meth c H locs lsC D g ad sz C hl)
theorem am_lenS (hd : decode X.2.2.1 pc = .ok (.arraylength, 1)) (kk : am_W X (pc + 1) ls (.int 6 :: st) h Q) : am_W X pc ls (.ref 107 :: st) h Q := by
  intro p l e s m args below meth c H locs lsC D g ad sz C hl
  obtain ⟨hx, hb, hml, hown, hr, hts, hlk, hsz, hK, hP, hI, hS, hZ⟩ := id C
  exact va_tlen hx hb (hZ.2.1.1 0 (by decide)).2.2.2 hS rfl hd (kk p l e s m args below meth c H locs lsC D g ad sz C hl)
theorem am_byS {i v : Int32} (hin : vp_in i 6) (hv : ([100, 103, 99, 115, 119, 107] : List Int32).getD i.toNatClampNeg 0 = v) (hd : decode X.2.2.1 pc = .ok (.baload, 1)) (kk : am_W X (pc + 1) ls (.int v :: st) h Q) : am_W X pc ls (.int i :: .ref 107 :: st) h Q := by
  intro p l e s m args below meth c H locs lsC D g ad sz C hl
  obtain ⟨hx, hb, hml, hown, hr, hts, hlk, hsz, hK, hP, hI, hS, hZ⟩ := id C
  exact va_tb (v := .int v) hx hb (hZ.2.1.1 0 (by decide)).2.2.2 hS hin (congrArg Value.int hv) hd (kk p l e s m args below meth c H locs lsC D g ad sz C hl)
theorem am_callVS {y : MethodName} {cc : ByteArray} {nL index d' : Nat} {ret : Option FieldType} {vs : List Value} {st0 : List Value} (hst : st0 = vs.reverse ++ .ref 106 :: st) (hd : decode X.2.2.1 pc = .ok (.invokevirtual index, 3)) (hS0 : y.cls = "java/lang/String")
    (hlink : Cond.methodLink X.2.1 index y ∈ am_T) (hin : Cond.instanceMethod y ∈ am_T) (hsel : Cond.selects y.cls y y ∈ am_T) (hini : Cond.initialized y.cls ∈ am_T) (hco : Cond.code y cc nL ret ∈ am_T) (hy : y.cls ≠ "java/lang/invoke/MethodHandle" ∧ y.cls ≠ "java/lang/invoke/VarHandle" ∧ (parseMethodDescriptor y.desc).map (fun d => d.parameters.length) = some vs.length) (hnL : nL ≤ 45) (hW : (st.map fun v => v.category).sum ≤ 8) (hdd : X.2.2.2.2.2 = d' + 1)
    (kk : am_M X.1 y cc nL ret d' (.ref 106 :: vs) h (fun r h' => am_W X (pc + 3) ls (r.toList ++ st) h' Q)) : am_W X pc ls st0 h Q := by
  intro p l e s m args below meth c H locs lsC D g ad sz C hl
  obtain ⟨hx, hb, hml, hown, hr, hts, hlk, hsz, hK, hP, hI, hS, hZ⟩ := id C
  subst hst
  have hrv := vk_recv (i := 0) hZ.2.1 (by decide) hS
  rw [← hS0] at hrv
  refine am_behind (st := st) C (va_runV (As := vs.map (am_v ad)) (b := ad 106) (nL := X.2.2.2.1) (n := vs.length) (C := y.cls) (bytes := cc) (maxL := nL) (ret := ret) ⟨hx, hb, hml, hown, hts⟩ (kk l D g ad H.size hI) ⟨callB_of vs.length hts (am_goodIn hco) rfl rfl rfl (hts _ hini) (hts _ hlink) hy (am_room hdd hnL), hts _ hin, hts _ hsel⟩ ⟨am_blind, hrv, am_warm C⟩ rfl (by rw [List.length_map]) hl.1 (by simp [am_v]) (lv_room (am_cats hW)) hd ⟨Nat.le_refl 0, Nat.le_refl 0⟩) (fun r h' H1 locs1 hq C' => hq p l e s m args below meth c H1 locs1 lsC D g ad sz C' hl)
end AmCalls
