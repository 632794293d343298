/-! making: the rows of the constructors, over a world that grows -/
def nw_C (own : String) (cc : ByteArray) (nL : Nat) (p : Program) (s : State) (m : MethodId) (args : Array Value) (c : Code) (D : va_G) (g : am_G) (A : Nat → Prop) : Prop :=
  p.tables.exec = Jvm.exec ∧ c.code = cc ∧ c.maxLocals = nL ∧ s.vm.findClass own = some m.cls ∧ (∀ w ∈ am_T, w.before args s = true) ∧ va_K D am_cl (am_tys g) s ∧ (∀ q, s.heap.size ≤ q → A q)
def nw_W (D : va_G) (A : Nat → Prop) (s : State) (H : Heap) (locs : List Loc) (ws : va_W) : Prop := va_P D am_cl ws H ∧ va_D A ws ∧ va_S A s.heap H locs
theorem nw_one {s : State} {ty : FieldType} {a b : ClassId} (ha : va_RA s a ty) (hb : va_RA s b ty) : a = b := by
  cases ty with
  | object C =>
    obtain ⟨_, _, _, _, _, h4⟩ := ha
    obtain ⟨_, _, _, _, _, h5⟩ := hb
    exact Option.some.inj (h4.symm.trans h5)
  | _ => exact Option.some.inj (ha.symm.trans hb)
theorem nw_oI : Cond.arrayClass .int ∈ am_T := am_in 153 (by decide +kernel) (by decide +kernel)
theorem nw_oL : Cond.arrayClass .long ∈ am_T := am_in 240 (by decide +kernel) (by decide +kernel)
section Nw
variable {p : Program} {l : Launch} {e : Env} {R : Room} {s : State} {m : MethodId} {args : Array Value} {below : List Frame} {meth : Method} {c : Code} {H : Heap} {locs : List Loc} {cells slots pc : Nat} {ls : Array Slot} {rest : List Value} {Q : State → Prop} {D : va_G} {g : am_G} {A : Nat → Prop} {ws : va_W} {own : String} {cc : ByteArray} {nL : Nat}
theorem nw_newI (C : nw_C own cc nL p s m args c D g A) (w : nw_W D A s H locs ws) {n : Int32} {N : Nat} (hn : ¬ n < 0) (hN : n.toNatClampNeg = N) (hb : N * 4 ≤ 536870912) (h1 : cells + 1 ≤ R.cells) (h2 : slots + N ≤ R.slots) (hdg : decode cc pc = .ok (.newarray .int, 2))
    (kk : ∀ (q : Nat) (H1 : Heap), nw_W D A s H1 locs (ws ++ [(q, .inl (g.1, N, .inl (fun _ => 0)))]) → W p l e R s m args below meth c H1 locs (cells + 1) (slots + N) Q (F0 m (pc + 2) ls (.ref q :: rest))) : W p l e R s m args below meth c H locs cells slots Q (F0 m pc ls (.int n :: rest)) := by
  obtain ⟨hx, hc, hml, hown, hts, hK, hA⟩ := C
  obtain ⟨hP, hD, hS⟩ := w
  refine va_newa (atype := .int) (ty := .int) (a0 := (N, .inl (fun _ => 0))) hx hc (hts _ nw_oI) rfl hK hP hD hS hA (fun cA => rfl) hn hN hb h1 h2 hdg (fun q cA H1 hK1 hP1 hD1 hS1 => ?_)
  have e : cA = g.1 := nw_one (hK1.2 3 (cA, .int) rfl).2 (hK.2 0 (g.1, .int) rfl).2
  subst e
  exact kk q H1 ⟨hP1, hD1, hS1⟩
theorem nw_newL (C : nw_C own cc nL p s m args c D g A) (w : nw_W D A s H locs ws) {n : Int32} {N : Nat} (hn : ¬ n < 0) (hN : n.toNatClampNeg = N) (hb : N * 8 ≤ 536870912) (h1 : cells + 1 ≤ R.cells) (h2 : slots + N ≤ R.slots) (hdg : decode cc pc = .ok (.newarray .long, 2))
    (kk : ∀ (q : Nat) (H1 : Heap), nw_W D A s H1 locs (ws ++ [(q, .inl (g.2.1, N, .inr (.inl (fun _ => 0))))]) → W p l e R s m args below meth c H1 locs (cells + 1) (slots + N) Q (F0 m (pc + 2) ls (.ref q :: rest))) : W p l e R s m args below meth c H locs cells slots Q (F0 m pc ls (.int n :: rest)) := by
  obtain ⟨hx, hc, hml, hown, hts, hK, hA⟩ := C
  obtain ⟨hP, hD, hS⟩ := w
  refine va_newa (atype := .long) (ty := .long) (a0 := (N, .inr (.inl (fun _ => 0)))) hx hc (hts _ nw_oL) rfl hK hP hD hS hA (fun cA => rfl) hn hN hb h1 h2 hdg (fun q cA H1 hK1 hP1 hD1 hS1 => ?_)
  have e : cA = g.2.1 := nw_one (hK1.2 3 (cA, .long) rfl).2 (hK.2 1 (g.2.1, .long) rfl).2
  subst e
  exact kk q H1 ⟨hP1, hD1, hS1⟩
theorem nw_newQ (C : nw_C own cc nL p s m args c D g A) (w : nw_W D A s H locs ws) {index : Nat} (hcl : Cond.classLink own index "WhichClub$Shelf" ∈ am_T) (hover : va_AO "WhichClub$Shelf" s) {n : Int32} {N : Nat} (hn : ¬ n < 0) (hN : n.toNatClampNeg = N) (hb : N * 4 ≤ 536870912) (h1 : cells + 1 ≤ R.cells) (h2 : slots + N ≤ R.slots) (hdg : decode cc pc = .ok (.anewarray index, 3))
    (kk : ∀ (q : Nat) (H1 : Heap), nw_W D A s H1 locs (ws ++ [(q, .inl (g.2.2, N, .inr (.inr (.inr (.inr (fun _ => none))))))]) → W p l e R s m args below meth c H1 locs (cells + 1) (slots + N) Q (F0 m (pc + 3) ls (.ref q :: rest))) : W p l e R s m args below meth c H locs cells slots Q (F0 m pc ls (.int n :: rest)) := by
  obtain ⟨hx, hc, hml, hown, hts, hK, hA⟩ := C
  obtain ⟨hP, hD, hS⟩ := w
  refine va_newq (C := "WhichClub$Shelf") hx hc hown (hts _ hcl) hover hK hP hD hS hA hn hN hb h1 h2 hdg (fun q cA H1 hK1 hP1 hD1 hS1 => ?_)
  have e : cA = g.2.2 := nw_one (hK1.2 3 (cA, .object "WhichClub$Shelf") rfl).2 (hK.2 2 (g.2.2, .object "WhichClub$Shelf") rfl).2
  subst e
  exact kk q H1 ⟨hP1, hD1, hS1⟩
theorem nw_new (C : nw_C own cc nL p s m args c D g A) (w : nw_W D A s H locs ws) {ci index N : Nat} {Cn : String} {T : u_T} (fs : List Value) (hc : am_cl[ci]? = some (Cn, T, N)) (hcl : Cond.classLink own index Cn ∈ am_T) (hinst : Cond.instantiable Cn N ∈ am_T) (hini : Cond.initialized Cn ∈ am_T) (hfs : ∀ j, j < N → defaultValue (am_ty ci j) = vp_V fs j) (h1 : cells + 1 ≤ R.cells) (h2 : slots + N ≤ R.slots) (hdg : decode cc pc = .ok (.new index, 3))
    (kk : ∀ (q : Nat) (H1 : Heap), nw_W D A s H1 locs (ws ++ [(q, .inr (ci, fs))]) → W p l e R s m args below meth c H1 locs (cells + 1) (slots + N) Q (F0 m (pc + 3) ls (.ref q :: rest))) : W p l e R s m args below meth c H locs cells slots Q (F0 m pc ls rest) := by
  obtain ⟨hx, hcd, hml, hown, hts, hK, hA⟩ := C
  obtain ⟨hP, hD, hS⟩ := w
  obtain ⟨o1, o2, o3, o4⟩ := am_clok ci Cn T N hc
  exact va_new (C := Cn) (T := T) (N := N) hx hcd hts o1 (am_ty ci) o3 hown (hts _ hcl) (hts _ hinst) (hts _ hini) hK hP hD hS hA hc hfs h1 h2 hdg (fun q H1 hP1 hD1 hS1 => kk q H1 ⟨hP1, hD1, hS1⟩)
theorem nw_putF (C : nw_C own cc nL p s m args c D g A) (w : nw_W D A s H locs ws) (hin : meth.name = "<init>") (q0 : Nat) {ci index N a : Nat} {fs : List Value} {T : u_T} {v : Value} (he : ws[q0]? = some (a, .inr (ci, fs))) (hc : am_cl[ci]? = some (own, T, N)) (k : Nat) (hk : k < N) (hlink : Cond.fieldLink own index own (T k).2.1 (T k).2.2.1 ∈ am_T) (hfin : (T k).2.2.2 = true) (hn : narrow (am_ty ci k) v = v) (hfit : fits (am_ty ci k) v = true) (hl : k < fs.length) (hdg : decode cc pc = .ok (.putfield index, 3))
    (kk : ∀ (H1 : Heap) (locs1 : List Loc), nw_W D A s H1 locs1 (ws.set q0 (a, .inr (ci, fs.set k v))) → W p l e R s m args below meth c H1 locs1 cells slots Q (F0 m (pc + 3) ls rest)) : W p l e R s m args below meth c H locs cells slots Q (F0 m pc ls (v :: .ref a :: rest)) := by
  obtain ⟨hx, hcd, hml, hown, hts, hK, hA⟩ := C
  obtain ⟨hP, hD, hS⟩ := w
  obtain ⟨o1, o2, o3, o4⟩ := am_clok ci own T N hc
  exact va_putF (T := T) (N := N) (v := v) hx hcd hts o1 (am_ty ci) o3 o2 hown hK hP hD hS q0 he hc k hk (hts _ hlink) (by rw [o4 k hk]; exact fun _ q => q) hfin hin (o4 k hk) (o3 k hk) hn hfit hl hdg (fun H1 locs1 hP1 hD1 hS1 => kk H1 locs1 ⟨hP1, hD1, hS1⟩)
theorem nw_put (C : nw_C own cc nL p s m args c D g A) (w : nw_W D A s H locs ws) (q0 : Nat) {ci index N a : Nat} {fs : List Value} {T : u_T} {v : Value} (he : ws[q0]? = some (a, .inr (ci, fs))) (hc : am_cl[ci]? = some (own, T, N)) (k : Nat) (hk : k < N) (hlink : Cond.fieldLink own index own (T k).2.1 (T k).2.2.1 ∈ am_T) (hfin : (T k).2.2.2 = false) (hn : narrow (am_ty ci k) v = v) (hfit : fits (am_ty ci k) v = true) (hl : k < fs.length) (hdg : decode cc pc = .ok (.putfield index, 3))
    (kk : ∀ (H1 : Heap) (locs1 : List Loc), nw_W D A s H1 locs1 (ws.set q0 (a, .inr (ci, fs.set k v))) → W p l e R s m args below meth c H1 locs1 cells slots Q (F0 m (pc + 3) ls rest)) : W p l e R s m args below meth c H locs cells slots Q (F0 m pc ls (v :: .ref a :: rest)) := by
  obtain ⟨hx, hcd, hml, hown, hts, hK, hA⟩ := C
  obtain ⟨hP, hD, hS⟩ := w
  obtain ⟨o1, o2, o3, o4⟩ := am_clok ci own T N hc
  exact va_put (T := T) (N := N) (v := v) hx hcd hts o1 (am_ty ci) o3 o2 hown hK hP hD hS q0 he hc k hk (hts _ hlink) (by rw [o4 k hk]; exact fun _ q => q) hfin (o3 k hk) hn hfit hl hdg (fun H1 locs1 hP1 hD1 hS1 => kk H1 locs1 ⟨hP1, hD1, hS1⟩)
theorem nw_get (C : nw_C own cc nL p s m args c D g A) (w : nw_W D A s H locs ws) (q0 : Nat) {ci index N a : Nat} {fs : List Value} {T : u_T} {v : Value} (he : ws[q0]? = some (a, .inr (ci, fs))) (hc : am_cl[ci]? = some (own, T, N)) (k : Nat) (hk : k < N) (hlink : Cond.fieldLink own index own (T k).2.1 (T k).2.2.1 ∈ am_T) (hv : fs[k]? = some v) (hdg : decode cc pc = .ok (.getfield index, 3))
    (kk : W p l e R s m args below meth c H locs cells slots Q (F0 m (pc + 3) ls (v :: rest))) : W p l e R s m args below meth c H locs cells slots Q (F0 m pc ls (.ref a :: rest)) := by
  obtain ⟨hx, hcd, hml, hown, hts, hK, hA⟩ := C
  obtain ⟨hP, hD, hS⟩ := w
  obtain ⟨o1, o2, o3, o4⟩ := am_clok ci own T N hc
  exact va_get (T := T) (N := N) (v := v) hx hcd hts o1 hown hK hP q0 he hc k hk (hts _ hlink) (by rw [o4 k hk]; exact fun _ q => q) hv hdg kk
theorem nw_objInit (C : nw_C own cc nL p s m args c D g A) {index a : Nat} (hlink : Cond.methodLink own index Lib.objectInit ∈ am_T) (hinst : Cond.instanceMethod Lib.objectInit ∈ am_T) (hcode : Cond.code Lib.objectInit ⟨#[0xb1]⟩ 1 none ∈ am_T) (hsz : ls.size = nL) (hd : decode cc pc = .ok (.invokespecial index, 3)) (hf : 1 ≤ R.frames) (hl : 12 + (rest.map fun v => v.category).sum + 2 * (F0 m pc ls (.ref a :: rest)).monitorRoom ≤ R.locals)
    (kk : W p l e R s m args below meth c H locs cells slots Q (F0 m (pc + 3) ls rest)) : W p l e R s m args below meth c H locs cells slots Q (F0 m pc ls (.ref a :: rest)) := by
  obtain ⟨hx, hcd, hml, hown, hts, hK, hA⟩ := C
  exact W.objInit hx hcd hown (hts _ hlink) (hts _ hinst) (hts _ hcode) rfl (by rw [hml]; exact hsz) rfl hd hf (by omega) kk
theorem nw_astI (C : nw_C own cc nL p s m args c D g A) (w : nw_W D A s H locs ws) (q0 : Nat) {n a : Nat} {f : Nat → Int32} (he : ws[q0]? = some (a, .inl (g.1, n, .inl f))) {i x : Int32} (hin : vp_in i n) (hdg : decode cc pc = .ok (.iastore, 1))
    (kk : ∀ (H1 : Heap) (locs1 : List Loc), nw_W D A s H1 locs1 (ws.set q0 (a, .inl (g.1, n, .inl (upd f i.toNatClampNeg x)))) → W p l e R s m args below meth c H1 locs1 cells slots Q (F0 m (pc + 1) ls rest)) : W p l e R s m args below meth c H locs cells slots Q (F0 m pc ls (.int x :: .int i :: .ref a :: rest)) := by
  obtain ⟨hx, hcd, hml, hown, hts, hK, hA⟩ := C
  obtain ⟨hP, hD, hS⟩ := w
  exact va_iast hx hcd hK hP hD hS q0 0 he rfl hin hdg (fun H1 locs1 hP1 hD1 hS1 => kk H1 locs1 ⟨hP1, hD1, hS1⟩)
theorem nw_astQ (C : nw_C own cc nL p s m args c D g A) (w : nw_W D A s H locs ws) (q0 qk : Nat) {n a v : Nat} {vs : List Value} {f : Nat → Option Nat} (he : ws[q0]? = some (a, .inl (g.2.2, n, .inr (.inr (.inr (.inr f)))))) (hv : ws[qk]? = some (v, .inr (9, vs))) {i : Int32} (hin : vp_in i n) (hdg : decode cc pc = .ok (.aastore, 1))
    (kk : ∀ (H1 : Heap) (locs1 : List Loc), nw_W D A s H1 locs1 (ws.set q0 (a, .inl (g.2.2, n, .inr (.inr (.inr (.inr (va_up f i.toNatClampNeg (some v)))))))) → W p l e R s m args below meth c H1 locs1 cells slots Q (F0 m (pc + 1) ls rest)) : W p l e R s m args below meth c H locs cells slots Q (F0 m pc ls (.ref v :: .int i :: .ref a :: rest)) := by
  obtain ⟨hx, hcd, hml, hown, hts, hK, hA⟩ := C
  obtain ⟨hP, hD, hS⟩ := w
  exact va_astq (r := (R_Shelf, T_Shelf, 4)) hx hcd hK hP hD hS q0 2 qk 9 he rfl hv rfl hin hdg (fun H1 locs1 hP1 hD1 hS1 => kk H1 locs1 ⟨hP1, hD1, hS1⟩)
theorem nw_alen (C : nw_C own cc nL p s m args c D g A) (w : nw_W D A s H locs ws) (q0 : Nat) {n a : Nat} {f : Nat → Option Nat} (he : ws[q0]? = some (a, .inl (g.2.2, n, .inr (.inr (.inr (.inr f)))))) {v : Int32} (hv : Int32.ofNat n = v) (hdg : decode cc pc = .ok (.arraylength, 1))
    (kk : W p l e R s m args below meth c H locs cells slots Q (F0 m (pc + 1) ls (.int v :: rest))) : W p l e R s m args below meth c H locs cells slots Q (F0 m pc ls (.ref a :: rest)) := by
  obtain ⟨hx, hcd, hml, hown, hts, hK, hA⟩ := C
  exact va_alen hx hcd hK w.1 q0 2 he rfl hv hdg kk
/-- a constructor's contract: from its own object alone to its cells -/
def nw_Qc (D : va_G) (g : am_G) (b sz : Nat) (e0 : va_E) (W1 : am_G → Nat → (Nat → Nat) → va_W) : Array Value → State → Outcome → State → Prop :=
  va_Qv (fun _ : Nat → Nat => True) (fun qs t => va_P D am_cl (W1 g b qs) t.heap ∧ va_D (va_A [(b, e0)] sz) (W1 g b qs)) (va_A [(b, e0)] sz)
def nw_M (X : State → Prop) (y : MethodName) (bytes : ByteArray) (nL' : Nat) (rm : Room) (As : List Value) (e0 : va_E) (W1 : am_G → Nat → (Nat → Nat) → va_W) : Prop :=
  ∀ (l : Launch) (D : va_G) (g : am_G) (b sz : Nat), Met l y (.code y bytes nL' none :: am_T) rm (va_Pc (.ref b :: As) (fun U => U.heap.size = sz ∧ va_P D am_cl [(b, e0)] U.heap ∧ va_K D am_cl (am_tys g) U ∧ X U)) (nw_Qc D g b sz e0 W1) rm.cells rm.slots (va_A [(b, e0)] sz)
theorem nw_enter {X : State → Prop} {y : MethodName} {bytes : ByteArray} {nL' : Nat} {rm : Room} {As : List Value} {e0 : va_E} {W1 : am_G → Nat → (Nat → Nat) → va_W} (hy : plainName y.cls = true) (hyn : y.name = "<init>") (hn : ∀ b : Nat, (lg_sl (.ref b :: As)).length ≤ nL')
    (k : ∀ (p : Program) (l : Launch) (e : Env) (s : State) (m : MethodId) (args : Array Value) (below : List Frame) (meth : Method) (c : Code) (D : va_G) (g : am_G) (b : Nat) (ls : Array Slot) (H : Heap) (locs : List Loc), nw_C y.cls bytes nL' p s m args c D g (va_A [(b, e0)] s.heap.size) → meth.name = "<init>" → meth.sig.returnType = none → meth.locks = false → nw_W D (va_A [(b, e0)] s.heap.size) s H locs [(b, e0)] → lv_has ls nL' (lv_args 0 (.ref b :: As)) → X s →
      W p l e rm s m args below meth c H locs 0 0 (MQ below (nw_Qc D g b s.heap.size e0 W1) args s rm.cells rm.slots (va_A [(b, e0)] s.heap.size)) (F0 m 0 ls [])) : nw_M X y bytes nL' rm As e0 W1 := by
  intro l D g b sz
  refine Met.ofW (cc := bytes) (maxL := nL') (ret := none) hy rfl ?_
  intro p e s m args below meth c s₁ B hml hv
  obtain ⟨rfl, hsz, hP, hK, hX⟩ := hv
  have hts := atoms_spec (ws := (.code y bytes nL' none :: am_T)) B.pre
  have hown : s.vm.findClass y.cls = some m.cls := findClass_of_methodNamed B.named
  have hin : meth.name = "<init>" := (name_of_methodNamed B.named B.method).1.trans hyn
  rw [lg_entry_eq]
  subst hsz
  have hl0 := lv_entry (.ref b :: As) (n := nL') (hn b)
  have hD : va_D (va_A [(b, e0)] s.heap.size) [(b, e0)] := by
    refine ⟨fun i j p q hp hq e => ?_, fun k q hq => Or.inl ⟨k, q.2, hq⟩⟩
    have hi : i < 1 := (List.getElem?_eq_some_iff.mp hp).1
    have hj : j < 1 := (List.getElem?_eq_some_iff.mp hq).1
    omega
  exact k p l e s m _ below meth c D g b _ s.heap [] ⟨B.exec, B.bytes, hml, hown, fun w hw => hts w (List.mem_cons_of_mem _ hw), hK, fun q hq => Or.inr hq⟩ hin B.returns B.notSynchronized ⟨hP, hD, va_S.rf⟩ hl0 hX
theorem nw_ret {b : Nat} {e0 : va_E} {rm : Room} {W1 : am_G → Nat → (Nat → Nat) → va_W} (hA : va_A [(b, e0)] s.heap.size = A) (C : nw_C own cc nL p s m args c D g A) (hr : meth.sig.returnType = none) (hlk : meth.locks = false) (qs : Nat → Nat) (w : nw_W D A s H locs (W1 g b qs)) (h1 : cells ≤ rm.cells) (h2 : slots ≤ rm.slots) (hdg : decode cc pc = .ok (.return_, 1)) :
    W p l e rm s m args below meth c H locs cells slots (MQ below (nw_Qc D g b s.heap.size e0 W1) args s rm.cells rm.slots A) (F0 m pc ls []) := by
  subst hA
  exact W.widen h1 h2 (W.vret C.1 C.2.1 hr (fun t ht _ => ⟨⟨qs, rfl, trivial, by rw [ht]; exact w.1, w.2.1⟩, w.2.2.F ht⟩) w.2.2.2.2 hdg hlk)
theorem nw_call {wr : va_W} {y : MethodName} {bytes : ByteArray} {nL' index b : Nat} {rm : Room} {As : List Value} {e0 : va_E} {W1 : am_G → Nat → (Nat → Nat) → va_W} {X : State → Prop} (C : nw_C own cc nL p s m args c D g A) (w : nw_W D A s H locs (wr ++ [(b, e0)])) (hM : nw_M X y bytes nL' rm As e0 W1) (hXw : ∀ U : State, s.WarmedH U.vm → X U) (hXb : ∀ u U : State, u.vm = U.vm → X u → X U)
    (hlink : Cond.methodLink own index y ∈ am_T) (hinst : Cond.instanceMethod y ∈ am_T) (hini : Cond.initialized y.cls ∈ am_T) (hco : Cond.code y bytes nL' none ∈ am_T) (hyn : y.name = "<init>") (hy : y.cls ≠ "java/lang/invoke/MethodHandle" ∧ y.cls ≠ "java/lang/invoke/VarHandle" ∧ (parseMethodDescriptor y.desc).map (fun d => d.parameters.length) = some As.length) (hR : rm.frames + 1 ≤ R.frames ∧ 8 + (nL' + 11) + rm.locals ≤ R.locals) (hcs : cells + rm.cells ≤ R.cells ∧ slots + rm.slots ≤ R.slots) (hsz : ls.size = nL) {st0 : List Value} (hst : st0 = As.reverse ++ .ref b :: rest) (hW : (rest.map fun v => v.category).sum ≤ 8) (hd : decode cc pc = .ok (.invokespecial index, 3))
    (kk : ∀ (qs : Nat → Nat) (H1 : Heap) (locs1 : List Loc), nw_W D A s H1 locs1 (wr ++ W1 g b qs) → W p l e R s m args below meth c H1 locs1 (cells + rm.cells) (slots + rm.slots) Q (F0 m (pc + 3) ls rest)) : W p l e R s m args below meth c H locs cells slots Q (F0 m pc ls st0) := by
  obtain ⟨hx, hcd, hml, hown, hts, hK, hA⟩ := C
  obtain ⟨hP, hD, hS⟩ := w
  have hb : (wr ++ [(b, e0)])[wr.length]? = some (b, e0) := by simp
  have hC : ([wr.length] : List Nat).map (fun i => (wr ++ [(b, e0)])[i]?) = [(b, e0)].map some := by simp
  have hRr : (List.range wr.length).map (fun i => (wr ++ [(b, e0)])[i]?) = wr.map some := by
    apply List.ext_getElem?
    intro i
    by_cases hi : i < wr.length
    · simp [hi, List.getElem?_append_left hi]
    · simp [Nat.not_lt.mp hi]
  have hnd : ∀ n : Nat, va_nd (List.range n) = true := by
    intro n
    have h : ∀ (l : List Nat), l.Nodup → va_nd l = true := by
      intro l hl
      induction l with
      | nil => rfl
      | cons a l ih =>
        rw [List.nodup_cons] at hl
        simp [va_nd, hl.1, ih hl.2]
    exact h _ List.nodup_range
  have hFc := va_free (wc := [(b, e0)]) hD hS hA [wr.length] hC
  have hPc : va_P D am_cl [(b, e0)] H := by
    intro k q hq
    have hk : k < 1 := (List.getElem?_eq_some_iff.mp hq).1
    obtain rfl : k = 0 := by omega
    cases hq
    exact hP wr.length _ hb
  subst hst
  refine va_callv (va_runI (As := As) (b := b) (nL := nL) (n := As.length) (rest := rest) ⟨hx, hcd, hml, hown, hts⟩ (hM l D g b H.size) ⟨callB_of As.length hts (am_goodIn hco) rfl rfl rfl (hts _ hini) (hts _ hlink) hy hR, hyn, hts _ hinst⟩ ⟨fun a U g mk q => by obtain ⟨q0, q1, qP, qK, qX⟩ := q; exact ⟨q0, q1, qP, va_K.moved (u := U) (U := U.calling g mk a) (Vm.Alike.refl U.vm) qK, hXb U (U.calling g mk a) rfl qX⟩, fun U hU hW => ⟨rfl, by rw [hU], by rw [hU]; exact hPc, va_K.moved hW.alike hK, hXw U hW⟩⟩ rfl rfl hsz rfl (lv_room hW) hd hcs) hS (fun q _ h => hFc q h) hFc (fun qs t H1 locs1 ht hvm _ hB hz1 hk1 hS1 => ?_)
  obtain ⟨hP1, hD1⟩ := hB
  rw [ht] at hP1
  obtain ⟨hP2, hD2⟩ := va_join (wr := wr) (w1 := W1 g b qs) (wc := [(b, e0)]) hP hD [wr.length] (List.range wr.length) hC hRr (hnd _) (fun i hi => by simp at hi ⊢; omega) hk1 hFc hP1 hD1
  exact kk qs H1 locs1 ⟨hP2, hD2, hS1⟩
theorem nw_callN {wr : va_W} {y : MethodName} {bytes : ByteArray} {nL' index b : Nat} {rm : Room} {As : List Value} {e0 : va_E} {W1 : am_G → Nat → (Nat → Nat) → va_W} {X : State → Prop} (C : nw_C own cc nL p s m args c D g A) (w : nw_W D A s H locs (wr ++ [(b, e0)])) (hM : nw_M X y bytes nL' rm As e0 W1) (hXw : ∀ U : State, s.WarmedH U.vm → X U) (hXb : ∀ u U : State, u.vm = U.vm → X u → X U)
    {host : String} (hlink : va_Nw (.methodLinkNest own index y host) s) (hinst : Cond.instanceMethod y ∈ am_T) (hini : Cond.initialized y.cls ∈ am_T) (hco : Cond.code y bytes nL' none ∈ am_T) (hyn : y.name = "<init>") (hy : y.cls ≠ "java/lang/invoke/MethodHandle" ∧ y.cls ≠ "java/lang/invoke/VarHandle" ∧ (parseMethodDescriptor y.desc).map (fun d => d.parameters.length) = some As.length) (hR : rm.frames + 1 ≤ R.frames ∧ 8 + (nL' + 11) + rm.locals ≤ R.locals) (hcs : cells + rm.cells ≤ R.cells ∧ slots + rm.slots ≤ R.slots) (hsz : ls.size = nL) {st0 : List Value} (hst : st0 = As.reverse ++ .ref b :: rest) (hW : (rest.map fun v => v.category).sum ≤ 8) (hd : decode cc pc = .ok (.invokespecial index, 3))
    (kk : ∀ (qs : Nat → Nat) (H1 : Heap) (locs1 : List Loc), nw_W D A s H1 locs1 (wr ++ W1 g b qs) → W p l e R s m args below meth c H1 locs1 (cells + rm.cells) (slots + rm.slots) Q (F0 m (pc + 3) ls rest)) : W p l e R s m args below meth c H locs cells slots Q (F0 m pc ls st0) := by
  obtain ⟨hx, hcd, hml, hown, hts, hK, hA⟩ := C
  obtain ⟨hP, hD, hS⟩ := w
  have hb : (wr ++ [(b, e0)])[wr.length]? = some (b, e0) := by simp
  have hC : ([wr.length] : List Nat).map (fun i => (wr ++ [(b, e0)])[i]?) = [(b, e0)].map some := by simp
  have hRr : (List.range wr.length).map (fun i => (wr ++ [(b, e0)])[i]?) = wr.map some := by
    apply List.ext_getElem?
    intro i
    by_cases hi : i < wr.length
    · simp [hi, List.getElem?_append_left hi]
    · simp [Nat.not_lt.mp hi]
  have hnd : ∀ n : Nat, va_nd (List.range n) = true := by
    intro n
    have h : ∀ (l : List Nat), l.Nodup → va_nd l = true := by
      intro l hl
      induction l with
      | nil => rfl
      | cons a l ih =>
        rw [List.nodup_cons] at hl
        simp [va_nd, hl.1, ih hl.2]
    exact h _ List.nodup_range
  have hFc := va_free (wc := [(b, e0)]) hD hS hA [wr.length] hC
  have hPc : va_P D am_cl [(b, e0)] H := by
    intro k q hq
    have hk : k < 1 := (List.getElem?_eq_some_iff.mp hq).1
    obtain rfl : k = 0 := by omega
    cases hq
    exact hP wr.length _ hb
  subst hst
  refine va_callv (va_runIN (As := As) (b := b) (nL := nL) (n := As.length) (rest := rest) ⟨hx, hcd, hml, hown, hts⟩ (hM l D g b H.size) ⟨va_cnB As.length hts (am_goodIn hco) rfl rfl rfl hlink (hts _ hini) hy hR, hyn, hts _ hinst⟩ ⟨fun a U g mk q => by obtain ⟨q0, q1, qP, qK, qX⟩ := q; exact ⟨q0, q1, qP, va_K.moved (u := U) (U := U.calling g mk a) (Vm.Alike.refl U.vm) qK, hXb U (U.calling g mk a) rfl qX⟩, fun U hU hW => ⟨rfl, by rw [hU], by rw [hU]; exact hPc, va_K.moved hW.alike hK, hXw U hW⟩⟩ rfl rfl hsz rfl (lv_room hW) hd hcs) hS (fun q _ h => hFc q h) hFc (fun qs t H1 locs1 ht hvm _ hB hz1 hk1 hS1 => ?_)
  obtain ⟨hP1, hD1⟩ := hB
  rw [ht] at hP1
  obtain ⟨hP2, hD2⟩ := va_join (wr := wr) (w1 := W1 g b qs) (wc := [(b, e0)]) hP hD [wr.length] (List.range wr.length) hC hRr (hnd _) (fun i hi => by simp at hi ⊢; omega) hk1 hFc hP1 hD1
  exact kk qs H1 locs1 ⟨hP2, hD2, hS1⟩
end Nw
