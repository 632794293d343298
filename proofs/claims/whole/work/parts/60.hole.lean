/-! Hole() (by gen59.py; nw_fill by hand: fill.txt) -/
theorem wn_115 : Cond.methodLink "WhichClub$Hole" 3 Lib.objectInit ∈ am_T := am_in 115 (by decide +kernel) (by decide +kernel)
theorem wn_116 : Cond.methodLink "WhichClub$Hole" 43 (⟨"java/util/Arrays", "fill", "([IIII)V"⟩ : MethodName) ∈ am_T := am_in 116 (by decide +kernel) (by decide +kernel)
theorem wn_117 : Cond.static (⟨"java/util/Arrays", "fill", "([IIII)V"⟩ : MethodName) ∈ am_T := am_in 117 (by decide +kernel) (by decide +kernel)
/-! Arrays.rangeCheck, Arrays.fill over the row of 31, 20 to 31, with 4 -/
theorem nw_rg (l : Launch) (sz : Nat) : Met l ⟨"java/util/Arrays", "rangeCheck", "(III)V"⟩ (.code ⟨"java/util/Arrays", "rangeCheck", "(III)V"⟩ prog_19_method_30_code 3 none :: am_T) { frames := 0, cells := 0, slots := 0, locals := 0 } (va_Pc [.int 31, .int 20, .int 31] (fun U => U.heap.size = sz)) (va_Qv (fun _ : Nat => True) (fun _ _ => True) (fun q => sz ≤ q)) 0 0 (fun q => sz ≤ q) := by
  refine Met.ofW (cc := prog_19_method_30_code) (maxL := 3) (ret := none) (by decide) rfl ?_
  intro p e s m args below meth c s₁ B hml hv
  obtain ⟨rfl, hsz⟩ := hv
  have hx := B.exec
  have hb := B.bytes
  have hr := B.returns
  have hlk := B.notSynchronized
  rw [lg_entry_eq]
  subst hsz
  have hl := lv_entry ([.int 31, .int 20, .int 31]) (n := 3) (Nat.le_of_ble_eq_true rfl)
  generalize (lg_sl ([.int 31, .int 20, .int 31]) ++ List.replicate (3 - (lg_sl ([.int 31, .int 20, .int 31])).length) Slot.unset).toArray = ls at hl ⊢
  have hl : lv_has ls 3 [(0, .int 31), (1, .int 20), (2, .int 31)] := hl
  refine lv_iload_n hx hb (by decide +kernel : decode prog_19_method_30_code 0 = .ok (.iload_n 1, 1)) rfl (lv_at hl 1 rfl) ?_
  refine lv_iload_n hx hb (by decide +kernel : decode prog_19_method_30_code 1 = .ok (.iload_n 2, 1)) rfl (lv_at hl 2 rfl) ?_
  refine lv_icmp_le (tgt := 46) hx hb (by decide +kernel : decode prog_19_method_30_code 2 = .ok (.if_icmp .le 44, 3)) (by decide) (fun _ => ?_) (fun h => absurd (by decide) h)
  refine lv_iload_n hx hb (by decide +kernel : decode prog_19_method_30_code 46 = .ok (.iload_n 1, 1)) rfl (lv_at hl 1 rfl) ?_
  refine lv_if_ge (tgt := 59) hx hb (by decide +kernel : decode prog_19_method_30_code 47 = .ok (.ifCond .ge 12, 3)) (by decide) (fun _ => ?_) (fun h => absurd (by decide) h)
  refine lv_iload_n hx hb (by decide +kernel : decode prog_19_method_30_code 59 = .ok (.iload_n 2, 1)) rfl (lv_at hl 2 rfl) ?_
  refine lv_iload_n hx hb (by decide +kernel : decode prog_19_method_30_code 60 = .ok (.iload_n 0, 1)) rfl (lv_at hl 0 rfl) ?_
  refine lv_icmp_le (tgt := 73) hx hb (by decide +kernel : decode prog_19_method_30_code 61 = .ok (.if_icmp .le 12, 3)) (by decide) (fun _ => ?_) (fun h => absurd (by decide) h)
  exact W.vret hx hb hr (fun t ht _ => ⟨⟨0, rfl, trivial, trivial⟩, ⟨Nat.le_of_eq (by rw [ht]), fun q _ _ => by rw [ht]⟩⟩) (fun q h => by cases h) (by decide +kernel : decode prog_19_method_30_code 73 = .ok (.return_, 1)) hlk
def nw_fl : Nat → Int32 := upd (upd (upd (upd (upd (upd (upd (upd (upd (upd (upd (fun _ => 0) 20 4) 21 4) 22 4) 23 4) 24 4) 25 4) 26 4) 27 4) 28 4) 29 4) 30 4
theorem d_fl_0 : decode prog_19_method_104_code 0 = .ok (.aload_n 0, 1) := by decide +kernel
theorem d_fl_1 : decode prog_19_method_104_code 1 = .ok (.arraylength, 1) := by decide +kernel
theorem d_fl_2 : decode prog_19_method_104_code 2 = .ok (.iload_n 1, 1) := by decide +kernel
theorem d_fl_3 : decode prog_19_method_104_code 3 = .ok (.iload_n 2, 1) := by decide +kernel
theorem d_fl_4 : decode prog_19_method_104_code 4 = .ok (.invokestatic 13, 3) := by decide +kernel
theorem d_fl_7 : decode prog_19_method_104_code 7 = .ok (.iload_n 1, 1) := by decide +kernel
theorem d_fl_8 : decode prog_19_method_104_code 8 = .ok (.istore 4, 2) := by decide +kernel
theorem d_fl_10 : decode prog_19_method_104_code 10 = .ok (.iload 4, 2) := by decide +kernel
theorem d_fl_12 : decode prog_19_method_104_code 12 = .ok (.iload_n 2, 1) := by decide +kernel
theorem d_fl_13 : decode prog_19_method_104_code 13 = .ok (.if_icmp .ge 14, 3) := by decide +kernel
theorem d_fl_16 : decode prog_19_method_104_code 16 = .ok (.aload_n 0, 1) := by decide +kernel
theorem d_fl_17 : decode prog_19_method_104_code 17 = .ok (.iload 4, 2) := by decide +kernel
theorem d_fl_19 : decode prog_19_method_104_code 19 = .ok (.iload_n 3, 1) := by decide +kernel
theorem d_fl_20 : decode prog_19_method_104_code 20 = .ok (.iastore, 1) := by decide +kernel
theorem d_fl_21 : decode prog_19_method_104_code 21 = .ok (.iinc 4 1, 3) := by decide +kernel
theorem d_fl_24 : decode prog_19_method_104_code 24 = .ok (.goto (-14), 3) := by decide +kernel
theorem d_fl_27 : decode prog_19_method_104_code 27 = .ok (.return_, 1) := by decide +kernel
theorem nw_rgL : Cond.methodLink "java/util/Arrays" 13 ⟨"java/util/Arrays", "rangeCheck", "(III)V"⟩ ∈ am_T := am_in 119 (by decide +kernel) (by decide +kernel)
theorem nw_rgS : Cond.static ⟨"java/util/Arrays", "rangeCheck", "(III)V"⟩ ∈ am_T := am_in 120 (by decide +kernel) (by decide +kernel)
theorem nw_rgC : Cond.code ⟨"java/util/Arrays", "rangeCheck", "(III)V"⟩ prog_19_method_30_code 3 none ∈ am_T := am_in 121 (by decide +kernel) (by decide +kernel)
theorem nw_flC : Cond.code ⟨"java/util/Arrays", "fill", "([IIII)V"⟩ prog_19_method_104_code 5 none ∈ am_T := am_in 118 (by decide +kernel) (by decide +kernel)
theorem nw_rgI : Cond.initialized "java/util/Arrays" ∈ am_T := am_in 85 (by decide +kernel) (by decide +kernel)
set_option maxRecDepth 100000 in
set_option maxHeartbeats 4000000 in
theorem nw_flM (l : Launch) (D : va_G) (g : am_G) (b sz : Nat) : Met l ⟨"java/util/Arrays", "fill", "([IIII)V"⟩ (.code ⟨"java/util/Arrays", "fill", "([IIII)V"⟩ prog_19_method_104_code 5 none :: am_T) { frames := 1, cells := 0, slots := 0, locals := 40 } (va_Pc [.ref b, .int 20, .int 31, .int 4] (fun U => U.heap.size = sz ∧ va_P D am_cl [(b, .inl (g.1, 31, .inl (fun _ => 0)))] U.heap ∧ va_K D am_cl (am_tys g) U)) (va_Qv (fun _ : Nat => True) (fun _ t => va_P D am_cl [(b, .inl (g.1, 31, .inl nw_fl))] t.heap) (va_A [(b, .inl (g.1, 31, .inl (fun _ => 0)))] sz)) 0 0 (va_A [(b, .inl (g.1, 31, .inl (fun _ => 0)))] sz) := by
  refine Met.ofW (cc := prog_19_method_104_code) (maxL := 5) (ret := none) (by decide) rfl ?_
  intro p e s m args below meth c s₁ B hml hv
  obtain ⟨rfl, hsz, hP, hK⟩ := hv
  have hx := B.exec
  have hb := B.bytes
  have hr := B.returns
  have hlk := B.notSynchronized
  have hts0 := atoms_spec (ws := (.code ⟨"java/util/Arrays", "fill", "([IIII)V"⟩ prog_19_method_104_code 5 none :: am_T)) B.pre
  have hts : ∀ w ∈ am_T, w.before (#[.ref b, .int 20, .int 31, .int 4] : Array Value) s = true := fun w hw => hts0 w (List.mem_cons_of_mem _ hw)
  have hown : s.vm.findClass "java/util/Arrays" = some m.cls := findClass_of_methodNamed B.named
  rw [lg_entry_eq]
  subst hsz
  have hl := lv_entry ([.ref b, .int 20, .int 31, .int 4]) (n := 5) (Nat.le_of_ble_eq_true rfl)
  generalize (lg_sl ([.ref b, .int 20, .int 31, .int 4]) ++ List.replicate (5 - (lg_sl ([.ref b, .int 20, .int 31, .int 4])).length) Slot.unset).toArray = ls at hl ⊢
  have hl : lv_has ls 5 [(0, .ref b), (1, .int 20), (2, .int 31), (3, .int 4)] := hl
  have hD : va_D (va_A [(b, .inl (g.1, 31, .inl (fun _ => 0)))] s.heap.size) [(b, .inl (g.1, 31, .inl (fun _ => 0)))] := by
    refine ⟨fun i j p q hp hq e => ?_, fun k q hq => Or.inl ⟨k, q.2, hq⟩⟩
    have hi : i < 1 := (List.getElem?_eq_some_iff.mp hp).1
    have hj : j < 1 := (List.getElem?_eq_some_iff.mp hq).1
    omega
  have hA : ∀ q : Nat, s.heap.size ≤ q → va_A [(b, .inl (g.1, 31, .inl (fun _ => 0)))] s.heap.size q := fun q h => Or.inr h
  have hS : va_S (va_A [(b, .inl (g.1, 31, .inl (fun _ => 0)))] s.heap.size) s.heap s.heap [] := va_S.rf
  have C : nw_C "java/util/Arrays" prog_19_method_104_code 5 p s m _ c D g _ := ⟨hx, hb, hml, hown, hts, hK, hA⟩
  refine lv_aload_n hx hb d_fl_0 rfl (lv_at hl 0 rfl) ?_
  refine va_alen (v := 31) hx hb hK hP 0 0 rfl rfl (by decide) d_fl_1 ?_
  refine lv_iload_n hx hb d_fl_2 rfl (lv_at hl 1 rfl) ?_
  refine lv_iload_n hx hb d_fl_3 rfl (lv_at hl 2 rfl) ?_
  refine va_callv (va_runS (As := [.int 31, .int 20, .int 31]) (nL := 5) (n := 3) (rest := []) ⟨hx, hb, hml, hown, hts⟩ (nw_rg l s.heap.size) ⟨callB_of 3 hts (am_goodIn nw_rgC) rfl rfl rfl (hts _ nw_rgI) (hts _ nw_rgL) (by decide +kernel) ⟨Nat.le_of_ble_eq_true rfl, Nat.le_of_ble_eq_true rfl⟩, hts _ nw_rgS⟩ ⟨fun a U g mk q => ⟨q.1, q.2⟩, fun U hU hW => ⟨rfl, congrArg Array.size hU⟩⟩ rfl rfl hl.1 rfl (lv_room (Nat.le_of_ble_eq_true rfl)) d_fl_4 ⟨Nat.le_refl _, Nat.le_refl _⟩) hS (fun q h1 h2 => absurd h1 (Nat.not_lt.mpr h2)) hA (fun _ t H locs ht hvm _ _ hz1 hk1 hS => ?_)
  have hP : va_P D am_cl [(b, .inl (g.1, 31, .inl (fun _ => 0)))] H := hP.kept (fun k q hq => hk1 q.1 (hP k q hq).lt (Nat.not_le.mpr (hP k q hq).lt))
  have w : nw_W D _ s H locs [(b, .inl (g.1, 31, .inl (fun _ => 0)))] := ⟨hP, hD, hS⟩
  refine lv_iload_n hx hb d_fl_7 rfl (lv_at hl 1 rfl) ?_
  refine lv_istore (lv' := [(4, .int 20), (0, .ref b), (1, .int 20), (2, .int 31), (3, .int 4)]) hx hb d_fl_8 hl (by decide) rfl (fun ls hl => ?_)
  refine lv_iload hx hb d_fl_10 (lv_at hl 0 rfl) ?_
  refine lv_iload_n hx hb d_fl_12 rfl (lv_at hl 3 rfl) ?_
  refine lv_icmp_ge (tgt := 27) hx hb d_fl_13 (by decide) (fun h => absurd h (by decide)) (fun _ => ?_)
  refine lv_aload_n hx hb d_fl_16 rfl (lv_at hl 1 rfl) ?_
  refine lv_iload hx hb d_fl_17 (lv_at hl 0 rfl) ?_
  refine lv_iload_n hx hb d_fl_19 rfl (lv_at hl 4 rfl) ?_
  refine nw_astI (i := 20) C w 0 rfl (by unfold vp_in; decide) d_fl_20 (fun H locs w => ?_)
  have w : nw_W D _ s H locs [(b, .inl (g.1, 31, .inl (upd (fun _ => 0) 20 4)))] := w
  refine lv_iinc (v := 21) (lv' := [(4, .int 21), (0, .ref b), (1, .int 20), (2, .int 31), (3, .int 4)]) hx hb d_fl_21 hl (k := 0) rfl (by decide) (by decide) rfl (fun ls hl => ?_)
  refine lv_goto (tgt := 10) hx hb d_fl_24 (by decide) ?_
  refine lv_iload hx hb d_fl_10 (lv_at hl 0 rfl) ?_
  refine lv_iload_n hx hb d_fl_12 rfl (lv_at hl 3 rfl) ?_
  refine lv_icmp_ge (tgt := 27) hx hb d_fl_13 (by decide) (fun h => absurd h (by decide)) (fun _ => ?_)
  refine lv_aload_n hx hb d_fl_16 rfl (lv_at hl 1 rfl) ?_
  refine lv_iload hx hb d_fl_17 (lv_at hl 0 rfl) ?_
  refine lv_iload_n hx hb d_fl_19 rfl (lv_at hl 4 rfl) ?_
  refine nw_astI (i := 21) C w 0 rfl (by unfold vp_in; decide) d_fl_20 (fun H locs w => ?_)
  have w : nw_W D _ s H locs [(b, .inl (g.1, 31, .inl (upd (upd (fun _ => 0) 20 4) 21 4)))] := w
  refine lv_iinc (v := 22) (lv' := [(4, .int 22), (0, .ref b), (1, .int 20), (2, .int 31), (3, .int 4)]) hx hb d_fl_21 hl (k := 0) rfl (by decide) (by decide) rfl (fun ls hl => ?_)
  refine lv_goto (tgt := 10) hx hb d_fl_24 (by decide) ?_
  refine lv_iload hx hb d_fl_10 (lv_at hl 0 rfl) ?_
  refine lv_iload_n hx hb d_fl_12 rfl (lv_at hl 3 rfl) ?_
  refine lv_icmp_ge (tgt := 27) hx hb d_fl_13 (by decide) (fun h => absurd h (by decide)) (fun _ => ?_)
  refine lv_aload_n hx hb d_fl_16 rfl (lv_at hl 1 rfl) ?_
  refine lv_iload hx hb d_fl_17 (lv_at hl 0 rfl) ?_
  refine lv_iload_n hx hb d_fl_19 rfl (lv_at hl 4 rfl) ?_
  refine nw_astI (i := 22) C w 0 rfl (by unfold vp_in; decide) d_fl_20 (fun H locs w => ?_)
  have w : nw_W D _ s H locs [(b, .inl (g.1, 31, .inl (upd (upd (upd (fun _ => 0) 20 4) 21 4) 22 4)))] := w
  refine lv_iinc (v := 23) (lv' := [(4, .int 23), (0, .ref b), (1, .int 20), (2, .int 31), (3, .int 4)]) hx hb d_fl_21 hl (k := 0) rfl (by decide) (by decide) rfl (fun ls hl => ?_)
  refine lv_goto (tgt := 10) hx hb d_fl_24 (by decide) ?_
  refine lv_iload hx hb d_fl_10 (lv_at hl 0 rfl) ?_
  refine lv_iload_n hx hb d_fl_12 rfl (lv_at hl 3 rfl) ?_
  refine lv_icmp_ge (tgt := 27) hx hb d_fl_13 (by decide) (fun h => absurd h (by decide)) (fun _ => ?_)
  refine lv_aload_n hx hb d_fl_16 rfl (lv_at hl 1 rfl) ?_
  refine lv_iload hx hb d_fl_17 (lv_at hl 0 rfl) ?_
  refine lv_iload_n hx hb d_fl_19 rfl (lv_at hl 4 rfl) ?_
  refine nw_astI (i := 23) C w 0 rfl (by unfold vp_in; decide) d_fl_20 (fun H locs w => ?_)
  have w : nw_W D _ s H locs [(b, .inl (g.1, 31, .inl (upd (upd (upd (upd (fun _ => 0) 20 4) 21 4) 22 4) 23 4)))] := w
  refine lv_iinc (v := 24) (lv' := [(4, .int 24), (0, .ref b), (1, .int 20), (2, .int 31), (3, .int 4)]) hx hb d_fl_21 hl (k := 0) rfl (by decide) (by decide) rfl (fun ls hl => ?_)
  refine lv_goto (tgt := 10) hx hb d_fl_24 (by decide) ?_
  refine lv_iload hx hb d_fl_10 (lv_at hl 0 rfl) ?_
  refine lv_iload_n hx hb d_fl_12 rfl (lv_at hl 3 rfl) ?_
  refine lv_icmp_ge (tgt := 27) hx hb d_fl_13 (by decide) (fun h => absurd h (by decide)) (fun _ => ?_)
  refine lv_aload_n hx hb d_fl_16 rfl (lv_at hl 1 rfl) ?_
  refine lv_iload hx hb d_fl_17 (lv_at hl 0 rfl) ?_
  refine lv_iload_n hx hb d_fl_19 rfl (lv_at hl 4 rfl) ?_
  refine nw_astI (i := 24) C w 0 rfl (by unfold vp_in; decide) d_fl_20 (fun H locs w => ?_)
  have w : nw_W D _ s H locs [(b, .inl (g.1, 31, .inl (upd (upd (upd (upd (upd (fun _ => 0) 20 4) 21 4) 22 4) 23 4) 24 4)))] := w
  refine lv_iinc (v := 25) (lv' := [(4, .int 25), (0, .ref b), (1, .int 20), (2, .int 31), (3, .int 4)]) hx hb d_fl_21 hl (k := 0) rfl (by decide) (by decide) rfl (fun ls hl => ?_)
  refine lv_goto (tgt := 10) hx hb d_fl_24 (by decide) ?_
  refine lv_iload hx hb d_fl_10 (lv_at hl 0 rfl) ?_
  refine lv_iload_n hx hb d_fl_12 rfl (lv_at hl 3 rfl) ?_
  refine lv_icmp_ge (tgt := 27) hx hb d_fl_13 (by decide) (fun h => absurd h (by decide)) (fun _ => ?_)
  refine lv_aload_n hx hb d_fl_16 rfl (lv_at hl 1 rfl) ?_
  refine lv_iload hx hb d_fl_17 (lv_at hl 0 rfl) ?_
  refine lv_iload_n hx hb d_fl_19 rfl (lv_at hl 4 rfl) ?_
  refine nw_astI (i := 25) C w 0 rfl (by unfold vp_in; decide) d_fl_20 (fun H locs w => ?_)
  have w : nw_W D _ s H locs [(b, .inl (g.1, 31, .inl (upd (upd (upd (upd (upd (upd (fun _ => 0) 20 4) 21 4) 22 4) 23 4) 24 4) 25 4)))] := w
  refine lv_iinc (v := 26) (lv' := [(4, .int 26), (0, .ref b), (1, .int 20), (2, .int 31), (3, .int 4)]) hx hb d_fl_21 hl (k := 0) rfl (by decide) (by decide) rfl (fun ls hl => ?_)
  refine lv_goto (tgt := 10) hx hb d_fl_24 (by decide) ?_
  refine lv_iload hx hb d_fl_10 (lv_at hl 0 rfl) ?_
  refine lv_iload_n hx hb d_fl_12 rfl (lv_at hl 3 rfl) ?_
  refine lv_icmp_ge (tgt := 27) hx hb d_fl_13 (by decide) (fun h => absurd h (by decide)) (fun _ => ?_)
  refine lv_aload_n hx hb d_fl_16 rfl (lv_at hl 1 rfl) ?_
  refine lv_iload hx hb d_fl_17 (lv_at hl 0 rfl) ?_
  refine lv_iload_n hx hb d_fl_19 rfl (lv_at hl 4 rfl) ?_
  refine nw_astI (i := 26) C w 0 rfl (by unfold vp_in; decide) d_fl_20 (fun H locs w => ?_)
  have w : nw_W D _ s H locs [(b, .inl (g.1, 31, .inl (upd (upd (upd (upd (upd (upd (upd (fun _ => 0) 20 4) 21 4) 22 4) 23 4) 24 4) 25 4) 26 4)))] := w
  refine lv_iinc (v := 27) (lv' := [(4, .int 27), (0, .ref b), (1, .int 20), (2, .int 31), (3, .int 4)]) hx hb d_fl_21 hl (k := 0) rfl (by decide) (by decide) rfl (fun ls hl => ?_)
  refine lv_goto (tgt := 10) hx hb d_fl_24 (by decide) ?_
  refine lv_iload hx hb d_fl_10 (lv_at hl 0 rfl) ?_
  refine lv_iload_n hx hb d_fl_12 rfl (lv_at hl 3 rfl) ?_
  refine lv_icmp_ge (tgt := 27) hx hb d_fl_13 (by decide) (fun h => absurd h (by decide)) (fun _ => ?_)
  refine lv_aload_n hx hb d_fl_16 rfl (lv_at hl 1 rfl) ?_
  refine lv_iload hx hb d_fl_17 (lv_at hl 0 rfl) ?_
  refine lv_iload_n hx hb d_fl_19 rfl (lv_at hl 4 rfl) ?_
  refine nw_astI (i := 27) C w 0 rfl (by unfold vp_in; decide) d_fl_20 (fun H locs w => ?_)
  have w : nw_W D _ s H locs [(b, .inl (g.1, 31, .inl (upd (upd (upd (upd (upd (upd (upd (upd (fun _ => 0) 20 4) 21 4) 22 4) 23 4) 24 4) 25 4) 26 4) 27 4)))] := w
  refine lv_iinc (v := 28) (lv' := [(4, .int 28), (0, .ref b), (1, .int 20), (2, .int 31), (3, .int 4)]) hx hb d_fl_21 hl (k := 0) rfl (by decide) (by decide) rfl (fun ls hl => ?_)
  refine lv_goto (tgt := 10) hx hb d_fl_24 (by decide) ?_
  refine lv_iload hx hb d_fl_10 (lv_at hl 0 rfl) ?_
  refine lv_iload_n hx hb d_fl_12 rfl (lv_at hl 3 rfl) ?_
  refine lv_icmp_ge (tgt := 27) hx hb d_fl_13 (by decide) (fun h => absurd h (by decide)) (fun _ => ?_)
  refine lv_aload_n hx hb d_fl_16 rfl (lv_at hl 1 rfl) ?_
  refine lv_iload hx hb d_fl_17 (lv_at hl 0 rfl) ?_
  refine lv_iload_n hx hb d_fl_19 rfl (lv_at hl 4 rfl) ?_
  refine nw_astI (i := 28) C w 0 rfl (by unfold vp_in; decide) d_fl_20 (fun H locs w => ?_)
  have w : nw_W D _ s H locs [(b, .inl (g.1, 31, .inl (upd (upd (upd (upd (upd (upd (upd (upd (upd (fun _ => 0) 20 4) 21 4) 22 4) 23 4) 24 4) 25 4) 26 4) 27 4) 28 4)))] := w
  refine lv_iinc (v := 29) (lv' := [(4, .int 29), (0, .ref b), (1, .int 20), (2, .int 31), (3, .int 4)]) hx hb d_fl_21 hl (k := 0) rfl (by decide) (by decide) rfl (fun ls hl => ?_)
  refine lv_goto (tgt := 10) hx hb d_fl_24 (by decide) ?_
  refine lv_iload hx hb d_fl_10 (lv_at hl 0 rfl) ?_
  refine lv_iload_n hx hb d_fl_12 rfl (lv_at hl 3 rfl) ?_
  refine lv_icmp_ge (tgt := 27) hx hb d_fl_13 (by decide) (fun h => absurd h (by decide)) (fun _ => ?_)
  refine lv_aload_n hx hb d_fl_16 rfl (lv_at hl 1 rfl) ?_
  refine lv_iload hx hb d_fl_17 (lv_at hl 0 rfl) ?_
  refine lv_iload_n hx hb d_fl_19 rfl (lv_at hl 4 rfl) ?_
  refine nw_astI (i := 29) C w 0 rfl (by unfold vp_in; decide) d_fl_20 (fun H locs w => ?_)
  have w : nw_W D _ s H locs [(b, .inl (g.1, 31, .inl (upd (upd (upd (upd (upd (upd (upd (upd (upd (upd (fun _ => 0) 20 4) 21 4) 22 4) 23 4) 24 4) 25 4) 26 4) 27 4) 28 4) 29 4)))] := w
  refine lv_iinc (v := 30) (lv' := [(4, .int 30), (0, .ref b), (1, .int 20), (2, .int 31), (3, .int 4)]) hx hb d_fl_21 hl (k := 0) rfl (by decide) (by decide) rfl (fun ls hl => ?_)
  refine lv_goto (tgt := 10) hx hb d_fl_24 (by decide) ?_
  refine lv_iload hx hb d_fl_10 (lv_at hl 0 rfl) ?_
  refine lv_iload_n hx hb d_fl_12 rfl (lv_at hl 3 rfl) ?_
  refine lv_icmp_ge (tgt := 27) hx hb d_fl_13 (by decide) (fun h => absurd h (by decide)) (fun _ => ?_)
  refine lv_aload_n hx hb d_fl_16 rfl (lv_at hl 1 rfl) ?_
  refine lv_iload hx hb d_fl_17 (lv_at hl 0 rfl) ?_
  refine lv_iload_n hx hb d_fl_19 rfl (lv_at hl 4 rfl) ?_
  refine nw_astI (i := 30) C w 0 rfl (by unfold vp_in; decide) d_fl_20 (fun H locs w => ?_)
  have w : nw_W D _ s H locs [(b, .inl (g.1, 31, .inl (upd (upd (upd (upd (upd (upd (upd (upd (upd (upd (upd (fun _ => 0) 20 4) 21 4) 22 4) 23 4) 24 4) 25 4) 26 4) 27 4) 28 4) 29 4) 30 4)))] := w
  refine lv_iinc (v := 31) (lv' := [(4, .int 31), (0, .ref b), (1, .int 20), (2, .int 31), (3, .int 4)]) hx hb d_fl_21 hl (k := 0) rfl (by decide) (by decide) rfl (fun ls hl => ?_)
  refine lv_goto (tgt := 10) hx hb d_fl_24 (by decide) ?_
  refine lv_iload hx hb d_fl_10 (lv_at hl 0 rfl) ?_
  refine lv_iload_n hx hb d_fl_12 rfl (lv_at hl 3 rfl) ?_
  refine lv_icmp_ge (tgt := 27) hx hb d_fl_13 (by decide) (fun _ => ?_) (fun h => absurd (by decide) h)
  exact W.vret hx hb hr (fun t ht _ => ⟨⟨0, rfl, trivial, show va_P D am_cl [(b, .inl (g.1, 31, .inl nw_fl))] t.heap by rw [ht]; exact w.1⟩, w.2.2.F ht⟩) w.2.2.2.2 d_fl_27 hlk
theorem nw_fill {p : Program} {l : Launch} {e : Env} {R : Room} {s : State} {m : MethodId} {args : Array Value} {below : List Frame} {meth : Method} {c : Code} {H : Heap} {locs : List Loc} {cells slots pc : Nat} {ls : Array Slot} {Q : State → Prop} {D : va_G} {g : am_G} {A : Nat → Prop} {own : String} {cc : ByteArray} {nL index a : Nat} {x0 x2 x3 x4 : Nat × va_E} {st0 : List Value} (C : nw_C own cc nL p s m args c D g A) (w : nw_W D A s H locs [x0, (a, .inl (g.1, 31, .inl (fun _ => 0))), x2, x3, x4]) (hst : st0 = [.int 4, .int 31, .int 20, .ref a])
    (hlink : Cond.methodLink own index ⟨"java/util/Arrays", "fill", "([IIII)V"⟩ ∈ am_T) (hstt : Cond.static ⟨"java/util/Arrays", "fill", "([IIII)V"⟩ ∈ am_T) (hF : 2 ≤ R.frames) (hL : 64 ≤ R.locals) (hR : cells ≤ R.cells ∧ slots ≤ R.slots) (hsz : ls.size = nL) (hd : decode cc pc = .ok (.invokestatic index, 3))
    (kk : ∀ (H1 : Heap) (locs1 : List Loc), nw_W D A s H1 locs1 [x0, (a, .inl (g.1, 31, .inl nw_fl)), x2, x3, x4] → W p l e R s m args below meth c H1 locs1 cells slots Q (F0 m (pc + 3) ls [])) : W p l e R s m args below meth c H locs cells slots Q (F0 m pc ls st0) := by
  obtain ⟨hx, hcd, hml, hown, hts, hK, hA⟩ := C
  obtain ⟨hP, hD, hS⟩ := w
  have hFc := va_free (wc := [(a, .inl (g.1, 31, .inl (fun _ => 0)))]) hD hS hA [1] rfl
  have hPc := hP.sub (ws' := [(a, .inl (g.1, 31, .inl (fun _ => 0)))]) [1] rfl
  subst hst
  refine va_callv (va_runS (As := [.ref a, .int 20, .int 31, .int 4]) (nL := nL) (n := 4) (rest := []) ⟨hx, hcd, hml, hown, hts⟩ (nw_flM l D g a H.size) ⟨callB_of 4 hts (am_goodIn nw_flC) rfl rfl rfl (hts _ nw_rgI) (hts _ hlink) (by decide +kernel) ⟨hF, hL⟩, hts _ hstt⟩ ⟨fun a U g mk q => by obtain ⟨q0, q1, qP, qK⟩ := q; exact ⟨q0, q1, qP, va_K.moved (u := U) (U := U.calling g mk a) (Vm.Alike.refl U.vm) qK⟩, fun U hU hW => ⟨rfl, by rw [hU], by rw [hU]; exact hPc, va_K.moved hW.alike hK⟩⟩ rfl rfl hsz rfl (lv_room (Nat.le_of_ble_eq_true rfl)) hd hR) hS (fun q _ h => hFc q h) hFc (fun _ t H1 locs1 ht hvm _ hB hz1 hk1 hS1 => ?_)
  rw [ht] at hB
  have hD1 : va_D (va_A [(a, .inl (g.1, 31, .inl (fun _ => 0)))] H.size) [(a, .inl (g.1, 31, .inl nw_fl))] := by
    refine ⟨fun i j p q hp hq e => ?_, fun k q hq => ?_⟩
    · have hi : i < 1 := (List.getElem?_eq_some_iff.mp hp).1
      have hj : j < 1 := (List.getElem?_eq_some_iff.mp hq).1
      omega
    · have hk : k < 1 := (List.getElem?_eq_some_iff.mp hq).1
      obtain rfl : k = 0 := by omega
      cases hq
      exact Or.inl ⟨0, _, rfl⟩
  obtain ⟨hP2, hD2⟩ := va_join (wr := [x0, x2, x3, x4]) (w1 := [(a, .inl (g.1, 31, .inl nw_fl))]) hP hD [1] [0, 2, 3, 4] rfl rfl (by decide) (by decide) hk1 hFc hB hD1
  exact kk H1 locs1 ⟨hP2.sub (ws' := [x0, (a, .inl (g.1, 31, .inl nw_fl)), x2, x3, x4]) [0, 4, 1, 2, 3] rfl, hD2.sub (ws' := [x0, (a, .inl (g.1, 31, .inl nw_fl)), x2, x3, x4]) [0, 4, 1, 2, 3] (by decide) rfl, hS1⟩
theorem d_Hole_init_0 : decode prog_5_method_1_code 0 = .ok (.aload_n 0, 1) := by decide +kernel
theorem d_Hole_init_1 : decode prog_5_method_1_code 1 = .ok (.invokespecial 3, 3) := by decide +kernel
theorem d_Hole_init_4 : decode prog_5_method_1_code 4 = .ok (.aload_n 0, 1) := by decide +kernel
theorem d_Hole_init_5 : decode prog_5_method_1_code 5 = .ok (.bipush 31, 2) := by decide +kernel
theorem d_Hole_init_7 : decode prog_5_method_1_code 7 = .ok (.newarray .int, 2) := by decide +kernel
theorem d_Hole_init_9 : decode prog_5_method_1_code 9 = .ok (.putfield 11, 3) := by decide +kernel
theorem d_Hole_init_12 : decode prog_5_method_1_code 12 = .ok (.aload_n 0, 1) := by decide +kernel
theorem d_Hole_init_13 : decode prog_5_method_1_code 13 = .ok (.bipush 6, 2) := by decide +kernel
theorem d_Hole_init_15 : decode prog_5_method_1_code 15 = .ok (.newarray .int, 2) := by decide +kernel
theorem d_Hole_init_17 : decode prog_5_method_1_code 17 = .ok (.putfield 15, 3) := by decide +kernel
theorem d_Hole_init_20 : decode prog_5_method_1_code 20 = .ok (.aload_n 0, 1) := by decide +kernel
theorem d_Hole_init_21 : decode prog_5_method_1_code 21 = .ok (.bipush 6, 2) := by decide +kernel
theorem d_Hole_init_23 : decode prog_5_method_1_code 23 = .ok (.newarray .int, 2) := by decide +kernel
theorem d_Hole_init_25 : decode prog_5_method_1_code 25 = .ok (.putfield 18, 3) := by decide +kernel
theorem d_Hole_init_28 : decode prog_5_method_1_code 28 = .ok (.aload_n 0, 1) := by decide +kernel
theorem d_Hole_init_29 : decode prog_5_method_1_code 29 = .ok (.bipush 6, 2) := by decide +kernel
theorem d_Hole_init_31 : decode prog_5_method_1_code 31 = .ok (.newarray .int, 2) := by decide +kernel
theorem d_Hole_init_33 : decode prog_5_method_1_code 33 = .ok (.putfield 21, 3) := by decide +kernel
theorem d_Hole_init_36 : decode prog_5_method_1_code 36 = .ok (.aload_n 0, 1) := by decide +kernel
theorem d_Hole_init_37 : decode prog_5_method_1_code 37 = .ok (.iconst 0, 1) := by decide +kernel
theorem d_Hole_init_38 : decode prog_5_method_1_code 38 = .ok (.putfield 24, 3) := by decide +kernel
theorem d_Hole_init_41 : decode prog_5_method_1_code 41 = .ok (.aload_n 0, 1) := by decide +kernel
theorem d_Hole_init_42 : decode prog_5_method_1_code 42 = .ok (.bipush 20, 2) := by decide +kernel
theorem d_Hole_init_44 : decode prog_5_method_1_code 44 = .ok (.putfield 28, 3) := by decide +kernel
theorem d_Hole_init_47 : decode prog_5_method_1_code 47 = .ok (.aload_n 0, 1) := by decide +kernel
theorem d_Hole_init_48 : decode prog_5_method_1_code 48 = .ok (.iconst 0, 1) := by decide +kernel
theorem d_Hole_init_49 : decode prog_5_method_1_code 49 = .ok (.putfield 31, 3) := by decide +kernel
theorem d_Hole_init_52 : decode prog_5_method_1_code 52 = .ok (.aload_n 0, 1) := by decide +kernel
theorem d_Hole_init_53 : decode prog_5_method_1_code 53 = .ok (.bipush 6, 2) := by decide +kernel
theorem d_Hole_init_55 : decode prog_5_method_1_code 55 = .ok (.putfield 34, 3) := by decide +kernel
theorem d_Hole_init_58 : decode prog_5_method_1_code 58 = .ok (.aload_n 0, 1) := by decide +kernel
theorem d_Hole_init_59 : decode prog_5_method_1_code 59 = .ok (.iconst 3, 1) := by decide +kernel
theorem d_Hole_init_60 : decode prog_5_method_1_code 60 = .ok (.putfield 37, 3) := by decide +kernel
theorem d_Hole_init_63 : decode prog_5_method_1_code 63 = .ok (.aload_n 0, 1) := by decide +kernel
theorem d_Hole_init_64 : decode prog_5_method_1_code 64 = .ok (.iconst 3, 1) := by decide +kernel
theorem d_Hole_init_65 : decode prog_5_method_1_code 65 = .ok (.putfield 40, 3) := by decide +kernel
theorem d_Hole_init_68 : decode prog_5_method_1_code 68 = .ok (.aload_n 0, 1) := by decide +kernel
theorem d_Hole_init_69 : decode prog_5_method_1_code 69 = .ok (.getfield 11, 3) := by decide +kernel
theorem d_Hole_init_72 : decode prog_5_method_1_code 72 = .ok (.bipush 20, 2) := by decide +kernel
theorem d_Hole_init_74 : decode prog_5_method_1_code 74 = .ok (.bipush 31, 2) := by decide +kernel
theorem d_Hole_init_76 : decode prog_5_method_1_code 76 = .ok (.iconst 4, 1) := by decide +kernel
theorem d_Hole_init_77 : decode prog_5_method_1_code 77 = .ok (.invokestatic 43, 3) := by decide +kernel
theorem d_Hole_init_80 : decode prog_5_method_1_code 80 = .ok (.return_, 1) := by decide +kernel
def W1_Hole_init (g : am_G) (b : Nat) (qs : Nat → Nat) : va_W := [(b, .inr (1, [.ref (qs 0), .ref (qs 1), .ref (qs 2), .ref (qs 3), .int 0, .int 20, .int 0, .int 6, .int 3, .int 3])), ((qs 0), .inl (g.1, 31, .inl nw_fl)), ((qs 1), .inl (g.1, 6, .inl (fun _ => 0))), ((qs 2), .inl (g.1, 6, .inl (fun _ => 0))), ((qs 3), .inl (g.1, 6, .inl (fun _ => 0)))]
abbrev rm_Hole_init : Room := { frames := 3, cells := 4, slots := 49, locals := 120 }
set_option maxRecDepth 100000 in
set_option maxHeartbeats 4000000 in
theorem c_Hole_init : nw_M (fun _ => True) ⟨"WhichClub$Hole", "<init>", "()V"⟩ prog_5_method_1_code 1 rm_Hole_init [] (.inr (1, [.null, .null, .null, .null, .int 0, .int 0, .int 0, .int 0, .int 0, .int 0])) (W1_Hole_init) := by
  refine nw_enter (by decide) rfl (fun _ => (Nat.le_of_ble_eq_true rfl)) (fun p l e s m args below meth c D g b ls H locs C hin hr hlk w hl hX => ?_)
  have hx := C.1
  have hb := C.2.1
  generalize hA : va_A [(b, (.inr (1, [.null, .null, .null, .null, .int 0, .int 0, .int 0, .int 0, .int 0, .int 0]) : va_E))] s.heap.size = A at C w
  have hl : lv_has ls 1 [(0, .ref b)] := hl
  refine lv_aload_n hx hb d_Hole_init_0 rfl (lv_at hl 0 rfl) ?_
  refine nw_objInit C wn_115 wn_108 wn_109 hl.1 d_Hole_init_1 (Nat.le_of_ble_eq_true rfl) (Nat.le_of_ble_eq_true rfl) ?_
  refine lv_aload_n hx hb d_Hole_init_4 rfl (lv_at hl 0 rfl) ?_
  refine lv_bipush (v := 31) hx hb d_Hole_init_5 (by decide) ?_
  refine nw_newI (N := 31) C w (by decide) (by decide) (by decide) (Nat.le_of_ble_eq_true rfl) (Nat.le_of_ble_eq_true rfl) d_Hole_init_7 (fun q0 H w => ?_)
  have w : nw_W D A s H locs [(b, .inr (1, [.null, .null, .null, .null, .int 0, .int 0, .int 0, .int 0, .int 0, .int 0])), (q0, .inl (g.1, 31, .inl (fun _ => 0)))] := w
  refine W.widen (k := 1) (n := 31) (Nat.le_of_ble_eq_true rfl) (Nat.le_of_ble_eq_true rfl) ?_
  refine nw_putF C w hin 0 rfl rfl 0 (by decide) w_122 rfl (by first | rfl | decide) (by first | rfl | decide) (Nat.le_of_ble_eq_true rfl) d_Hole_init_9 (fun H locs w => ?_)
  have w : nw_W D A s H locs [(b, .inr (1, [.ref q0, .null, .null, .null, .int 0, .int 0, .int 0, .int 0, .int 0, .int 0])), (q0, .inl (g.1, 31, .inl (fun _ => 0)))] := w
  refine lv_aload_n hx hb d_Hole_init_12 rfl (lv_at hl 0 rfl) ?_
  refine lv_bipush (v := 6) hx hb d_Hole_init_13 (by decide) ?_
  refine nw_newI (N := 6) C w (by decide) (by decide) (by decide) (Nat.le_of_ble_eq_true rfl) (Nat.le_of_ble_eq_true rfl) d_Hole_init_15 (fun q1 H w => ?_)
  have w : nw_W D A s H locs [(b, .inr (1, [.ref q0, .null, .null, .null, .int 0, .int 0, .int 0, .int 0, .int 0, .int 0])), (q0, .inl (g.1, 31, .inl (fun _ => 0))), (q1, .inl (g.1, 6, .inl (fun _ => 0)))] := w
  refine W.widen (k := 2) (n := 37) (Nat.le_of_ble_eq_true rfl) (Nat.le_of_ble_eq_true rfl) ?_
  refine nw_putF C w hin 0 rfl rfl 1 (by decide) w_123 rfl (by first | rfl | decide) (by first | rfl | decide) (Nat.le_of_ble_eq_true rfl) d_Hole_init_17 (fun H locs w => ?_)
  have w : nw_W D A s H locs [(b, .inr (1, [.ref q0, .ref q1, .null, .null, .int 0, .int 0, .int 0, .int 0, .int 0, .int 0])), (q0, .inl (g.1, 31, .inl (fun _ => 0))), (q1, .inl (g.1, 6, .inl (fun _ => 0)))] := w
  refine lv_aload_n hx hb d_Hole_init_20 rfl (lv_at hl 0 rfl) ?_
  refine lv_bipush (v := 6) hx hb d_Hole_init_21 (by decide) ?_
  refine nw_newI (N := 6) C w (by decide) (by decide) (by decide) (Nat.le_of_ble_eq_true rfl) (Nat.le_of_ble_eq_true rfl) d_Hole_init_23 (fun q2 H w => ?_)
  have w : nw_W D A s H locs [(b, .inr (1, [.ref q0, .ref q1, .null, .null, .int 0, .int 0, .int 0, .int 0, .int 0, .int 0])), (q0, .inl (g.1, 31, .inl (fun _ => 0))), (q1, .inl (g.1, 6, .inl (fun _ => 0))), (q2, .inl (g.1, 6, .inl (fun _ => 0)))] := w
  refine W.widen (k := 3) (n := 43) (Nat.le_of_ble_eq_true rfl) (Nat.le_of_ble_eq_true rfl) ?_
  refine nw_putF C w hin 0 rfl rfl 2 (by decide) w_124 rfl (by first | rfl | decide) (by first | rfl | decide) (Nat.le_of_ble_eq_true rfl) d_Hole_init_25 (fun H locs w => ?_)
  have w : nw_W D A s H locs [(b, .inr (1, [.ref q0, .ref q1, .ref q2, .null, .int 0, .int 0, .int 0, .int 0, .int 0, .int 0])), (q0, .inl (g.1, 31, .inl (fun _ => 0))), (q1, .inl (g.1, 6, .inl (fun _ => 0))), (q2, .inl (g.1, 6, .inl (fun _ => 0)))] := w
  refine lv_aload_n hx hb d_Hole_init_28 rfl (lv_at hl 0 rfl) ?_
  refine lv_bipush (v := 6) hx hb d_Hole_init_29 (by decide) ?_
  refine nw_newI (N := 6) C w (by decide) (by decide) (by decide) (Nat.le_of_ble_eq_true rfl) (Nat.le_of_ble_eq_true rfl) d_Hole_init_31 (fun q3 H w => ?_)
  have w : nw_W D A s H locs [(b, .inr (1, [.ref q0, .ref q1, .ref q2, .null, .int 0, .int 0, .int 0, .int 0, .int 0, .int 0])), (q0, .inl (g.1, 31, .inl (fun _ => 0))), (q1, .inl (g.1, 6, .inl (fun _ => 0))), (q2, .inl (g.1, 6, .inl (fun _ => 0))), (q3, .inl (g.1, 6, .inl (fun _ => 0)))] := w
  refine W.widen (k := 4) (n := 49) (Nat.le_of_ble_eq_true rfl) (Nat.le_of_ble_eq_true rfl) ?_
  refine nw_putF C w hin 0 rfl rfl 3 (by decide) w_125 rfl (by first | rfl | decide) (by first | rfl | decide) (Nat.le_of_ble_eq_true rfl) d_Hole_init_33 (fun H locs w => ?_)
  have w : nw_W D A s H locs [(b, .inr (1, [.ref q0, .ref q1, .ref q2, .ref q3, .int 0, .int 0, .int 0, .int 0, .int 0, .int 0])), (q0, .inl (g.1, 31, .inl (fun _ => 0))), (q1, .inl (g.1, 6, .inl (fun _ => 0))), (q2, .inl (g.1, 6, .inl (fun _ => 0))), (q3, .inl (g.1, 6, .inl (fun _ => 0)))] := w
  refine lv_aload_n hx hb d_Hole_init_36 rfl (lv_at hl 0 rfl) ?_
  refine lv_iconst (v := 0) hx hb d_Hole_init_37 (by decide) ?_
  refine nw_put C w 0 rfl rfl 4 (by decide) w_126 rfl (by first | rfl | decide) (by first | rfl | decide) (Nat.le_of_ble_eq_true rfl) d_Hole_init_38 (fun H locs w => ?_)
  have w : nw_W D A s H locs [(b, .inr (1, [.ref q0, .ref q1, .ref q2, .ref q3, .int 0, .int 0, .int 0, .int 0, .int 0, .int 0])), (q0, .inl (g.1, 31, .inl (fun _ => 0))), (q1, .inl (g.1, 6, .inl (fun _ => 0))), (q2, .inl (g.1, 6, .inl (fun _ => 0))), (q3, .inl (g.1, 6, .inl (fun _ => 0)))] := w
  refine lv_aload_n hx hb d_Hole_init_41 rfl (lv_at hl 0 rfl) ?_
  refine lv_bipush (v := 20) hx hb d_Hole_init_42 (by decide) ?_
  refine nw_put C w 0 rfl rfl 5 (by decide) w_127 rfl (by first | rfl | decide) (by first | rfl | decide) (Nat.le_of_ble_eq_true rfl) d_Hole_init_44 (fun H locs w => ?_)
  have w : nw_W D A s H locs [(b, .inr (1, [.ref q0, .ref q1, .ref q2, .ref q3, .int 0, .int 20, .int 0, .int 0, .int 0, .int 0])), (q0, .inl (g.1, 31, .inl (fun _ => 0))), (q1, .inl (g.1, 6, .inl (fun _ => 0))), (q2, .inl (g.1, 6, .inl (fun _ => 0))), (q3, .inl (g.1, 6, .inl (fun _ => 0)))] := w
  refine lv_aload_n hx hb d_Hole_init_47 rfl (lv_at hl 0 rfl) ?_
  refine lv_iconst (v := 0) hx hb d_Hole_init_48 (by decide) ?_
  refine nw_put C w 0 rfl rfl 6 (by decide) w_128 rfl (by first | rfl | decide) (by first | rfl | decide) (Nat.le_of_ble_eq_true rfl) d_Hole_init_49 (fun H locs w => ?_)
  have w : nw_W D A s H locs [(b, .inr (1, [.ref q0, .ref q1, .ref q2, .ref q3, .int 0, .int 20, .int 0, .int 0, .int 0, .int 0])), (q0, .inl (g.1, 31, .inl (fun _ => 0))), (q1, .inl (g.1, 6, .inl (fun _ => 0))), (q2, .inl (g.1, 6, .inl (fun _ => 0))), (q3, .inl (g.1, 6, .inl (fun _ => 0)))] := w
  refine lv_aload_n hx hb d_Hole_init_52 rfl (lv_at hl 0 rfl) ?_
  refine lv_bipush (v := 6) hx hb d_Hole_init_53 (by decide) ?_
  refine nw_put C w 0 rfl rfl 7 (by decide) w_129 rfl (by first | rfl | decide) (by first | rfl | decide) (Nat.le_of_ble_eq_true rfl) d_Hole_init_55 (fun H locs w => ?_)
  have w : nw_W D A s H locs [(b, .inr (1, [.ref q0, .ref q1, .ref q2, .ref q3, .int 0, .int 20, .int 0, .int 6, .int 0, .int 0])), (q0, .inl (g.1, 31, .inl (fun _ => 0))), (q1, .inl (g.1, 6, .inl (fun _ => 0))), (q2, .inl (g.1, 6, .inl (fun _ => 0))), (q3, .inl (g.1, 6, .inl (fun _ => 0)))] := w
  refine lv_aload_n hx hb d_Hole_init_58 rfl (lv_at hl 0 rfl) ?_
  refine lv_iconst (v := 3) hx hb d_Hole_init_59 (by decide) ?_
  refine nw_put C w 0 rfl rfl 8 (by decide) w_130 rfl (by first | rfl | decide) (by first | rfl | decide) (Nat.le_of_ble_eq_true rfl) d_Hole_init_60 (fun H locs w => ?_)
  have w : nw_W D A s H locs [(b, .inr (1, [.ref q0, .ref q1, .ref q2, .ref q3, .int 0, .int 20, .int 0, .int 6, .int 3, .int 0])), (q0, .inl (g.1, 31, .inl (fun _ => 0))), (q1, .inl (g.1, 6, .inl (fun _ => 0))), (q2, .inl (g.1, 6, .inl (fun _ => 0))), (q3, .inl (g.1, 6, .inl (fun _ => 0)))] := w
  refine lv_aload_n hx hb d_Hole_init_63 rfl (lv_at hl 0 rfl) ?_
  refine lv_iconst (v := 3) hx hb d_Hole_init_64 (by decide) ?_
  refine nw_put C w 0 rfl rfl 9 (by decide) w_131 rfl (by first | rfl | decide) (by first | rfl | decide) (Nat.le_of_ble_eq_true rfl) d_Hole_init_65 (fun H locs w => ?_)
  have w : nw_W D A s H locs [(b, .inr (1, [.ref q0, .ref q1, .ref q2, .ref q3, .int 0, .int 20, .int 0, .int 6, .int 3, .int 3])), (q0, .inl (g.1, 31, .inl (fun _ => 0))), (q1, .inl (g.1, 6, .inl (fun _ => 0))), (q2, .inl (g.1, 6, .inl (fun _ => 0))), (q3, .inl (g.1, 6, .inl (fun _ => 0)))] := w
  refine lv_aload_n hx hb d_Hole_init_68 rfl (lv_at hl 0 rfl) ?_
  refine nw_get C w 0 rfl rfl 0 (by decide) w_122 rfl d_Hole_init_69 ?_
  refine lv_bipush (v := 20) hx hb d_Hole_init_72 (by decide) ?_
  refine lv_bipush (v := 31) hx hb d_Hole_init_74 (by decide) ?_
  refine lv_iconst (v := 4) hx hb d_Hole_init_76 (by decide) ?_
  refine nw_fill C w rfl wn_116 wn_117 (Nat.le_of_ble_eq_true rfl) (Nat.le_of_ble_eq_true rfl) ⟨(Nat.le_of_ble_eq_true rfl), (Nat.le_of_ble_eq_true rfl)⟩ hl.1 d_Hole_init_77 (fun H locs w => ?_)
  have w : nw_W D A s H locs [(b, .inr (1, [.ref q0, .ref q1, .ref q2, .ref q3, .int 0, .int 20, .int 0, .int 6, .int 3, .int 3])), (q0, .inl (g.1, 31, .inl nw_fl)), (q1, .inl (g.1, 6, .inl (fun _ => 0))), (q2, .inl (g.1, 6, .inl (fun _ => 0))), (q3, .inl (g.1, 6, .inl (fun _ => 0)))] := w
  refine nw_ret (rm := rm_Hole_init) (W1 := W1_Hole_init) hA C hr hlk (fun i => ([q0, q1, q2, q3] : List Nat).getD i 0) w ?_ ?_ d_Hole_init_80 <;> exact Nat.le_of_ble_eq_true rfl
theorem pd_Hole : "WhichClub$Hole" ≠ "java/lang/invoke/MethodHandle" ∧ "WhichClub$Hole" ≠ "java/lang/invoke/VarHandle" ∧ (parseMethodDescriptor "()V").map (fun d => d.parameters.length) = some 0 := by decide +kernel
