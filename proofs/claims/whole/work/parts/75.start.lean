/-! the start: both objects are made; the claim out of the loop (by gen75.py) -/
theorem lx_nx_1 : Cond.classLink R_law 7 "WhichClub" ∈ am_T := am_in 102 (by decide +kernel) (by decide +kernel)
theorem lx_nx_2 : Cond.instantiable "WhichClub" 9 ∈ am_T := am_in 103 (by decide +kernel) (by decide +kernel)
theorem lx_nx_3 : Cond.initialized "WhichClub" ∈ am_T := am_in 83 (by decide +kernel) (by decide +kernel)
theorem lx_nx_4 : Cond.methodLink R_law 9 (⟨"WhichClub", "<init>", "()V"⟩ : MethodName) ∈ am_T := am_in 104 (by decide +kernel) (by decide +kernel)
theorem lx_nx_5 : Cond.instanceMethod (⟨"WhichClub", "<init>", "()V"⟩ : MethodName) ∈ am_T := am_in 105 (by decide +kernel) (by decide +kernel)
theorem lx_nx_6 : Cond.code (⟨"WhichClub", "<init>", "()V"⟩ : MethodName) prog_1_method_1_code 2 none ∈ am_T := am_in 106 (by decide +kernel) (by decide +kernel)
theorem lx_nx_7 : (⟨"WhichClub", "<init>", "()V"⟩ : MethodName).cls ≠ "java/lang/invoke/MethodHandle" ∧ (⟨"WhichClub", "<init>", "()V"⟩ : MethodName).cls ≠ "java/lang/invoke/VarHandle" ∧ (parseMethodDescriptor (⟨"WhichClub", "<init>", "()V"⟩ : MethodName).desc).map (fun d => d.parameters.length) = some ([] : List Value).length := ⟨by decide +kernel, by decide +kernel, by decide +kernel⟩
theorem lx_nx_8 : ∀ j, j < 9 → defaultValue (am_ty 0 j) = vp_V [.null, .null, .null, .null, .null, .null, .null, .null, .null] j := df_Club
theorem lx_nm_1 : Cond.classLink R_law 10 "WhichClubModel" ∈ am_T := am_in 1312 (by decide +kernel) (by decide +kernel)
theorem lx_nm_2 : Cond.instantiable "WhichClubModel" 36 ∈ am_T := am_in 1313 (by decide +kernel) (by decide +kernel)
theorem lx_nm_3 : Cond.initialized "WhichClubModel" ∈ am_T := am_in 94 (by decide +kernel) (by decide +kernel)
theorem lx_nm_4 : Cond.methodLink R_law 12 (⟨"WhichClubModel", "<init>", "()V"⟩ : MethodName) ∈ am_T := am_in 1314 (by decide +kernel) (by decide +kernel)
theorem lx_nm_5 : Cond.instanceMethod (⟨"WhichClubModel", "<init>", "()V"⟩ : MethodName) ∈ am_T := am_in 1315 (by decide +kernel) (by decide +kernel)
theorem lx_nm_6 : Cond.code (⟨"WhichClubModel", "<init>", "()V"⟩ : MethodName) prog_12_method_3_code 2 none ∈ am_T := am_in 1316 (by decide +kernel) (by decide +kernel)
theorem lx_nm_7 : (⟨"WhichClubModel", "<init>", "()V"⟩ : MethodName).cls ≠ "java/lang/invoke/MethodHandle" ∧ (⟨"WhichClubModel", "<init>", "()V"⟩ : MethodName).cls ≠ "java/lang/invoke/VarHandle" ∧ (parseMethodDescriptor (⟨"WhichClubModel", "<init>", "()V"⟩ : MethodName).desc).map (fun d => d.parameters.length) = some ([] : List Value).length := ⟨by decide +kernel, by decide +kernel, by decide +kernel⟩
theorem lx_nm_8 : ∀ j, j < 36 → defaultValue (am_ty 10 j) = vp_V [.null, .null, .null, .null, .int 0, .int 0, .int 0, .null, .int 0, .null, .int 0, .int 0, .int 0, .int 0, .int 0, .int 0, .null, .null, .null, .null, .null, .int 0, .int 0, .null, .int 0, .null, .int 0, .null, .null, .int 0, .int 0, .int 0, .null, .null, .null, .null] j := df_Model
theorem lx_Dl {A : Nat → Prop} {a b : va_W} (hD : va_D A (a ++ b)) : va_D A a := by
  have key : ∀ (i : Nat) (q : Nat × va_E), a[i]? = some q → (a ++ b)[i]? = some q := fun i q h => by
    rw [List.getElem?_append_left (List.getElem?_eq_some_iff.mp h).1]
    exact h
  exact ⟨fun i j p q hp hq h => hD.1 i j p q (key i p hp) (key j q hq) h, fun k q hq => hD.2 k q (key k q hq)⟩
theorem lx_kr {a b : va_W} (i : Nat) (q : Nat × va_E) (h : b[i]? = some q) : (a ++ b)[a.length + i]? = some q := by
  rw [List.getElem?_append_right (Nat.le_add_right _ _), Nat.add_sub_cancel_left]
  exact h
theorem lx_Dr {A : Nat → Prop} {a b : va_W} (hD : va_D A (a ++ b)) : va_D A b :=
  ⟨fun i j p q hp hq h => Nat.add_left_cancel (hD.1 (a.length + i) (a.length + j) p q (lx_kr i p hp) (lx_kr j q hq) h), fun k q hq => hD.2 _ q (lx_kr k q hq)⟩
theorem lx_Pl {D : va_G} {cl : List vw_C} {a b : va_W} {H : Heap} (hP : va_P D cl (a ++ b) H) : va_P D cl a H := fun k q h => hP k q (by
    rw [List.getElem?_append_left (List.getElem?_eq_some_iff.mp h).1]
    exact h)
theorem lx_Pr {D : va_G} {cl : List vw_C} {a b : va_W} {H : Heap} (hP : va_P D cl (a ++ b) H) : va_P D cl b H := fun k q h => hP _ q (lx_kr k q h)
theorem lx_inj {A : Nat → Prop} {g : am_G} {ad : Nat → Nat} {h : am_H} {sh : List am_S} (hD : va_D A (am_ws g ad h sh)) : am_I ad sh.length := by
  intro i j hi hj he
  exact hD.1 i j _ _ (am_ws_get (List.getElem?_eq_getElem hi)) (am_ws_get (List.getElem?_eq_getElem hj)) he
theorem lx_old {A : Nat → Prop} {g : am_G} {ad : Nat → Nat} {h : am_H} {sh : List am_S} (hD : va_D A (am_ws g ad h sh)) : ∀ i, i < sh.length → A (ad i) := fun i hi => hD.2 i _ (am_ws_get (List.getElem?_eq_getElem hi))
theorem lx_apart {A : Nat → Prop} {g : am_G} {ad ad2 : Nat → Nat} {h h2 : am_H} {sh sh2 : List am_S} (hD : va_D A (am_ws g ad h sh ++ am_ws g ad2 h2 sh2)) : ∀ i j, i < sh.length → j < sh2.length → ad i ≠ ad2 j := by
  intro i j hi hj he
  have e1 : (am_ws g ad h sh)[i]? = some (ad i, am_e g ad h i sh[i]) := am_ws_get (List.getElem?_eq_getElem hi)
  have e2 : (am_ws g ad2 h2 sh2)[j]? = some (ad2 j, am_e g ad2 h2 j sh2[j]) := am_ws_get (List.getElem?_eq_getElem hj)
  have hl := (List.getElem?_eq_some_iff.mp e1).1
  have := hD.1 i ((am_ws g ad h sh).length + j) _ _ (by rw [List.getElem?_append_left hl]; exact e1) (lx_kr j _ e2) he
  omega
theorem lx_tb {b n : Nat} {qs tb : Nat → Nat} (hn : n ≤ 90) : ∀ k, 100 ≤ k → k ≤ 107 → nw_ad b qs tb n k = tb k := by
  intro k h1 _
  obtain ⟨j, rfl⟩ : ∃ j, k = j + 1 := ⟨k - 1, by omega⟩
  show (if j < n then qs j else tb (j + 1)) = tb (j + 1)
  rw [if_neg (by omega)]
set_option maxHeartbeats 4000000 in
set_option maxRecDepth 100000 in
theorem whole_start {p : Program} {e : Env} {s : State} {m : MethodId} {below : List Frame} {meth : Method} {c : Code} (l : Launch) (hflags : l.flags = flags0) {b L : Nat} {xs : Nat → Int32} (hL : L ≤ 3072) (C0 : lw_At p s m meth c b L xs) : W p l e room_1 s m #[Value.ref b] below meth c s.heap [] 0 0 (lw_Z below #[Value.ref b] s) (entryFrame m ([Value.ref b] : List Value).toArray 4) := by
  obtain ⟨hx, hb, hr, hml, hown, hts, hX, hbl, hlocks, hgv⟩ := id C0
  obtain ⟨D, g, hK⟩ := lx_K hts
  obtain ⟨tb, hZ⟩ := lx_Z hgv hts
  have C : nw_C R_law code 4 p s m #[Value.ref b] c D g (fun q => s.heap.size ≤ q) := ⟨hx, hb, hml, hown, fun w hw => hts w (List.mem_filter.mp hw).1, hK, fun _ h => h⟩
  have w : nw_W D (fun q => s.heap.size ≤ q) s s.heap [] [] := ⟨fun k q h => by simp at h, ⟨fun i j p q h => by simp at h, fun k q h => by simp at h⟩, va_S.rf⟩
  have hl := lv_entry ([.ref b]) (n := 4) (Nat.le_of_ble_eq_true rfl)
  rw [lg_entry_eq]
  generalize (lg_sl ([.ref b]) ++ List.replicate (4 - (lg_sl ([.ref b])).length) Slot.unset).toArray = ls at hl ⊢
  have hl : lv_has ls 4 [(0, .ref b)] := hl
  refine nw_new C w (ci := 0) [.null, .null, .null, .null, .null, .null, .null, .null, .null] rfl lx_nx_1 lx_nx_2 lx_nx_3 lx_nx_8 (Nat.le_of_ble_eq_true rfl) (Nat.le_of_ble_eq_true rfl) lx_d_0 (fun b1 H w => ?_)
  refine lv_dup hx hb lx_d_3 rfl ?_
  refine nw_call (wr := []) (rest := [.ref b1]) (As := []) C w c_Club_init (lx_Xw (lx_X hts)) lx_Xb lx_nx_4 lx_nx_5 lx_nx_3 lx_nx_6 rfl lx_nx_7 ⟨(Nat.le_of_ble_eq_true rfl), (Nat.le_of_ble_eq_true rfl)⟩ ⟨(Nat.le_of_ble_eq_true rfl), (Nat.le_of_ble_eq_true rfl)⟩ hl.1 rfl (Nat.le_of_ble_eq_true rfl) lx_d_4 (fun qs1 H locs w => ?_)
  have w : nw_W D (fun q => s.heap.size ≤ q) s H locs (W1_Club_init g b1 qs1) := w
  refine lv_astore_n (lv' := [(1, .ref b1), (0, .ref b)]) hx hb lx_d_7 rfl hl (by decide) rfl (fun ls hl => ?_)
  refine nw_new C w (ci := 10) [.null, .null, .null, .null, .int 0, .int 0, .int 0, .null, .int 0, .null, .int 0, .int 0, .int 0, .int 0, .int 0, .int 0, .null, .null, .null, .null, .null, .int 0, .int 0, .null, .int 0, .null, .int 0, .null, .null, .int 0, .int 0, .int 0, .null, .null, .null, .null] rfl lx_nm_1 lx_nm_2 lx_nm_3 lx_nm_8 (Nat.le_of_ble_eq_true rfl) (Nat.le_of_ble_eq_true rfl) lx_d_8 (fun b2 H w => ?_)
  refine lv_dup hx hb lx_d_11 rfl ?_
  refine nw_call (wr := W1_Club_init g b1 qs1) (rest := [.ref b2]) (As := []) C w c_Model_init (fun _ _ => trivial) (fun _ _ _ _ => trivial) lx_nm_4 lx_nm_5 lx_nm_3 lx_nm_6 rfl lx_nm_7 ⟨(Nat.le_of_ble_eq_true rfl), (Nat.le_of_ble_eq_true rfl)⟩ ⟨(Nat.le_of_ble_eq_true rfl), (Nat.le_of_ble_eq_true rfl)⟩ hl.1 rfl (Nat.le_of_ble_eq_true rfl) lx_d_12 (fun qs2 H locs w => ?_)
  refine lv_astore_n (lv' := [(2, .ref b2), (1, .ref b1), (0, .ref b)]) hx hb lx_d_15 rfl hl (by decide) rfl (fun ls hl => ?_)
  refine lv_iconst (v := nI 0) hx hb lx_d_16 (by decide) ?_
  refine lv_istore_n (lv' := [(3, .int (nI 0)), (2, .ref b2), (1, .ref b1), (0, .ref b)]) hx hb lx_d_17 rfl hl (by decide) rfl (fun ls hl => ?_)
  obtain ⟨hP, hD, hS⟩ := w
  rw [← nw_wX g b1 qs1 tb, ← nw_wM g b2 qs2 tb] at hP hD
  have F : lx_F s D g (nw_ad b1 qs1 tb 42) (nw_ad b2 qs2 tb 19) := ⟨hK, lx_inj (lx_Dl hD), lx_inj (lx_Dr hD), lx_apart hD, lx_old (lx_Dl hD), lx_old (lx_Dr hD), hZ _ (lx_tb (by omega)), hZ _ (lx_tb (by omega))⟩
  exact lx_loop hL C0 F ⟨(Nat.le_of_ble_eq_true rfl), (Nat.le_of_ble_eq_true rfl)⟩ ⟨(Nat.le_of_ble_eq_true rfl), (Nat.le_of_ble_eq_true rfl)⟩ (L + 1) 0 (Nat.zero_le L) (by omega) hX0 hM0 H locs ls Rel_first ⟨lx_Pl hP, lx_Pr hP, hS⟩ hl
