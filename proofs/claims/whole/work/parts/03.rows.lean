section AmRows
variable {X : am_X} {pc : Nat} {ls : List (Option Value)} {st : List Value} {h : am_H} {Q : am_Q}
theorem am_iconst {n : Int} {v : Int32} (hd : decode X.2.2.1 pc = .ok (.iconst n, 1)) (hv : Int32.ofInt n = v) (k : am_W X (pc + 1) ls (.int v :: st) h Q) : am_W X pc ls (st) h Q :=
  fun _ _ _ _ _ _ _ _ _ _ _ _ _ _ _ _ C hl => lv_iconst C.1 C.2.1 hd hv (k _ _ _ _ _ _ _ _ _ _ _ _ _ _ _ _ C hl)
theorem am_bipush {n : Int} {v : Int32} (hd : decode X.2.2.1 pc = .ok (.bipush n, 2)) (hv : (Int8.ofInt n).toInt32 = v) (k : am_W X (pc + 2) ls (.int v :: st) h Q) : am_W X pc ls (st) h Q :=
  fun _ _ _ _ _ _ _ _ _ _ _ _ _ _ _ _ C hl => lv_bipush C.1 C.2.1 hd hv (k _ _ _ _ _ _ _ _ _ _ _ _ _ _ _ _ C hl)
theorem am_sipush {n : Int} {v : Int32} (hd : decode X.2.2.1 pc = .ok (.sipush n, 3)) (hv : (Int16.ofInt n).toInt32 = v) (k : am_W X (pc + 3) ls (.int v :: st) h Q) : am_W X pc ls (st) h Q :=
  fun _ _ _ _ _ _ _ _ _ _ _ _ _ _ _ _ C hl => lv_sipush C.1 C.2.1 hd hv (k _ _ _ _ _ _ _ _ _ _ _ _ _ _ _ _ C hl)
theorem am_lconst {n : Fin 2} {v : Int64} (hd : decode X.2.2.1 pc = .ok (.lconst n, 1)) (hv : Int64.ofNat (n : Nat) = v) (k : am_W X (pc + 1) ls (.long v :: st) h Q) : am_W X pc ls (st) h Q :=
  fun _ _ _ _ _ _ _ _ _ _ _ _ _ _ _ _ C hl => lv_lconst C.1 C.2.1 hd hv (k _ _ _ _ _ _ _ _ _ _ _ _ _ _ _ _ C hl)
theorem am_ldc {index : Nat} {v : Int32} (hd : decode X.2.2.1 pc = .ok (.ldc index, 2)) (hc : Cond.constant X.2.1 index v ∈ am_T) (k : am_W X (pc + 2) ls (.int v :: st) h Q) : am_W X pc ls st h Q :=
  fun _ _ _ _ _ _ _ _ _ _ _ _ _ _ _ _ C hl => lv_ldc C.1 C.2.1 C.2.2.2.1 (C.2.2.2.2.2.1 _ hc) hd (k _ _ _ _ _ _ _ _ _ _ _ _ _ _ _ _ C hl)
theorem am_ldcw {index : Nat} {v : Int32} (hd : decode X.2.2.1 pc = .ok (.ldc_w index, 3)) (hc : Cond.constant X.2.1 index v ∈ am_T) (k : am_W X (pc + 3) ls (.int v :: st) h Q) : am_W X pc ls st h Q :=
  fun _ _ _ _ _ _ _ _ _ _ _ _ _ _ _ _ C hl => lv_ldcw C.1 C.2.1 C.2.2.2.1 (C.2.2.2.2.2.1 _ hc) hd (k _ _ _ _ _ _ _ _ _ _ _ _ _ _ _ _ C hl)
theorem am_ldc2 {index : Nat} {v : Int64} (hd : decode X.2.2.1 pc = .ok (.ldc2_w index, 3)) (hc : Cond.constantLong X.2.1 index v ∈ am_T) (k : am_W X (pc + 3) ls (.long v :: st) h Q) : am_W X pc ls st h Q :=
  fun _ _ _ _ _ _ _ _ _ _ _ _ _ _ _ _ C hl => lv_ldc2 C.1 C.2.1 C.2.2.2.1 (C.2.2.2.2.2.1 _ hc) hd (k _ _ _ _ _ _ _ _ _ _ _ _ _ _ _ _ C hl)
theorem am_iadd {x y : Int32} (hd : decode X.2.2.1 pc = .ok (.iadd, 1)) (k : am_W X (pc + 1) ls (.int (x + y) :: st) h Q) : am_W X pc ls (.int y :: .int x :: st) h Q :=
  fun _ _ _ _ _ _ _ _ _ _ _ _ _ _ _ _ C hl => lv_iadd C.1 C.2.1 hd  (k _ _ _ _ _ _ _ _ _ _ _ _ _ _ _ _ C hl)
theorem am_isub {x y : Int32} (hd : decode X.2.2.1 pc = .ok (.isub, 1)) (k : am_W X (pc + 1) ls (.int (x - y) :: st) h Q) : am_W X pc ls (.int y :: .int x :: st) h Q :=
  fun _ _ _ _ _ _ _ _ _ _ _ _ _ _ _ _ C hl => lv_isub C.1 C.2.1 hd  (k _ _ _ _ _ _ _ _ _ _ _ _ _ _ _ _ C hl)
theorem am_imul {x y : Int32} (hd : decode X.2.2.1 pc = .ok (.imul, 1)) (k : am_W X (pc + 1) ls (.int (x * y) :: st) h Q) : am_W X pc ls (.int y :: .int x :: st) h Q :=
  fun _ _ _ _ _ _ _ _ _ _ _ _ _ _ _ _ C hl => lv_imul C.1 C.2.1 hd  (k _ _ _ _ _ _ _ _ _ _ _ _ _ _ _ _ C hl)
theorem am_iand {x y : Int32} (hd : decode X.2.2.1 pc = .ok (.iand, 1)) (k : am_W X (pc + 1) ls (.int (x &&& y) :: st) h Q) : am_W X pc ls (.int y :: .int x :: st) h Q :=
  fun _ _ _ _ _ _ _ _ _ _ _ _ _ _ _ _ C hl => lv_iand C.1 C.2.1 hd  (k _ _ _ _ _ _ _ _ _ _ _ _ _ _ _ _ C hl)
theorem am_ixor {x y : Int32} (hd : decode X.2.2.1 pc = .ok (.ixor, 1)) (k : am_W X (pc + 1) ls (.int (x ^^^ y) :: st) h Q) : am_W X pc ls (.int y :: .int x :: st) h Q :=
  fun _ _ _ _ _ _ _ _ _ _ _ _ _ _ _ _ C hl => lv_ixor C.1 C.2.1 hd  (k _ _ _ _ _ _ _ _ _ _ _ _ _ _ _ _ C hl)
theorem am_ishr {x y : Int32} (hd : decode X.2.2.1 pc = .ok (.ishr, 1)) (k : am_W X (pc + 1) ls (.int (x >>> (y &&& 31)) :: st) h Q) : am_W X pc ls (.int y :: .int x :: st) h Q :=
  fun _ _ _ _ _ _ _ _ _ _ _ _ _ _ _ _ C hl => lv_ishr C.1 C.2.1 hd  (k _ _ _ _ _ _ _ _ _ _ _ _ _ _ _ _ C hl)
theorem am_ladd {x y : Int64} (hd : decode X.2.2.1 pc = .ok (.ladd, 1)) (k : am_W X (pc + 1) ls (.long (x + y) :: st) h Q) : am_W X pc ls (.long y :: .long x :: st) h Q :=
  fun _ _ _ _ _ _ _ _ _ _ _ _ _ _ _ _ C hl => lv_ladd C.1 C.2.1 hd  (k _ _ _ _ _ _ _ _ _ _ _ _ _ _ _ _ C hl)
theorem am_lsub {x y : Int64} (hd : decode X.2.2.1 pc = .ok (.lsub, 1)) (k : am_W X (pc + 1) ls (.long (x - y) :: st) h Q) : am_W X pc ls (.long y :: .long x :: st) h Q :=
  fun _ _ _ _ _ _ _ _ _ _ _ _ _ _ _ _ C hl => lv_lsub C.1 C.2.1 hd  (k _ _ _ _ _ _ _ _ _ _ _ _ _ _ _ _ C hl)
theorem am_lmul {x y : Int64} (hd : decode X.2.2.1 pc = .ok (.lmul, 1)) (k : am_W X (pc + 1) ls (.long (x * y) :: st) h Q) : am_W X pc ls (.long y :: .long x :: st) h Q :=
  fun _ _ _ _ _ _ _ _ _ _ _ _ _ _ _ _ C hl => lv_lmul C.1 C.2.1 hd  (k _ _ _ _ _ _ _ _ _ _ _ _ _ _ _ _ C hl)
theorem am_land {x y : Int64} (hd : decode X.2.2.1 pc = .ok (.land, 1)) (k : am_W X (pc + 1) ls (.long (x &&& y) :: st) h Q) : am_W X pc ls (.long y :: .long x :: st) h Q :=
  fun _ _ _ _ _ _ _ _ _ _ _ _ _ _ _ _ C hl => lv_land C.1 C.2.1 hd  (k _ _ _ _ _ _ _ _ _ _ _ _ _ _ _ _ C hl)
theorem am_lor {x y : Int64} (hd : decode X.2.2.1 pc = .ok (.lor, 1)) (k : am_W X (pc + 1) ls (.long (x ||| y) :: st) h Q) : am_W X pc ls (.long y :: .long x :: st) h Q :=
  fun _ _ _ _ _ _ _ _ _ _ _ _ _ _ _ _ C hl => lv_lor C.1 C.2.1 hd  (k _ _ _ _ _ _ _ _ _ _ _ _ _ _ _ _ C hl)
theorem am_ineg {x : Int32} (hd : decode X.2.2.1 pc = .ok (.ineg, 1)) (k : am_W X (pc + 1) ls (.int (-x) :: st) h Q) : am_W X pc ls (.int x :: st) h Q :=
  fun _ _ _ _ _ _ _ _ _ _ _ _ _ _ _ _ C hl => lv_ineg C.1 C.2.1 hd  (k _ _ _ _ _ _ _ _ _ _ _ _ _ _ _ _ C hl)
theorem am_lneg {x : Int64} (hd : decode X.2.2.1 pc = .ok (.lneg, 1)) (k : am_W X (pc + 1) ls (.long (-x) :: st) h Q) : am_W X pc ls (.long x :: st) h Q :=
  fun _ _ _ _ _ _ _ _ _ _ _ _ _ _ _ _ C hl => lv_lneg C.1 C.2.1 hd  (k _ _ _ _ _ _ _ _ _ _ _ _ _ _ _ _ C hl)
theorem am_idiv {x y : Int32} (hd : decode X.2.2.1 pc = .ok (.idiv, 1)) (hne : ¬ y = 0) (k : am_W X (pc + 1) ls (.int (x / y) :: st) h Q) : am_W X pc ls (.int y :: .int x :: st) h Q :=
  fun _ _ _ _ _ _ _ _ _ _ _ _ _ _ _ _ C hl => lv_idiv C.1 C.2.1 hd hne (k _ _ _ _ _ _ _ _ _ _ _ _ _ _ _ _ C hl)
theorem am_irem {x y : Int32} (hd : decode X.2.2.1 pc = .ok (.irem, 1)) (hne : ¬ y = 0) (k : am_W X (pc + 1) ls (.int (x - x / y * y) :: st) h Q) : am_W X pc ls (.int y :: .int x :: st) h Q :=
  fun _ _ _ _ _ _ _ _ _ _ _ _ _ _ _ _ C hl => lv_irem C.1 C.2.1 hd hne (k _ _ _ _ _ _ _ _ _ _ _ _ _ _ _ _ C hl)
theorem am_ldiv {x y : Int64} (hd : decode X.2.2.1 pc = .ok (.ldiv, 1)) (hne : ¬ y = 0) (k : am_W X (pc + 1) ls (.long (x / y) :: st) h Q) : am_W X pc ls (.long y :: .long x :: st) h Q :=
  fun _ _ _ _ _ _ _ _ _ _ _ _ _ _ _ _ C hl => lv_ldiv C.1 C.2.1 hd hne (k _ _ _ _ _ _ _ _ _ _ _ _ _ _ _ _ C hl)
theorem am_lrem {x y : Int64} (hd : decode X.2.2.1 pc = .ok (.lrem, 1)) (hne : ¬ y = 0) (k : am_W X (pc + 1) ls (.long (x - x / y * y) :: st) h Q) : am_W X pc ls (.long y :: .long x :: st) h Q :=
  fun _ _ _ _ _ _ _ _ _ _ _ _ _ _ _ _ C hl => lv_lrem C.1 C.2.1 hd hne (k _ _ _ _ _ _ _ _ _ _ _ _ _ _ _ _ C hl)
theorem am_iushr {x y v : Int32} (hd : decode X.2.2.1 pc = .ok (.iushr, 1)) (hv : (x.toUInt32 >>> (y.toUInt32 &&& Int32.toUInt32 31)).toInt32 = v) (k : am_W X (pc + 1) ls (.int v :: st) h Q) : am_W X pc ls (.int y :: .int x :: st) h Q :=
  fun _ _ _ _ _ _ _ _ _ _ _ _ _ _ _ _ C hl => lv_iushr C.1 C.2.1 hd hv (k _ _ _ _ _ _ _ _ _ _ _ _ _ _ _ _ C hl)
theorem am_i2l {x : Int32} (hd : decode X.2.2.1 pc = .ok (.i2l, 1)) (k : am_W X (pc + 1) ls (.long x.toInt64 :: st) h Q) : am_W X pc ls (.int x :: st) h Q :=
  fun _ _ _ _ _ _ _ _ _ _ _ _ _ _ _ _ C hl => lv_i2l C.1 C.2.1 hd rfl (k _ _ _ _ _ _ _ _ _ _ _ _ _ _ _ _ C hl)
theorem am_l2i {x : Int64} (hd : decode X.2.2.1 pc = .ok (.l2i, 1)) (k : am_W X (pc + 1) ls (.int x.toInt32 :: st) h Q) : am_W X pc ls (.long x :: st) h Q :=
  fun _ _ _ _ _ _ _ _ _ _ _ _ _ _ _ _ C hl => lv_l2i C.1 C.2.1 hd rfl (k _ _ _ _ _ _ _ _ _ _ _ _ _ _ _ _ C hl)
theorem am_i2b {x : Int32} (hd : decode X.2.2.1 pc = .ok (.i2b, 1)) (k : am_W X (pc + 1) ls (.int x.toInt8.toInt32 :: st) h Q) : am_W X pc ls (.int x :: st) h Q :=
  fun _ _ _ _ _ _ _ _ _ _ _ _ _ _ _ _ C hl => lv_i2b C.1 C.2.1 hd rfl (k _ _ _ _ _ _ _ _ _ _ _ _ _ _ _ _ C hl)
theorem am_i2s {x : Int32} (hd : decode X.2.2.1 pc = .ok (.i2s, 1)) (k : am_W X (pc + 1) ls (.int x.toInt16.toInt32 :: st) h Q) : am_W X pc ls (.int x :: st) h Q :=
  fun _ _ _ _ _ _ _ _ _ _ _ _ _ _ _ _ C hl => lv_i2s C.1 C.2.1 hd rfl (k _ _ _ _ _ _ _ _ _ _ _ _ _ _ _ _ C hl)
theorem am_i2c {x : Int32} (hd : decode X.2.2.1 pc = .ok (.i2c, 1)) (k : am_W X (pc + 1) ls (.int (x.toUInt32 % 65536).toInt32 :: st) h Q) : am_W X pc ls (.int x :: st) h Q :=
  fun _ _ _ _ _ _ _ _ _ _ _ _ _ _ _ _ C hl => lv_i2c C.1 C.2.1 hd rfl (k _ _ _ _ _ _ _ _ _ _ _ _ _ _ _ _ C hl)
theorem am_dupI {x : Int32} (hd : decode X.2.2.1 pc = .ok (.dup, 1)) (k : am_W X (pc + 1) ls (.int x :: .int x :: st) h Q) : am_W X pc ls (.int x :: st) h Q :=
  fun _ _ _ _ _ _ _ _ _ _ _ _ _ _ _ _ C hl => lv_dup C.1 C.2.1 hd rfl (k _ _ _ _ _ _ _ _ _ _ _ _ _ _ _ _ C hl)
theorem am_dupR {x : Nat} (hd : decode X.2.2.1 pc = .ok (.dup, 1)) (k : am_W X (pc + 1) ls (.ref x :: .ref x :: st) h Q) : am_W X pc ls (.ref x :: st) h Q :=
  fun _ _ _ _ _ _ _ _ _ _ _ _ _ _ _ _ C hl => lv_dup C.1 C.2.1 hd rfl (k _ _ _ _ _ _ _ _ _ _ _ _ _ _ _ _ C hl)
theorem am_dup2RI {x : Nat} {y : Int32} (hd : decode X.2.2.1 pc = .ok (.dup2, 1)) (k : am_W X (pc + 1) ls (.int y :: .ref x :: .int y :: .ref x :: st) h Q) : am_W X pc ls (.int y :: .ref x :: st) h Q :=
  fun _ _ _ _ _ _ _ _ _ _ _ _ _ _ _ _ C hl => lv_dup2_11 C.1 C.2.1 hd rfl rfl (k _ _ _ _ _ _ _ _ _ _ _ _ _ _ _ _ C hl)
theorem am_dup2L {x : Int64} (hd : decode X.2.2.1 pc = .ok (.dup2, 1)) (k : am_W X (pc + 1) ls (.long x :: .long x :: st) h Q) : am_W X pc ls (.long x :: st) h Q :=
  fun _ _ _ _ _ _ _ _ _ _ _ _ _ _ _ _ C hl => lv_dup2_2 C.1 C.2.1 hd rfl (k _ _ _ _ _ _ _ _ _ _ _ _ _ _ _ _ C hl)
theorem am_popI {x : Int32} (hd : decode X.2.2.1 pc = .ok (.pop, 1)) (k : am_W X (pc + 1) ls (st) h Q) : am_W X pc ls (.int x :: st) h Q :=
  fun _ _ _ _ _ _ _ _ _ _ _ _ _ _ _ _ C hl => lv_pop C.1 C.2.1 hd rfl (k _ _ _ _ _ _ _ _ _ _ _ _ _ _ _ _ C hl)
theorem am_pop2L {x : Int64} (hd : decode X.2.2.1 pc = .ok (.pop2, 1)) (k : am_W X (pc + 1) ls (st) h Q) : am_W X pc ls (.long x :: st) h Q :=
  fun _ _ _ _ _ _ _ _ _ _ _ _ _ _ _ _ C hl => lv_pop2_2 C.1 C.2.1 hd rfl (k _ _ _ _ _ _ _ _ _ _ _ _ _ _ _ _ C hl)
theorem am_lcmp {x y : Int64} (hd : decode X.2.2.1 pc = .ok (.lcmp, 1)) (k : am_W X (pc + 1) ls (.int (lg_cmp x y) :: st) h Q) : am_W X pc ls (.long y :: .long x :: st) h Q :=
  fun _ _ _ _ _ _ _ _ _ _ _ _ _ _ _ _ C hl => W.lcmp C.1 C.2.1 hd  (k _ _ _ _ _ _ _ _ _ _ _ _ _ _ _ _ C hl)
theorem am_ld {ad : Nat → Nat} {lsC : Array Slot} {nL i : Nat} {v : Value} (hl : lv_has lsC nL (am_lv ad ls)) (h : ls[i]? = some (some v)) : lsC[i]? = some (.val (am_v ad v)) := hl.2.2 (i, am_v ad v) (am_lv_mem.mpr ⟨v, h, rfl⟩)
theorem am_iload {i : Nat} {x : Int32} (hd : decode X.2.2.1 pc = .ok (.iload i, 2)) (hi : ls[i]? = some (some (.int x))) (k : am_W X (pc + 2) ls (.int x :: st) h Q) : am_W X pc ls st h Q :=
  fun _ _ _ _ _ _ _ _ _ _ _ _ _ _ _ _ C hl => lv_iload C.1 C.2.1 hd (am_ld hl hi) (k _ _ _ _ _ _ _ _ _ _ _ _ _ _ _ _ C hl)
theorem am_iload_n {n : Fin 4} {i : Nat} {x : Int32} (hd : decode X.2.2.1 pc = .ok (.iload_n n, 1)) (hn : (n : Nat) = i) (hi : ls[i]? = some (some (.int x))) (k : am_W X (pc + 1) ls (.int x :: st) h Q) : am_W X pc ls st h Q :=
  fun _ _ _ _ _ _ _ _ _ _ _ _ _ _ _ _ C hl => lv_iload_n C.1 C.2.1 hd hn (am_ld hl hi) (k _ _ _ _ _ _ _ _ _ _ _ _ _ _ _ _ C hl)
theorem am_lload {i : Nat} {x : Int64} (hd : decode X.2.2.1 pc = .ok (.lload i, 2)) (hi : ls[i]? = some (some (.long x))) (k : am_W X (pc + 2) ls (.long x :: st) h Q) : am_W X pc ls st h Q :=
  fun _ _ _ _ _ _ _ _ _ _ _ _ _ _ _ _ C hl => lv_lload C.1 C.2.1 hd (am_ld hl hi) (k _ _ _ _ _ _ _ _ _ _ _ _ _ _ _ _ C hl)
theorem am_lload_n {n : Fin 4} {i : Nat} {x : Int64} (hd : decode X.2.2.1 pc = .ok (.lload_n n, 1)) (hn : (n : Nat) = i) (hi : ls[i]? = some (some (.long x))) (k : am_W X (pc + 1) ls (.long x :: st) h Q) : am_W X pc ls st h Q :=
  fun _ _ _ _ _ _ _ _ _ _ _ _ _ _ _ _ C hl => lv_lload_n C.1 C.2.1 hd hn (am_ld hl hi) (k _ _ _ _ _ _ _ _ _ _ _ _ _ _ _ _ C hl)
theorem am_aload {i : Nat} {x : Nat} (hd : decode X.2.2.1 pc = .ok (.aload i, 2)) (hi : ls[i]? = some (some (.ref x))) (k : am_W X (pc + 2) ls (.ref x :: st) h Q) : am_W X pc ls st h Q :=
  fun _ _ _ _ _ _ _ _ _ _ _ _ _ _ _ _ C hl => lv_aload C.1 C.2.1 hd (am_ld hl hi) (k _ _ _ _ _ _ _ _ _ _ _ _ _ _ _ _ C hl)
theorem am_aload_n {n : Fin 4} {i : Nat} {x : Nat} (hd : decode X.2.2.1 pc = .ok (.aload_n n, 1)) (hn : (n : Nat) = i) (hi : ls[i]? = some (some (.ref x))) (k : am_W X (pc + 1) ls (.ref x :: st) h Q) : am_W X pc ls st h Q :=
  fun _ _ _ _ _ _ _ _ _ _ _ _ _ _ _ _ C hl => lv_aload_n C.1 C.2.1 hd hn (am_ld hl hi) (k _ _ _ _ _ _ _ _ _ _ _ _ _ _ _ _ C hl)
def am_kill (ls : List (Option Value)) : Nat → List (Option Value)
  | 0 => ls
  | i + 1 => match ls[i]? with
    | some (some w) => if w.category = 2 then ls.set i none else ls
    | _ => ls
def am_st1 (ls : List (Option Value)) (i : Nat) (v : Value) : List (Option Value) := (am_kill ls i).set i (some v)
def am_st2 (ls : List (Option Value)) (i : Nat) (v : Value) : List (Option Value) := ((am_kill ls i).set i (some v)).set (i + 1) none
theorem am_v_cat {ad : Nat → Nat} {v : Value} : (am_v ad v).category = v.category := by cases v <;> rfl
theorem am_kill_at {ls : List (Option Value)} {i j : Nat} {w : Value} (h : (am_kill ls i)[j]? = some (some w)) : ls[j]? = some (some w) ∧ (j + 1 = i → w.category ≠ 2) := by
  cases i with
  | zero => exact ⟨h, fun e => by omega⟩
  | succ i =>
    simp only [am_kill] at h
    cases hs : ls[i]? with
    | none =>
      rw [hs] at h
      refine ⟨h, fun e => ?_⟩
      have : j = i := by omega
      subst this
      rw [hs] at h; cases h
    | some o =>
      rw [hs] at h
      cases o with
      | none =>
        refine ⟨h, fun e => ?_⟩
        have : j = i := by omega
        subst this
        rw [hs] at h; cases h
      | some u =>
        simp only at h
        by_cases hc : u.category = 2
        · rw [if_pos hc, List.getElem?_set] at h
          by_cases hij : i = j
          · subst hij
            rw [if_pos rfl] at h
            split at h
            · cases h
            · cases h
          · rw [if_neg hij] at h
            exact ⟨h, fun e => by omega⟩
        · rw [if_neg hc] at h
          refine ⟨h, fun e => ?_⟩
          have : j = i := by omega
          subst this
          rw [hs] at h
          cases h
          exact hc
theorem am_kill_len {ls : List (Option Value)} {i : Nat} : (am_kill ls i).length = ls.length := by
  cases i with
  | zero => rfl
  | succ i =>
    simp only [am_kill]
    split
    · split
      · exact List.length_set
      · rfl
    · rfl
theorem am_st1_sub {ad : Nat → Nat} {ls : List (Option Value)} {i : Nat} {v : Value} : ∀ q ∈ am_lv ad (am_st1 ls i v), q ∈ (i, am_v ad v) :: (am_lv ad ls).filter (fun q => !(q.1 == i) && !(q.1 + 1 == i && q.2.category == 2)) := by
  intro q hq
  obtain ⟨w, hw, he⟩ := am_lv_mem.mp hq
  rw [am_st1, List.getElem?_set] at hw
  by_cases hi : i = q.1
  · rw [if_pos hi] at hw
    split at hw
    · cases hw
      refine List.mem_cons.mpr (Or.inl ?_)
      exact Prod.ext hi.symm he
    · cases hw
  · rw [if_neg hi] at hw
    obtain ⟨h1, h2⟩ := am_kill_at hw
    refine List.mem_cons.mpr (Or.inr (List.mem_filter.mpr ⟨am_lv_mem.mpr ⟨w, h1, he⟩, ?_⟩))
    have hne : (q.1 == i) = false := by simpa using Ne.symm hi
    rw [hne, he, am_v_cat]
    by_cases hj : q.1 + 1 = i
    · have := h2 hj
      simp [this]
    · simp [hj]
theorem am_st2_sub {ad : Nat → Nat} {ls : List (Option Value)} {i : Nat} {v : Value} : ∀ q ∈ am_lv ad (am_st2 ls i v), q ∈ (i, am_v ad v) :: (am_lv ad ls).filter (fun q => !(q.1 == i) && (!(q.1 == i + 1) && !(q.1 + 1 == i && q.2.category == 2))) := by
  intro q hq
  obtain ⟨w, hw, he⟩ := am_lv_mem.mp hq
  rw [am_st2, List.getElem?_set] at hw
  by_cases hi1 : i + 1 = q.1
  · rw [if_pos hi1] at hw
    split at hw <;> cases hw
  · rw [if_neg hi1] at hw
    have hq1 : q ∈ am_lv ad (am_st1 ls i v) := am_lv_mem.mpr ⟨w, hw, he⟩
    rcases List.mem_cons.mp (am_st1_sub q hq1) with h | h
    · exact List.mem_cons.mpr (Or.inl h)
    · refine List.mem_cons.mpr (Or.inr ?_)
      obtain ⟨a, b⟩ := List.mem_filter.mp h
      refine List.mem_filter.mpr ⟨a, ?_⟩
      have hne : (q.1 == i + 1) = false := by simpa using Ne.symm hi1
      simp only [Bool.and_eq_true] at b ⊢
      exact ⟨b.1, by rw [hne]; rfl, b.2⟩
theorem am_has_sub {lsC : Array Slot} {nL : Nat} {l l' : List (Nat × Value)} (hl : lv_has lsC nL l) (h : ∀ q ∈ l', q ∈ l) : lv_has lsC nL l' := ⟨hl.1, hl.2.1, fun q hq => hl.2.2 q (h q hq)⟩
theorem am_istore {i : Nat} {x : Int32} {ls' : List (Option Value)} (hd : decode X.2.2.1 pc = .ok (.istore i, 2)) (hi : i < X.2.2.2.1) (hs : am_st1 ls i (.int x) = ls') (k : am_W X (pc + 2) ls' st h Q) : am_W X pc ls (.int x :: st) h Q := by
  subst hs
  intro p l e s m args below meth c H locs lsC D g ad sz C hl
  exact lv_istore C.1 C.2.1 hd hl hi rfl (fun ls' hl' => k p l e s m args below meth c H locs ls' D g ad sz C (am_has_sub hl' am_st1_sub))
theorem am_istore_n {n : Fin 4} {i : Nat} {x : Int32} {ls' : List (Option Value)} (hd : decode X.2.2.1 pc = .ok (.istore_n n, 1)) (hn : (n : Nat) = i) (hi : i < X.2.2.2.1) (hs : am_st1 ls i (.int x) = ls') (k : am_W X (pc + 1) ls' st h Q) : am_W X pc ls (.int x :: st) h Q := by
  subst hs
  intro p l e s m args below meth c H locs lsC D g ad sz C hl
  exact lv_istore_n C.1 C.2.1 hd hn hl hi rfl (fun ls' hl' => k p l e s m args below meth c H locs ls' D g ad sz C (am_has_sub hl' am_st1_sub))
theorem am_lstore {i : Nat} {x : Int64} {ls' : List (Option Value)} (hd : decode X.2.2.1 pc = .ok (.lstore i, 2)) (hi : i + 1 < X.2.2.2.1) (hs : am_st2 ls i (.long x) = ls') (k : am_W X (pc + 2) ls' st h Q) : am_W X pc ls (.long x :: st) h Q := by
  subst hs
  intro p l e s m args below meth c H locs lsC D g ad sz C hl
  exact lv_lstore C.1 C.2.1 hd hl hi rfl (fun ls' hl' => k p l e s m args below meth c H locs ls' D g ad sz C (am_has_sub hl' am_st2_sub))
theorem am_lstore_n {n : Fin 4} {i : Nat} {x : Int64} {ls' : List (Option Value)} (hd : decode X.2.2.1 pc = .ok (.lstore_n n, 1)) (hn : (n : Nat) = i) (hi : i + 1 < X.2.2.2.1) (hs : am_st2 ls i (.long x) = ls') (k : am_W X (pc + 1) ls' st h Q) : am_W X pc ls (.long x :: st) h Q := by
  subst hs
  intro p l e s m args below meth c H locs lsC D g ad sz C hl
  exact lv_lstore_n C.1 C.2.1 hd hn hl hi rfl (fun ls' hl' => k p l e s m args below meth c H locs ls' D g ad sz C (am_has_sub hl' am_st2_sub))
theorem am_astore {i : Nat} {x : Nat} {ls' : List (Option Value)} (hd : decode X.2.2.1 pc = .ok (.astore i, 2)) (hi : i < X.2.2.2.1) (hs : am_st1 ls i (.ref x) = ls') (k : am_W X (pc + 2) ls' st h Q) : am_W X pc ls (.ref x :: st) h Q := by
  subst hs
  intro p l e s m args below meth c H locs lsC D g ad sz C hl
  exact lv_astore C.1 C.2.1 hd hl hi rfl (fun ls' hl' => k p l e s m args below meth c H locs ls' D g ad sz C (am_has_sub hl' am_st1_sub))
theorem am_astore_n {n : Fin 4} {i : Nat} {x : Nat} {ls' : List (Option Value)} (hd : decode X.2.2.1 pc = .ok (.astore_n n, 1)) (hn : (n : Nat) = i) (hi : i < X.2.2.2.1) (hs : am_st1 ls i (.ref x) = ls') (k : am_W X (pc + 1) ls' st h Q) : am_W X pc ls (.ref x :: st) h Q := by
  subst hs
  intro p l e s m args below meth c H locs lsC D g ad sz C hl
  exact lv_astore_n C.1 C.2.1 hd hn hl hi rfl (fun ls' hl' => k p l e s m args below meth c H locs ls' D g ad sz C (am_has_sub hl' am_st1_sub))
theorem am_iinc {i : Nat} {n : Int} {x v : Int32} {ls' : List (Option Value)} (hd : decode X.2.2.1 pc = .ok (.iinc i n, 3)) (hx : ls[i]? = some (some (.int x))) (hv : x + Int32.ofInt n = v) (hi : i < X.2.2.2.1) (hs : am_st1 ls i (.int v) = ls') (k : am_W X (pc + 3) ls' st h Q) : am_W X pc ls st h Q := by
  subst hs
  intro p l e s m args below meth c H locs lsC D g ad sz C hl
  obtain ⟨j, hj⟩ := List.getElem?_of_mem (am_lv_mem (ad := ad) (q := (i, .int x)).mpr ⟨_, hx, rfl⟩)
  exact lv_iinc C.1 C.2.1 hd hl hj hv hi rfl (fun ls' hl' => k p l e s m args below meth c H locs ls' D g ad sz C (am_has_sub hl' am_st1_sub))
theorem am_if_eq {x : Int32} {off : Int} {tgt : Nat} (hd : decode X.2.2.1 pc = .ok (.ifCond .eq off, 3)) (ht : (pc : Int) + off = (tgt : Int)) (kt : x = 0 → am_W X tgt ls st h Q) (kf : ¬ x = 0 → am_W X (pc + 3) ls st h Q) : am_W X pc ls (.int x :: st) h Q :=
  fun _ _ _ _ _ _ _ _ _ _ _ _ _ _ _ _ C hl => lv_if_eq C.1 C.2.1 hd ht (fun q => kt q _ _ _ _ _ _ _ _ _ _ _ _ _ _ _ _ C hl) (fun q => kf q _ _ _ _ _ _ _ _ _ _ _ _ _ _ _ _ C hl)
theorem am_if_ne {x : Int32} {off : Int} {tgt : Nat} (hd : decode X.2.2.1 pc = .ok (.ifCond .ne off, 3)) (ht : (pc : Int) + off = (tgt : Int)) (kt : ¬ x = 0 → am_W X tgt ls st h Q) (kf : x = 0 → am_W X (pc + 3) ls st h Q) : am_W X pc ls (.int x :: st) h Q :=
  fun _ _ _ _ _ _ _ _ _ _ _ _ _ _ _ _ C hl => lv_if_ne C.1 C.2.1 hd ht (fun q => kt q _ _ _ _ _ _ _ _ _ _ _ _ _ _ _ _ C hl) (fun q => kf q _ _ _ _ _ _ _ _ _ _ _ _ _ _ _ _ C hl)
theorem am_if_lt {x : Int32} {off : Int} {tgt : Nat} (hd : decode X.2.2.1 pc = .ok (.ifCond .lt off, 3)) (ht : (pc : Int) + off = (tgt : Int)) (kt : x < 0 → am_W X tgt ls st h Q) (kf : ¬ x < 0 → am_W X (pc + 3) ls st h Q) : am_W X pc ls (.int x :: st) h Q :=
  fun _ _ _ _ _ _ _ _ _ _ _ _ _ _ _ _ C hl => lv_if_lt C.1 C.2.1 hd ht (fun q => kt q _ _ _ _ _ _ _ _ _ _ _ _ _ _ _ _ C hl) (fun q => kf q _ _ _ _ _ _ _ _ _ _ _ _ _ _ _ _ C hl)
theorem am_if_ge {x : Int32} {off : Int} {tgt : Nat} (hd : decode X.2.2.1 pc = .ok (.ifCond .ge off, 3)) (ht : (pc : Int) + off = (tgt : Int)) (kt : 0 ≤ x → am_W X tgt ls st h Q) (kf : ¬ 0 ≤ x → am_W X (pc + 3) ls st h Q) : am_W X pc ls (.int x :: st) h Q :=
  fun _ _ _ _ _ _ _ _ _ _ _ _ _ _ _ _ C hl => lv_if_ge C.1 C.2.1 hd ht (fun q => kt q _ _ _ _ _ _ _ _ _ _ _ _ _ _ _ _ C hl) (fun q => kf q _ _ _ _ _ _ _ _ _ _ _ _ _ _ _ _ C hl)
theorem am_if_gt {x : Int32} {off : Int} {tgt : Nat} (hd : decode X.2.2.1 pc = .ok (.ifCond .gt off, 3)) (ht : (pc : Int) + off = (tgt : Int)) (kt : 0 < x → am_W X tgt ls st h Q) (kf : ¬ 0 < x → am_W X (pc + 3) ls st h Q) : am_W X pc ls (.int x :: st) h Q :=
  fun _ _ _ _ _ _ _ _ _ _ _ _ _ _ _ _ C hl => lv_if_gt C.1 C.2.1 hd ht (fun q => kt q _ _ _ _ _ _ _ _ _ _ _ _ _ _ _ _ C hl) (fun q => kf q _ _ _ _ _ _ _ _ _ _ _ _ _ _ _ _ C hl)
theorem am_if_le {x : Int32} {off : Int} {tgt : Nat} (hd : decode X.2.2.1 pc = .ok (.ifCond .le off, 3)) (ht : (pc : Int) + off = (tgt : Int)) (kt : x ≤ 0 → am_W X tgt ls st h Q) (kf : ¬ x ≤ 0 → am_W X (pc + 3) ls st h Q) : am_W X pc ls (.int x :: st) h Q :=
  fun _ _ _ _ _ _ _ _ _ _ _ _ _ _ _ _ C hl => lv_if_le C.1 C.2.1 hd ht (fun q => kt q _ _ _ _ _ _ _ _ _ _ _ _ _ _ _ _ C hl) (fun q => kf q _ _ _ _ _ _ _ _ _ _ _ _ _ _ _ _ C hl)
theorem am_icmp_eq {x y : Int32} {off : Int} {tgt : Nat} (hd : decode X.2.2.1 pc = .ok (.if_icmp .eq off, 3)) (ht : (pc : Int) + off = (tgt : Int)) (kt : x = y → am_W X tgt ls st h Q) (kf : ¬ x = y → am_W X (pc + 3) ls st h Q) : am_W X pc ls (.int y :: .int x :: st) h Q :=
  fun _ _ _ _ _ _ _ _ _ _ _ _ _ _ _ _ C hl => lv_icmp_eq C.1 C.2.1 hd ht (fun q => kt q _ _ _ _ _ _ _ _ _ _ _ _ _ _ _ _ C hl) (fun q => kf q _ _ _ _ _ _ _ _ _ _ _ _ _ _ _ _ C hl)
theorem am_icmp_ne {x y : Int32} {off : Int} {tgt : Nat} (hd : decode X.2.2.1 pc = .ok (.if_icmp .ne off, 3)) (ht : (pc : Int) + off = (tgt : Int)) (kt : ¬ x = y → am_W X tgt ls st h Q) (kf : x = y → am_W X (pc + 3) ls st h Q) : am_W X pc ls (.int y :: .int x :: st) h Q :=
  fun _ _ _ _ _ _ _ _ _ _ _ _ _ _ _ _ C hl => lv_icmp_ne C.1 C.2.1 hd ht (fun q => kt q _ _ _ _ _ _ _ _ _ _ _ _ _ _ _ _ C hl) (fun q => kf q _ _ _ _ _ _ _ _ _ _ _ _ _ _ _ _ C hl)
theorem am_icmp_lt {x y : Int32} {off : Int} {tgt : Nat} (hd : decode X.2.2.1 pc = .ok (.if_icmp .lt off, 3)) (ht : (pc : Int) + off = (tgt : Int)) (kt : x < y → am_W X tgt ls st h Q) (kf : ¬ x < y → am_W X (pc + 3) ls st h Q) : am_W X pc ls (.int y :: .int x :: st) h Q :=
  fun _ _ _ _ _ _ _ _ _ _ _ _ _ _ _ _ C hl => lv_icmp_lt C.1 C.2.1 hd ht (fun q => kt q _ _ _ _ _ _ _ _ _ _ _ _ _ _ _ _ C hl) (fun q => kf q _ _ _ _ _ _ _ _ _ _ _ _ _ _ _ _ C hl)
theorem am_icmp_ge {x y : Int32} {off : Int} {tgt : Nat} (hd : decode X.2.2.1 pc = .ok (.if_icmp .ge off, 3)) (ht : (pc : Int) + off = (tgt : Int)) (kt : y ≤ x → am_W X tgt ls st h Q) (kf : ¬ y ≤ x → am_W X (pc + 3) ls st h Q) : am_W X pc ls (.int y :: .int x :: st) h Q :=
  fun _ _ _ _ _ _ _ _ _ _ _ _ _ _ _ _ C hl => lv_icmp_ge C.1 C.2.1 hd ht (fun q => kt q _ _ _ _ _ _ _ _ _ _ _ _ _ _ _ _ C hl) (fun q => kf q _ _ _ _ _ _ _ _ _ _ _ _ _ _ _ _ C hl)
theorem am_icmp_gt {x y : Int32} {off : Int} {tgt : Nat} (hd : decode X.2.2.1 pc = .ok (.if_icmp .gt off, 3)) (ht : (pc : Int) + off = (tgt : Int)) (kt : y < x → am_W X tgt ls st h Q) (kf : ¬ y < x → am_W X (pc + 3) ls st h Q) : am_W X pc ls (.int y :: .int x :: st) h Q :=
  fun _ _ _ _ _ _ _ _ _ _ _ _ _ _ _ _ C hl => lv_icmp_gt C.1 C.2.1 hd ht (fun q => kt q _ _ _ _ _ _ _ _ _ _ _ _ _ _ _ _ C hl) (fun q => kf q _ _ _ _ _ _ _ _ _ _ _ _ _ _ _ _ C hl)
theorem am_icmp_le {x y : Int32} {off : Int} {tgt : Nat} (hd : decode X.2.2.1 pc = .ok (.if_icmp .le off, 3)) (ht : (pc : Int) + off = (tgt : Int)) (kt : x ≤ y → am_W X tgt ls st h Q) (kf : ¬ x ≤ y → am_W X (pc + 3) ls st h Q) : am_W X pc ls (.int y :: .int x :: st) h Q :=
  fun _ _ _ _ _ _ _ _ _ _ _ _ _ _ _ _ C hl => lv_icmp_le C.1 C.2.1 hd ht (fun q => kt q _ _ _ _ _ _ _ _ _ _ _ _ _ _ _ _ C hl) (fun q => kf q _ _ _ _ _ _ _ _ _ _ _ _ _ _ _ _ C hl)
theorem am_lc_eq (x y : Int64) : lg_cmp x y = 0 ↔ x = y := by
  unfold lg_cmp
  by_cases h1 : x > y
  · rw [if_pos h1]
    exact ⟨fun e => absurd e (by decide), fun e => by subst e; exact absurd h1 (by simp)⟩
  · rw [if_neg h1]
    by_cases h2 : x = y
    · rw [if_pos h2]; exact ⟨fun _ => h2, fun _ => rfl⟩
    · rw [if_neg h2]; exact ⟨fun e => absurd e (by decide), fun e => absurd e h2⟩
theorem am_lc_lt (x y : Int64) : lg_cmp x y < 0 ↔ x < y := by
  unfold lg_cmp
  by_cases h1 : x > y
  · rw [if_pos h1]
    exact ⟨fun e => absurd e (by decide), fun e => by simp only [gt_iff_lt, Int64.lt_iff_toInt_lt] at h1 e; omega⟩
  · rw [if_neg h1]
    by_cases h2 : x = y
    · rw [if_pos h2]; subst h2; exact ⟨fun e => absurd e (by decide), fun e => absurd e h1⟩
    · rw [if_neg h2]
      refine ⟨fun _ => ?_, fun _ => by decide⟩
      simp only [gt_iff_lt, Int64.lt_iff_toInt_lt, ← Int64.toInt_inj] at h1 h2 ⊢
      omega
theorem am_lc_gt (x y : Int64) : 0 < lg_cmp x y ↔ y < x := by
  unfold lg_cmp
  by_cases h1 : x > y
  · rw [if_pos h1]; exact ⟨fun _ => h1, fun _ => by decide⟩
  · rw [if_neg h1]
    by_cases h2 : x = y
    · rw [if_pos h2]; exact ⟨fun e => absurd e (by decide), fun e => absurd e h1⟩
    · rw [if_neg h2]; exact ⟨fun e => absurd e (by decide), fun e => absurd e h1⟩
theorem am_lc_ge (x y : Int64) : 0 ≤ lg_cmp x y ↔ y ≤ x := by
  have h := am_lc_lt x y
  simp only [Int32.lt_iff_toInt_lt, Int32.le_iff_toInt_le, Int64.lt_iff_toInt_lt, Int64.le_iff_toInt_le] at h ⊢
  omega
theorem am_lc_le (x y : Int64) : lg_cmp x y ≤ 0 ↔ x ≤ y := by
  have h := am_lc_gt x y
  simp only [Int32.lt_iff_toInt_lt, Int32.le_iff_toInt_le, Int64.lt_iff_toInt_lt, Int64.le_iff_toInt_le] at h ⊢
  omega
theorem am_lc_if_eq {x y : Int64} {off : Int} {tgt : Nat} (hd0 : decode X.2.2.1 pc = .ok (.lcmp, 1)) (hd : decode X.2.2.1 (pc + 1) = .ok (.ifCond .eq off, 3)) (ht : ((pc + 1 : Nat) : Int) + off = (tgt : Int)) (kt : x = y → am_W X tgt ls st h Q) (kf : ¬ x = y → am_W X (pc + 4) ls st h Q) : am_W X pc ls (.long y :: .long x :: st) h Q :=
  am_lcmp hd0 (am_if_eq hd ht (fun q => kt ((am_lc_eq x y).mp q)) (fun q => kf (fun e => q ((am_lc_eq x y).mpr e))))
theorem am_lc_if_ne {x y : Int64} {off : Int} {tgt : Nat} (hd0 : decode X.2.2.1 pc = .ok (.lcmp, 1)) (hd : decode X.2.2.1 (pc + 1) = .ok (.ifCond .ne off, 3)) (ht : ((pc + 1 : Nat) : Int) + off = (tgt : Int)) (kt : ¬ x = y → am_W X tgt ls st h Q) (kf : x = y → am_W X (pc + 4) ls st h Q) : am_W X pc ls (.long y :: .long x :: st) h Q :=
  am_lcmp hd0 (am_if_ne hd ht (fun q => kt (fun e => q ((am_lc_eq x y).mpr e))) (fun q => kf ((am_lc_eq x y).mp q)))
theorem am_lc_if_lt {x y : Int64} {off : Int} {tgt : Nat} (hd0 : decode X.2.2.1 pc = .ok (.lcmp, 1)) (hd : decode X.2.2.1 (pc + 1) = .ok (.ifCond .lt off, 3)) (ht : ((pc + 1 : Nat) : Int) + off = (tgt : Int)) (kt : x < y → am_W X tgt ls st h Q) (kf : ¬ x < y → am_W X (pc + 4) ls st h Q) : am_W X pc ls (.long y :: .long x :: st) h Q :=
  am_lcmp hd0 (am_if_lt hd ht (fun q => kt ((am_lc_lt x y).mp q)) (fun q => kf (fun e => q ((am_lc_lt x y).mpr e))))
theorem am_lc_if_ge {x y : Int64} {off : Int} {tgt : Nat} (hd0 : decode X.2.2.1 pc = .ok (.lcmp, 1)) (hd : decode X.2.2.1 (pc + 1) = .ok (.ifCond .ge off, 3)) (ht : ((pc + 1 : Nat) : Int) + off = (tgt : Int)) (kt : y ≤ x → am_W X tgt ls st h Q) (kf : ¬ y ≤ x → am_W X (pc + 4) ls st h Q) : am_W X pc ls (.long y :: .long x :: st) h Q :=
  am_lcmp hd0 (am_if_ge hd ht (fun q => kt ((am_lc_ge x y).mp q)) (fun q => kf (fun e => q ((am_lc_ge x y).mpr e))))
theorem am_lc_if_gt {x y : Int64} {off : Int} {tgt : Nat} (hd0 : decode X.2.2.1 pc = .ok (.lcmp, 1)) (hd : decode X.2.2.1 (pc + 1) = .ok (.ifCond .gt off, 3)) (ht : ((pc + 1 : Nat) : Int) + off = (tgt : Int)) (kt : y < x → am_W X tgt ls st h Q) (kf : ¬ y < x → am_W X (pc + 4) ls st h Q) : am_W X pc ls (.long y :: .long x :: st) h Q :=
  am_lcmp hd0 (am_if_gt hd ht (fun q => kt ((am_lc_gt x y).mp q)) (fun q => kf (fun e => q ((am_lc_gt x y).mpr e))))
theorem am_lc_if_le {x y : Int64} {off : Int} {tgt : Nat} (hd0 : decode X.2.2.1 pc = .ok (.lcmp, 1)) (hd : decode X.2.2.1 (pc + 1) = .ok (.ifCond .le off, 3)) (ht : ((pc + 1 : Nat) : Int) + off = (tgt : Int)) (kt : x ≤ y → am_W X tgt ls st h Q) (kf : ¬ x ≤ y → am_W X (pc + 4) ls st h Q) : am_W X pc ls (.long y :: .long x :: st) h Q :=
  am_lcmp hd0 (am_if_le hd ht (fun q => kt ((am_lc_le x y).mp q)) (fun q => kf (fun e => q ((am_lc_le x y).mpr e))))
theorem am_goto {off : Int} {tgt : Nat} (hd : decode X.2.2.1 pc = .ok (.goto off, 3)) (ht : (pc : Int) + off = (tgt : Int)) (k : am_W X tgt ls st h Q) : am_W X pc ls st h Q :=
  fun _ _ _ _ _ _ _ _ _ _ _ _ _ _ _ _ C hl => lv_goto C.1 C.2.1 hd ht (k _ _ _ _ _ _ _ _ _ _ _ _ _ _ _ _ C hl)
theorem am_tableOut {dflt lo hi : Int} {offs : Array Int} {len : Nat} {x : Int32} {tgt : Nat} (hd : decode X.2.2.1 pc = .ok (.tableswitch dflt lo hi offs, len)) (hx : x.toInt < lo ∨ hi < x.toInt) (ht : (pc : Int) + dflt = (tgt : Int)) (k : am_W X tgt ls st h Q) : am_W X pc ls (.int x :: st) h Q :=
  fun _ _ _ _ _ _ _ _ _ _ _ _ _ _ _ _ C hl => lv_tableOut C.1 C.2.1 hd hx ht (k _ _ _ _ _ _ _ _ _ _ _ _ _ _ _ _ C hl)
theorem am_tableIn {dflt lo hi : Int} {offs : Array Int} {len : Nat} {x : Int32} {off : Int} {tgt : Nat} (hd : decode X.2.2.1 pc = .ok (.tableswitch dflt lo hi offs, len)) (h1 : ¬ x.toInt < lo) (h2 : ¬ hi < x.toInt) (ho : offs[(x.toInt - lo).toNat]? = some off) (ht : (pc : Int) + off = (tgt : Int)) (k : am_W X tgt ls st h Q) : am_W X pc ls (.int x :: st) h Q :=
  fun _ _ _ _ _ _ _ _ _ _ _ _ _ _ _ _ C hl => lv_tableIn C.1 C.2.1 hd h1 h2 ho ht (k _ _ _ _ _ _ _ _ _ _ _ _ _ _ _ _ C hl)
theorem am_lookup {dflt : Int} {ps : Array (Int × Int)} {len : Nat} {x : Int32} {off : Int} {tgt : Nat} (hd : decode X.2.2.1 pc = .ok (.lookupswitch dflt ps, len)) (hp : (ps.toList.zip (ps.toList.drop 1)).all (fun (a, next) => a.1 < next.1) = true) (ho : Op.lookupswitch.offset ps.toList dflt x.toInt = off) (ht : (pc : Int) + off = (tgt : Int)) (k : am_W X tgt ls st h Q) : am_W X pc ls (.int x :: st) h Q :=
  fun _ _ _ _ _ _ _ _ _ _ _ _ _ _ _ _ C hl => lv_lookup C.1 C.2.1 hd hp ho ht (k _ _ _ _ _ _ _ _ _ _ _ _ _ _ _ _ C hl)
theorem am_end {p : Program} {s : State} {m : MethodId} {args : Array Value} {meth : Method} {c : Code} {H : Heap} {locs : List Loc} {D : va_G} {g : am_G} {ad : Nat → Nat} {sz : Nat} (C : am_C X p s m args meth c H locs D g ad sz h) (r : Option Value) (hq : Q r h) (t : State) (ht : t.heap = H) (hW : s.WarmedH t.vm) : am_Post X.1 D g ad sz Q args s (.returned (r.map (am_v ad))) t := by
  obtain ⟨hx, hb, hml, hown, hr, hts, hlk, hsz, hK, hP, hI, hS, hZ⟩ := C
  exact ⟨⟨r, h, rfl, hq, va_K.moved hW.alike hK, by rw [ht]; exact hP⟩, hS.F ht⟩
theorem am_loc {p : Program} {s : State} {m : MethodId} {args : Array Value} {meth : Method} {c : Code} {H : Heap} {locs : List Loc} {D : va_G} {g : am_G} {ad : Nat → Nat} {sz : Nat} (C : am_C X p s m args meth c H locs D g ad sz h) : ∀ q ∈ locs, am_A ad X.1.length sz q.base := C.2.2.2.2.2.2.2.2.2.2.2.1.2.2
theorem am_iret {v : Int32} (hr : X.2.2.2.2.1 = some .int) (hd : decode X.2.2.1 pc = .ok (.ireturn, 1)) (hq : Q (some (.int v)) h) : am_W X pc ls [.int v] h Q := by
  intro p l e s m args below meth c H locs lsC D g ad sz C hl
  have hlk := C.2.2.2.2.2.2.1
  exact W.iret C.1 C.2.1 (C.2.2.2.2.1.trans hr) (fun t ht hW => am_end C (some (.int v)) hq t ht hW) (am_loc C) hd
theorem am_zret {v : Int32} {ty : FieldType} (hr : X.2.2.2.2.1 = some ty) (hn : narrow ty (.int v) = .int v) (hd : decode X.2.2.1 pc = .ok (.ireturn, 1)) (hq : Q (some (.int v)) h) : am_W X pc ls [.int v] h Q := by
  intro p l e s m args below meth c H locs lsC D g ad sz C hl
  have hlk := C.2.2.2.2.2.2.1
  exact W.zret C.1 C.2.1 (C.2.2.2.2.1.trans hr) hn (fun t ht hW => am_end C (some (.int v)) hq t ht hW) (am_loc C) hd
theorem am_lret {v : Int64} (hr : X.2.2.2.2.1 = some .long) (hd : decode X.2.2.1 pc = .ok (.lreturn, 1)) (hq : Q (some (.long v)) h) : am_W X pc ls [.long v] h Q := by
  intro p l e s m args below meth c H locs lsC D g ad sz C hl
  have hlk := C.2.2.2.2.2.2.1
  exact W.lret C.1 C.2.1 (C.2.2.2.2.1.trans hr) (fun t ht hW => am_end C (some (.long v)) hq t ht hW) (am_loc C) hd
theorem am_vret (hr : X.2.2.2.2.1 = none) (hd : decode X.2.2.1 pc = .ok (.return_, 1)) (hq : Q none h) : am_W X pc ls [] h Q := by
  intro p l e s m args below meth c H locs lsC D g ad sz C hl
  have hlk := C.2.2.2.2.2.2.1
  exact W.vret C.1 C.2.1 (C.2.2.2.2.1.trans hr) (fun t ht hW => am_end C none hq t ht hW) (am_loc C) hd
theorem am_getI {k ci i index N : Nat} {tm : List Value} {C : String} {T : u_T} {z : Int32} (hc : am_cl[ci]? = some (C, T, N)) (hsh : X.1[k]? = some (.inl (ci, tm))) (ht : tm[i]? = some (.int z)) (hi : i < N) (hlink : Cond.fieldLink X.2.1 index C (T i).2.1 (T i).2.2.1 ∈ am_T) (hd : decode X.2.2.1 pc = .ok (.getfield index, 3)) (kk : am_W X (pc + 3) ls (.int (h.1 k i) :: st) h Q) : am_W X pc ls (.ref k :: st) h Q := by
  intro p l e s m args below meth c H locs lsC D g ad sz CC hl
  obtain ⟨o1, o2, o3, o4⟩ := am_clok ci C T N hc
  refine va_get (T := T) (N := N) CC.1 CC.2.1 CC.2.2.2.2.2.1 o1 CC.2.2.2.1 CC.2.2.2.2.2.2.2.2.1 CC.2.2.2.2.2.2.2.2.2.1 k (am_ws_get hsh) hc i hi (CC.2.2.2.2.2.1 _ hlink) (by rw [o4 i hi]; exact fun _ q => q) (v := .int (h.1 k i)) ?_ hd (kk p l e s m args below meth c H locs lsC D g ad sz CC hl)
  rw [List.getElem?_mapIdx, ht]
  rfl
theorem am_getL {k ci i index N : Nat} {tm : List Value} {C : String} {T : u_T} {z : Int64} (hc : am_cl[ci]? = some (C, T, N)) (hsh : X.1[k]? = some (.inl (ci, tm))) (ht : tm[i]? = some (.long z)) (hi : i < N) (hlink : Cond.fieldLink X.2.1 index C (T i).2.1 (T i).2.2.1 ∈ am_T) (hd : decode X.2.2.1 pc = .ok (.getfield index, 3)) (kk : am_W X (pc + 3) ls (.long (h.2 k i) :: st) h Q) : am_W X pc ls (.ref k :: st) h Q := by
  intro p l e s m args below meth c H locs lsC D g ad sz CC hl
  obtain ⟨o1, o2, o3, o4⟩ := am_clok ci C T N hc
  refine va_get (T := T) (N := N) CC.1 CC.2.1 CC.2.2.2.2.2.1 o1 CC.2.2.2.1 CC.2.2.2.2.2.2.2.2.1 CC.2.2.2.2.2.2.2.2.2.1 k (am_ws_get hsh) hc i hi (CC.2.2.2.2.2.1 _ hlink) (by rw [o4 i hi]; exact fun _ q => q) (v := .long (h.2 k i)) ?_ hd (kk p l e s m args below meth c H locs lsC D g ad sz CC hl)
  rw [List.getElem?_mapIdx, ht]
  rfl
theorem am_getR {k ci i index N : Nat} {tm : List Value} {C : String} {T : u_T} {z : Nat} (hc : am_cl[ci]? = some (C, T, N)) (hsh : X.1[k]? = some (.inl (ci, tm))) (ht : tm[i]? = some (.ref z)) (hi : i < N) (hlink : Cond.fieldLink X.2.1 index C (T i).2.1 (T i).2.2.1 ∈ am_T) (hd : decode X.2.2.1 pc = .ok (.getfield index, 3)) (kk : am_W X (pc + 3) ls (.ref z :: st) h Q) : am_W X pc ls (.ref k :: st) h Q := by
  intro p l e s m args below meth c H locs lsC D g ad sz CC hl
  obtain ⟨o1, o2, o3, o4⟩ := am_clok ci C T N hc
  refine va_get (T := T) (N := N) CC.1 CC.2.1 CC.2.2.2.2.2.1 o1 CC.2.2.2.1 CC.2.2.2.2.2.2.2.2.1 CC.2.2.2.2.2.2.2.2.2.1 k (am_ws_get hsh) hc i hi (CC.2.2.2.2.2.1 _ hlink) (by rw [o4 i hi]; exact fun _ q => q) (v := .ref (ad z)) ?_ hd (kk p l e s m args below meth c H locs lsC D g ad sz CC hl)
  rw [List.getElem?_mapIdx, ht]
  rfl
theorem am_putI {k ci i index N : Nat} {tm : List Value} {C : String} {T : u_T} {z v : Int32} (hc : am_cl[ci]? = some (C, T, N)) (hsh : X.1[k]? = some (.inl (ci, tm))) (ht : tm[i]? = some (.int z)) (hi : i < N) (hlink : Cond.fieldLink X.2.1 index C (T i).2.1 (T i).2.2.1 ∈ am_T) (hfin : (T i).2.2.2 = false) (hn : narrow (am_ty ci i) (.int v) = .int v) (hfit : fits (am_ty ci i) (.int v) = true) (hd : decode X.2.2.1 pc = .ok (.putfield index, 3)) (kk : am_W X (pc + 3) ls st (am_pI h k i v) Q) : am_W X pc ls (.int v :: .ref k :: st) h Q := by
  intro p l e s m args below meth c H locs lsC D g ad sz CC hl
  obtain ⟨o1, o2, o3, o4⟩ := am_clok ci C T N hc
  obtain ⟨hx, hb, hml, hown, hr, hts, hlk, hsz, hK, hP, hI, hS, hZ⟩ := CC
  refine va_put (T := T) (N := N) (v := .int v) hx hb hts o1 (am_ty ci) o3 o2 hown hK hP (am_wsD hI) hS k (am_ws_get hsh) hc i hi (hts _ hlink) (by rw [o4 i hi]; exact fun _ q => q) hfin (o3 i hi) hn hfit (by rw [List.length_mapIdx]; exact (List.getElem?_eq_some_iff.mp ht).1) hd (fun H1 locs1 hP1 _ hS1 => ?_)
  refine kk p l e s m args below meth c H1 locs1 lsC D g ad sz ⟨hx, hb, hml, hown, hr, hts, hlk, hsz, hK, ?_, hI, hS1, hZ⟩ hl
  rw [am_pI_set ht] at hP1
  have e : (am_ws g ad h X.1).set k (ad k, am_e g ad (am_pI h k i v) k (.inl (ci, tm))) = am_ws g ad (am_pI h k i v) X.1 := am_ws_set hsh am_pI_ne (fun _ _ => rfl)
  rw [← e]
  exact hP1
theorem am_putL {k ci i index N : Nat} {tm : List Value} {C : String} {T : u_T} {z v : Int64} (hc : am_cl[ci]? = some (C, T, N)) (hsh : X.1[k]? = some (.inl (ci, tm))) (ht : tm[i]? = some (.long z)) (hi : i < N) (hlink : Cond.fieldLink X.2.1 index C (T i).2.1 (T i).2.2.1 ∈ am_T) (hfin : (T i).2.2.2 = false) (hn : narrow (am_ty ci i) (.long v) = .long v) (hfit : fits (am_ty ci i) (.long v) = true) (hd : decode X.2.2.1 pc = .ok (.putfield index, 3)) (kk : am_W X (pc + 3) ls st (am_pL h k i v) Q) : am_W X pc ls (.long v :: .ref k :: st) h Q := by
  intro p l e s m args below meth c H locs lsC D g ad sz CC hl
  obtain ⟨o1, o2, o3, o4⟩ := am_clok ci C T N hc
  obtain ⟨hx, hb, hml, hown, hr, hts, hlk, hsz, hK, hP, hI, hS, hZ⟩ := CC
  refine va_put (T := T) (N := N) (v := .long v) hx hb hts o1 (am_ty ci) o3 o2 hown hK hP (am_wsD hI) hS k (am_ws_get hsh) hc i hi (hts _ hlink) (by rw [o4 i hi]; exact fun _ q => q) hfin (o3 i hi) hn hfit (by rw [List.length_mapIdx]; exact (List.getElem?_eq_some_iff.mp ht).1) hd (fun H1 locs1 hP1 _ hS1 => ?_)
  refine kk p l e s m args below meth c H1 locs1 lsC D g ad sz ⟨hx, hb, hml, hown, hr, hts, hlk, hsz, hK, ?_, hI, hS1, hZ⟩ hl
  rw [am_pL_set ht] at hP1
  have e : (am_ws g ad h X.1).set k (ad k, am_e g ad (am_pL h k i v) k (.inl (ci, tm))) = am_ws g ad (am_pL h k i v) X.1 := am_ws_set hsh (fun _ _ => rfl) am_pL_ne
  rw [← e]
  exact hP1
theorem am_iald {k n : Nat} {rs : List Nat} {i : Int32} (hsh : X.1[k]? = some (.inr (0, n, rs))) (hin : vp_in i n) (hd : decode X.2.2.1 pc = .ok (.iaload, 1)) (kk : am_W X (pc + 1) ls (.int (h.1 k i.toNatClampNeg) :: st) h Q) : am_W X pc ls (.int i :: .ref k :: st) h Q := by
  intro p l e s m args below meth c H locs lsC D g ad sz CC hl
  exact va_iald (tys := am_tys g) CC.1 CC.2.1 CC.2.2.2.2.2.2.2.2.1 CC.2.2.2.2.2.2.2.2.2.1 k 0 (am_ws_get hsh) rfl hin hd (kk p l e s m args below meth c H locs lsC D g ad sz CC hl)
theorem am_lald {k n : Nat} {rs : List Nat} {i : Int32} (hsh : X.1[k]? = some (.inr (1, n, rs))) (hin : vp_in i n) (hd : decode X.2.2.1 pc = .ok (.laload, 1)) (kk : am_W X (pc + 1) ls (.long (h.2 k i.toNatClampNeg) :: st) h Q) : am_W X pc ls (.int i :: .ref k :: st) h Q := by
  intro p l e s m args below meth c H locs lsC D g ad sz CC hl
  exact va_lald (tys := am_tys g) CC.1 CC.2.1 CC.2.2.2.2.2.2.2.2.1 CC.2.2.2.2.2.2.2.2.2.1 k 1 (am_ws_get hsh) rfl hin hd (kk p l e s m args below meth c H locs lsC D g ad sz CC hl)
theorem am_aald {k n q : Nat} {rs : List Nat} {i : Int32} (hsh : X.1[k]? = some (.inr (2, n, rs))) (hin : vp_in i n) (hq : rs[i.toNatClampNeg]? = some q) (hd : decode X.2.2.1 pc = .ok (.aaload, 1)) (kk : am_W X (pc + 1) ls (.ref q :: st) h Q) : am_W X pc ls (.int i :: .ref k :: st) h Q := by
  intro p l e s m args below meth c H locs lsC D g ad sz CC hl
  refine va_aldq (tys := am_tys g) CC.1 CC.2.1 CC.2.2.2.2.2.2.2.2.1 CC.2.2.2.2.2.2.2.2.2.1 k 2 (am_ws_get hsh) rfl hin hd ?_
  have := kk p l e s m args below meth c H locs lsC D g ad sz CC hl
  rw [hq]
  exact this
theorem am_alenI {k n : Nat} {rs : List Nat} {v : Int32} (hsh : X.1[k]? = some (.inr (0, n, rs))) (hv : Int32.ofNat n = v) (hd : decode X.2.2.1 pc = .ok (.arraylength, 1)) (kk : am_W X (pc + 1) ls (.int v :: st) h Q) : am_W X pc ls (.ref k :: st) h Q := by
  intro p l e s m args below meth c H locs lsC D g ad sz CC hl
  exact va_alen (tys := am_tys g) CC.1 CC.2.1 CC.2.2.2.2.2.2.2.2.1 CC.2.2.2.2.2.2.2.2.2.1 k 0 (am_ws_get hsh) rfl hv hd (kk p l e s m args below meth c H locs lsC D g ad sz CC hl)
theorem am_alenL {k n : Nat} {rs : List Nat} {v : Int32} (hsh : X.1[k]? = some (.inr (1, n, rs))) (hv : Int32.ofNat n = v) (hd : decode X.2.2.1 pc = .ok (.arraylength, 1)) (kk : am_W X (pc + 1) ls (.int v :: st) h Q) : am_W X pc ls (.ref k :: st) h Q := by
  intro p l e s m args below meth c H locs lsC D g ad sz CC hl
  exact va_alen (tys := am_tys g) CC.1 CC.2.1 CC.2.2.2.2.2.2.2.2.1 CC.2.2.2.2.2.2.2.2.2.1 k 1 (am_ws_get hsh) rfl hv hd (kk p l e s m args below meth c H locs lsC D g ad sz CC hl)
theorem am_iast {k n : Nat} {rs : List Nat} {i v : Int32} (hsh : X.1[k]? = some (.inr (0, n, rs))) (hin : vp_in i n) (hd : decode X.2.2.1 pc = .ok (.iastore, 1)) (kk : am_W X (pc + 1) ls st (am_pI h k i.toNatClampNeg v) Q) : am_W X pc ls (.int v :: .int i :: .ref k :: st) h Q := by
  intro p l e s m args below meth c H locs lsC D g ad sz CC hl
  obtain ⟨hx, hb, hml, hown, hr, hts, hlk, hsz, hK, hP, hI, hS, hZ⟩ := CC
  refine va_iast (tys := am_tys g) hx hb hK hP (am_wsD hI) hS k 0 (am_ws_get hsh) rfl hin hd (fun H1 locs1 hP1 _ hS1 => ?_)
  refine kk p l e s m args below meth c H1 locs1 lsC D g ad sz ⟨hx, hb, hml, hown, hr, hts, hlk, hsz, hK, ?_, hI, hS1, hZ⟩ hl
  have e : (am_ws g ad h X.1).set k (ad k, am_e g ad (am_pI h k i.toNatClampNeg v) k (.inr (0, n, rs))) = am_ws g ad (am_pI h k i.toNatClampNeg v) X.1 := am_ws_set hsh am_pI_ne (fun _ _ => rfl)
  rw [← e]
  simp only [am_e, am_pI_upd]
  exact hP1
theorem am_last {k n : Nat} {rs : List Nat} {i : Int32} {v : Int64} (hsh : X.1[k]? = some (.inr (1, n, rs))) (hin : vp_in i n) (hd : decode X.2.2.1 pc = .ok (.lastore, 1)) (kk : am_W X (pc + 1) ls st (am_pL h k i.toNatClampNeg v) Q) : am_W X pc ls (.long v :: .int i :: .ref k :: st) h Q := by
  intro p l e s m args below meth c H locs lsC D g ad sz CC hl
  obtain ⟨hx, hb, hml, hown, hr, hts, hlk, hsz, hK, hP, hI, hS, hZ⟩ := CC
  refine va_last (tys := am_tys g) hx hb hK hP (am_wsD hI) hS k 1 (am_ws_get hsh) rfl hin hd (fun H1 locs1 hP1 _ hS1 => ?_)
  refine kk p l e s m args below meth c H1 locs1 lsC D g ad sz ⟨hx, hb, hml, hown, hr, hts, hlk, hsz, hK, ?_, hI, hS1, hZ⟩ hl
  have e : (am_ws g ad h X.1).set k (ad k, am_e g ad (am_pL h k i.toNatClampNeg v) k (.inr (1, n, rs))) = am_ws g ad (am_pL h k i.toNatClampNeg v) X.1 := am_ws_set hsh (fun _ _ => rfl) am_pL_ne
  rw [← e]
  simp only [am_e, am_pL_upd]
  exact hP1
theorem am_gets {C n d : String} {pl index : Nat} {ty : FieldType} {cs : List Value} (hm : (C, n, d, pl, ty, cs) ∈ am_tb) (hlink : Cond.fieldLink X.2.1 index C n d ∈ am_T) (hd : decode X.2.2.1 pc = .ok (.getstatic index, 3)) (kk : am_W X (pc + 3) ls (.ref pl :: st) h Q) : am_W X pc ls st h Q := by
  intro p l e s m args below meth c H locs lsC D g ad sz CC hl
  obtain ⟨hx, hb, hml, hown, hr, hts, hlk, hsz, hK, hP, hI, hS, hZ⟩ := id CC
  exact va_gets hx hb (hZ.1 _ hm).1 hS hown (hts _ hlink) (fun _ q => q) hd (kk p l e s m args below meth c H locs lsC D g ad sz CC hl)
theorem am_ti {C n d : String} {pl : Nat} {cs : List Value} {i v : Int32} (hm : (C, n, d, pl, FieldType.int, cs) ∈ am_tb) (hin : vp_in i cs.length) (hv : cs.getD i.toNatClampNeg .null = .int v) (hd : decode X.2.2.1 pc = .ok (.iaload, 1)) (kk : am_W X (pc + 1) ls (.int v :: st) h Q) : am_W X pc ls (.int i :: .ref pl :: st) h Q := by
  intro p l e s m args below meth c H locs lsC D g ad sz CC hl
  obtain ⟨hx, hb, hml, hown, hr, hts, hlk, hsz, hK, hP, hI, hS, hZ⟩ := id CC
  exact va_ti hx hb (hZ.1 _ hm).2 hS hin hv hd (kk p l e s m args below meth c H locs lsC D g ad sz CC hl)
theorem am_tl {C n d : String} {pl : Nat} {cs : List Value} {i : Int32} {v : Int64} (hm : (C, n, d, pl, FieldType.long, cs) ∈ am_tb) (hin : vp_in i cs.length) (hv : cs.getD i.toNatClampNeg .null = .long v) (hd : decode X.2.2.1 pc = .ok (.laload, 1)) (kk : am_W X (pc + 1) ls (.long v :: st) h Q) : am_W X pc ls (.int i :: .ref pl :: st) h Q := by
  intro p l e s m args below meth c H locs lsC D g ad sz CC hl
  obtain ⟨hx, hb, hml, hown, hr, hts, hlk, hsz, hK, hP, hI, hS, hZ⟩ := id CC
  exact va_tl hx hb (hZ.1 _ hm).2 hS hin hv hd (kk p l e s m args below meth c H locs lsC D g ad sz CC hl)
theorem am_tlen {C n d : String} {pl : Nat} {cs : List Value} {ty : FieldType} {v : Int32} (hm : (C, n, d, pl, ty, cs) ∈ am_tb) (hv : Int32.ofNat cs.length = v) (hd : decode X.2.2.1 pc = .ok (.arraylength, 1)) (kk : am_W X (pc + 1) ls (.int v :: st) h Q) : am_W X pc ls (.ref pl :: st) h Q := by
  intro p l e s m args below meth c H locs lsC D g ad sz CC hl
  obtain ⟨hx, hb, hml, hown, hr, hts, hlk, hsz, hK, hP, hI, hS, hZ⟩ := id CC
  exact va_tlen hx hb (hZ.1 _ hm).2 hS hv hd (kk p l e s m args below meth c H locs lsC D g ad sz CC hl)
end AmRows
