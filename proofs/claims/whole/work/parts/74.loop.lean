/-! the law's loop -/
theorem lx_six {L i : Nat} (hL : L ≤ 3072) (hi : i ≤ L) (q : ¬ Int32.ofNat L - 6 < nI i) : i + 6 ≤ L := by
  have a : (Int32.ofNat L).toInt = (L : Int) := nI_toInt (by omega)
  have c : (nI i).toInt = (i : Int) := nI_toInt (by omega)
  have d : (Int32.ofNat L - 6).toInt = (L : Int) - 6 := by
    rw [Int32.toInt_sub, a, show (6 : Int32).toInt = 6 from rfl]
    exact Int.bmod_eq_of_le (by omega) (by omega)
  rw [Int32.lt_iff_toInt_lt, d, c] at q
  omega
theorem lx_ins {L i : Nat} (hL : L ≤ 3072) (hi : i + 6 ≤ L) : lx_in (nI i) L := by
  have h : ∀ k : Nat, k < 6 → vp_in (nI i + nI k) L := fun k hk => by
    rw [nI_add]
    exact vp_in_nI (by omega) (by omega)
  exact ⟨h 1 (by omega), h 2 (by omega), h 3 (by omega), h 4 (by omega), h 5 (by omega)⟩
set_option maxHeartbeats 4000000 in
theorem lx_loop {p : Program} {l : Launch} {e : Env} {s : State} {m0 : MethodId} {below : List Frame} {meth : Method} {c : Code} {cells slots : Nat} {D : va_G} {g : am_G} {adx adm : Nat → Nat} {b L : Nat} {xs : Nat → Int32} (hL : L ≤ 3072) (C0 : lw_At p s m0 meth c b L xs) (F : lx_F s D g adx adm) (hcs : cells ≤ room_1.cells ∧ slots ≤ room_1.slots) (hc2 : cells ≤ 600000 ∧ slots ≤ 7302250) : ∀ (n i : Nat), i ≤ L → L + 1 ≤ i + n → ∀ (x m : am_H) (H : Heap) (locs : List Loc) (ls : Array Slot), Rel x m → lx_W s D g adx adm H locs x m → lv_has ls 4 [(3, .int (nI i)), (2, .ref (adm 0)), (1, .ref (adx 0)), (0, .ref b)] → W p l e room_1 s m0 #[.ref b] below meth c H locs cells slots (lw_Z below #[Value.ref b] s) (F0 m0 18 ls []) := by
  obtain ⟨hx, hb, hr, hml, hown, hts, hX, hbl, hlocks, hgv⟩ := id C0
  have hbA : ¬ (fun q : Nat => s.heap.size ≤ q) b := Nat.not_le.mpr hbl
  intro n
  induction n with
  | zero =>
    intro i h1 h2
    exact absurd h2 (by omega)
  | succ n ih =>
    intro i hi hin x m H locs ls hR w hl
    refine lv_iload_n hx hb lx_d_18 rfl (lv_at hl 0 rfl) ?_
    refine lv_aload_n hx hb lx_d_19 rfl (lv_at hl 3 rfl) ?_
    refine va_slen hx hb hX hbl hbA w.2.2 lx_d_20 ?_
    refine lv_bipush (v := 6) hx hb lx_d_21 (by decide) ?_
    refine lv_isub hx hb lx_d_23 ?_
    refine lv_icmp_gt (tgt := 1372) hx hb lx_d_24 (by decide) (fun _ => ?_) (fun q => ?_)
    · refine lv_iconst (v := 1) hx hb lx_d_1372 (by decide) ?_
      refine va_forget (fun q hq => w.2.2.2.2 q hq) ?_
      refine W.widen hc2.1 hc2.2 ?_
      exact lw_ret hx hb hr hlocks lx_d_1373
    · have hi6 : i + 6 ≤ L := lx_six hL hi q
      refine lv_aload_n hx hb lx_d_27 rfl (lv_at hl 3 rfl) ?_
      refine lv_iload_n hx hb lx_d_28 rfl (lv_at hl 0 rfl) ?_
      refine va_sld hx hb hX hbl hbA w.2.2 (vp_in_nI (by omega) (by omega)) lx_d_29 ?_
      refine lv_bipush (v := 63) hx hb lx_d_30 (by decide) ?_
      refine lv_iand hx hb lx_d_32 ?_
      refine lv_topi (fun z _ => ?_)
      have hv : lx_in (nI i) L := lx_ins hL hi6
      have kk : lx_K1 p l e s m0 b below meth c D g adx adm cells slots ls (lw_Z below #[Value.ref b] s) := by
        intro x m H locs hR w
        refine lv_iinc (v := nI (i + 6)) (lv' := [(3, .int (nI (i + 6))), (2, .ref (adm 0)), (1, .ref (adx 0)), (0, .ref b)]) hx hb lx_d_1366 hl (k := 0) rfl (by rw [show Int32.ofInt 6 = nI 6 from by decide]; exact nI_add i 6) (by decide) rfl (fun ls hl => ?_)
        refine lv_goto (tgt := 18) hx hb lx_d_1369 (by decide) ?_
        exact ih (i + 6) (by omega) (by omega) x m H locs ls hR w hl
      by_cases h : z.toInt < 0 ∨ 36 < z.toInt
      · exact lv_tableOut (tgt := 1366) hx hb lx_d_33 h (by decide) (kk x m H locs hR w)
      · obtain ⟨k, hk, ek⟩ : ∃ k : Nat, k < 37 ∧ z.toInt = k := ⟨z.toInt.toNat, by omega, by omega⟩
        have h1 : ¬ z.toInt < 0 := by omega
        have h2 : ¬ 36 < z.toInt := by omega
        match k, hk, ek with
        | 0, _, ek => exact lv_tableIn (off := 163) (tgt := 196) hx hb lx_d_33 h1 h2 (by rw [ek]; rfl) (by decide) (lx_s0 C0 F hR w hv hcs hl kk)
        | 1, _, ek => exact lv_tableIn (off := 186) (tgt := 219) hx hb lx_d_33 h1 h2 (by rw [ek]; rfl) (by decide) (lx_s1 C0 F hR w hv hcs hl kk)
        | 2, _, ek => exact lv_tableIn (off := 229) (tgt := 262) hx hb lx_d_33 h1 h2 (by rw [ek]; rfl) (by decide) (lx_s2 C0 F hR w hv hcs hl kk)
        | 3, _, ek => exact lv_tableIn (off := 272) (tgt := 305) hx hb lx_d_33 h1 h2 (by rw [ek]; rfl) (by decide) (lx_s3 C0 F hR w hv hcs hl kk)
        | 4, _, ek => exact lv_tableIn (off := 305) (tgt := 338) hx hb lx_d_33 h1 h2 (by rw [ek]; rfl) (by decide) (lx_s4 C0 F hR w hv hcs hl kk)
        | 5, _, ek => exact lv_tableIn (off := 328) (tgt := 361) hx hb lx_d_33 h1 h2 (by rw [ek]; rfl) (by decide) (lx_s5 C0 F hR w hv hcs hl kk)
        | 6, _, ek => exact lv_tableIn (off := 341) (tgt := 374) hx hb lx_d_33 h1 h2 (by rw [ek]; rfl) (by decide) (lx_s6 C0 F hR w hv hcs hl kk)
        | 7, _, ek => exact lv_tableIn (off := 385) (tgt := 418) hx hb lx_d_33 h1 h2 (by rw [ek]; rfl) (by decide) (lx_s7 C0 F hR w hv hcs hl kk)
        | 8, _, ek => exact lv_tableIn (off := 429) (tgt := 462) hx hb lx_d_33 h1 h2 (by rw [ek]; rfl) (by decide) (lx_s8 C0 F hR w hv hcs hl kk)
        | 9, _, ek => exact lv_tableIn (off := 452) (tgt := 485) hx hb lx_d_33 h1 h2 (by rw [ek]; rfl) (by decide) (lx_s9 C0 F hR w hv hcs hl kk)
        | 10, _, ek => exact lv_tableIn (off := 475) (tgt := 508) hx hb lx_d_33 h1 h2 (by rw [ek]; rfl) (by decide) (lx_s10 C0 F hR w hv hcs hl kk)
        | 11, _, ek => exact lv_tableIn (off := 519) (tgt := 552) hx hb lx_d_33 h1 h2 (by rw [ek]; rfl) (by decide) (lx_s11 C0 F hR w hv hcs hl kk)
        | 12, _, ek => exact lv_tableIn (off := 563) (tgt := 596) hx hb lx_d_33 h1 h2 (by rw [ek]; rfl) (by decide) (lx_s12 C0 F hR w hv hcs hl kk)
        | 13, _, ek => exact lv_tableIn (off := 607) (tgt := 640) hx hb lx_d_33 h1 h2 (by rw [ek]; rfl) (by decide) (lx_s13 C0 F hR w hv hcs hl kk)
        | 14, _, ek => exact lv_tableIn (off := 641) (tgt := 674) hx hb lx_d_33 h1 h2 (by rw [ek]; rfl) (by decide) (lx_s14 C0 F hR w hv hcs hl kk)
        | 15, _, ek => exact lv_tableIn (off := 665) (tgt := 698) hx hb lx_d_33 h1 h2 (by rw [ek]; rfl) (by decide) (lx_s15 C0 F hR w hv hcs hl kk)
        | 16, _, ek => exact lv_tableIn (off := 689) (tgt := 722) hx hb lx_d_33 h1 h2 (by rw [ek]; rfl) (by decide) (lx_s16 C0 F hR w hv hcs hl kk)
        | 17, _, ek => exact lv_tableIn (off := 712) (tgt := 745) hx hb lx_d_33 h1 h2 (by rw [ek]; rfl) (by decide) (lx_s17 C0 F hR w hv hcs hl kk)
        | 18, _, ek => exact lv_tableIn (off := 745) (tgt := 778) hx hb lx_d_33 h1 h2 (by rw [ek]; rfl) (by decide) (lx_s18 C0 F hR w hv hcs hl kk)
        | 19, _, ek => exact lv_tableIn (off := 768) (tgt := 801) hx hb lx_d_33 h1 h2 (by rw [ek]; rfl) (by decide) (lx_s19 C0 F hR w hv hcs hl kk)
        | 20, _, ek => exact lv_tableIn (off := 811) (tgt := 844) hx hb lx_d_33 h1 h2 (by rw [ek]; rfl) (by decide) (lx_s20 C0 F hR w hv hcs hl kk)
        | 21, _, ek => exact lv_tableIn (off := 844) (tgt := 877) hx hb lx_d_33 h1 h2 (by rw [ek]; rfl) (by decide) (lx_s21 C0 F hR w hv hcs hl kk)
        | 22, _, ek => exact lv_tableIn (off := 867) (tgt := 900) hx hb lx_d_33 h1 h2 (by rw [ek]; rfl) (by decide) (lx_s22 C0 F hR w hv hcs hl kk)
        | 23, _, ek => exact lv_tableIn (off := 890) (tgt := 923) hx hb lx_d_33 h1 h2 (by rw [ek]; rfl) (by decide) (lx_s23 C0 F hR w hv hcs hl kk)
        | 24, _, ek => exact lv_tableIn (off := 903) (tgt := 936) hx hb lx_d_33 h1 h2 (by rw [ek]; rfl) (by decide) (lx_s24 C0 F hR w hv hcs hl kk)
        | 25, _, ek => exact lv_tableIn (off := 916) (tgt := 949) hx hb lx_d_33 h1 h2 (by rw [ek]; rfl) (by decide) (lx_s25 C0 F hR w hv hcs hl kk)
        | 26, _, ek => exact lv_tableIn (off := 929) (tgt := 962) hx hb lx_d_33 h1 h2 (by rw [ek]; rfl) (by decide) (lx_s26 C0 F hR w hv hcs hl kk)
        | 27, _, ek => exact lv_tableIn (off := 942) (tgt := 975) hx hb lx_d_33 h1 h2 (by rw [ek]; rfl) (by decide) (lx_s27 C0 F hR w hv hcs hl kk)
        | 28, _, ek => exact lv_tableIn (off := 965) (tgt := 998) hx hb lx_d_33 h1 h2 (by rw [ek]; rfl) (by decide) (lx_s28 C0 F hR w hv hcs hl kk)
        | 29, _, ek => exact lv_tableIn (off := 1008) (tgt := 1041) hx hb lx_d_33 h1 h2 (by rw [ek]; rfl) (by decide) (lx_s29 C0 F hR w hv hcs hl kk)
        | 30, _, ek => exact lv_tableIn (off := 1031) (tgt := 1064) hx hb lx_d_33 h1 h2 (by rw [ek]; rfl) (by decide) (lx_s30 C0 F hR w hv hcs hl kk)
        | 31, _, ek => exact lv_tableIn (off := 1064) (tgt := 1097) hx hb lx_d_33 h1 h2 (by rw [ek]; rfl) (by decide) (lx_s31 C0 F hR w hv hcs hl kk)
        | 32, _, ek => exact lv_tableIn (off := 1107) (tgt := 1140) hx hb lx_d_33 h1 h2 (by rw [ek]; rfl) (by decide) (lx_s32 C0 F hR w hv hcs hl kk)
        | 33, _, ek => exact lv_tableIn (off := 1180) (tgt := 1213) hx hb lx_d_33 h1 h2 (by rw [ek]; rfl) (by decide) (lx_s33 C0 F hR w hv hcs hl kk)
        | 34, _, ek => exact lv_tableIn (off := 1214) (tgt := 1247) hx hb lx_d_33 h1 h2 (by rw [ek]; rfl) (by decide) (lx_s34 C0 F hR w hv hcs hl kk)
        | 35, _, ek => exact lv_tableIn (off := 1277) (tgt := 1310) hx hb lx_d_33 h1 h2 (by rw [ek]; rfl) (by decide) (lx_s35 C0 F hR w hv hcs hl kk)
        | 36, _, ek => exact lv_tableIn (off := 1310) (tgt := 1343) hx hb lx_d_33 h1 h2 (by rw [ek]; rfl) (by decide) (lx_s36 C0 F hR w hv hcs hl kk)
        | k + 37, hk, _ => exact absurd hk (by omega)
