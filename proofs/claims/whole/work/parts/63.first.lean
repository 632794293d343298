/-! the two objects as they are made, as heaps -/
def hX0 : am_H := (fun k => match k with
  | 1 => (fun i => match i with | 5 => 20 | 7 => 6 | 8 => 3 | 9 => 3 | _ => 0)
  | 2 => nw_fl
  | 31 | 33 | 35 | 37 | 39 | 41 => (fun i => match i with | 1 => -1 | 2 => -1 | _ => 0)
  | _ => (fun _ => 0), fun _ _ => 0)
def hM0 : am_H := (fun k => match k with
  | 0 => (fun i => match i with | 10 => -1 | _ => 0)
  | 1 => (upd (upd (upd (upd (upd (upd (upd (upd (upd (upd (upd (upd (upd (upd (upd (fun _ => 0) 20 4) 21 4) 22 4) 23 4) 24 4) 25 4) 26 4) 27 4) 28 4) 29 4) 30 4) 49 20) 51 6) 52 3) 53 3)
  | 16 => (upd (upd (upd (upd (upd (upd (fun _ => 0) 0 (-1)) 1 (-1)) 2 (-1)) 3 (-1)) 4 (-1)) 5 (-1))
  | _ => (fun _ => 0), fun _ _ => 0)
def nw_ad (b : Nat) (qs tb : Nat → Nat) (n : Nat) : Nat → Nat := fun k => match k with
  | 0 => b
  | k + 1 => if k < n then qs k else tb (k + 1)
set_option maxRecDepth 100000 in
set_option maxHeartbeats 4000000 in
theorem nw_shelves (ad : Nat → Nat) : (fun i => (([31, 33, 35, 37, 39, 41] : List Nat)[i]?).map ad) = va_up (va_up (va_up (va_up (va_up (va_up (fun _ => none) 0 (some (ad 31))) 1 (some (ad 33))) 2 (some (ad 35))) 3 (some (ad 37))) 4 (some (ad 39))) 5 (some (ad 41)) := by
  funext i
  match i with
  | 0 => rfl
  | 1 => rfl
  | 2 => rfl
  | 3 => rfl
  | 4 => rfl
  | 5 => rfl
  | n + 6 => simp [va_up]
set_option maxRecDepth 100000 in
set_option maxHeartbeats 4000000 in
theorem nw_wM (g : am_G) (b : Nat) (qs tb : Nat → Nat) : am_ws g (nw_ad b qs tb 19) hM0 shM = W1_Model_init g b qs := by
  simp only [am_ws, shM, List.mapIdx_cons, List.mapIdx_nil, Nat.zero_add, Nat.reduceAdd, am_e, am_fv]
  rfl
set_option maxRecDepth 100000 in
set_option maxHeartbeats 4000000 in
theorem nw_wX (g : am_G) (b : Nat) (qs tb : Nat → Nat) : am_ws g (nw_ad b qs tb 42) hX0 shX = W1_Club_init g b qs := by
  have e : (fun i => (([31, 33, 35, 37, 39, 41] : List Nat)[i]?).map (nw_ad b qs tb 42)) = va_up (va_up (va_up (va_up (va_up (va_up (fun _ => none) 0 (some (qs 30))) 1 (some (qs 32))) 2 (some (qs 34))) 3 (some (qs 36))) 4 (some (qs 38))) 5 (some (qs 40)) := nw_shelves (nw_ad b qs tb 42)
  simp only [am_ws, shX, List.mapIdx_cons, List.mapIdx_nil, Nat.zero_add, Nat.reduceAdd, am_e, am_fv]
  rw [e]
  rfl
