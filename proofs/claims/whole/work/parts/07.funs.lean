def f_Hole_addClub_18 (h : am_H) : Option (Int32 × am_H) :=
  some ((-3), h)
def f_Hole_addClub_21 (h : am_H) (x1 : Int32) (x2 : Int32) (x3 : Int32) (x4 : Int32) : Option (Int32 × am_H) :=
  if am_ok x4 6 = true then (some (x4, am_pI (am_pI (am_pI (am_pI h 3 x4.toNatClampNeg x1) 4 x4.toNatClampNeg x2) 5 x4.toNatClampNeg x3) 1 4 (x4 + 1))) else none
def f_Hole_addClub_11 (h : am_H) (x1 : Int32) (x2 : Int32) (x3 : Int32) (x4 : Int32) : Option (Int32 × am_H) :=
  if x4 < 6 then f_Hole_addClub_21 h x1 x2 x3 x4 else f_Hole_addClub_18 h
def f_Hole_addClub (h : am_H) (x1 : Int32) (x2 : Int32) (x3 : Int32) : Option (Int32 × am_H) :=
  if (h.1 1 4) < 0 then f_Hole_addClub_18 h else f_Hole_addClub_11 h x1 x2 x3 (h.1 1 4)
def f_Hole_isWithin_42  : Option (Bool) :=
  some false
def f_Hole_isWithin_38  : Option (Bool) :=
  some true
def f_Hole_isWithin_29 (x0 : Int32) (x1 : Int32) : Option (Bool) :=
  if am_ok x0 9 = true then (if (tv_MOST x0) < x1 then f_Hole_isWithin_42 else f_Hole_isWithin_38) else none
def f_Hole_isWithin_20 (x0 : Int32) (x1 : Int32) : Option (Bool) :=
  if am_ok x0 9 = true then (if x1 < (tv_LEAST x0) then f_Hole_isWithin_42 else f_Hole_isWithin_29 x0 x1) else none
def f_Hole_isWithin_12 (x0 : Int32) (x1 : Int32) : Option (Bool) :=
  if 9 ≤ x0 then f_Hole_isWithin_42 else f_Hole_isWithin_20 x0 x1
def f_Hole_isWithin_4 (x0 : Int32) (x1 : Int32) : Option (Bool) :=
  if 9 ≤ x0 then f_Hole_isWithin_42 else f_Hole_isWithin_12 x0 x1
def f_Hole_isWithin (x0 : Int32) (x1 : Int32) : Option (Bool) :=
  if x0 < 0 then f_Hole_isWithin_42 else f_Hole_isWithin_4 x0 x1
def f_Hole_isClub_28  : Option (Bool) :=
  some false
def f_Hole_isClub_24  : Option (Bool) :=
  some true
def f_Hole_isClub_21 (y0 : Bool) : Option (Bool) :=
  if y0 = true then f_Hole_isClub_24 else f_Hole_isClub_28
def f_Hole_isClub_16 (x2 : Int32) : Option (Bool) :=
  (f_Hole_isWithin 3 x2).bind fun p => f_Hole_isClub_21 p
def f_Hole_isClub_13 (x2 : Int32) (y0 : Bool) : Option (Bool) :=
  if y0 = true then f_Hole_isClub_16 x2 else f_Hole_isClub_28
def f_Hole_isClub_8 (x1 : Int32) (x2 : Int32) : Option (Bool) :=
  (f_Hole_isWithin 2 x1).bind fun p => f_Hole_isClub_13 x2 p
def f_Hole_isClub_5 (x1 : Int32) (x2 : Int32) (y0 : Bool) : Option (Bool) :=
  if y0 = true then f_Hole_isClub_8 x1 x2 else f_Hole_isClub_28
def f_Hole_isClub (x0 : Int32) (x1 : Int32) (x2 : Int32) : Option (Bool) :=
  (f_Hole_isWithin 1 x0).bind fun p => f_Hole_isClub_5 x1 x2 p
def f_Hole_isFull_13 (h : am_H) : Bool :=
  false
def f_Hole_isFull_9 (h : am_H) : Bool :=
  true
def f_Hole_isFull (h : am_H) : Bool :=
  if (h.1 1 4) < 6 then f_Hole_isFull_13 h else f_Hole_isFull_9 h
def f_Arrays_fill_AJJ_22 (h : am_H) : Option (am_H) :=
  some h
def f_Arrays_fill_AJJ_12 (k6 : am_H → Nat → Nat → Int64 → Int32 → Int32 → Option (am_H)) (h : am_H) (a0 : Nat) (na0 : Nat) (x1 : Int64) (x3 : Int32) (x4 : Int32) : Option (am_H) :=
  if am_ok x3 na0 = true then (k6 (am_pL h a0 x3.toNatClampNeg x1) a0 na0 x1 (x3 + 1) x4) else none
def f_Arrays_fill_AJJ_6 (k6 : am_H → Nat → Nat → Int64 → Int32 → Int32 → Option (am_H)) (h : am_H) (a0 : Nat) (na0 : Nat) (x1 : Int64) (x3 : Int32) (x4 : Int32) : Option (am_H) :=
  if x4 ≤ x3 then f_Arrays_fill_AJJ_22 h else f_Arrays_fill_AJJ_12 k6 h a0 na0 x1 x3 x4
def f_Arrays_fill_AJJ_6_l  : Nat → am_H → Nat → Nat → Int64 → Int32 → Int32 → Option (am_H)
  | 0 => fun _ _ _ _ _ _ => none
  | n + 1 => f_Arrays_fill_AJJ_6 (f_Arrays_fill_AJJ_6_l n)
def f_Arrays_fill_AJJ (h : am_H) (a0 : Nat) (na0 : Nat) (x1 : Int64) : Option (am_H) :=
  f_Arrays_fill_AJJ_6_l am_fu h a0 na0 x1 0 (Int32.ofNat na0)
def f_Reck_forgetBest_20 (h : am_H) : Option (am_H) :=
  some h
def f_Reck_forgetBest_15 (h : am_H) : Option (am_H) :=
  some (am_pI h 12 6 0)
def f_Reck_forgetBest_7 (h : am_H) : Option (am_H) :=
  (f_Arrays_fill_AJJ h 13 155 0).bind fun p => f_Reck_forgetBest_15 p
def f_Reck_forgetBest (h : am_H) : Option (am_H) :=
  if (h.1 12 6) = 0 then f_Reck_forgetBest_20 h else f_Reck_forgetBest_7 h
def f_Reck_forgetLawful_25 (h : am_H) : Option (am_H) :=
  some h
def f_Reck_forgetLawful_20 (h : am_H) : Option (am_H) :=
  some (am_pI h 12 7 0)
def f_Reck_forgetLawful_12 (h : am_H) : Option (am_H) :=
  (f_Arrays_fill_AJJ h 14 155 0).bind fun p => f_Reck_forgetLawful_20 p
def f_Reck_forgetLawful (h : am_H) : Option (am_H) :=
  if ((am_pI h 12 8 0).1 12 7) = 0 then f_Reck_forgetLawful_25 (am_pI h 12 8 0) else f_Reck_forgetLawful_12 (am_pI h 12 8 0)
def f_Reck_forget_18 (h : am_H) : Option (am_H) :=
  some h
def f_Reck_forget_14 (h : am_H) : Option (am_H) :=
  (f_Reck_forgetLawful h).bind fun p => f_Reck_forget_18 p
def f_Reck_forget (h : am_H) : Option (am_H) :=
  (f_Reck_forgetBest (am_pI (am_pI h 12 9 0) 12 10 0)).bind fun p => f_Reck_forget_14 p
def f_Club_club_19 (h : am_H) : Option (Int32 × am_H) :=
  some ((-1), h)
def f_Club_club_57 (h : am_H) (y0 : Int32) : Option (Int32 × am_H) :=
  some (y0, h)
def f_Club_club_41 (h : am_H) (x1 : Int32) : Option (Int32 × am_H) :=
  (f_Hole_addClub h (x1 / 10) (x1 - x1 / 10 * 10) 1).bind fun p => f_Club_club_57 p.2 p.1
def f_Club_club_34 (h : am_H) (x1 : Int32) : Option (Int32 × am_H) :=
  (f_Reck_forget h).bind fun p => f_Club_club_41 p x1
def f_Club_club_31 (h : am_H) : Option (Int32 × am_H) :=
  some ((-3), h)
def f_Club_club_28 (h : am_H) (x1 : Int32) (y0 : Bool) : Option (Int32 × am_H) :=
  if y0 = true then f_Club_club_31 h else f_Club_club_34 h x1
def f_Club_club_21 (h : am_H) (x1 : Int32) : Option (Int32 × am_H) :=
  f_Club_club_28 h x1 (f_Hole_isFull h)
def f_Club_club_16 (h : am_H) (x1 : Int32) (y0 : Bool) : Option (Int32 × am_H) :=
  if y0 = true then f_Club_club_21 h x1 else f_Club_club_19 h
def f_Club_club_4 (h : am_H) (x1 : Int32) : Option (Int32 × am_H) :=
  (f_Hole_isClub (x1 / 10) (x1 - x1 / 10 * 10) 1).bind fun p => f_Club_club_16 h x1 p
def f_Club_club (h : am_H) (x1 : Int32) : Option (Int32 × am_H) :=
  if x1 < 0 then f_Club_club_19 h else f_Club_club_4 h x1
def f_Club_isShelf_14  : Bool :=
  false
def f_Club_isShelf_10  : Bool :=
  true
def f_Club_isShelf_4 (x0 : Int32) : Bool :=
  if 6 ≤ x0 then f_Club_isShelf_14 else f_Club_isShelf_10
def f_Club_isShelf (x0 : Int32) : Bool :=
  if x0 < 0 then f_Club_isShelf_14 else f_Club_isShelf_4 x0
def f_Shelf_hasPlaces_30 (h : am_H) : Bool :=
  false
def f_Shelf_hasPlaces_26 (h : am_H) : Bool :=
  true
def f_Shelf_hasPlaces_16 (h : am_H) (a0 : Nat) (x1 : Int32) (x2 : Int32) : Bool :=
  if ((h.1 a0 3) - x2) < x1 then f_Shelf_hasPlaces_30 h else f_Shelf_hasPlaces_26 h
def f_Shelf_hasPlaces_8 (h : am_H) (a0 : Nat) (x1 : Int32) (x2 : Int32) : Bool :=
  if (h.1 a0 3) < x2 then f_Shelf_hasPlaces_30 h else f_Shelf_hasPlaces_16 h a0 x1 x2
def f_Shelf_hasPlaces_4 (h : am_H) (a0 : Nat) (x1 : Int32) (x2 : Int32) : Bool :=
  if x2 < 0 then f_Shelf_hasPlaces_30 h else f_Shelf_hasPlaces_8 h a0 x1 x2
def f_Shelf_hasPlaces (h : am_H) (a0 : Nat) (x1 : Int32) (x2 : Int32) : Bool :=
  if x1 < 0 then f_Shelf_hasPlaces_30 h else f_Shelf_hasPlaces_4 h a0 x1 x2
def f_Shelf_read_27 (h : am_H) : Option (Int64) :=
  some 0
def f_Shelf_read_18 (h : am_H) (a0 : Nat) (x1 : Int32) : Option (Int64) :=
  if am_ok x1 60 = true then (some (h.2 (a0 + 1) x1.toNatClampNeg)) else none
def f_Shelf_read_12 (h : am_H) (a0 : Nat) (x1 : Int32) : Option (Int64) :=
  if 60 ≤ x1 then f_Shelf_read_27 h else f_Shelf_read_18 h a0 x1
def f_Shelf_read_4 (h : am_H) (a0 : Nat) (x1 : Int32) : Option (Int64) :=
  if (h.1 a0 3) ≤ x1 then f_Shelf_read_27 h else f_Shelf_read_12 h a0 x1
def f_Shelf_read (h : am_H) (a0 : Nat) (x1 : Int32) : Option (Int64) :=
  if x1 < 0 then f_Shelf_read_27 h else f_Shelf_read_4 h a0 x1
def f_Hole_addClubs_111 (h : am_H) (x3 : Int32) : Option (Int32 × am_H) :=
  some ((if 6 < x3 then 6 else x3), h)
def f_Hole_addClubs_37 (h : am_H) (x4 : Int32) : Option (Int32 × am_H) :=
  some (x4, h)
def f_Hole_addClubs_104 (k3 : am_H → Nat → Int32 → Int32 → Int32 → Option (Int32 × am_H)) (h : am_H) (a1 : Nat) (x2 : Int32) (x3 : Int32) (x4 : Int32) (y0 : Int32) : Option (Int32 × am_H) :=
  k3 h a1 x2 x3 (x4 + 1)
def f_Hole_addClubs_94 (k3 : am_H → Nat → Int32 → Int32 → Int32 → Option (Int32 × am_H)) (h : am_H) (a1 : Nat) (x2 : Int32) (x3 : Int32) (x4 : Int32) (x6 : Int32) (x7 : Int32) (x8 : Int32) : Option (Int32 × am_H) :=
  (f_Hole_addClub h x6 x7 x8).bind fun p => f_Hole_addClubs_104 k3 p.2 a1 x2 x3 x4 p.1
def f_Hole_addClubs_91 (h : am_H) (x4 : Int32) : Option (Int32 × am_H) :=
  some (x4, h)
def f_Hole_addClubs_88 (k3 : am_H → Nat → Int32 → Int32 → Int32 → Option (Int32 × am_H)) (h : am_H) (a1 : Nat) (x2 : Int32) (x3 : Int32) (x4 : Int32) (x6 : Int32) (x7 : Int32) (x8 : Int32) (y0 : Bool) : Option (Int32 × am_H) :=
  if y0 = true then f_Hole_addClubs_94 k3 h a1 x2 x3 x4 x6 x7 x8 else f_Hole_addClubs_91 h x4
def f_Hole_addClubs_76 (k3 : am_H → Nat → Int32 → Int32 → Int32 → Option (Int32 × am_H)) (h : am_H) (a1 : Nat) (x2 : Int32) (x3 : Int32) (x4 : Int32) (x6 : Int32) (x7 : Int32) (y0 : Int64) : Option (Int32 × am_H) :=
  (f_Hole_isClub x6 x7 y0.toInt32).bind fun p => f_Hole_addClubs_88 k3 h a1 x2 x3 x4 x6 x7 y0.toInt32 p
def f_Hole_addClubs_65 (k3 : am_H → Nat → Int32 → Int32 → Int32 → Option (Int32 × am_H)) (h : am_H) (a1 : Nat) (x2 : Int32) (x3 : Int32) (x4 : Int32) (x5 : Int32) (x6 : Int32) (y0 : Int64) : Option (Int32 × am_H) :=
  (f_Shelf_read h a1 (x5 + 2)).bind fun p => f_Hole_addClubs_76 k3 h a1 x2 x3 x4 x6 y0.toInt32 p
def f_Hole_addClubs_54 (k3 : am_H → Nat → Int32 → Int32 → Int32 → Option (Int32 × am_H)) (h : am_H) (a1 : Nat) (x2 : Int32) (x3 : Int32) (x4 : Int32) (x5 : Int32) (y0 : Int64) : Option (Int32 × am_H) :=
  (f_Shelf_read h a1 (x5 + 1)).bind fun p => f_Hole_addClubs_65 k3 h a1 x2 x3 x4 x5 y0.toInt32 p
def f_Hole_addClubs_40 (k3 : am_H → Nat → Int32 → Int32 → Int32 → Option (Int32 × am_H)) (h : am_H) (a1 : Nat) (x2 : Int32) (x3 : Int32) (x4 : Int32) : Option (Int32 × am_H) :=
  (f_Shelf_read h a1 (x2 + (3 * x4))).bind fun p => f_Hole_addClubs_54 k3 h a1 x2 x3 x4 (x2 + (3 * x4)) p
def f_Hole_addClubs_34 (k3 : am_H → Nat → Int32 → Int32 → Int32 → Option (Int32 × am_H)) (h : am_H) (a1 : Nat) (x2 : Int32) (x3 : Int32) (x4 : Int32) (y0 : Bool) : Option (Int32 × am_H) :=
  if y0 = true then f_Hole_addClubs_40 k3 h a1 x2 x3 x4 else f_Hole_addClubs_37 h x4
def f_Hole_addClubs_23 (k3 : am_H → Nat → Int32 → Int32 → Int32 → Option (Int32 × am_H)) (h : am_H) (a1 : Nat) (x2 : Int32) (x3 : Int32) (x4 : Int32) : Option (Int32 × am_H) :=
  f_Hole_addClubs_34 k3 h a1 x2 x3 x4 (f_Shelf_hasPlaces h a1 x2 ((3 * x4) + 3))
def f_Hole_addClubs_20 (k3 : am_H → Nat → Int32 → Int32 → Int32 → Option (Int32 × am_H)) (h : am_H) (a1 : Nat) (x2 : Int32) (x3 : Int32) (x4 : Int32) (y0 : Bool) : Option (Int32 × am_H) :=
  if y0 = true then f_Hole_addClubs_37 h x4 else f_Hole_addClubs_23 k3 h a1 x2 x3 x4
def f_Hole_addClubs_16 (k3 : am_H → Nat → Int32 → Int32 → Int32 → Option (Int32 × am_H)) (h : am_H) (a1 : Nat) (x2 : Int32) (x3 : Int32) (x4 : Int32) : Option (Int32 × am_H) :=
  f_Hole_addClubs_20 k3 h a1 x2 x3 x4 (f_Hole_isFull h)
def f_Hole_addClubs_9 (k3 : am_H → Nat → Int32 → Int32 → Int32 → Option (Int32 × am_H)) (h : am_H) (a1 : Nat) (x2 : Int32) (x3 : Int32) (x4 : Int32) : Option (Int32 × am_H) :=
  if 6 ≤ x4 then f_Hole_addClubs_111 h x3 else f_Hole_addClubs_16 k3 h a1 x2 x3 x4
def f_Hole_addClubs_3 (k3 : am_H → Nat → Int32 → Int32 → Int32 → Option (Int32 × am_H)) (h : am_H) (a1 : Nat) (x2 : Int32) (x3 : Int32) (x4 : Int32) : Option (Int32 × am_H) :=
  if x3 ≤ x4 then f_Hole_addClubs_111 h x3 else f_Hole_addClubs_9 k3 h a1 x2 x3 x4
def f_Hole_addClubs_3_l  : Nat → am_H → Nat → Int32 → Int32 → Int32 → Option (Int32 × am_H)
  | 0 => fun _ _ _ _ _ => none
  | n + 1 => f_Hole_addClubs_3 (f_Hole_addClubs_3_l n)
def f_Hole_addClubs (h : am_H) (a1 : Nat) (x2 : Int32) (x3 : Int32) : Option (Int32 × am_H) :=
  f_Hole_addClubs_3_l am_fu h a1 x2 x3 0
def f_Shelf_isByteRow_11 (h : am_H) : Bool :=
  false
def f_Shelf_isByteRow_7 (h : am_H) : Bool :=
  true
def f_Shelf_isByteRow (h : am_H) (a0 : Nat) : Bool :=
  if (h.1 a0 2) = 0 then f_Shelf_isByteRow_7 h else f_Shelf_isByteRow_11 h
def f_Shelf_isEmpty_20 (h : am_H) : Bool :=
  false
def f_Shelf_isEmpty_16 (h : am_H) : Bool :=
  true
def f_Shelf_isEmpty_8 (h : am_H) (a0 : Nat) : Bool :=
  if (h.1 a0 2) = (-1) then f_Shelf_isEmpty_16 h else f_Shelf_isEmpty_20 h
def f_Shelf_isEmpty (h : am_H) (a0 : Nat) : Bool :=
  if (h.1 a0 1) = (-1) then f_Shelf_isEmpty_8 h a0 else f_Shelf_isEmpty_20 h
def f_Club_clubs_18 (h : am_H) : Option (Int32 × am_H) :=
  some ((-1), h)
def f_Club_clubs_67 (h : am_H) (y0 : Int32) : Option (Int32 × am_H) :=
  some (y0, h)
def f_Club_clubs_56 (h : am_H) (x2 : Int32) (x3 : Int32) (a4 : Nat) : Option (Int32 × am_H) :=
  (f_Hole_addClubs h a4 x2 x3).bind fun p => f_Club_clubs_67 p.2 p.1
def f_Club_clubs_49 (h : am_H) (x2 : Int32) (x3 : Int32) (a4 : Nat) : Option (Int32 × am_H) :=
  (f_Reck_forget h).bind fun p => f_Club_clubs_56 p x2 x3 a4
def f_Club_clubs_46 (h : am_H) : Option (Int32 × am_H) :=
  some ((-12), h)
def f_Club_clubs_43 (h : am_H) (x2 : Int32) (x3 : Int32) (a4 : Nat) (y0 : Bool) : Option (Int32 × am_H) :=
  if y0 = true then f_Club_clubs_49 h x2 x3 a4 else f_Club_clubs_46 h
def f_Club_clubs_38 (h : am_H) (x2 : Int32) (x3 : Int32) (a4 : Nat) : Option (Int32 × am_H) :=
  f_Club_clubs_43 h x2 x3 a4 (f_Shelf_isByteRow h a4)
def f_Club_clubs_36 (h : am_H) : Option (Int32 × am_H) :=
  some (0, h)
def f_Club_clubs_33 (h : am_H) (x2 : Int32) (x3 : Int32) (a4 : Nat) (y0 : Bool) : Option (Int32 × am_H) :=
  if y0 = true then f_Club_clubs_36 h else f_Club_clubs_38 h x2 x3 a4
def f_Club_clubs_20 (h : am_H) (x1 : Int32) (x2 : Int32) (x3 : Int32) : Option (Int32 × am_H) :=
  if am_ok x1 6 = true then (f_Club_clubs_33 h x2 x3 (am_shp x1) (f_Shelf_isEmpty h (am_shp x1))) else none
def f_Club_clubs_12 (h : am_H) (x1 : Int32) (x2 : Int32) (x3 : Int32) : Option (Int32 × am_H) :=
  if x3 ≤ 6 then f_Club_clubs_20 h x1 x2 x3 else f_Club_clubs_18 h
def f_Club_clubs_7 (h : am_H) (x1 : Int32) (x2 : Int32) (x3 : Int32) : Option (Int32 × am_H) :=
  if x3 < 1 then f_Club_clubs_18 h else f_Club_clubs_12 h x1 x2 x3
def f_Club_clubs_4 (h : am_H) (x1 : Int32) (x2 : Int32) (x3 : Int32) (y0 : Bool) : Option (Int32 × am_H) :=
  if y0 = true then f_Club_clubs_7 h x1 x2 x3 else f_Club_clubs_18 h
def f_Club_clubs (h : am_H) (x1 : Int32) (x2 : Int32) (x3 : Int32) : Option (Int32 × am_H) :=
  f_Club_clubs_4 h x1 x2 x3 (f_Club_isShelf x1)
def f_Hole_hasClub_22 (h : am_H) : Bool :=
  false
def f_Hole_hasClub_18 (h : am_H) : Bool :=
  true
def f_Hole_hasClub_12 (h : am_H) (x1 : Int32) : Bool :=
  if 6 ≤ x1 then f_Hole_hasClub_22 h else f_Hole_hasClub_18 h
def f_Hole_hasClub_4 (h : am_H) (x1 : Int32) : Bool :=
  if (h.1 1 4) ≤ x1 then f_Hole_hasClub_22 h else f_Hole_hasClub_12 h x1
def f_Hole_hasClub (h : am_H) (x1 : Int32) : Bool :=
  if x1 < 0 then f_Hole_hasClub_22 h else f_Hole_hasClub_4 h x1
def f_Hole_isCell_14  : Bool :=
  false
def f_Hole_isCell_10  : Bool :=
  true
def f_Hole_isCell_4 (x0 : Int32) : Bool :=
  if 31 ≤ x0 then f_Hole_isCell_14 else f_Hole_isCell_10
def f_Hole_isCell (x0 : Int32) : Bool :=
  if x0 < 0 then f_Hole_isCell_14 else f_Hole_isCell_4 x0
def f_Hole_hasNumber_44 (h : am_H) : Bool :=
  false
def f_Hole_hasNumber_40 (h : am_H) : Bool :=
  true
def f_Hole_hasNumber_36 (h : am_H) (x1 : Int32) : Bool :=
  if x1 = 0 then f_Hole_hasNumber_40 h else f_Hole_hasNumber_44 h
def f_Hole_hasNumber_30 (h : am_H) (x1 : Int32) (x2 : Int32) : Bool :=
  if 8 < x2 then f_Hole_hasNumber_44 h else f_Hole_hasNumber_36 h x1
def f_Hole_hasNumber_25 (h : am_H) (x1 : Int32) (x2 : Int32) : Bool :=
  if x2 < 4 then f_Hole_hasNumber_44 h else f_Hole_hasNumber_30 h x1 x2
def f_Hole_hasNumber_24 (h : am_H) (y0 : Bool) : Bool :=
  y0
def f_Hole_hasNumber_19 (h : am_H) (x1 : Int32) : Bool :=
  f_Hole_hasNumber_24 h (f_Hole_hasClub h x1)
def f_Hole_hasNumber_14 (h : am_H) (x1 : Int32) (x2 : Int32) : Bool :=
  if 3 < x2 then f_Hole_hasNumber_25 h x1 x2 else f_Hole_hasNumber_19 h x1
def f_Hole_hasNumber_9 (h : am_H) (x1 : Int32) (x2 : Int32) : Bool :=
  if x2 < 1 then f_Hole_hasNumber_25 h x1 x2 else f_Hole_hasNumber_14 h x1 x2
def f_Hole_hasNumber_8 (h : am_H) (y0 : Bool) : Bool :=
  y0
def f_Hole_hasNumber_4 (h : am_H) (x1 : Int32) : Bool :=
  f_Hole_hasNumber_8 h (f_Hole_isCell x1)
def f_Hole_hasNumber (h : am_H) (x1 : Int32) (x2 : Int32) : Bool :=
  if x2 = 0 then f_Hole_hasNumber_4 h x1 else f_Hole_hasNumber_9 h x1 x2
def f_Hole_become_56 (h : am_H) (x1 : Int32) (x3 : Int32) : Option (am_H) :=
  if am_ok x1 31 = true then (some (am_pI h 2 x1.toNatClampNeg x3)) else none
def f_Hole_become_66 (h : am_H) (x1 : Int32) (x3 : Int32) : Option (am_H) :=
  if am_ok x1 6 = true then (some (am_pI h 3 x1.toNatClampNeg x3)) else none
def f_Hole_become_76 (h : am_H) (x1 : Int32) (x3 : Int32) : Option (am_H) :=
  if am_ok x1 6 = true then (some (am_pI h 4 x1.toNatClampNeg x3)) else none
def f_Hole_become_86 (h : am_H) (x1 : Int32) (x3 : Int32) : Option (am_H) :=
  if am_ok x1 6 = true then (some (am_pI h 5 x1.toNatClampNeg x3)) else none
def f_Hole_become_96 (h : am_H) (x3 : Int32) : Option (am_H) :=
  some (am_pI h 1 5 x3)
def f_Hole_become_104 (h : am_H) (x3 : Int32) : Option (am_H) :=
  some (am_pI h 1 6 x3)
def f_Hole_become_112 (h : am_H) (x3 : Int32) : Option (am_H) :=
  some (am_pI h 1 7 x3)
def f_Hole_become_120 (h : am_H) (x3 : Int32) : Option (am_H) :=
  some (am_pI h 1 8 x3)
def f_Hole_become_128 (h : am_H) (x3 : Int32) : Option (am_H) :=
  some (am_pI h 1 9 x3)
def f_Hole_become_10 (h : am_H) (x1 : Int32) (x2 : Int32) (x3 : Int32) : Option (am_H) :=
  if x2 = 0 then f_Hole_become_56 h x1 x3 else if x2 = 1 then f_Hole_become_66 h x1 x3 else if x2 = 2 then f_Hole_become_76 h x1 x3 else if x2 = 3 then f_Hole_become_86 h x1 x3 else if x2 = 4 then f_Hole_become_96 h x3 else if x2 = 5 then f_Hole_become_104 h x3 else if x2 = 6 then f_Hole_become_112 h x3 else if x2 = 7 then f_Hole_become_120 h x3 else f_Hole_become_128 h x3
def f_Hole_become_9 (h : am_H) : Option (am_H) :=
  some h
def f_Hole_become_6 (h : am_H) (x1 : Int32) (x2 : Int32) (x3 : Int32) (y0 : Bool) : Option (am_H) :=
  if y0 = true then f_Hole_become_10 h x1 x2 x3 else f_Hole_become_9 h
def f_Hole_become (h : am_H) (x1 : Int32) (x2 : Int32) (x3 : Int32) : Option (am_H) :=
  f_Hole_become_6 h x1 x2 x3 (f_Hole_hasNumber h x1 x2)
def f_Club_alter_17 (h : am_H) : Option (am_H) :=
  some h
def f_Club_alter_10 (h : am_H) : Option (am_H) :=
  (f_Reck_forget h).bind fun p => f_Club_alter_17 p
def f_Club_alter (h : am_H) (x1 : Int32) (x2 : Int32) (x3 : Int32) : Option (am_H) :=
  (f_Hole_become h x1 x2 x3).bind fun p => f_Club_alter_10 p
def f_Changes_dropOldest_60 (h : am_H) : am_H :=
  am_pI h 22 4 39
def f_Changes_dropOldest_45 (h : am_H) : am_H :=
  f_Changes_dropOldest_60 (am_cI h 26 26 (1 : Int32).toNatClampNeg (0 : Int32).toNatClampNeg (39 : Int32).toNatClampNeg)
def f_Changes_dropOldest_30 (h : am_H) : am_H :=
  f_Changes_dropOldest_45 (am_cI h 25 25 (1 : Int32).toNatClampNeg (0 : Int32).toNatClampNeg (39 : Int32).toNatClampNeg)
def f_Changes_dropOldest_15 (h : am_H) : am_H :=
  f_Changes_dropOldest_30 (am_cI h 24 24 (1 : Int32).toNatClampNeg (0 : Int32).toNatClampNeg (39 : Int32).toNatClampNeg)
def f_Changes_dropOldest (h : am_H) : am_H :=
  f_Changes_dropOldest_15 (am_cI h 23 23 (1 : Int32).toNatClampNeg (0 : Int32).toNatClampNeg (39 : Int32).toNatClampNeg)
def f_Changes_remember_29 (h : am_H) : Option (am_H) :=
  some h
def f_Changes_remember_30 (h : am_H) (x1 : Int32) (x2 : Int32) (x3 : Int32) (x4 : Int32) : Option (am_H) :=
  if am_ok (h.1 22 4) 40 = true then (if am_ok ((am_pI h 23 (h.1 22 4).toNatClampNeg x1).1 22 4) 40 = true then (if am_ok ((am_pI (am_pI h 23 (h.1 22 4).toNatClampNeg x1) 24 ((am_pI h 23 (h.1 22 4).toNatClampNeg x1).1 22 4).toNatClampNeg x2).1 22 4) 40 = true then (if am_ok ((am_pI (am_pI (am_pI h 23 (h.1 22 4).toNatClampNeg x1) 24 ((am_pI h 23 (h.1 22 4).toNatClampNeg x1).1 22 4).toNatClampNeg x2) 25 ((am_pI (am_pI h 23 (h.1 22 4).toNatClampNeg x1) 24 ((am_pI h 23 (h.1 22 4).toNatClampNeg x1).1 22 4).toNatClampNeg x2).1 22 4).toNatClampNeg x3).1 22 4) 40 = true then (some (am_pI (am_pI (am_pI (am_pI (am_pI (am_pI h 23 (h.1 22 4).toNatClampNeg x1) 24 ((am_pI h 23 (h.1 22 4).toNatClampNeg x1).1 22 4).toNatClampNeg x2) 25 ((am_pI (am_pI h 23 (h.1 22 4).toNatClampNeg x1) 24 ((am_pI h 23 (h.1 22 4).toNatClampNeg x1).1 22 4).toNatClampNeg x2).1 22 4).toNatClampNeg x3) 26 ((am_pI (am_pI (am_pI h 23 (h.1 22 4).toNatClampNeg x1) 24 ((am_pI h 23 (h.1 22 4).toNatClampNeg x1).1 22 4).toNatClampNeg x2) 25 ((am_pI (am_pI h 23 (h.1 22 4).toNatClampNeg x1) 24 ((am_pI h 23 (h.1 22 4).toNatClampNeg x1).1 22 4).toNatClampNeg x2).1 22 4).toNatClampNeg x3).1 22 4).toNatClampNeg x4) 22 4 (((am_pI (am_pI (am_pI (am_pI h 23 (h.1 22 4).toNatClampNeg x1) 24 ((am_pI h 23 (h.1 22 4).toNatClampNeg x1).1 22 4).toNatClampNeg x2) 25 ((am_pI (am_pI h 23 (h.1 22 4).toNatClampNeg x1) 24 ((am_pI h 23 (h.1 22 4).toNatClampNeg x1).1 22 4).toNatClampNeg x2).1 22 4).toNatClampNeg x3) 26 ((am_pI (am_pI (am_pI h 23 (h.1 22 4).toNatClampNeg x1) 24 ((am_pI h 23 (h.1 22 4).toNatClampNeg x1).1 22 4).toNatClampNeg x2) 25 ((am_pI (am_pI h 23 (h.1 22 4).toNatClampNeg x1) 24 ((am_pI h 23 (h.1 22 4).toNatClampNeg x1).1 22 4).toNatClampNeg x2).1 22 4).toNatClampNeg x3).1 22 4).toNatClampNeg x4).1 22 4) + 1)) 22 5 0)) else none) else none) else none) else none
def f_Changes_remember_20 (h : am_H) (x1 : Int32) (x2 : Int32) (x3 : Int32) (x4 : Int32) : Option (am_H) :=
  if (h.1 22 4) < 40 then f_Changes_remember_30 h x1 x2 x3 x4 else f_Changes_remember_29 h
def f_Changes_remember_13 (h : am_H) (x1 : Int32) (x2 : Int32) (x3 : Int32) (x4 : Int32) : Option (am_H) :=
  if (h.1 22 4) < 0 then f_Changes_remember_29 h else f_Changes_remember_20 h x1 x2 x3 x4
def f_Changes_remember_9 (h : am_H) (x1 : Int32) (x2 : Int32) (x3 : Int32) (x4 : Int32) : Option (am_H) :=
  f_Changes_remember_13 (f_Changes_dropOldest h) x1 x2 x3 x4
def f_Changes_remember (h : am_H) (x1 : Int32) (x2 : Int32) (x3 : Int32) (x4 : Int32) : Option (am_H) :=
  if (h.1 22 4) < 40 then f_Changes_remember_13 h x1 x2 x3 x4 else f_Changes_remember_9 h x1 x2 x3 x4
def f_Hole_allows_41 (h : am_H) (y0 : Bool) : Option (Bool) :=
  some y0
def f_Hole_allows_36 (h : am_H) (x1 : Int32) (x2 : Int32) : Option (Bool) :=
  (f_Hole_isWithin x1 x2).bind fun p => f_Hole_allows_41 h p
def f_Hole_allows_34 (h : am_H) : Option (Bool) :=
  some false
def f_Hole_allows_23 (h : am_H) (x1 : Int32) (x2 : Int32) : Option (Bool) :=
  if x2 ≤ (12 - (h.1 1 8)) then f_Hole_allows_36 h x1 x2 else f_Hole_allows_34 h
def f_Hole_allows_17 (h : am_H) (x1 : Int32) (x2 : Int32) : Option (Bool) :=
  if x1 = 8 then f_Hole_allows_23 h x1 x2 else f_Hole_allows_36 h x1 x2
def f_Hole_allows_6 (h : am_H) (x1 : Int32) (x2 : Int32) : Option (Bool) :=
  if (12 - (h.1 1 9)) < x2 then f_Hole_allows_34 h else f_Hole_allows_17 h x1 x2
def f_Hole_allows (h : am_H) (x1 : Int32) (x2 : Int32) : Option (Bool) :=
  if x1 = 7 then f_Hole_allows_6 h x1 x2 else f_Hole_allows_17 h x1 x2
def f_Hole_numberAt_68 (h : am_H) : Option (Int32) :=
  some (-2000000000)
def f_Hole_numberAt_59 (h : am_H) (x1 : Int32) : Option (Int32) :=
  if am_ok x1 31 = true then (some (h.1 2 x1.toNatClampNeg)) else none
def f_Hole_numberAt_56 (h : am_H) (x1 : Int32) (y0 : Bool) : Option (Int32) :=
  if y0 = true then f_Hole_numberAt_59 h x1 else f_Hole_numberAt_68 h
def f_Hole_numberAt_52 (h : am_H) (x1 : Int32) : Option (Int32) :=
  f_Hole_numberAt_56 h x1 (f_Hole_isCell x1)
def f_Hole_numberAt_88 (h : am_H) : Option (Int32) :=
  some (-2000000000)
def f_Hole_numberAt_79 (h : am_H) (x1 : Int32) : Option (Int32) :=
  if am_ok x1 6 = true then (some (h.1 3 x1.toNatClampNeg)) else none
def f_Hole_numberAt_76 (h : am_H) (x1 : Int32) (y0 : Bool) : Option (Int32) :=
  if y0 = true then f_Hole_numberAt_79 h x1 else f_Hole_numberAt_88 h
def f_Hole_numberAt_71 (h : am_H) (x1 : Int32) : Option (Int32) :=
  f_Hole_numberAt_76 h x1 (f_Hole_hasClub h x1)
def f_Hole_numberAt_108 (h : am_H) : Option (Int32) :=
  some (-2000000000)
def f_Hole_numberAt_99 (h : am_H) (x1 : Int32) : Option (Int32) :=
  if am_ok x1 6 = true then (some (h.1 4 x1.toNatClampNeg)) else none
def f_Hole_numberAt_96 (h : am_H) (x1 : Int32) (y0 : Bool) : Option (Int32) :=
  if y0 = true then f_Hole_numberAt_99 h x1 else f_Hole_numberAt_108 h
def f_Hole_numberAt_91 (h : am_H) (x1 : Int32) : Option (Int32) :=
  f_Hole_numberAt_96 h x1 (f_Hole_hasClub h x1)
def f_Hole_numberAt_128 (h : am_H) : Option (Int32) :=
  some (-2000000000)
def f_Hole_numberAt_119 (h : am_H) (x1 : Int32) : Option (Int32) :=
  if am_ok x1 6 = true then (some (h.1 5 x1.toNatClampNeg)) else none
def f_Hole_numberAt_116 (h : am_H) (x1 : Int32) (y0 : Bool) : Option (Int32) :=
  if y0 = true then f_Hole_numberAt_119 h x1 else f_Hole_numberAt_128 h
def f_Hole_numberAt_111 (h : am_H) (x1 : Int32) : Option (Int32) :=
  f_Hole_numberAt_116 h x1 (f_Hole_hasClub h x1)
def f_Hole_numberAt_131 (h : am_H) : Option (Int32) :=
  some (h.1 1 5)
def f_Hole_numberAt_136 (h : am_H) : Option (Int32) :=
  some (h.1 1 6)
def f_Hole_numberAt_141 (h : am_H) : Option (Int32) :=
  some (h.1 1 7)
def f_Hole_numberAt_146 (h : am_H) : Option (Int32) :=
  some (h.1 1 8)
def f_Hole_numberAt_151 (h : am_H) : Option (Int32) :=
  some (h.1 1 9)
def f_Hole_numberAt_156 (h : am_H) : Option (Int32) :=
  some (-2000000000)
def f_Hole_numberAt (h : am_H) (x1 : Int32) (x2 : Int32) : Option (Int32) :=
  if x2 = 0 then f_Hole_numberAt_52 h x1 else if x2 = 1 then f_Hole_numberAt_71 h x1 else if x2 = 2 then f_Hole_numberAt_91 h x1 else if x2 = 3 then f_Hole_numberAt_111 h x1 else if x2 = 4 then f_Hole_numberAt_131 h else if x2 = 5 then f_Hole_numberAt_136 h else if x2 = 6 then f_Hole_numberAt_141 h else if x2 = 7 then f_Hole_numberAt_146 h else if x2 = 8 then f_Hole_numberAt_151 h else f_Hole_numberAt_156 h
def f_Club_mend_24 (h : am_H) : Option (Int32 × am_H) :=
  some ((-2000000000), h)
def f_Club_mend_63 (h : am_H) (x4 : Int32) : Option (Int32 × am_H) :=
  some (x4, h)
def f_Club_mend_56 (h : am_H) (x1 : Int32) (x2 : Int32) (x3 : Int32) (x4 : Int32) : Option (Int32 × am_H) :=
  (f_Club_alter h x1 x2 x3).bind fun p => f_Club_mend_63 p x4
def f_Club_mend_44 (h : am_H) (x1 : Int32) (x2 : Int32) (x3 : Int32) (x4 : Int32) : Option (Int32 × am_H) :=
  (f_Changes_remember h x1 x2 x4 x3).bind fun p => f_Club_mend_56 p x1 x2 x3 x4
def f_Club_mend_36 (h : am_H) (x1 : Int32) (x2 : Int32) (x3 : Int32) (y0 : Int32) : Option (Int32 × am_H) :=
  if y0 = x3 then f_Club_mend_63 h y0 else f_Club_mend_44 h x1 x2 x3 y0
def f_Club_mend_27 (h : am_H) (x1 : Int32) (x2 : Int32) (x3 : Int32) : Option (Int32 × am_H) :=
  (f_Hole_numberAt h x1 x2).bind fun p => f_Club_mend_36 h x1 x2 x3 p
def f_Club_mend_21 (h : am_H) (x1 : Int32) (x2 : Int32) (x3 : Int32) (y0 : Bool) : Option (Int32 × am_H) :=
  if y0 = true then f_Club_mend_27 h x1 x2 x3 else f_Club_mend_24 h
def f_Club_mend_12 (h : am_H) (x1 : Int32) (x2 : Int32) (x3 : Int32) : Option (Int32 × am_H) :=
  (f_Hole_allows h x2 x3).bind fun p => f_Club_mend_21 h x1 x2 x3 p
def f_Club_mend_9 (h : am_H) (x1 : Int32) (x2 : Int32) (x3 : Int32) (y0 : Bool) : Option (Int32 × am_H) :=
  if y0 = true then f_Club_mend_12 h x1 x2 x3 else f_Club_mend_24 h
def f_Club_mend (h : am_H) (x1 : Int32) (x2 : Int32) (x3 : Int32) : Option (Int32 × am_H) :=
  f_Club_mend_9 h x1 x2 x3 (f_Hole_hasNumber h x1 x2)
def f_Deed_place (h : am_H) : Int32 :=
  (h.1 20 (5 : Int32).toNatClampNeg)
def f_Club_of_42 (h : am_H) : Option (Int32) :=
  some (-2000000000)
def f_Club_of_39 (h : am_H) (y0 : Int32) : Option (Int32) :=
  some y0
def f_Club_of_30 (h : am_H) (x1 : Int32) (x2 : Int32) : Option (Int32) :=
  (f_Hole_numberAt h x1 x2).bind fun p => f_Club_of_39 h p
def f_Club_of_27 (h : am_H) (x1 : Int32) (x2 : Int32) (y0 : Bool) : Option (Int32) :=
  if y0 = true then f_Club_of_30 h x1 x2 else f_Club_of_42 h
def f_Club_of_18 (h : am_H) (x1 : Int32) (x2 : Int32) : Option (Int32) :=
  f_Club_of_27 h x1 x2 (f_Hole_hasNumber h x1 x2)
def f_Club_of_17 (h : am_H) (y0 : Int32) : Option (Int32) :=
  some y0
def f_Club_of_10 (h : am_H) : Option (Int32) :=
  f_Club_of_17 h (f_Deed_place h)
def f_Club_of_6 (h : am_H) (x1 : Int32) (x2 : Int32) : Option (Int32) :=
  if x1 = 0 then f_Club_of_10 h else f_Club_of_18 h x1 x2
def f_Club_of (h : am_H) (x1 : Int32) (x2 : Int32) : Option (Int32) :=
  if x2 = 9 then f_Club_of_6 h x1 x2 else f_Club_of_18 h x1 x2
def f_Law_addByte_16 (h : am_H) : Option (Int32 × am_H) :=
  some ((-3), h)
def f_Law_addByte_19 (h : am_H) (x1 : Int32) : Option (Int32 × am_H) :=
  if am_ok (h.1 6 5) 120 = true then (some (((am_pI (am_pI h 7 (h.1 6 5).toNatClampNeg x1) 6 5 (((am_pI h 7 (h.1 6 5).toNatClampNeg x1).1 6 5) + 1)).1 6 5), am_pI (am_pI h 7 (h.1 6 5).toNatClampNeg x1) 6 5 (((am_pI h 7 (h.1 6 5).toNatClampNeg x1).1 6 5) + 1))) else none
def f_Law_addByte_7 (h : am_H) (x1 : Int32) : Option (Int32 × am_H) :=
  if (h.1 6 5) < 120 then f_Law_addByte_19 h x1 else f_Law_addByte_16 h
def f_Law_addByte (h : am_H) (x1 : Int32) : Option (Int32 × am_H) :=
  if (h.1 6 5) < 0 then f_Law_addByte_16 h else f_Law_addByte_7 h x1
def f_Law_isTapeFull_13 (h : am_H) : Bool :=
  false
def f_Law_isTapeFull_9 (h : am_H) : Bool :=
  true
def f_Law_isTapeFull (h : am_H) : Bool :=
  if (h.1 6 5) < 120 then f_Law_isTapeFull_13 h else f_Law_isTapeFull_9 h
def f_Club_feed_11 (h : am_H) : Option (Int32 × am_H) :=
  some ((-1), h)
def f_Club_feed_36 (h : am_H) (y0 : Int32) : Option (Int32 × am_H) :=
  some (y0, h)
def f_Club_feed_28 (h : am_H) (x1 : Int32) : Option (Int32 × am_H) :=
  (f_Law_addByte h x1).bind fun p => f_Club_feed_36 p.2 p.1
def f_Club_feed_23 (h : am_H) : Option (Int32 × am_H) :=
  some ((-3), h)
def f_Club_feed_20 (h : am_H) (x1 : Int32) (y0 : Bool) : Option (Int32 × am_H) :=
  if y0 = true then f_Club_feed_23 h else f_Club_feed_28 h x1
def f_Club_feed_13 (h : am_H) (x1 : Int32) : Option (Int32 × am_H) :=
  f_Club_feed_20 h x1 (f_Law_isTapeFull h)
def f_Club_feed_4 (h : am_H) (x1 : Int32) : Option (Int32 × am_H) :=
  if x1 ≤ 255 then f_Club_feed_13 h x1 else f_Club_feed_11 h
def f_Club_feed (h : am_H) (x1 : Int32) : Option (Int32 × am_H) :=
  if x1 < 0 then f_Club_feed_11 h else f_Club_feed_4 h x1
def f_Law_next_39 (h : am_H) : Option (Int32) :=
  some (-1)
def f_Law_next_27 (h : am_H) : Option (Int32) :=
  if am_ok (h.1 6 6) 120 = true then (some (h.1 7 (h.1 6 6).toNatClampNeg)) else none
def f_Law_next_18 (h : am_H) : Option (Int32) :=
  if 120 ≤ (h.1 6 6) then f_Law_next_39 h else f_Law_next_27 h
def f_Law_next_7 (h : am_H) : Option (Int32) :=
  if (h.1 6 5) ≤ (h.1 6 6) then f_Law_next_39 h else f_Law_next_18 h
def f_Law_next (h : am_H) : Option (Int32) :=
  if (h.1 6 6) < 0 then f_Law_next_39 h else f_Law_next_7 h
def f_Law_operatorOf_209  : Int32 :=
  0
def f_Law_operatorOf_204  : Int32 :=
  (-20)
def f_Law_operatorOf_199 (x0 : Int32) : Int32 :=
  if x0 = 4 then f_Law_operatorOf_204 else f_Law_operatorOf_209
def f_Law_operatorOf_113  : Int32 :=
  0
def f_Law_operatorOf_108  : Int32 :=
  (-12)
def f_Law_operatorOf_103 (x0 : Int32) : Int32 :=
  if x0 = 1 then f_Law_operatorOf_108 else f_Law_operatorOf_113
def f_Law_operatorOf_185  : Int32 :=
  0
def f_Law_operatorOf_180  : Int32 :=
  (-18)
def f_Law_operatorOf_175 (x0 : Int32) : Int32 :=
  if x0 = 4 then f_Law_operatorOf_180 else f_Law_operatorOf_185
def f_Law_operatorOf_161  : Int32 :=
  0
def f_Law_operatorOf_156  : Int32 :=
  (-16)
def f_Law_operatorOf_151 (x0 : Int32) : Int32 :=
  if x0 = 3 then f_Law_operatorOf_156 else f_Law_operatorOf_161
def f_Law_operatorOf_173  : Int32 :=
  0
def f_Law_operatorOf_168  : Int32 :=
  (-17)
def f_Law_operatorOf_163 (x0 : Int32) : Int32 :=
  if x0 = 3 then f_Law_operatorOf_168 else f_Law_operatorOf_173
def f_Law_operatorOf_197  : Int32 :=
  0
def f_Law_operatorOf_192  : Int32 :=
  (-19)
def f_Law_operatorOf_187 (x0 : Int32) : Int32 :=
  if x0 = 4 then f_Law_operatorOf_192 else f_Law_operatorOf_197
def f_Law_operatorOf_125  : Int32 :=
  0
def f_Law_operatorOf_120  : Int32 :=
  (-13)
def f_Law_operatorOf_115 (x0 : Int32) : Int32 :=
  if x0 = 2 then f_Law_operatorOf_120 else f_Law_operatorOf_125
def f_Law_operatorOf_137  : Int32 :=
  0
def f_Law_operatorOf_132  : Int32 :=
  (-14)
def f_Law_operatorOf_127 (x0 : Int32) : Int32 :=
  if x0 = 2 then f_Law_operatorOf_132 else f_Law_operatorOf_137
def f_Law_operatorOf_149  : Int32 :=
  0
def f_Law_operatorOf_144  : Int32 :=
  (-15)
def f_Law_operatorOf_139 (x0 : Int32) : Int32 :=
  if x0 = 2 then f_Law_operatorOf_144 else f_Law_operatorOf_149
def f_Law_operatorOf_101  : Int32 :=
  0
def f_Law_operatorOf_96  : Int32 :=
  (-11)
def f_Law_operatorOf_92 (x0 : Int32) : Int32 :=
  if x0 = 0 then f_Law_operatorOf_96 else f_Law_operatorOf_101
def f_Law_operatorOf_211  : Int32 :=
  0
def f_Law_operatorOf (x0 : Int32) (x1 : Int32) : Int32 :=
  if x1 = 37 then f_Law_operatorOf_199 x0 else if x1 = 38 then f_Law_operatorOf_103 x0 else if x1 = 42 then f_Law_operatorOf_175 x0 else if x1 = 43 then f_Law_operatorOf_151 x0 else if x1 = 45 then f_Law_operatorOf_163 x0 else if x1 = 47 then f_Law_operatorOf_187 x0 else if x1 = 60 then f_Law_operatorOf_115 x0 else if x1 = 61 then f_Law_operatorOf_127 x0 else if x1 = 62 then f_Law_operatorOf_139 x0 else if x1 = 124 then f_Law_operatorOf_92 x0 else f_Law_operatorOf_211
def f_Law_isDigit_16  : Bool :=
  false
def f_Law_isDigit_12  : Bool :=
  true
def f_Law_isDigit_6 (x0 : Int32) : Bool :=
  if 57 < x0 then f_Law_isDigit_16 else f_Law_isDigit_12
def f_Law_isDigit (x0 : Int32) : Bool :=
  if x0 < 48 then f_Law_isDigit_16 else f_Law_isDigit_6 x0
def f_Law_write_37 (h : am_H) : Option (am_H) :=
  some h
def f_Law_write_17 (h : am_H) (x1 : Int32) : Option (am_H) :=
  if am_ok (h.1 6 7) 130 = true then (some (am_pI (am_pI h 8 (h.1 6 7).toNatClampNeg x1) 6 7 (((am_pI h 8 (h.1 6 7).toNatClampNeg x1).1 6 7) + 1))) else none
def f_Law_write_7 (h : am_H) (x1 : Int32) : Option (am_H) :=
  if 130 ≤ (h.1 6 7) then f_Law_write_37 h else f_Law_write_17 h x1
def f_Law_write (h : am_H) (x1 : Int32) : Option (am_H) :=
  if (h.1 6 7) < 0 then f_Law_write_37 h else f_Law_write_7 h x1
def f_Law_readNumber_53 (h : am_H) : Option (Bool × am_H) :=
  some (true, h)
def f_Law_readNumber_48 (h : am_H) (x1 : Int32) : Option (Bool × am_H) :=
  (f_Law_write h x1).bind fun p => f_Law_readNumber_53 p
def f_Law_readNumber_27 (k4 : am_H → Int32 → Int32 → Option (Bool × am_H)) (h : am_H) (x2 : Int32) (y1 : Int32) (y0 : Int32) : Option (Bool × am_H) :=
  k4 (am_pI h 6 6 ((h.1 6 6) + 1)) (y0 + (y1 - 48)) (x2 + 1)
def f_Law_readNumber_19 (k4 : am_H → Int32 → Int32 → Option (Bool × am_H)) (h : am_H) (x1 : Int32) (x2 : Int32) : Option (Bool × am_H) :=
  (f_Law_next h).bind fun p => f_Law_readNumber_27 k4 h x2 p (x1 * 10)
def f_Law_readNumber_16 (k4 : am_H → Int32 → Int32 → Option (Bool × am_H)) (h : am_H) (x1 : Int32) (x2 : Int32) (y0 : Bool) : Option (Bool × am_H) :=
  if y0 = true then f_Law_readNumber_19 k4 h x1 x2 else f_Law_readNumber_48 h x1
def f_Law_readNumber_13 (k4 : am_H → Int32 → Int32 → Option (Bool × am_H)) (h : am_H) (x1 : Int32) (x2 : Int32) (y0 : Int32) : Option (Bool × am_H) :=
  f_Law_readNumber_16 k4 h x1 x2 (f_Law_isDigit y0)
def f_Law_readNumber_9 (k4 : am_H → Int32 → Int32 → Option (Bool × am_H)) (h : am_H) (x1 : Int32) (x2 : Int32) : Option (Bool × am_H) :=
  (f_Law_next h).bind fun p => f_Law_readNumber_13 k4 h x1 x2 p
def f_Law_readNumber_4 (k4 : am_H → Int32 → Int32 → Option (Bool × am_H)) (h : am_H) (x1 : Int32) (x2 : Int32) : Option (Bool × am_H) :=
  if 4 ≤ x2 then f_Law_readNumber_48 h x1 else f_Law_readNumber_9 k4 h x1 x2
def f_Law_readNumber_4_l  : Nat → am_H → Int32 → Int32 → Option (Bool × am_H)
  | 0 => fun _ _ _ => none
  | n + 1 => f_Law_readNumber_4 (f_Law_readNumber_4_l n)
def f_Law_readNumber (h : am_H) : Option (Bool × am_H) :=
  f_Law_readNumber_4_l am_fu h 0 0
def f_Str_isLatin1_17  : Bool :=
  false
def f_Str_isLatin1_13  : Bool :=
  true
def f_Str_isLatin1_6  : Bool :=
  if (0 : Int32) = 0 then f_Str_isLatin1_13 else f_Str_isLatin1_17
def f_Str_isLatin1  : Bool :=
  if (1 : Int32) = 0 then f_Str_isLatin1_17 else f_Str_isLatin1_6
def f_Str_coder_13  : Int32 :=
  1
def f_Str_coder_6  : Int32 :=
  0
def f_Str_coder  : Int32 :=
  if (1 : Int32) = 0 then f_Str_coder_13 else f_Str_coder_6
def f_Str_length_9 (y1 : Int32) (y0 : Int32) : Int32 :=
  (y0 >>> (y1 &&& 31))
def f_Str_length  : Int32 :=
  f_Str_length_9 (f_Str_coder) 6
def f_Lat_canEncode_15  : Bool :=
  false
def f_Lat_canEncode_11  : Bool :=
  true
def f_Lat_canEncode_4 (x0 : Int32) : Bool :=
  if 255 < x0 then f_Lat_canEncode_15 else f_Lat_canEncode_11
def f_Lat_canEncode (x0 : Int32) : Bool :=
  if x0 < 0 then f_Lat_canEncode_15 else f_Lat_canEncode_4 x0
def f_Lat_indexOfChar_31  : Option (Int32) :=
  some (-1)
def f_Lat_indexOfChar_25 (k7 : Int32 → Int32 → Int32 → Option (Int32)) (x3 : Int32) (x4 : Int32) (x5 : Int32) : Option (Int32) :=
  k7 x3 x4 (x5 + 1)
def f_Lat_indexOfChar_22 (x5 : Int32) : Option (Int32) :=
  some x5
def f_Lat_indexOfChar_13 (k7 : Int32 → Int32 → Int32 → Option (Int32)) (x3 : Int32) (x4 : Int32) (x5 : Int32) : Option (Int32) :=
  if am_ok x5 6 = true then (if (([100, 103, 99, 115, 119, 107] : List Int32).getD x5.toNatClampNeg 0) = x4 then f_Lat_indexOfChar_22 x5 else f_Lat_indexOfChar_25 k7 x3 x4 x5) else none
def f_Lat_indexOfChar_7 (k7 : Int32 → Int32 → Int32 → Option (Int32)) (x3 : Int32) (x4 : Int32) (x5 : Int32) : Option (Int32) :=
  if x3 ≤ x5 then f_Lat_indexOfChar_31 else f_Lat_indexOfChar_13 k7 x3 x4 x5
def f_Lat_indexOfChar_7_l  : Nat → Int32 → Int32 → Int32 → Option (Int32)
  | 0 => fun _ _ _ => none
  | n + 1 => f_Lat_indexOfChar_7 (f_Lat_indexOfChar_7_l n)
def f_Lat_indexOfChar (x1 : Int32) (x2 : Int32) (x3 : Int32) : Option (Int32) :=
  f_Lat_indexOfChar_7_l am_fu x3 x1.toInt8.toInt32 x2
def f_Lat_indexOf_36 (y0 : Int32) : Option (Int32) :=
  some y0
def f_Lat_indexOf_29 (x1 : Int32) (x2 : Int32) (x3 : Int32) : Option (Int32) :=
  (f_Lat_indexOfChar x1 x2 x3).bind fun p => f_Lat_indexOf_36 p
def f_Lat_indexOf_27  : Option (Int32) :=
  some (-1)
def f_Lat_indexOf_9 (x1 : Int32) (x2 : Int32) (x3 : Int32) : Option (Int32) :=
  if (if x2 < 0 then 0 else x2) < (if 6 < x3 then 6 else x3) then f_Lat_indexOf_29 x1 (if x2 < 0 then 0 else x2) (if 6 < x3 then 6 else x3) else f_Lat_indexOf_27
def f_Lat_indexOf_7  : Option (Int32) :=
  some (-1)
def f_Lat_indexOf_4 (x1 : Int32) (x2 : Int32) (x3 : Int32) (y0 : Bool) : Option (Int32) :=
  if y0 = true then f_Lat_indexOf_9 x1 x2 x3 else f_Lat_indexOf_7
def f_Lat_indexOf (x1 : Int32) (x2 : Int32) (x3 : Int32) : Option (Int32) :=
  f_Lat_indexOf_4 x1 x2 x3 (f_Lat_canEncode x1)
def f_Str_indexOf_II_33 (y3 : Int32) (y2 : Int32) (y1 : Int32) : Option (Int32) :=
  none
def f_Str_indexOf_II_23 (x1 : Int32) (x2 : Int32) : Option (Int32) :=
  f_Str_indexOf_II_33 (f_Str_length) x2 x1
def f_Str_indexOf_II_20 (y0 : Int32) : Option (Int32) :=
  some y0
def f_Str_indexOf_II_17 (y3 : Int32) (y2 : Int32) (y1 : Int32) : Option (Int32) :=
  (f_Lat_indexOf y1 y2 y3).bind fun p => f_Str_indexOf_II_20 p
def f_Str_indexOf_II_7 (x1 : Int32) (x2 : Int32) : Option (Int32) :=
  f_Str_indexOf_II_17 (f_Str_length) x2 x1
def f_Str_indexOf_II_4 (x1 : Int32) (x2 : Int32) (y0 : Bool) : Option (Int32) :=
  if y0 = true then f_Str_indexOf_II_7 x1 x2 else f_Str_indexOf_II_23 x1 x2
def f_Str_indexOf_II (x1 : Int32) (x2 : Int32) : Option (Int32) :=
  f_Str_indexOf_II_4 x1 x2 (f_Str_isLatin1)
def f_Str_indexOf_I_6 (y0 : Int32) : Option (Int32) :=
  some y0
def f_Str_indexOf_I (x1 : Int32) : Option (Int32) :=
  (f_Str_indexOf_II x1 0).bind fun p => f_Str_indexOf_I_6 p
abbrev rc_Law_readBracket : Type := (am_H → Int32 → Option (Bool × am_H)) × (am_H → Int32 → Int32 → Option (Bool × am_H)) × (am_H → Int32 → Option (Bool × am_H)) × (am_H → Int32 → Int32 → Option (Bool × am_H))
def f_Law_readBracket_18 (rc : rc_Law_readBracket) (h : am_H) : Option (Bool × am_H) :=
  some (false, h)
def f_Law_readBracket_20 (rc : rc_Law_readBracket) (h : am_H) : Option (Bool × am_H) :=
  some (true, am_pI h 6 6 ((h.1 6 6) + 1))
def f_Law_readBracket_13 (rc : rc_Law_readBracket) (h : am_H) (y0 : Int32) : Option (Bool × am_H) :=
  if y0 = 41 then f_Law_readBracket_20 rc h else f_Law_readBracket_18 rc h
def f_Law_readBracket_9 (rc : rc_Law_readBracket) (h : am_H) : Option (Bool × am_H) :=
  (f_Law_next h).bind fun p => f_Law_readBracket_13 rc h p
def f_Law_readBracket_6 (rc : rc_Law_readBracket) (h : am_H) (y0 : Bool) : Option (Bool × am_H) :=
  if y0 = true then f_Law_readBracket_9 rc h else f_Law_readBracket_18 rc h
def f_Law_readBracket_0 (rc : rc_Law_readBracket) (h : am_H) (x1 : Int32) : Option (Bool × am_H) :=
  (rc.2.1 h 0 x1).bind fun p => f_Law_readBracket_6 rc p.2 p.1
def f_Law_readLevel_91 (rc : rc_Law_readBracket) (h : am_H) : Option (Bool × am_H) :=
  some (true, h)
def f_Law_readLevel_85 (rc : rc_Law_readBracket) (k26 : am_H → Int32 → Int32 → Int32 → Option (Bool × am_H)) (h : am_H) (x1 : Int32) (x2 : Int32) (x3 : Int32) : Option (Bool × am_H) :=
  k26 h x1 x2 (x3 + 1)
def f_Law_readLevel_83 (rc : rc_Law_readBracket) (h : am_H) : Option (Bool × am_H) :=
  some (true, h)
def f_Law_readLevel_78 (rc : rc_Law_readBracket) (k26 : am_H → Int32 → Int32 → Int32 → Option (Bool × am_H)) (h : am_H) (x1 : Int32) (x2 : Int32) (x3 : Int32) : Option (Bool × am_H) :=
  if x1 = 2 then f_Law_readLevel_83 rc h else f_Law_readLevel_85 rc k26 h x1 x2 x3
def f_Law_readLevel_72 (rc : rc_Law_readBracket) (k26 : am_H → Int32 → Int32 → Int32 → Option (Bool × am_H)) (h : am_H) (x1 : Int32) (x2 : Int32) (x3 : Int32) (x4 : Int32) : Option (Bool × am_H) :=
  (f_Law_write h x4).bind fun p => f_Law_readLevel_78 rc k26 p x1 x2 x3
def f_Law_readLevel_70 (rc : rc_Law_readBracket) (h : am_H) : Option (Bool × am_H) :=
  some (false, h)
def f_Law_readLevel_67 (rc : rc_Law_readBracket) (k26 : am_H → Int32 → Int32 → Int32 → Option (Bool × am_H)) (h : am_H) (x1 : Int32) (x2 : Int32) (x3 : Int32) (x4 : Int32) (y0 : Bool) : Option (Bool × am_H) :=
  if y0 = true then f_Law_readLevel_72 rc k26 h x1 x2 x3 x4 else f_Law_readLevel_70 rc h
def f_Law_readLevel_49 (rc : rc_Law_readBracket) (k26 : am_H → Int32 → Int32 → Int32 → Option (Bool × am_H)) (h : am_H) (x1 : Int32) (x2 : Int32) (x3 : Int32) (x4 : Int32) : Option (Bool × am_H) :=
  (rc.2.1 (am_pI h 6 6 ((h.1 6 6) + 1)) (x1 + 1) x2).bind fun p => f_Law_readLevel_67 rc k26 p.2 x1 x2 x3 x4 p.1
def f_Law_readLevel_47 (rc : rc_Law_readBracket) (h : am_H) : Option (Bool × am_H) :=
  some (true, h)
def f_Law_readLevel_40 (rc : rc_Law_readBracket) (k26 : am_H → Int32 → Int32 → Int32 → Option (Bool × am_H)) (h : am_H) (x1 : Int32) (x2 : Int32) (x3 : Int32) (y0 : Int32) : Option (Bool × am_H) :=
  if y0 = 0 then f_Law_readLevel_47 rc h else f_Law_readLevel_49 rc k26 h x1 x2 x3 y0
def f_Law_readLevel_37 (rc : rc_Law_readBracket) (k26 : am_H → Int32 → Int32 → Int32 → Option (Bool × am_H)) (h : am_H) (x1 : Int32) (x2 : Int32) (x3 : Int32) (y1 : Int32) (y0 : Int32) : Option (Bool × am_H) :=
  f_Law_readLevel_40 rc k26 h x1 x2 x3 (f_Law_operatorOf y0 y1)
def f_Law_readLevel_32 (rc : rc_Law_readBracket) (k26 : am_H → Int32 → Int32 → Int32 → Option (Bool × am_H)) (h : am_H) (x1 : Int32) (x2 : Int32) (x3 : Int32) : Option (Bool × am_H) :=
  (f_Law_next h).bind fun p => f_Law_readLevel_37 rc k26 h x1 x2 x3 p x1
def f_Law_readLevel_26 (rc : rc_Law_readBracket) (k26 : am_H → Int32 → Int32 → Int32 → Option (Bool × am_H)) (h : am_H) (x1 : Int32) (x2 : Int32) (x3 : Int32) : Option (Bool × am_H) :=
  if 120 ≤ x3 then f_Law_readLevel_91 rc h else f_Law_readLevel_32 rc k26 h x1 x2 x3
def f_Law_readLevel_26_l (rc : rc_Law_readBracket) : Nat → am_H → Int32 → Int32 → Int32 → Option (Bool × am_H)
  | 0 => fun _ _ _ _ => none
  | n + 1 => f_Law_readLevel_26 rc (f_Law_readLevel_26_l rc n)
def f_Law_readLevel_24 (rc : rc_Law_readBracket) (h : am_H) (x1 : Int32) (x2 : Int32) : Option (Bool × am_H) :=
  f_Law_readLevel_26_l rc am_fu h x1 x2 0
def f_Law_readLevel_22 (rc : rc_Law_readBracket) (h : am_H) : Option (Bool × am_H) :=
  some (false, h)
def f_Law_readLevel_19 (rc : rc_Law_readBracket) (h : am_H) (x1 : Int32) (x2 : Int32) (y0 : Bool) : Option (Bool × am_H) :=
  if y0 = true then f_Law_readLevel_24 rc h x1 x2 else f_Law_readLevel_22 rc h
def f_Law_readLevel_11 (rc : rc_Law_readBracket) (h : am_H) (x1 : Int32) (x2 : Int32) : Option (Bool × am_H) :=
  (rc.2.1 h (x1 + 1) x2).bind fun p => f_Law_readLevel_19 rc p.2 x1 x2 p.1
def f_Law_readLevel_10 (rc : rc_Law_readBracket) (h : am_H) (y0 : Bool) : Option (Bool × am_H) :=
  some (y0, h)
def f_Law_readLevel_5 (rc : rc_Law_readBracket) (h : am_H) (x2 : Int32) : Option (Bool × am_H) :=
  (rc.2.2.1 h x2).bind fun p => f_Law_readLevel_10 rc p.2 p.1
def f_Law_readLevel_0 (rc : rc_Law_readBracket) (h : am_H) (x1 : Int32) (x2 : Int32) : Option (Bool × am_H) :=
  if x1 < 5 then f_Law_readLevel_11 rc h x1 x2 else f_Law_readLevel_5 rc h x2
def f_Law_readOperand_80 (rc : rc_Law_readBracket) (h : am_H) : Option (Bool × am_H) :=
  some (false, h)
def f_Law_readOperand_116 (rc : rc_Law_readBracket) (h : am_H) (y0 : Bool) : Option (Bool × am_H) :=
  some (y0, h)
def f_Law_readOperand_108 (rc : rc_Law_readBracket) (h : am_H) (x1 : Int32) (x2 : Int32) : Option (Bool × am_H) :=
  (rc.2.2.2 h x2 (x1 + 1)).bind fun p => f_Law_readOperand_116 rc p.2 p.1
def f_Law_readOperand_105 (rc : rc_Law_readBracket) (h : am_H) (y0 : Bool) : Option (Bool × am_H) :=
  some (y0, h)
def f_Law_readOperand_98 (rc : rc_Law_readBracket) (h : am_H) (x1 : Int32) : Option (Bool × am_H) :=
  (rc.1 h (x1 + 1)).bind fun p => f_Law_readOperand_105 rc p.2 p.1
def f_Law_readOperand_82 (rc : rc_Law_readBracket) (h : am_H) (x1 : Int32) (x2 : Int32) : Option (Bool × am_H) :=
  if x2 = 40 then f_Law_readOperand_98 rc (am_pI h 6 6 ((h.1 6 6) + 1)) x1 else f_Law_readOperand_108 rc (am_pI h 6 6 ((h.1 6 6) + 1)) x1 x2
def f_Law_readOperand_74 (rc : rc_Law_readBracket) (h : am_H) (x1 : Int32) (x2 : Int32) : Option (Bool × am_H) :=
  if x2 = 40 then f_Law_readOperand_82 rc h x1 x2 else f_Law_readOperand_80 rc h
def f_Law_readOperand_68 (rc : rc_Law_readBracket) (h : am_H) (x1 : Int32) (x2 : Int32) : Option (Bool × am_H) :=
  if x2 = 45 then f_Law_readOperand_82 rc h x1 x2 else f_Law_readOperand_74 rc h x1 x2
def f_Law_readOperand_62 (rc : rc_Law_readBracket) (h : am_H) (x1 : Int32) (x2 : Int32) : Option (Bool × am_H) :=
  if x2 = 33 then f_Law_readOperand_82 rc h x1 x2 else f_Law_readOperand_68 rc h x1 x2
def f_Law_readOperand_56 (rc : rc_Law_readBracket) (h : am_H) (x1 : Int32) (x2 : Int32) : Option (Bool × am_H) :=
  if 6 ≤ x1 then f_Law_readOperand_80 rc h else f_Law_readOperand_62 rc h x1 x2
def f_Law_readOperand_54 (rc : rc_Law_readBracket) (h : am_H) : Option (Bool × am_H) :=
  some (true, h)
def f_Law_readOperand_37 (rc : rc_Law_readBracket) (h : am_H) (x3 : Int32) : Option (Bool × am_H) :=
  (f_Law_write (am_pI h 6 6 ((h.1 6 6) + 1)) ((-1) - x3)).bind fun p => f_Law_readOperand_54 rc p
def f_Law_readOperand_32 (rc : rc_Law_readBracket) (h : am_H) (x1 : Int32) (x2 : Int32) (y0 : Int32) : Option (Bool × am_H) :=
  if y0 < 0 then f_Law_readOperand_56 rc h x1 x2 else f_Law_readOperand_37 rc h y0
def f_Law_readOperand_25 (rc : rc_Law_readBracket) (h : am_H) (x1 : Int32) (x2 : Int32) : Option (Bool × am_H) :=
  (f_Str_indexOf_I ((x2.toUInt32 % 65536).toInt32)).bind fun p => f_Law_readOperand_32 rc h x1 x2 p
def f_Law_readOperand_21 (rc : rc_Law_readBracket) (h : am_H) (x1 : Int32) (x2 : Int32) : Option (Bool × am_H) :=
  f_Law_readOperand_32 rc h x1 x2 (-1)
def f_Law_readOperand_17 (rc : rc_Law_readBracket) (h : am_H) (x1 : Int32) (x2 : Int32) : Option (Bool × am_H) :=
  if 0 ≤ x2 then f_Law_readOperand_25 rc h x1 x2 else f_Law_readOperand_21 rc h x1 x2
def f_Law_readOperand_16 (rc : rc_Law_readBracket) (h : am_H) (y0 : Bool) : Option (Bool × am_H) :=
  some (y0, h)
def f_Law_readOperand_12 (rc : rc_Law_readBracket) (h : am_H) : Option (Bool × am_H) :=
  (f_Law_readNumber h).bind fun p => f_Law_readOperand_16 rc p.2 p.1
def f_Law_readOperand_9 (rc : rc_Law_readBracket) (h : am_H) (x1 : Int32) (x2 : Int32) (y0 : Bool) : Option (Bool × am_H) :=
  if y0 = true then f_Law_readOperand_12 rc h else f_Law_readOperand_17 rc h x1 x2
def f_Law_readOperand_4 (rc : rc_Law_readBracket) (h : am_H) (x1 : Int32) (y0 : Int32) : Option (Bool × am_H) :=
  f_Law_readOperand_9 rc h x1 y0 (f_Law_isDigit y0)
def f_Law_readOperand_0 (rc : rc_Law_readBracket) (h : am_H) (x1 : Int32) : Option (Bool × am_H) :=
  (f_Law_next h).bind fun p => f_Law_readOperand_4 rc h x1 p
def f_Law_readPrefixed_27 (rc : rc_Law_readBracket) (h : am_H) : Option (Bool × am_H) :=
  some (true, h)
def f_Law_readPrefixed_24 (rc : rc_Law_readBracket) (h : am_H) (y1 : Int32) : Option (Bool × am_H) :=
  (f_Law_write h y1).bind fun p => f_Law_readPrefixed_27 rc p
def f_Law_readPrefixed_22 (rc : rc_Law_readBracket) (h : am_H) : Option (Bool × am_H) :=
  f_Law_readPrefixed_24 rc h (-22)
def f_Law_readPrefixed_17 (rc : rc_Law_readBracket) (h : am_H) : Option (Bool × am_H) :=
  f_Law_readPrefixed_24 rc h (-21)
def f_Law_readPrefixed_10 (rc : rc_Law_readBracket) (h : am_H) (x1 : Int32) : Option (Bool × am_H) :=
  if x1 = 33 then f_Law_readPrefixed_17 rc h else f_Law_readPrefixed_22 rc h
def f_Law_readPrefixed_8 (rc : rc_Law_readBracket) (h : am_H) : Option (Bool × am_H) :=
  some (false, h)
def f_Law_readPrefixed_5 (rc : rc_Law_readBracket) (h : am_H) (x1 : Int32) (y0 : Bool) : Option (Bool × am_H) :=
  if y0 = true then f_Law_readPrefixed_10 rc h x1 else f_Law_readPrefixed_8 rc h
def f_Law_readPrefixed_0 (rc : rc_Law_readBracket) (h : am_H) (x1 : Int32) (x2 : Int32) : Option (Bool × am_H) :=
  (rc.2.2.1 h x2).bind fun p => f_Law_readPrefixed_5 rc p.2 x1 p.1
def g_Law_readBracket : Nat → rc_Law_readBracket
  | 0 => ((fun _ _ => none), (fun _ _ _ => none), (fun _ _ => none), (fun _ _ _ => none))
  | n + 1 => (f_Law_readBracket_0 (g_Law_readBracket n), f_Law_readLevel_0 (g_Law_readBracket n), f_Law_readOperand_0 (g_Law_readBracket n), f_Law_readPrefixed_0 (g_Law_readBracket n))
def f_Law_readBracket : am_H → Int32 → Option (Bool × am_H) := (g_Law_readBracket 64).1
def f_Law_readLevel : am_H → Int32 → Int32 → Option (Bool × am_H) := (g_Law_readBracket 64).2.1
def f_Law_readOperand : am_H → Int32 → Option (Bool × am_H) := (g_Law_readBracket 64).2.2.1
def f_Law_readPrefixed : am_H → Int32 → Int32 → Option (Bool × am_H) := (g_Law_readBracket 64).2.2.2
def f_Law_readLine_53 (h : am_H) : Option (Bool × am_H) :=
  some (true, h)
def f_Law_readLine_47 (h : am_H) : Option (Bool × am_H) :=
  (f_Law_write h (-32)).bind fun p => f_Law_readLine_53 p
def f_Law_readLine_45 (h : am_H) : Option (Bool × am_H) :=
  some (false, h)
def f_Law_readLine_42 (h : am_H) (y0 : Bool) : Option (Bool × am_H) :=
  if y0 = true then f_Law_readLine_47 h else f_Law_readLine_45 h
def f_Law_readLine_36 (h : am_H) : Option (Bool × am_H) :=
  (f_Law_readLevel h 0 0).bind fun p => f_Law_readLine_42 p.2 p.1
def f_Law_readLine_20 (h : am_H) : Option (Bool × am_H) :=
  (f_Law_write (am_pI h 6 6 ((h.1 6 6) + 1)) (-31)).bind fun p => f_Law_readLine_36 p
def f_Law_readLine_15 (h : am_H) (y0 : Int32) : Option (Bool × am_H) :=
  if y0 = 63 then f_Law_readLine_20 h else f_Law_readLine_47 h
def f_Law_readLine_11 (h : am_H) : Option (Bool × am_H) :=
  (f_Law_next h).bind fun p => f_Law_readLine_15 h p
def f_Law_readLine_9 (h : am_H) : Option (Bool × am_H) :=
  some (false, h)
def f_Law_readLine_6 (h : am_H) (y0 : Bool) : Option (Bool × am_H) :=
  if y0 = true then f_Law_readLine_11 h else f_Law_readLine_9 h
def f_Law_readLine (h : am_H) : Option (Bool × am_H) :=
  (f_Law_readLevel h 0 0).bind fun p => f_Law_readLine_6 p.2 p.1
def f_Law_readLines_57 (h : am_H) : Option (Bool × am_H) :=
  some (false, h)
def f_Law_readLines_41 (k2 : am_H → Int32 → Option (Bool × am_H)) (h : am_H) (x1 : Int32) : Option (Bool × am_H) :=
  k2 (am_pI h 6 6 ((h.1 6 6) + 1)) (x1 + 1)
def f_Law_readLines_39 (h : am_H) : Option (Bool × am_H) :=
  some (false, h)
def f_Law_readLines_34 (k2 : am_H → Int32 → Option (Bool × am_H)) (h : am_H) (x1 : Int32) (y0 : Int32) : Option (Bool × am_H) :=
  if y0 = 59 then f_Law_readLines_41 k2 h x1 else f_Law_readLines_39 h
def f_Law_readLines_30 (k2 : am_H → Int32 → Option (Bool × am_H)) (h : am_H) (x1 : Int32) : Option (Bool × am_H) :=
  (f_Law_next h).bind fun p => f_Law_readLines_34 k2 h x1 p
def f_Law_readLines_28 (h : am_H) : Option (Bool × am_H) :=
  some (true, h)
def f_Law_readLines_17 (k2 : am_H → Int32 → Option (Bool × am_H)) (h : am_H) (x1 : Int32) : Option (Bool × am_H) :=
  if (h.1 6 6) < (h.1 6 5) then f_Law_readLines_30 k2 h x1 else f_Law_readLines_28 h
def f_Law_readLines_15 (h : am_H) : Option (Bool × am_H) :=
  some (false, h)
def f_Law_readLines_12 (k2 : am_H → Int32 → Option (Bool × am_H)) (h : am_H) (x1 : Int32) (y0 : Bool) : Option (Bool × am_H) :=
  if y0 = true then f_Law_readLines_17 k2 h x1 else f_Law_readLines_15 h
def f_Law_readLines_8 (k2 : am_H → Int32 → Option (Bool × am_H)) (h : am_H) (x1 : Int32) : Option (Bool × am_H) :=
  (f_Law_readLine h).bind fun p => f_Law_readLines_12 k2 p.2 x1 p.1
def f_Law_readLines_2 (k2 : am_H → Int32 → Option (Bool × am_H)) (h : am_H) (x1 : Int32) : Option (Bool × am_H) :=
  if 120 < x1 then f_Law_readLines_57 h else f_Law_readLines_8 k2 h x1
def f_Law_readLines_2_l  : Nat → am_H → Int32 → Option (Bool × am_H)
  | 0 => fun _ _ => none
  | n + 1 => f_Law_readLines_2 (f_Law_readLines_2_l n)
def f_Law_readLines (h : am_H) : Option (Bool × am_H) :=
  f_Law_readLines_2_l am_fu h 0
def f_Law_readTape_48 (h : am_H) : Option (Int32 × am_H) :=
  some (1, am_pI h 6 8 (h.1 6 7))
def f_Law_readTape_32 (h : am_H) : Option (Int32 × am_H) :=
  f_Law_readTape_48 (am_cI h 8 9 (0 : Int32).toNatClampNeg (0 : Int32).toNatClampNeg (130 : Int32).toNatClampNeg)
def f_Law_readTape_24 (h : am_H) : Option (Int32 × am_H) :=
  some (((-100) - (h.1 6 6)), h)
def f_Law_readTape_14 (h : am_H) (y0 : Bool) : Option (Int32 × am_H) :=
  if y0 = true then f_Law_readTape_32 (am_pI h 6 5 0) else f_Law_readTape_24 (am_pI h 6 5 0)
def f_Law_readTape (h : am_H) : Option (Int32 × am_H) :=
  (f_Law_readLines (am_pI (am_pI h 6 6 0) 6 7 0)).bind fun p => f_Law_readTape_14 p.2 p.1
def f_Club_law_14 (h : am_H) (y0 : Int32) : Option (Int32 × am_H) :=
  some (y0, h)
def f_Club_law_7 (h : am_H) : Option (Int32 × am_H) :=
  (f_Law_readTape h).bind fun p => f_Club_law_14 p.2 p.1
def f_Club_law (h : am_H) : Option (Int32 × am_H) :=
  (f_Reck_forget h).bind fun p => f_Club_law_7 p
def f_Club_isFractionPart_9  : Bool :=
  true
def f_Club_isFractionPart_13  : Bool :=
  false
def f_Club_isFractionPart_4 (x0 : Int32) : Bool :=
  if x0 = 1 then f_Club_isFractionPart_9 else f_Club_isFractionPart_13
def f_Club_isFractionPart (x0 : Int32) : Bool :=
  if x0 = 0 then f_Club_isFractionPart_9 else f_Club_isFractionPart_4 x0
def f_Hole_isGreen_29 (h : am_H) : Option (Bool) :=
  some false
def f_Hole_isGreen_25 (h : am_H) : Option (Bool) :=
  some true
def f_Hole_isGreen_15 (h : am_H) (x1 : Int32) : Option (Bool) :=
  if am_ok x1 31 = true then (if (h.1 2 x1.toNatClampNeg) = 4 then f_Hole_isGreen_25 h else f_Hole_isGreen_29 h) else none
def f_Hole_isGreen_7 (h : am_H) (x1 : Int32) : Option (Bool) :=
  if x1 = (h.1 1 5) then f_Hole_isGreen_25 h else f_Hole_isGreen_15 h x1
def f_Hole_isGreen_4 (h : am_H) (x1 : Int32) (y0 : Bool) : Option (Bool) :=
  if y0 = true then f_Hole_isGreen_7 h x1 else f_Hole_isGreen_29 h
def f_Hole_isGreen (h : am_H) (x1 : Int32) : Option (Bool) :=
  f_Hole_isGreen_4 h x1 (f_Hole_isCell x1)
def f_Hole_isOffGreen_19 (h : am_H) : Option (Bool) :=
  some false
def f_Hole_isOffGreen_15 (h : am_H) : Option (Bool) :=
  some true
def f_Hole_isOffGreen_12 (h : am_H) (y0 : Bool) : Option (Bool) :=
  if y0 = true then f_Hole_isOffGreen_19 h else f_Hole_isOffGreen_15 h
def f_Hole_isOffGreen_7 (h : am_H) (x1 : Int32) : Option (Bool) :=
  (f_Hole_isGreen h x1).bind fun p => f_Hole_isOffGreen_12 h p
def f_Hole_isOffGreen_4 (h : am_H) (x1 : Int32) (y0 : Bool) : Option (Bool) :=
  if y0 = true then f_Hole_isOffGreen_7 h x1 else f_Hole_isOffGreen_19 h
def f_Hole_isOffGreen (h : am_H) (x1 : Int32) : Option (Bool) :=
  f_Hole_isOffGreen_4 h x1 (f_Hole_isCell x1)
def f_Club_isShot_36 (h : am_H) : Option (Bool) :=
  some false
def f_Club_isShot_32 (h : am_H) : Option (Bool) :=
  some true
def f_Club_isShot_29 (h : am_H) (y0 : Bool) : Option (Bool) :=
  if y0 = true then f_Club_isShot_32 h else f_Club_isShot_36 h
def f_Club_isShot_18 (h : am_H) (x1 : Int32) : Option (Bool) :=
  f_Club_isShot_29 h (f_Hole_hasClub h (x1 - x1 / 10 * 10))
def f_Club_isShot_15 (h : am_H) (x1 : Int32) (y0 : Bool) : Option (Bool) :=
  if y0 = true then f_Club_isShot_18 h x1 else f_Club_isShot_36 h
def f_Club_isShot_4 (h : am_H) (x1 : Int32) : Option (Bool) :=
  (f_Hole_isOffGreen h (x1 / 10)).bind fun p => f_Club_isShot_15 h x1 p
def f_Club_isShot (h : am_H) (x1 : Int32) : Option (Bool) :=
  if x1 < 0 then f_Club_isShot_36 h else f_Club_isShot_4 h x1
def f_Club_sharedDivisor_33 (x0 : Int64) : Option (Int64) :=
  some x0
def f_Club_sharedDivisor_17 (k3 : Int64 → Int64 → Int32 → Option (Int64)) (x0 : Int64) (x2 : Int64) (x4 : Int32) : Option (Int64) :=
  if ¬ x2 = 0 then (k3 x2 (x0 - x0 / x2 * x2) (x4 + 1)) else none
def f_Club_sharedDivisor_11 (k3 : Int64 → Int64 → Int32 → Option (Int64)) (x0 : Int64) (x2 : Int64) (x4 : Int32) : Option (Int64) :=
  if x2 = 0 then f_Club_sharedDivisor_33 x0 else f_Club_sharedDivisor_17 k3 x0 x2 x4
def f_Club_sharedDivisor_3 (k3 : Int64 → Int64 → Int32 → Option (Int64)) (x0 : Int64) (x2 : Int64) (x4 : Int32) : Option (Int64) :=
  if 200 ≤ x4 then f_Club_sharedDivisor_33 x0 else f_Club_sharedDivisor_11 k3 x0 x2 x4
def f_Club_sharedDivisor_3_l  : Nat → Int64 → Int64 → Int32 → Option (Int64)
  | 0 => fun _ _ _ => none
  | n + 1 => f_Club_sharedDivisor_3 (f_Club_sharedDivisor_3_l n)
def f_Club_sharedDivisor (x0 : Int64) (x2 : Int64) : Option (Int64) :=
  f_Club_sharedDivisor_3_l am_fu x0 x2 0
def f_Club_partOf_33 (x2 : Int64) (x5 : Int64) : Option (Int64) :=
  if ¬ x5 = 0 then (some (x2 / x5)) else none
def f_Club_partOf_26 (x0 : Int64) (x5 : Int64) : Option (Int64) :=
  if ¬ x5 = 0 then (some (x0 / x5)) else none
def f_Club_partOf_21 (x0 : Int64) (x2 : Int64) (x4 : Int32) (x5 : Int64) : Option (Int64) :=
  if x4 = 0 then f_Club_partOf_26 x0 x5 else f_Club_partOf_33 x2 x5
def f_Club_partOf_17  : Option (Int64) :=
  some (-9223372036854775808)
def f_Club_partOf_8 (x0 : Int64) (x2 : Int64) (x4 : Int32) (y0 : Int64) : Option (Int64) :=
  if 0 < y0 then f_Club_partOf_21 x0 x2 x4 y0 else f_Club_partOf_17
def f_Club_partOf (x0 : Int64) (x2 : Int64) (x4 : Int32) : Option (Int64) :=
  (f_Club_sharedDivisor (if 0 < x0 then x0 else -x0) x2).bind fun p => f_Club_partOf_8 x0 x2 x4 p
def f_Hole_carryOf_17 (h : am_H) : Option (Int32) :=
  some 0
def f_Hole_carryOf_8 (h : am_H) (x1 : Int32) : Option (Int32) :=
  if am_ok x1 6 = true then (some (h.1 3 x1.toNatClampNeg)) else none
def f_Hole_carryOf_5 (h : am_H) (x1 : Int32) (y0 : Bool) : Option (Int32) :=
  if y0 = true then f_Hole_carryOf_8 h x1 else f_Hole_carryOf_17 h
def f_Hole_carryOf (h : am_H) (x1 : Int32) : Option (Int32) :=
  f_Hole_carryOf_5 h x1 (f_Hole_hasClub h x1)
def f_Hole_spreadOf_17 (h : am_H) : Option (Int32) :=
  some 0
def f_Hole_spreadOf_8 (h : am_H) (x1 : Int32) : Option (Int32) :=
  if am_ok x1 6 = true then (some (h.1 4 x1.toNatClampNeg)) else none
def f_Hole_spreadOf_5 (h : am_H) (x1 : Int32) (y0 : Bool) : Option (Int32) :=
  if y0 = true then f_Hole_spreadOf_8 h x1 else f_Hole_spreadOf_17 h
def f_Hole_spreadOf (h : am_H) (x1 : Int32) : Option (Int32) :=
  f_Hole_spreadOf_5 h x1 (f_Hole_hasClub h x1)
def f_Hole_waysOf_6 (h : am_H) (y1 : Int32) (y0 : Int32) : Option (Int32) :=
  some ((y0 * y1) + 1)
def f_Hole_waysOf (h : am_H) (x1 : Int32) : Option (Int32) :=
  (f_Hole_spreadOf h x1).bind fun p => f_Hole_waysOf_6 h p 2
def f_Hole_aim_99 (h : am_H) (x1 : Int32) (x4 : Int32) : Option (Int32) :=
  some (x1 + x4)
def f_Hole_aim_92 (h : am_H) (x1 : Int32) (x4 : Int32) : Option (Int32) :=
  some (x1 - x4)
def f_Hole_aim_84 (h : am_H) (x1 : Int32) (x4 : Int32) : Option (Int32) :=
  if x1 ≤ (h.1 1 5) then f_Hole_aim_99 h x1 x4 else f_Hole_aim_92 h x1 x4
def f_Hole_aim_81 (h : am_H) (x1 : Int32) : Option (Int32) :=
  f_Hole_aim_84 h x1 0
def f_Hole_aim_76 (h : am_H) (x1 : Int32) (x4 : Int32) : Option (Int32) :=
  if 0 ≤ x4 then f_Hole_aim_84 h x1 x4 else f_Hole_aim_81 h x1
def f_Hole_aim_70 (h : am_H) (x1 : Int32) (x4 : Int32) : Option (Int32) :=
  f_Hole_aim_76 h x1 (x4 / 2)
def f_Hole_aim_65 (h : am_H) (x1 : Int32) (x3 : Int32) (x4 : Int32) : Option (Int32) :=
  if x3 = 2 then f_Hole_aim_70 h x1 x4 else f_Hole_aim_76 h x1 x4
def f_Hole_aim_59 (h : am_H) (x1 : Int32) (x4 : Int32) : Option (Int32) :=
  f_Hole_aim_76 h x1 (x4 + (-1))
def f_Hole_aim_54 (h : am_H) (x1 : Int32) (x3 : Int32) (x4 : Int32) : Option (Int32) :=
  if x3 = 1 then f_Hole_aim_59 h x1 x4 else f_Hole_aim_65 h x1 x3 x4
def f_Hole_aim_51 (h : am_H) (x1 : Int32) (x3 : Int32) (y1 : Int32) (y0 : Int32) : Option (Int32) :=
  f_Hole_aim_54 h x1 x3 (y0 + y1)
def f_Hole_aim_47 (h : am_H) (x1 : Int32) (x3 : Int32) (y0 : Int32) : Option (Int32) :=
  f_Hole_aim_51 h x1 x3 (h.1 1 6) y0
def f_Hole_aim_39 (h : am_H) (x1 : Int32) (x3 : Int32) (y0 : Int32) : Option (Int32) :=
  f_Hole_aim_51 h x1 x3 (-(h.1 1 6)) y0
def f_Hole_aim_29 (h : am_H) (x1 : Int32) (x3 : Int32) (x4 : Int32) : Option (Int32) :=
  if x1 ≤ (h.1 1 5) then f_Hole_aim_47 h x1 x3 x4 else f_Hole_aim_39 h x1 x3 x4
def f_Hole_aim_20 (h : am_H) (x1 : Int32) (x2 : Int32) (y0 : Int32) : Option (Int32) :=
  if x2 < 5 then f_Hole_aim_54 h x1 y0 x2 else f_Hole_aim_29 h x1 y0 x2
def f_Hole_aim_19 (h : am_H) (x1 : Int32) (x2 : Int32) : Option (Int32) :=
  f_Hole_aim_20 h x1 x2 0
def f_Hole_aim_10 (h : am_H) (x1 : Int32) (x2 : Int32) : Option (Int32) :=
  if am_ok x1 31 = true then (f_Hole_aim_20 h x1 x2 (h.1 2 x1.toNatClampNeg)) else none
def f_Hole_aim_4 (h : am_H) (x1 : Int32) (x2 : Int32) : Option (Int32) :=
  if 31 ≤ x1 then f_Hole_aim_19 h x1 x2 else f_Hole_aim_10 h x1 x2
def f_Hole_aim (h : am_H) (x1 : Int32) (x2 : Int32) : Option (Int32) :=
  if x1 < 0 then f_Hole_aim_19 h x1 x2 else f_Hole_aim_4 h x1 x2
def f_Hole_held_19 (x0 : Int32) : Int32 :=
  x0
def f_Hole_held_14  : Int32 :=
  30
def f_Hole_held_8 (x0 : Int32) : Int32 :=
  if x0 < 31 then f_Hole_held_19 x0 else f_Hole_held_14
def f_Hole_held_4  : Int32 :=
  0
def f_Hole_held (x0 : Int32) : Int32 :=
  if 0 ≤ x0 then f_Hole_held_8 x0 else f_Hole_held_4
def f_Hole_isWater_29 (h : am_H) : Option (Bool) :=
  some false
def f_Hole_isWater_25 (h : am_H) : Option (Bool) :=
  some true
def f_Hole_isWater_15 (h : am_H) (x1 : Int32) : Option (Bool) :=
  if am_ok x1 31 = true then (if (h.1 2 x1.toNatClampNeg) = 3 then f_Hole_isWater_25 h else f_Hole_isWater_29 h) else none
def f_Hole_isWater_7 (h : am_H) (x1 : Int32) : Option (Bool) :=
  if x1 = (h.1 1 5) then f_Hole_isWater_29 h else f_Hole_isWater_15 h x1
def f_Hole_isWater_4 (h : am_H) (x1 : Int32) (y0 : Bool) : Option (Bool) :=
  if y0 = true then f_Hole_isWater_7 h x1 else f_Hole_isWater_29 h
def f_Hole_isWater (h : am_H) (x1 : Int32) : Option (Bool) :=
  f_Hole_isWater_4 h x1 (f_Hole_isCell x1)
def f_Hole_waysToLie_71 (h : am_H) (x6 : Int32) : Option (Int32) :=
  some x6
def f_Hole_waysToLie_62 (k15 : Int32 → Int32 → Int32 → Int32 → Int32 → Int32 → Option (Int32)) (h : am_H) (x1 : Int32) (x3 : Int32) (x4 : Int32) (x5 : Int32) (x7 : Int32) (y1 : Int32) (y0 : Int32) : Option (Int32) :=
  k15 x1 x3 x4 x5 (y0 + y1) (x7 + 1)
def f_Hole_waysToLie_61 (k15 : Int32 → Int32 → Int32 → Int32 → Int32 → Int32 → Option (Int32)) (h : am_H) (x1 : Int32) (x3 : Int32) (x4 : Int32) (x5 : Int32) (x7 : Int32) (y0 : Int32) : Option (Int32) :=
  f_Hole_waysToLie_62 k15 h x1 x3 x4 x5 x7 0 y0
def f_Hole_waysToLie_57 (k15 : Int32 → Int32 → Int32 → Int32 → Int32 → Int32 → Option (Int32)) (h : am_H) (x1 : Int32) (x3 : Int32) (x4 : Int32) (x5 : Int32) (x7 : Int32) (y0 : Int32) : Option (Int32) :=
  f_Hole_waysToLie_62 k15 h x1 x3 x4 x5 x7 1 y0
def f_Hole_waysToLie_46 (k15 : Int32 → Int32 → Int32 → Int32 → Int32 → Int32 → Option (Int32)) (h : am_H) (x1 : Int32) (x3 : Int32) (x4 : Int32) (x5 : Int32) (x6 : Int32) (x7 : Int32) (y0 : Int32) : Option (Int32) :=
  if y0 = x4 then f_Hole_waysToLie_57 k15 h x1 x3 x4 x5 x7 x6 else f_Hole_waysToLie_61 k15 h x1 x3 x4 x5 x7 x6
def f_Hole_waysToLie_44 (k15 : Int32 → Int32 → Int32 → Int32 → Int32 → Int32 → Option (Int32)) (h : am_H) (x1 : Int32) (x3 : Int32) (x4 : Int32) (x5 : Int32) (x6 : Int32) (x7 : Int32) (x8 : Int32) : Option (Int32) :=
  f_Hole_waysToLie_46 k15 h x1 x3 x4 x5 x6 x7 x8
def f_Hole_waysToLie_40 (k15 : Int32 → Int32 → Int32 → Int32 → Int32 → Int32 → Option (Int32)) (h : am_H) (x1 : Int32) (x3 : Int32) (x4 : Int32) (x5 : Int32) (x6 : Int32) (x7 : Int32) : Option (Int32) :=
  f_Hole_waysToLie_46 k15 h x1 x3 x4 x5 x6 x7 x1
def f_Hole_waysToLie_37 (k15 : Int32 → Int32 → Int32 → Int32 → Int32 → Int32 → Option (Int32)) (h : am_H) (x1 : Int32) (x3 : Int32) (x4 : Int32) (x5 : Int32) (x6 : Int32) (x7 : Int32) (x8 : Int32) (y0 : Bool) : Option (Int32) :=
  if y0 = true then f_Hole_waysToLie_40 k15 h x1 x3 x4 x5 x6 x7 else f_Hole_waysToLie_44 k15 h x1 x3 x4 x5 x6 x7 x8
def f_Hole_waysToLie_29 (k15 : Int32 → Int32 → Int32 → Int32 → Int32 → Int32 → Option (Int32)) (h : am_H) (x1 : Int32) (x3 : Int32) (x4 : Int32) (x5 : Int32) (x6 : Int32) (x7 : Int32) (y0 : Int32) : Option (Int32) :=
  (f_Hole_isWater h y0).bind fun p => f_Hole_waysToLie_37 k15 h x1 x3 x4 x5 x6 x7 y0 p
def f_Hole_waysToLie_21 (k15 : Int32 → Int32 → Int32 → Int32 → Int32 → Int32 → Option (Int32)) (h : am_H) (x1 : Int32) (x3 : Int32) (x4 : Int32) (x5 : Int32) (x6 : Int32) (x7 : Int32) : Option (Int32) :=
  f_Hole_waysToLie_29 k15 h x1 x3 x4 x5 x6 x7 (f_Hole_held (x5 + x7))
def f_Hole_waysToLie_15 (k15 : Int32 → Int32 → Int32 → Int32 → Int32 → Int32 → Option (Int32)) (h : am_H) (x1 : Int32) (x3 : Int32) (x4 : Int32) (x5 : Int32) (x6 : Int32) (x7 : Int32) : Option (Int32) :=
  if x3 < x7 then f_Hole_waysToLie_71 h x6 else f_Hole_waysToLie_21 k15 h x1 x3 x4 x5 x6 x7
def f_Hole_waysToLie_15_l (h : am_H) : Nat → Int32 → Int32 → Int32 → Int32 → Int32 → Int32 → Option (Int32)
  | 0 => fun _ _ _ _ _ _ => none
  | n + 1 => f_Hole_waysToLie_15 (f_Hole_waysToLie_15_l h n) h
def f_Hole_waysToLie_6 (h : am_H) (x1 : Int32) (x3 : Int32) (x4 : Int32) (y0 : Int32) : Option (Int32) :=
  f_Hole_waysToLie_15_l h am_fu x1 x3 x4 y0 0 (-x3)
def f_Hole_waysToLie (h : am_H) (x1 : Int32) (x2 : Int32) (x3 : Int32) (x4 : Int32) : Option (Int32) :=
  (f_Hole_aim h x1 x2).bind fun p => f_Hole_waysToLie_6 h x1 x3 x4 p
def f_Club_lies_22 (h : am_H) : Option (Int64) :=
  some (-9223372036854775808)
def f_Club_lies_81 (h : am_H) (y0 : Int64) : Option (Int64) :=
  some y0
def f_Club_lies_76 (h : am_H) (x3 : Int32) (y1 : Int32) (y0 : Int64) : Option (Int64) :=
  (f_Club_partOf y0 y1.toInt64 x3).bind fun p => f_Club_lies_81 h p
def f_Club_lies_62 (h : am_H) (x3 : Int32) (x4 : Int32) (y0 : Int32) : Option (Int64) :=
  (f_Hole_waysOf h x4).bind fun p => f_Club_lies_76 h x3 p y0.toInt64
def f_Club_lies_58 (h : am_H) (x2 : Int32) (x3 : Int32) (x4 : Int32) (y3 : Int32) (y2 : Int32) (y1 : Int32) : Option (Int64) :=
  (f_Hole_waysToLie h y1 y2 y3 x2).bind fun p => f_Club_lies_62 h x3 x4 p
def f_Club_lies_49 (h : am_H) (x2 : Int32) (x3 : Int32) (x4 : Int32) (y2 : Int32) (y1 : Int32) : Option (Int64) :=
  (f_Hole_spreadOf h x4).bind fun p => f_Club_lies_58 h x2 x3 x4 p y2 y1
def f_Club_lies_26 (h : am_H) (x1 : Int32) (x2 : Int32) (x3 : Int32) : Option (Int64) :=
  (f_Hole_carryOf h (x1 - x1 / 10 * 10)).bind fun p => f_Club_lies_49 h x2 x3 (x1 - x1 / 10 * 10) p (x1 / 10)
def f_Club_lies_19 (h : am_H) (x1 : Int32) (x2 : Int32) (x3 : Int32) (y0 : Bool) : Option (Int64) :=
  if y0 = true then f_Club_lies_26 h x1 x2 x3 else f_Club_lies_22 h
def f_Club_lies_15 (h : am_H) (x1 : Int32) (x2 : Int32) (x3 : Int32) : Option (Int64) :=
  f_Club_lies_19 h x1 x2 x3 (f_Club_isFractionPart x3)
def f_Club_lies_12 (h : am_H) (x1 : Int32) (x2 : Int32) (x3 : Int32) (y0 : Bool) : Option (Int64) :=
  if y0 = true then f_Club_lies_15 h x1 x2 x3 else f_Club_lies_22 h
def f_Club_lies_8 (h : am_H) (x1 : Int32) (x2 : Int32) (x3 : Int32) : Option (Int64) :=
  f_Club_lies_12 h x1 x2 x3 (f_Hole_isCell x2)
def f_Club_lies_5 (h : am_H) (x1 : Int32) (x2 : Int32) (x3 : Int32) (y0 : Bool) : Option (Int64) :=
  if y0 = true then f_Club_lies_8 h x1 x2 x3 else f_Club_lies_22 h
def f_Club_lies (h : am_H) (x1 : Int32) (x2 : Int32) (x3 : Int32) : Option (Int64) :=
  (f_Club_isShot h x1).bind fun p => f_Club_lies_5 h x1 x2 x3 p
def f_Hole_waysInto_85 (h : am_H) (x6 : Int32) : Option (Int32) :=
  some x6
def f_Hole_waysInto_76 (k27 : Int32 → Int32 → Int32 → Int32 → Int32 → Option (Int32)) (h : am_H) (x1 : Int32) (x4 : Int32) (x5 : Int32) (x7 : Int32) (y1 : Int32) (y0 : Int32) : Option (Int32) :=
  k27 x1 x4 x5 (y0 + y1) (x7 + 1)
def f_Hole_waysInto_75 (k27 : Int32 → Int32 → Int32 → Int32 → Int32 → Option (Int32)) (h : am_H) (x1 : Int32) (x4 : Int32) (x5 : Int32) (x7 : Int32) (y0 : Int32) : Option (Int32) :=
  f_Hole_waysInto_76 k27 h x1 x4 x5 x7 0 y0
def f_Hole_waysInto_71 (k27 : Int32 → Int32 → Int32 → Int32 → Int32 → Option (Int32)) (h : am_H) (x1 : Int32) (x4 : Int32) (x5 : Int32) (x7 : Int32) (y0 : Int32) : Option (Int32) :=
  f_Hole_waysInto_76 k27 h x1 x4 x5 x7 1 y0
def f_Hole_waysInto_68 (k27 : Int32 → Int32 → Int32 → Int32 → Int32 → Option (Int32)) (h : am_H) (x1 : Int32) (x4 : Int32) (x5 : Int32) (x7 : Int32) (y1 : Bool) (y0 : Int32) : Option (Int32) :=
  if y1 = true then f_Hole_waysInto_71 k27 h x1 x4 x5 x7 y0 else f_Hole_waysInto_75 k27 h x1 x4 x5 x7 y0
def f_Hole_waysInto_62 (k27 : Int32 → Int32 → Int32 → Int32 → Int32 → Option (Int32)) (h : am_H) (x1 : Int32) (x4 : Int32) (x5 : Int32) (x7 : Int32) (x8 : Int32) (y0 : Int32) : Option (Int32) :=
  (f_Hole_isGreen h x8).bind fun p => f_Hole_waysInto_68 k27 h x1 x4 x5 x7 p y0
def f_Hole_waysInto_59 (k27 : Int32 → Int32 → Int32 → Int32 → Int32 → Option (Int32)) (h : am_H) (x1 : Int32) (x4 : Int32) (x5 : Int32) (x7 : Int32) (y0 : Int32) : Option (Int32) :=
  f_Hole_waysInto_71 k27 h x1 x4 x5 x7 y0
def f_Hole_waysInto_56 (k27 : Int32 → Int32 → Int32 → Int32 → Int32 → Option (Int32)) (h : am_H) (x1 : Int32) (x4 : Int32) (x5 : Int32) (x7 : Int32) (y1 : Bool) (y0 : Int32) : Option (Int32) :=
  if y1 = true then f_Hole_waysInto_59 k27 h x1 x4 x5 x7 y0 else f_Hole_waysInto_75 k27 h x1 x4 x5 x7 y0
def f_Hole_waysInto_50 (k27 : Int32 → Int32 → Int32 → Int32 → Int32 → Option (Int32)) (h : am_H) (x1 : Int32) (x4 : Int32) (x5 : Int32) (x7 : Int32) (x8 : Int32) (y0 : Int32) : Option (Int32) :=
  (f_Hole_isWater h x8).bind fun p => f_Hole_waysInto_56 k27 h x1 x4 x5 x7 p y0
def f_Hole_waysInto_42 (k27 : Int32 → Int32 → Int32 → Int32 → Int32 → Option (Int32)) (h : am_H) (x1 : Int32) (x4 : Int32) (x5 : Int32) (x6 : Int32) (x7 : Int32) (y0 : Int32) : Option (Int32) :=
  if x1 = 0 then f_Hole_waysInto_62 k27 h x1 x4 x5 x7 y0 x6 else f_Hole_waysInto_50 k27 h x1 x4 x5 x7 y0 x6
def f_Hole_waysInto_34 (k27 : Int32 → Int32 → Int32 → Int32 → Int32 → Option (Int32)) (h : am_H) (x1 : Int32) (x4 : Int32) (x5 : Int32) (x6 : Int32) (x7 : Int32) : Option (Int32) :=
  f_Hole_waysInto_42 k27 h x1 x4 x5 x6 x7 (f_Hole_held (x4 + x7))
def f_Hole_waysInto_27 (k27 : Int32 → Int32 → Int32 → Int32 → Int32 → Option (Int32)) (h : am_H) (x1 : Int32) (x4 : Int32) (x5 : Int32) (x6 : Int32) (x7 : Int32) : Option (Int32) :=
  if x5 < x7 then f_Hole_waysInto_85 h x6 else f_Hole_waysInto_34 k27 h x1 x4 x5 x6 x7
def f_Hole_waysInto_27_l (h : am_H) : Nat → Int32 → Int32 → Int32 → Int32 → Int32 → Option (Int32)
  | 0 => fun _ _ _ _ _ => none
  | n + 1 => f_Hole_waysInto_27 (f_Hole_waysInto_27_l h n) h
def f_Hole_waysInto_17 (h : am_H) (x1 : Int32) (x4 : Int32) (y0 : Int32) : Option (Int32) :=
  f_Hole_waysInto_27_l h am_fu x1 x4 y0 0 (-y0)
def f_Hole_waysInto_10 (h : am_H) (x1 : Int32) (x3 : Int32) (y0 : Int32) : Option (Int32) :=
  (f_Hole_spreadOf h x3).bind fun p => f_Hole_waysInto_17 h x1 y0 p
def f_Hole_waysInto_7 (h : am_H) (x1 : Int32) (x3 : Int32) (y2 : Int32) (y1 : Int32) : Option (Int32) :=
  (f_Hole_aim h y1 y2).bind fun p => f_Hole_waysInto_10 h x1 x3 p
def f_Hole_waysInto (h : am_H) (x1 : Int32) (x2 : Int32) (x3 : Int32) : Option (Int32) :=
  (f_Hole_carryOf h x3).bind fun p => f_Hole_waysInto_7 h x1 x3 p x2
def f_Club_chance_24 (h : am_H) : Option (Int64) :=
  some (-9223372036854775808)
def f_Club_chance_71 (h : am_H) (y0 : Int64) : Option (Int64) :=
  some y0
def f_Club_chance_66 (h : am_H) (x3 : Int32) (y1 : Int32) (y0 : Int64) : Option (Int64) :=
  (f_Club_partOf y0 y1.toInt64 x3).bind fun p => f_Club_chance_71 h p
def f_Club_chance_56 (h : am_H) (x3 : Int32) (x4 : Int32) (y0 : Int32) : Option (Int64) :=
  (f_Hole_waysOf h x4).bind fun p => f_Club_chance_66 h x3 p y0.toInt64
def f_Club_chance_47 (h : am_H) (x1 : Int32) (x3 : Int32) (x4 : Int32) (y1 : Int32) : Option (Int64) :=
  (f_Hole_waysInto h y1 (x1 / 10) x4).bind fun p => f_Club_chance_56 h x3 x4 p
def f_Club_chance_46 (h : am_H) (x1 : Int32) (x3 : Int32) (x4 : Int32) : Option (Int64) :=
  f_Club_chance_47 h x1 x3 x4 0
def f_Club_chance_42 (h : am_H) (x1 : Int32) (x3 : Int32) (x4 : Int32) : Option (Int64) :=
  f_Club_chance_47 h x1 x3 x4 1
def f_Club_chance_28 (h : am_H) (x1 : Int32) (x2 : Int32) (x3 : Int32) : Option (Int64) :=
  if x2 = 0 then f_Club_chance_42 h x1 x3 (x1 - x1 / 10 * 10) else f_Club_chance_46 h x1 x3 (x1 - x1 / 10 * 10)
def f_Club_chance_21 (h : am_H) (x1 : Int32) (x2 : Int32) (x3 : Int32) (y0 : Bool) : Option (Int64) :=
  if y0 = true then f_Club_chance_28 h x1 x2 x3 else f_Club_chance_24 h
def f_Club_chance_17 (h : am_H) (x1 : Int32) (x2 : Int32) (x3 : Int32) : Option (Int64) :=
  f_Club_chance_21 h x1 x2 x3 (f_Club_isFractionPart x3)
def f_Club_chance_12 (h : am_H) (x1 : Int32) (x2 : Int32) (x3 : Int32) : Option (Int64) :=
  if 1 < x2 then f_Club_chance_24 h else f_Club_chance_17 h x1 x2 x3
def f_Club_chance_8 (h : am_H) (x1 : Int32) (x2 : Int32) (x3 : Int32) : Option (Int64) :=
  if x2 < 0 then f_Club_chance_24 h else f_Club_chance_12 h x1 x2 x3
def f_Club_chance_5 (h : am_H) (x1 : Int32) (x2 : Int32) (x3 : Int32) (y0 : Bool) : Option (Int64) :=
  if y0 = true then f_Club_chance_8 h x1 x2 x3 else f_Club_chance_24 h
def f_Club_chance (h : am_H) (x1 : Int32) (x2 : Int32) (x3 : Int32) : Option (Int64) :=
  (f_Club_isShot h x1).bind fun p => f_Club_chance_5 h x1 x2 x3 p
def f_Hole_hasNoClubs_11 (h : am_H) : Bool :=
  false
def f_Hole_hasNoClubs_7 (h : am_H) : Bool :=
  true
def f_Hole_hasNoClubs (h : am_H) : Bool :=
  if (h.1 1 4) = 0 then f_Hole_hasNoClubs_7 h else f_Hole_hasNoClubs_11 h
def f_Hole_clubsHeld (h : am_H) : Int32 :=
  (h.1 1 4)
def f_Hole_believedOf_17 (h : am_H) : Option (Int32) :=
  some 0
def f_Hole_believedOf_8 (h : am_H) (x1 : Int32) : Option (Int32) :=
  if am_ok x1 6 = true then (some (h.1 5 x1.toNatClampNeg)) else none
def f_Hole_believedOf_5 (h : am_H) (x1 : Int32) (y0 : Bool) : Option (Int32) :=
  if y0 = true then f_Hole_believedOf_8 h x1 else f_Hole_believedOf_17 h
def f_Hole_believedOf (h : am_H) (x1 : Int32) : Option (Int32) :=
  f_Hole_believedOf_5 h x1 (f_Hole_hasClub h x1)
def f_Hole_cellsToPin (h : am_H) (x1 : Int32) : Int32 :=
  (if 0 ≤ (x1 - (h.1 1 5)) then (x1 - (h.1 1 5)) else 0 - (x1 - (h.1 1 5)))
def f_Hole_groundOf_16 (h : am_H) : Option (Int32) :=
  some 0
def f_Hole_groundOf_7 (h : am_H) (x1 : Int32) : Option (Int32) :=
  if am_ok x1 31 = true then (some (h.1 2 x1.toNatClampNeg)) else none
def f_Hole_groundOf_4 (h : am_H) (x1 : Int32) (y0 : Bool) : Option (Int32) :=
  if y0 = true then f_Hole_groundOf_7 h x1 else f_Hole_groundOf_16 h
def f_Hole_groundOf (h : am_H) (x1 : Int32) : Option (Int32) :=
  f_Hole_groundOf_4 h x1 (f_Hole_isCell x1)
def f_Hole_windNow (h : am_H) : Int32 :=
  (h.1 1 6)
def f_Law_hasText_11 (h : am_H) : Bool :=
  false
def f_Law_hasText_7 (h : am_H) : Bool :=
  true
def f_Law_hasText (h : am_H) : Bool :=
  if (h.1 6 8) ≤ 0 then f_Law_hasText_11 h else f_Law_hasText_7 h
def f_Law_nameNumbers (h : am_H) (x1 : Int32) (x2 : Int32) (x3 : Int32) (x4 : Int32) (x5 : Int32) (x6 : Int32) : am_H :=
  am_pI (am_pI (am_pI (am_pI (am_pI (am_pI h 11 (0 : Int32).toNatClampNeg x1) 11 (1 : Int32).toNatClampNeg x2) 11 (2 : Int32).toNatClampNeg x3) 11 (3 : Int32).toNatClampNeg x4) 11 (4 : Int32).toNatClampNeg x5) 11 (5 : Int32).toNatClampNeg x6
def f_Law_join_149 (x1 : Int32) (x2 : Int32) : Option (Int32) :=
  if ¬ x2 = 0 then (some (x1 - x1 / x2 * x2)) else none
def f_Law_join_145  : Option (Int32) :=
  some 0
def f_Law_join_141 (x1 : Int32) (x2 : Int32) : Option (Int32) :=
  if x2 = 0 then f_Law_join_145 else f_Law_join_149 x1 x2
def f_Law_join_137 (x1 : Int32) (x2 : Int32) : Option (Int32) :=
  if ¬ x2 = 0 then (some (x1 / x2)) else none
def f_Law_join_133  : Option (Int32) :=
  some 0
def f_Law_join_129 (x1 : Int32) (x2 : Int32) : Option (Int32) :=
  if x2 = 0 then f_Law_join_133 else f_Law_join_137 x1 x2
def f_Law_join_125 (x1 : Int32) (x2 : Int32) : Option (Int32) :=
  some (x1 * x2)
def f_Law_join_121 (x1 : Int32) (x2 : Int32) : Option (Int32) :=
  some (x1 - x2)
def f_Law_join_117 (x1 : Int32) (x2 : Int32) : Option (Int32) :=
  some (x1 + x2)
def f_Law_join_115  : Option (Int32) :=
  some 0
def f_Law_join_111  : Option (Int32) :=
  some 1
def f_Law_join_106 (x1 : Int32) (x2 : Int32) : Option (Int32) :=
  if x1 ≤ x2 then f_Law_join_115 else f_Law_join_111
def f_Law_join_104  : Option (Int32) :=
  some 0
def f_Law_join_100  : Option (Int32) :=
  some 1
def f_Law_join_95 (x1 : Int32) (x2 : Int32) : Option (Int32) :=
  if x1 = x2 then f_Law_join_100 else f_Law_join_104
def f_Law_join_93  : Option (Int32) :=
  some 0
def f_Law_join_89  : Option (Int32) :=
  some 1
def f_Law_join_84 (x1 : Int32) (x2 : Int32) : Option (Int32) :=
  if x2 ≤ x1 then f_Law_join_93 else f_Law_join_89
def f_Law_join_82  : Option (Int32) :=
  some 0
def f_Law_join_78  : Option (Int32) :=
  some 1
def f_Law_join_74 (x2 : Int32) : Option (Int32) :=
  if x2 = 0 then f_Law_join_82 else f_Law_join_78
def f_Law_join_70 (x1 : Int32) (x2 : Int32) : Option (Int32) :=
  if x1 = 0 then f_Law_join_82 else f_Law_join_74 x2
def f_Law_join_64  : Option (Int32) :=
  some 1
def f_Law_join_68  : Option (Int32) :=
  some 0
def f_Law_join_60 (x2 : Int32) : Option (Int32) :=
  if x2 = 0 then f_Law_join_68 else f_Law_join_64
def f_Law_join_56 (x1 : Int32) (x2 : Int32) : Option (Int32) :=
  if x1 = 0 then f_Law_join_60 x2 else f_Law_join_64
def f_Law_join_153  : Option (Int32) :=
  some 0
def f_Law_join (x0 : Int32) (x1 : Int32) (x2 : Int32) : Option (Int32) :=
  if x0 = (-20) then f_Law_join_141 x1 x2 else if x0 = (-19) then f_Law_join_129 x1 x2 else if x0 = (-18) then f_Law_join_125 x1 x2 else if x0 = (-17) then f_Law_join_121 x1 x2 else if x0 = (-16) then f_Law_join_117 x1 x2 else if x0 = (-15) then f_Law_join_106 x1 x2 else if x0 = (-14) then f_Law_join_95 x1 x2 else if x0 = (-13) then f_Law_join_84 x1 x2 else if x0 = (-12) then f_Law_join_70 x1 x2 else if x0 = (-11) then f_Law_join_56 x1 x2 else f_Law_join_153
def f_Law_valueOf_32 (h : am_H) : Option (Int32) :=
  some 0
def f_Law_valueOf_23 (h : am_H) (x2 : Int32) : Option (Int32) :=
  if am_ok x2 6 = true then (some (h.1 11 x2.toNatClampNeg)) else none
def f_Law_valueOf_14 (h : am_H) (x2 : Int32) : Option (Int32) :=
  if 6 ≤ x2 then f_Law_valueOf_32 h else f_Law_valueOf_23 h x2
def f_Law_valueOf_6 (h : am_H) (x1 : Int32) : Option (Int32) :=
  if ((-1) - x1) < 0 then f_Law_valueOf_32 h else f_Law_valueOf_14 h ((-1) - x1)
def f_Law_valueOf_4 (h : am_H) (x1 : Int32) : Option (Int32) :=
  some x1
def f_Law_valueOf (h : am_H) (x1 : Int32) : Option (Int32) :=
  if x1 < 0 then f_Law_valueOf_6 h x1 else f_Law_valueOf_4 h x1
def f_Law_workOut_251 (h : am_H) : Option (Int32 × am_H) :=
  some (0, h)
def f_Law_workOut_245 (k6 : am_H → Int32 → Int32 → Int32 → Option (Int32 × am_H)) (h : am_H) (x1 : Int32) (x2 : Int32) (x3 : Int32) : Option (Int32 × am_H) :=
  k6 h x1 x2 (x3 + 1)
def f_Law_workOut_244 (k6 : am_H → Int32 → Int32 → Int32 → Option (Int32 × am_H)) (h : am_H) (x1 : Int32) (x2 : Int32) (x3 : Int32) (y2 : Int32) (y1 : Int32) : Option (Int32 × am_H) :=
  if am_ok y1 130 = true then (f_Law_workOut_245 k6 (am_pI h 10 y1.toNatClampNeg y2) x1 x2 x3) else none
def f_Law_workOut_235 (k6 : am_H → Int32 → Int32 → Int32 → Option (Int32 × am_H)) (h : am_H) (x1 : Int32) (x2 : Int32) (x3 : Int32) (y1 : Int32) : Option (Int32 × am_H) :=
  if am_ok (x1 - 1) 130 = true then (f_Law_workOut_244 k6 h x1 x2 x3 (-(h.1 10 (x1 - 1).toNatClampNeg)) y1) else none
def f_Law_workOut_232 (k6 : am_H → Int32 → Int32 → Int32 → Option (Int32 × am_H)) (h : am_H) (x1 : Int32) (x2 : Int32) (x3 : Int32) (y2 : Int32) (y1 : Int32) : Option (Int32 × am_H) :=
  f_Law_workOut_244 k6 h x1 x2 x3 y2 y1
def f_Law_workOut_218 (k6 : am_H → Int32 → Int32 → Int32 → Option (Int32 × am_H)) (h : am_H) (x1 : Int32) (x2 : Int32) (x3 : Int32) (y1 : Int32) : Option (Int32 × am_H) :=
  if am_ok (x1 - 1) 130 = true then ((f_Law_join (-14) (h.1 10 (x1 - 1).toNatClampNeg) 0).bind fun p => f_Law_workOut_232 k6 h x1 x2 x3 p y1) else none
def f_Law_workOut_204 (k6 : am_H → Int32 → Int32 → Int32 → Option (Int32 × am_H)) (h : am_H) (x1 : Int32) (x2 : Int32) (x3 : Int32) (x4 : Int32) : Option (Int32 × am_H) :=
  if x4 = (-21) then f_Law_workOut_218 k6 h x1 x2 x3 (x1 - 1) else f_Law_workOut_235 k6 h x1 x2 x3 (x1 - 1)
def f_Law_workOut_197 (k6 : am_H → Int32 → Int32 → Int32 → Option (Int32 × am_H)) (h : am_H) (x1 : Int32) (x2 : Int32) (x3 : Int32) (x4 : Int32) : Option (Int32 × am_H) :=
  if 130 < x1 then f_Law_workOut_245 k6 h x1 x2 x3 else f_Law_workOut_204 k6 h x1 x2 x3 x4
def f_Law_workOut_192 (k6 : am_H → Int32 → Int32 → Int32 → Option (Int32 × am_H)) (h : am_H) (x1 : Int32) (x2 : Int32) (x3 : Int32) (x4 : Int32) : Option (Int32 × am_H) :=
  if x1 < 1 then f_Law_workOut_245 k6 h x1 x2 x3 else f_Law_workOut_197 k6 h x1 x2 x3 x4
def f_Law_workOut_188 (k6 : am_H → Int32 → Int32 → Int32 → Option (Int32 × am_H)) (h : am_H) (x1 : Int32) (x2 : Int32) (x3 : Int32) (x4 : Int32) : Option (Int32 × am_H) :=
  if x2 = 0 then f_Law_workOut_192 k6 h x1 x2 x3 x4 else f_Law_workOut_245 k6 h x1 x2 x3
def f_Law_workOut_184 (k6 : am_H → Int32 → Int32 → Int32 → Option (Int32 × am_H)) (h : am_H) (x1 : Int32) (x2 : Int32) (x3 : Int32) (y2 : Int32) (y1 : Int32) : Option (Int32 × am_H) :=
  if am_ok y1 130 = true then (f_Law_workOut_245 k6 (am_pI h 10 y1.toNatClampNeg y2) x1 x2 x3) else none
def f_Law_workOut_155 (k6 : am_H → Int32 → Int32 → Int32 → Option (Int32 × am_H)) (h : am_H) (x1 : Int32) (x2 : Int32) (x3 : Int32) (x4 : Int32) : Option (Int32 × am_H) :=
  if am_ok ((x1 + (-1)) - 1) 130 = true then (if am_ok (x1 + (-1)) 130 = true then ((f_Law_join x4 (h.1 10 ((x1 + (-1)) - 1).toNatClampNeg) (h.1 10 (x1 + (-1)).toNatClampNeg)).bind fun p => f_Law_workOut_184 k6 h (x1 + (-1)) x2 x3 p ((x1 + (-1)) - 1)) else none) else none
def f_Law_workOut_148 (k6 : am_H → Int32 → Int32 → Int32 → Option (Int32 × am_H)) (h : am_H) (x1 : Int32) (x2 : Int32) (x3 : Int32) (x4 : Int32) : Option (Int32 × am_H) :=
  if 130 < x1 then f_Law_workOut_188 k6 h x1 x2 x3 x4 else f_Law_workOut_155 k6 h x1 x2 x3 x4
def f_Law_workOut_143 (k6 : am_H → Int32 → Int32 → Int32 → Option (Int32 × am_H)) (h : am_H) (x1 : Int32) (x2 : Int32) (x3 : Int32) (x4 : Int32) : Option (Int32 × am_H) :=
  if x1 < 2 then f_Law_workOut_188 k6 h x1 x2 x3 x4 else f_Law_workOut_148 k6 h x1 x2 x3 x4
def f_Law_workOut_136 (k6 : am_H → Int32 → Int32 → Int32 → Option (Int32 × am_H)) (h : am_H) (x1 : Int32) (x2 : Int32) (x3 : Int32) (x4 : Int32) : Option (Int32 × am_H) :=
  if x4 < (-20) then f_Law_workOut_188 k6 h x1 x2 x3 x4 else f_Law_workOut_143 k6 h x1 x2 x3 x4
def f_Law_workOut_132 (k6 : am_H → Int32 → Int32 → Int32 → Option (Int32 × am_H)) (h : am_H) (x1 : Int32) (x2 : Int32) (x3 : Int32) (x4 : Int32) : Option (Int32 × am_H) :=
  if x2 = 0 then f_Law_workOut_136 k6 h x1 x2 x3 x4 else f_Law_workOut_188 k6 h x1 x2 x3 x4
def f_Law_workOut_125 (k6 : am_H → Int32 → Int32 → Int32 → Option (Int32 × am_H)) (h : am_H) (x1 : Int32) (x2 : Int32) (x3 : Int32) (y2 : Int32) (y1 : Int32) : Option (Int32 × am_H) :=
  if am_ok y1 130 = true then (f_Law_workOut_245 k6 (am_pI h 10 y1.toNatClampNeg y2) (x1 + 1) x2 x3) else none
def f_Law_workOut_114 (k6 : am_H → Int32 → Int32 → Int32 → Option (Int32 × am_H)) (h : am_H) (x1 : Int32) (x2 : Int32) (x3 : Int32) (x4 : Int32) : Option (Int32 × am_H) :=
  (f_Law_valueOf h x4).bind fun p => f_Law_workOut_125 k6 h x1 x2 x3 p x1
def f_Law_workOut_107 (k6 : am_H → Int32 → Int32 → Int32 → Option (Int32 × am_H)) (h : am_H) (x1 : Int32) (x2 : Int32) (x3 : Int32) (x4 : Int32) : Option (Int32 × am_H) :=
  if 130 ≤ x1 then f_Law_workOut_132 k6 h x1 x2 x3 x4 else f_Law_workOut_114 k6 h x1 x2 x3 x4
def f_Law_workOut_103 (k6 : am_H → Int32 → Int32 → Int32 → Option (Int32 × am_H)) (h : am_H) (x1 : Int32) (x2 : Int32) (x3 : Int32) (x4 : Int32) : Option (Int32 × am_H) :=
  if x1 < 0 then f_Law_workOut_132 k6 h x1 x2 x3 x4 else f_Law_workOut_107 k6 h x1 x2 x3 x4
def f_Law_workOut_96 (k6 : am_H → Int32 → Int32 → Int32 → Option (Int32 × am_H)) (h : am_H) (x1 : Int32) (x2 : Int32) (x3 : Int32) (x4 : Int32) : Option (Int32 × am_H) :=
  if x4 ≤ (-11) then f_Law_workOut_132 k6 h x1 x2 x3 x4 else f_Law_workOut_103 k6 h x1 x2 x3 x4
def f_Law_workOut_92 (k6 : am_H → Int32 → Int32 → Int32 → Option (Int32 × am_H)) (h : am_H) (x1 : Int32) (x2 : Int32) (x3 : Int32) (x4 : Int32) : Option (Int32 × am_H) :=
  if x2 = 0 then f_Law_workOut_96 k6 h x1 x2 x3 x4 else f_Law_workOut_132 k6 h x1 x2 x3 x4
def f_Law_workOut_86 (k6 : am_H → Int32 → Int32 → Int32 → Option (Int32 × am_H)) (h : am_H) (x3 : Int32) (y0 : Int32) : Option (Int32 × am_H) :=
  f_Law_workOut_245 k6 h 0 y0 x3
def f_Law_workOut_85 (k6 : am_H → Int32 → Int32 → Int32 → Option (Int32 × am_H)) (h : am_H) (x3 : Int32) : Option (Int32 × am_H) :=
  f_Law_workOut_86 k6 h x3 0
def f_Law_workOut_81 (k6 : am_H → Int32 → Int32 → Int32 → Option (Int32 × am_H)) (h : am_H) (x3 : Int32) : Option (Int32 × am_H) :=
  f_Law_workOut_86 k6 h x3 1
def f_Law_workOut_72 (k6 : am_H → Int32 → Int32 → Int32 → Option (Int32 × am_H)) (h : am_H) (x3 : Int32) : Option (Int32 × am_H) :=
  if (h.1 10 (0 : Int32).toNatClampNeg) = 0 then f_Law_workOut_81 k6 h x3 else f_Law_workOut_85 k6 h x3
def f_Law_workOut_68 (k6 : am_H → Int32 → Int32 → Int32 → Option (Int32 × am_H)) (h : am_H) (x1 : Int32) (x2 : Int32) (x3 : Int32) (x4 : Int32) : Option (Int32 × am_H) :=
  if x2 = 0 then f_Law_workOut_72 k6 h x3 else f_Law_workOut_92 k6 h x1 x2 x3 x4
def f_Law_workOut_61 (k6 : am_H → Int32 → Int32 → Int32 → Option (Int32 × am_H)) (h : am_H) (x1 : Int32) (x2 : Int32) (x3 : Int32) (x4 : Int32) : Option (Int32 × am_H) :=
  if x4 = (-31) then f_Law_workOut_68 k6 h x1 x2 x3 x4 else f_Law_workOut_92 k6 h x1 x2 x3 x4
def f_Law_workOut_54 (k6 : am_H → Int32 → Int32 → Int32 → Option (Int32 × am_H)) (h : am_H) (x3 : Int32) : Option (Int32 × am_H) :=
  f_Law_workOut_245 k6 h 0 0 x3
def f_Law_workOut_47 (k6 : am_H → Int32 → Int32 → Int32 → Option (Int32 × am_H)) (h : am_H) (x1 : Int32) (x2 : Int32) (x3 : Int32) (x4 : Int32) : Option (Int32 × am_H) :=
  if x4 = (-32) then f_Law_workOut_54 k6 h x3 else f_Law_workOut_61 k6 h x1 x2 x3 x4
def f_Law_workOut_40 (h : am_H) : Option (Int32 × am_H) :=
  some ((h.1 10 (0 : Int32).toNatClampNeg), h)
def f_Law_workOut_36 (k6 : am_H → Int32 → Int32 → Int32 → Option (Int32 × am_H)) (h : am_H) (x1 : Int32) (x2 : Int32) (x3 : Int32) (x4 : Int32) : Option (Int32 × am_H) :=
  if x2 = 0 then f_Law_workOut_40 h else f_Law_workOut_47 k6 h x1 x2 x3 x4
def f_Law_workOut_21 (k6 : am_H → Int32 → Int32 → Int32 → Option (Int32 × am_H)) (h : am_H) (x1 : Int32) (x2 : Int32) (x3 : Int32) : Option (Int32 × am_H) :=
  if am_ok x3 130 = true then (if (h.1 9 x3.toNatClampNeg) = (-32) then f_Law_workOut_36 k6 h x1 x2 x3 (h.1 9 x3.toNatClampNeg) else f_Law_workOut_47 k6 h x1 x2 x3 (h.1 9 x3.toNatClampNeg)) else none
def f_Law_workOut_14 (k6 : am_H → Int32 → Int32 → Int32 → Option (Int32 × am_H)) (h : am_H) (x1 : Int32) (x2 : Int32) (x3 : Int32) : Option (Int32 × am_H) :=
  if 130 ≤ x3 then f_Law_workOut_251 h else f_Law_workOut_21 k6 h x1 x2 x3
def f_Law_workOut_6 (k6 : am_H → Int32 → Int32 → Int32 → Option (Int32 × am_H)) (h : am_H) (x1 : Int32) (x2 : Int32) (x3 : Int32) : Option (Int32 × am_H) :=
  if (h.1 6 8) ≤ x3 then f_Law_workOut_251 h else f_Law_workOut_14 k6 h x1 x2 x3
def f_Law_workOut_6_l  : Nat → am_H → Int32 → Int32 → Int32 → Option (Int32 × am_H)
  | 0 => fun _ _ _ _ => none
  | n + 1 => f_Law_workOut_6 (f_Law_workOut_6_l n)
def f_Law_workOut (h : am_H) : Option (Int32 × am_H) :=
  f_Law_workOut_6_l am_fu h 0 0 0
def f_Reck_rankOf_111 (h : am_H) (y0 : Int32) : Option (Int32 × am_H) :=
  some (y0, h)
def f_Reck_rankOf_104 (h : am_H) : Option (Int32 × am_H) :=
  (f_Law_workOut h).bind fun p => f_Reck_rankOf_111 p.2 p.1
def f_Reck_rankOf_98 (h : am_H) (x2 : Int32) (x6 : Int32) (y4 : Int32) (y3 : Int32) (y2 : Int32) (y1 : Int32) : Option (Int32 × am_H) :=
  f_Reck_rankOf_104 (f_Law_nameNumbers h y1 y2 y3 y4 x6 x2)
def f_Reck_rankOf_88 (h : am_H) (x2 : Int32) (x5 : Int32) (x6 : Int32) (y2 : Int32) (y1 : Int32) : Option (Int32 × am_H) :=
  (f_Hole_spreadOf h x2).bind fun p => f_Reck_rankOf_98 h x2 x6 p x5 y2 y1
def f_Reck_rankOf_74 (h : am_H) (x1 : Int32) (x2 : Int32) (x4 : Int32) (x5 : Int32) (x6 : Int32) : Option (Int32 × am_H) :=
  (f_Hole_groundOf h x1).bind fun p => f_Reck_rankOf_88 h x2 x5 x6 p x4
def f_Reck_rankOf_61 (h : am_H) (x4 : Int32) (x5 : Int32) (x6 : Int32) : Option (Int32 × am_H) :=
  some ((-(if 0 ≤ (x4 - (x5 + x6)) then (x4 - (x5 + x6)) else 0 - (x4 - (x5 + x6)))), h)
def f_Reck_rankOf_58 (h : am_H) (x1 : Int32) (x2 : Int32) (x4 : Int32) (x5 : Int32) (x6 : Int32) (y0 : Bool) : Option (Int32 × am_H) :=
  if y0 = true then f_Reck_rankOf_74 h x1 x2 x4 x5 x6 else f_Reck_rankOf_61 h x4 x5 x6
def f_Reck_rankOf_49 (h : am_H) (x1 : Int32) (x2 : Int32) (x4 : Int32) (x5 : Int32) (y0 : Int32) : Option (Int32 × am_H) :=
  f_Reck_rankOf_58 h x1 x2 x4 x5 y0 (f_Law_hasText h)
def f_Reck_rankOf_39 (h : am_H) (x1 : Int32) (x2 : Int32) (x4 : Int32) (y1 : Int32) (y0 : Int32) : Option (Int32 × am_H) :=
  f_Reck_rankOf_49 h x1 x2 x4 (y0 + y1) (f_Hole_windNow h)
def f_Reck_rankOf_31 (h : am_H) (x1 : Int32) (x2 : Int32) (x4 : Int32) (y0 : Int32) : Option (Int32 × am_H) :=
  (f_Hole_believedOf h x2).bind fun p => f_Reck_rankOf_39 h x1 x2 x4 p y0
def f_Reck_rankOf_27 (h : am_H) (x1 : Int32) (x2 : Int32) (x4 : Int32) (y0 : Int32) : Option (Int32 × am_H) :=
  f_Reck_rankOf_39 h x1 x2 x4 0 y0
def f_Reck_rankOf_20 (h : am_H) (x1 : Int32) (x2 : Int32) (x4 : Int32) (y0 : Int32) : Option (Int32 × am_H) :=
  if (h.1 12 11) = 0 then f_Reck_rankOf_31 h x1 x2 x4 y0 else f_Reck_rankOf_27 h x1 x2 x4 y0
def f_Reck_rankOf_8 (h : am_H) (x1 : Int32) (x2 : Int32) (x3 : Int32) (y0 : Int32) : Option (Int32 × am_H) :=
  (f_Hole_carryOf h x2).bind fun p => f_Reck_rankOf_20 h x1 x2 (y0 + x3) p
def f_Reck_rankOf (h : am_H) (x1 : Int32) (x2 : Int32) (x3 : Int32) : Option (Int32 × am_H) :=
  f_Reck_rankOf_8 h x1 x2 x3 (f_Hole_cellsToPin h x1)
def f_Reck_clubTold_56 (h : am_H) (x3 : Int32) : Option (Int32 × am_H) :=
  some (x3, h)
def f_Reck_clubTold_50 (k14 : am_H → Int32 → Int32 → Int32 → Int32 → Int32 → Option (Int32 × am_H)) (h : am_H) (x1 : Int32) (x2 : Int32) (x3 : Int32) (x4 : Int32) (x5 : Int32) : Option (Int32 × am_H) :=
  k14 h x1 x2 x3 x4 (x5 + 1)
def f_Reck_clubTold_43 (k14 : am_H → Int32 → Int32 → Int32 → Int32 → Int32 → Option (Int32 × am_H)) (h : am_H) (x1 : Int32) (x2 : Int32) (x5 : Int32) (x6 : Int32) : Option (Int32 × am_H) :=
  f_Reck_clubTold_50 k14 h x1 x2 x5 x6 x5
def f_Reck_clubTold_34 (k14 : am_H → Int32 → Int32 → Int32 → Int32 → Int32 → Option (Int32 × am_H)) (h : am_H) (x1 : Int32) (x2 : Int32) (x3 : Int32) (x4 : Int32) (x5 : Int32) (y0 : Int32) : Option (Int32 × am_H) :=
  if y0 ≤ x4 then f_Reck_clubTold_50 k14 h x1 x2 x3 x4 x5 else f_Reck_clubTold_43 k14 h x1 x2 x5 y0
def f_Reck_clubTold_26 (k14 : am_H → Int32 → Int32 → Int32 → Int32 → Int32 → Option (Int32 × am_H)) (h : am_H) (x1 : Int32) (x2 : Int32) (x3 : Int32) (x4 : Int32) (x5 : Int32) : Option (Int32 × am_H) :=
  (f_Reck_rankOf h x1 x5 x2).bind fun p => f_Reck_clubTold_34 k14 p.2 x1 x2 x3 x4 x5 p.1
def f_Reck_clubTold_23 (k14 : am_H → Int32 → Int32 → Int32 → Int32 → Int32 → Option (Int32 × am_H)) (h : am_H) (x1 : Int32) (x2 : Int32) (x3 : Int32) (x4 : Int32) (x5 : Int32) (y1 : Int32) (y0 : Int32) : Option (Int32 × am_H) :=
  if y1 ≤ y0 then f_Reck_clubTold_56 h x3 else f_Reck_clubTold_26 k14 h x1 x2 x3 x4 x5
def f_Reck_clubTold_14 (k14 : am_H → Int32 → Int32 → Int32 → Int32 → Int32 → Option (Int32 × am_H)) (h : am_H) (x1 : Int32) (x2 : Int32) (x3 : Int32) (x4 : Int32) (x5 : Int32) : Option (Int32 × am_H) :=
  f_Reck_clubTold_23 k14 h x1 x2 x3 x4 x5 (f_Hole_clubsHeld h) x5
def f_Reck_clubTold_14_l  : Nat → am_H → Int32 → Int32 → Int32 → Int32 → Int32 → Option (Int32 × am_H)
  | 0 => fun _ _ _ _ _ _ => none
  | n + 1 => f_Reck_clubTold_14 (f_Reck_clubTold_14_l n)
def f_Reck_clubTold_9 (h : am_H) (x1 : Int32) (x2 : Int32) (x3 : Int32) (y0 : Int32) : Option (Int32 × am_H) :=
  f_Reck_clubTold_14_l am_fu h x1 x2 x3 y0 1
def f_Reck_clubTold (h : am_H) (x1 : Int32) (x2 : Int32) : Option (Int32 × am_H) :=
  (f_Reck_rankOf h x1 0 x2).bind fun p => f_Reck_clubTold_9 p.2 x1 x2 0 p.1
def f_Club_believed_30 (h : am_H) : Option (Int32 × am_H) :=
  some ((-2), h)
def f_Club_believed_44 (h : am_H) (y0 : Int32) : Option (Int32 × am_H) :=
  some (y0, h)
def f_Club_believed_35 (h : am_H) (x1 : Int32) : Option (Int32 × am_H) :=
  (f_Reck_clubTold h x1 0).bind fun p => f_Club_believed_44 p.2 p.1
def f_Club_believed_27 (h : am_H) (x1 : Int32) (y0 : Bool) : Option (Int32 × am_H) :=
  if y0 = true then f_Club_believed_30 h else f_Club_believed_35 h x1
def f_Club_believed_20 (h : am_H) (x1 : Int32) : Option (Int32 × am_H) :=
  f_Club_believed_27 h x1 (f_Hole_hasNoClubs h)
def f_Club_believed_17 (h : am_H) (x1 : Int32) (y0 : Bool) : Option (Int32 × am_H) :=
  if y0 = true then f_Club_believed_30 h else f_Club_believed_20 h x1
def f_Club_believed_9 (h : am_H) (x1 : Int32) : Option (Int32 × am_H) :=
  (f_Hole_isGreen h x1).bind fun p => f_Club_believed_17 h x1 p
def f_Club_believed_7 (h : am_H) : Option (Int32 × am_H) :=
  some ((-1), h)
def f_Club_believed_4 (h : am_H) (x1 : Int32) (y0 : Bool) : Option (Int32 × am_H) :=
  if y0 = true then f_Club_believed_9 h x1 else f_Club_believed_7 h
def f_Club_believed (h : am_H) (x1 : Int32) : Option (Int32 × am_H) :=
  f_Club_believed_4 h x1 (f_Hole_isCell x1)
def f_Hole_farthestDry_64 (h : am_H) (x2 : Int32) : Option (Int32) :=
  some x2
def f_Hole_farthestDry_58 (k8 : Int32 → Int32 → Int32 → Int32 → Option (Int32)) (h : am_H) (x1 : Int32) (x2 : Int32) (x3 : Int32) (x4 : Int32) : Option (Int32) :=
  k8 x1 x2 x3 (x4 + 1)
def f_Hole_farthestDry_52 (k8 : Int32 → Int32 → Int32 → Int32 → Option (Int32)) (h : am_H) (x1 : Int32) (x4 : Int32) (x5 : Int32) : Option (Int32) :=
  f_Hole_farthestDry_58 k8 h x1 x4 x5 x4
def f_Hole_farthestDry_49 (k8 : Int32 → Int32 → Int32 → Int32 → Option (Int32)) (h : am_H) (x1 : Int32) (x2 : Int32) (x3 : Int32) (x4 : Int32) (x5 : Int32) (y0 : Int32) : Option (Int32) :=
  if y0 = 0 then f_Hole_farthestDry_52 k8 h x1 x4 x5 else f_Hole_farthestDry_58 k8 h x1 x2 x3 x4
def f_Hole_farthestDry_41 (k8 : Int32 → Int32 → Int32 → Int32 → Option (Int32)) (h : am_H) (x1 : Int32) (x2 : Int32) (x3 : Int32) (x4 : Int32) (x5 : Int32) : Option (Int32) :=
  (f_Hole_waysInto h 1 x1 x4).bind fun p => f_Hole_farthestDry_49 k8 h x1 x2 x3 x4 x5 p
def f_Hole_farthestDry_28 (k8 : Int32 → Int32 → Int32 → Int32 → Option (Int32)) (h : am_H) (x1 : Int32) (x2 : Int32) (x3 : Int32) (x4 : Int32) (y0 : Int32) : Option (Int32) :=
  if (if 0 ≤ (y0 - x1) then (y0 - x1) else 0 - (y0 - x1)) ≤ x3 then f_Hole_farthestDry_58 k8 h x1 x2 x3 x4 else f_Hole_farthestDry_41 k8 h x1 x2 x3 x4 (if 0 ≤ (y0 - x1) then (y0 - x1) else 0 - (y0 - x1))
def f_Hole_farthestDry_25 (k8 : Int32 → Int32 → Int32 → Int32 → Option (Int32)) (h : am_H) (x1 : Int32) (x2 : Int32) (x3 : Int32) (x4 : Int32) (y2 : Int32) (y1 : Int32) : Option (Int32) :=
  (f_Hole_aim h y1 y2).bind fun p => f_Hole_farthestDry_28 k8 h x1 x2 x3 x4 p
def f_Hole_farthestDry_17 (k8 : Int32 → Int32 → Int32 → Int32 → Option (Int32)) (h : am_H) (x1 : Int32) (x2 : Int32) (x3 : Int32) (x4 : Int32) : Option (Int32) :=
  (f_Hole_carryOf h x4).bind fun p => f_Hole_farthestDry_25 k8 h x1 x2 x3 x4 p x1
def f_Hole_farthestDry_8 (k8 : Int32 → Int32 → Int32 → Int32 → Option (Int32)) (h : am_H) (x1 : Int32) (x2 : Int32) (x3 : Int32) (x4 : Int32) : Option (Int32) :=
  if (h.1 1 4) ≤ x4 then f_Hole_farthestDry_64 h x2 else f_Hole_farthestDry_17 k8 h x1 x2 x3 x4
def f_Hole_farthestDry_8_l (h : am_H) : Nat → Int32 → Int32 → Int32 → Int32 → Option (Int32)
  | 0 => fun _ _ _ _ => none
  | n + 1 => f_Hole_farthestDry_8 (f_Hole_farthestDry_8_l h n) h
def f_Hole_farthestDry (h : am_H) (x1 : Int32) : Option (Int32) :=
  f_Hole_farthestDry_8_l h am_fu x1 (-2) (-1) 0
def f_Club_layUp_22 (h : am_H) : Option (Int32) :=
  some (-1)
def f_Club_layUp_19 (h : am_H) (y0 : Int32) : Option (Int32) :=
  some y0
def f_Club_layUp_11 (h : am_H) (x1 : Int32) : Option (Int32) :=
  (f_Hole_farthestDry h x1).bind fun p => f_Club_layUp_19 h p
def f_Club_layUp_8 (h : am_H) (x1 : Int32) (y0 : Bool) : Option (Int32) :=
  if y0 = true then f_Club_layUp_11 h x1 else f_Club_layUp_22 h
def f_Club_layUp (h : am_H) (x1 : Int32) : Option (Int32) :=
  (f_Hole_isOffGreen h x1).bind fun p => f_Club_layUp_8 h x1 p
def f_Reck_bestClub_29 (h : am_H) : Option (Int32) :=
  some (-2)
def f_Reck_bestClub_20 (h : am_H) (x3 : Int32) : Option (Int32) :=
  if am_ok x3 155 = true then (some (h.1 15 x3.toNatClampNeg)) else none
def f_Reck_bestClub_11 (h : am_H) (x3 : Int32) : Option (Int32) :=
  if 155 ≤ x3 then f_Reck_bestClub_29 h else f_Reck_bestClub_20 h x3
def f_Reck_bestClub (h : am_H) (x1 : Int32) (x2 : Int32) : Option (Int32) :=
  if ((x2 * 31) + x1) < 0 then f_Reck_bestClub_29 h else f_Reck_bestClub_11 h ((x2 * 31) + x1)
def f_Hole_puttTwelfths_13 (h : am_H) : Int32 :=
  (24 - (h.1 1 7))
def f_Hole_puttTwelfths_8 (h : am_H) : Int32 :=
  12
def f_Hole_puttTwelfths (h : am_H) (x1 : Int32) : Int32 :=
  if x1 = (h.1 1 5) then f_Hole_puttTwelfths_8 h else f_Hole_puttTwelfths_13 h
def f_Hole_strokesUnplayed_6 (h : am_H) (y1 : Int32) (y0 : Int32) : Int32 :=
  (y0 + (y1 / 5))
def f_Hole_strokesUnplayed (h : am_H) (x1 : Int32) : Int32 :=
  f_Hole_strokesUnplayed_6 h (f_Hole_cellsToPin h x1) 2
def f_Reck_keepBest_31 (h : am_H) : Option (am_H) :=
  some h
def f_Reck_keepBest_23 (h : am_H) (x3 : Int32) (x4 : Int32) : Option (am_H) :=
  if am_ok x4 155 = true then (some (am_pI h 15 x4.toNatClampNeg x3)) else none
def f_Reck_keepBest_13 (h : am_H) (x3 : Int32) (x4 : Int32) : Option (am_H) :=
  if 155 ≤ x4 then f_Reck_keepBest_31 h else f_Reck_keepBest_23 h x3 x4
def f_Reck_keepBest (h : am_H) (x1 : Int32) (x2 : Int32) (x3 : Int32) : Option (am_H) :=
  if ((x2 * 31) + x1) < 0 then f_Reck_keepBest_31 h else f_Reck_keepBest_13 h x3 ((x2 * 31) + x1)
def f_Reck_lawfulClub_22 (h : am_H) : Option (Int32) :=
  some (-2)
def f_Reck_lawfulClub_13 (h : am_H) (x1 : Int32) : Option (Int32) :=
  if am_ok x1 31 = true then (some (h.1 16 x1.toNatClampNeg)) else none
def f_Reck_lawfulClub_4 (h : am_H) (x1 : Int32) : Option (Int32) :=
  if 31 ≤ x1 then f_Reck_lawfulClub_22 h else f_Reck_lawfulClub_13 h x1
def f_Reck_lawfulClub (h : am_H) (x1 : Int32) : Option (Int32) :=
  if x1 < 0 then f_Reck_lawfulClub_22 h else f_Reck_lawfulClub_4 h x1
def f_Reck_unit_20  : Option (Int64) :=
  some 1
def f_Reck_unit_12 (x0 : Int32) : Option (Int64) :=
  if am_ok x0 5 = true then (some (tv_UNITS x0)) else none
def f_Reck_unit_4 (x0 : Int32) : Option (Int64) :=
  if 5 ≤ x0 then f_Reck_unit_20 else f_Reck_unit_12 x0
def f_Reck_unit (x0 : Int32) : Option (Int64) :=
  if x0 < 0 then f_Reck_unit_20 else f_Reck_unit_4 x0
def f_Reck_meanByClub_178 (h : am_H) (y2 : Int32) (y1 : Int64) (y0 : Int64) : Option (Int64) :=
  some (y0 + (y1 * y2.toInt64))
def f_Reck_meanByClub_177 (h : am_H) (y1 : Int64) (y0 : Int64) : Option (Int64) :=
  f_Reck_meanByClub_178 h 0 y1 y0
def f_Reck_meanByClub_168 (h : am_H) (x6 : Int32) (y1 : Int64) (y0 : Int64) : Option (Int64) :=
  if am_ok x6 4 = true then (f_Reck_meanByClub_178 h (tv_SHARES x6) y1 y0) else none
def f_Reck_meanByClub_159 (h : am_H) (x6 : Int32) (y1 : Int64) (y0 : Int64) : Option (Int64) :=
  if 4 ≤ x6 then f_Reck_meanByClub_177 h y1 y0 else f_Reck_meanByClub_168 h x6 y1 y0
def f_Reck_meanByClub_152 (h : am_H) (x6 : Int32) (x8 : Int64) (y0 : Int64) : Option (Int64) :=
  if x6 < 0 then f_Reck_meanByClub_177 h x8 y0 else f_Reck_meanByClub_159 h x6 x8 y0
def f_Reck_meanByClub_148 (h : am_H) (x3 : Int32) (x6 : Int32) (x8 : Int64) : Option (Int64) :=
  (f_Reck_unit x3).bind fun p => f_Reck_meanByClub_152 h x6 x8 p
def f_Reck_meanByClub_142 (k55 : Int32 → Int32 → Nat → Nat → Int32 → Int32 → Int64 → Int32 → Option (Int64)) (h : am_H) (x1 : Int32) (x3 : Int32) (a5 : Nat) (na5 : Nat) (x6 : Int32) (x7 : Int32) (x8 : Int64) (x10 : Int32) : Option (Int64) :=
  k55 x1 x3 a5 na5 x6 x7 x8 (x10 + 1)
def f_Reck_meanByClub_138 (k55 : Int32 → Int32 → Nat → Nat → Int32 → Int32 → Int64 → Int32 → Option (Int64)) (h : am_H) (x1 : Int32) (x3 : Int32) (a5 : Nat) (na5 : Nat) (x6 : Int32) (x7 : Int32) (x10 : Int32) (y2 : Int64) (y1 : Int64) (y0 : Int64) : Option (Int64) :=
  f_Reck_meanByClub_142 k55 h x1 x3 a5 na5 x6 x7 (y0 + (y1 + y2)) x10
def f_Reck_meanByClub_137 (k55 : Int32 → Int32 → Nat → Nat → Int32 → Int32 → Int64 → Int32 → Option (Int64)) (h : am_H) (x1 : Int32) (x3 : Int32) (a5 : Nat) (na5 : Nat) (x6 : Int32) (x7 : Int32) (x10 : Int32) (y1 : Int64) (y0 : Int64) : Option (Int64) :=
  f_Reck_meanByClub_138 k55 h x1 x3 a5 na5 x6 x7 x10 0 y1 y0
def f_Reck_meanByClub_134 (k55 : Int32 → Int32 → Nat → Nat → Int32 → Int32 → Int64 → Int32 → Option (Int64)) (h : am_H) (x1 : Int32) (x3 : Int32) (a5 : Nat) (na5 : Nat) (x6 : Int32) (x7 : Int32) (x10 : Int32) (y2 : Int64) (y1 : Int64) (y0 : Int64) : Option (Int64) :=
  f_Reck_meanByClub_138 k55 h x1 x3 a5 na5 x6 x7 x10 y2 y1 y0
def f_Reck_meanByClub_128 (k55 : Int32 → Int32 → Nat → Nat → Int32 → Int32 → Int64 → Int32 → Option (Int64)) (h : am_H) (x1 : Int32) (x3 : Int32) (a5 : Nat) (na5 : Nat) (x6 : Int32) (x7 : Int32) (x10 : Int32) (y1 : Int64) (y0 : Int64) : Option (Int64) :=
  (f_Reck_unit (x3 - 1)).bind fun p => f_Reck_meanByClub_134 k55 h x1 x3 a5 na5 x6 x7 x10 p y1 y0
def f_Reck_meanByClub_116 (k55 : Int32 → Int32 → Nat → Nat → Int32 → Int32 → Int64 → Int32 → Option (Int64)) (h : am_H) (x1 : Int32) (x3 : Int32) (a5 : Nat) (na5 : Nat) (x6 : Int32) (x7 : Int32) (x8 : Int64) (x10 : Int32) (x12 : Bool) (x13 : Int32) : Option (Int64) :=
  if am_ok x13 na5 = true then (if x12 = true then f_Reck_meanByClub_128 k55 h x1 x3 a5 na5 x6 x7 x10 (h.2 a5 x13.toNatClampNeg) x8 else f_Reck_meanByClub_137 k55 h x1 x3 a5 na5 x6 x7 x10 (h.2 a5 x13.toNatClampNeg) x8) else none
def f_Reck_meanByClub_108 (k55 : Int32 → Int32 → Nat → Nat → Int32 → Int32 → Int64 → Int32 → Option (Int64)) (h : am_H) (x1 : Int32) (x3 : Int32) (a5 : Nat) (na5 : Nat) (x6 : Int32) (x7 : Int32) (x8 : Int64) (x10 : Int32) (x12 : Bool) (x13 : Int32) : Option (Int64) :=
  if (Int32.ofNat na5) ≤ x13 then f_Reck_meanByClub_142 k55 h x1 x3 a5 na5 x6 x7 x8 x10 else f_Reck_meanByClub_116 k55 h x1 x3 a5 na5 x6 x7 x8 x10 x12 x13
def f_Reck_meanByClub_100 (k55 : Int32 → Int32 → Nat → Nat → Int32 → Int32 → Int64 → Int32 → Option (Int64)) (h : am_H) (x1 : Int32) (x3 : Int32) (a5 : Nat) (na5 : Nat) (x6 : Int32) (x7 : Int32) (x8 : Int64) (x10 : Int32) (x12 : Bool) (y1 : Int32) (y0 : Int32) : Option (Int64) :=
  if (y0 + y1) < 0 then f_Reck_meanByClub_142 k55 h x1 x3 a5 na5 x6 x7 x8 x10 else f_Reck_meanByClub_108 k55 h x1 x3 a5 na5 x6 x7 x8 x10 x12 (y0 + y1)
def f_Reck_meanByClub_98 (k55 : Int32 → Int32 → Nat → Nat → Int32 → Int32 → Int64 → Int32 → Option (Int64)) (h : am_H) (x1 : Int32) (x3 : Int32) (a5 : Nat) (na5 : Nat) (x6 : Int32) (x7 : Int32) (x8 : Int64) (x10 : Int32) (x11 : Int32) (x12 : Bool) (y0 : Int32) : Option (Int64) :=
  f_Reck_meanByClub_100 k55 h x1 x3 a5 na5 x6 x7 x8 x10 x12 x11 y0
def f_Reck_meanByClub_94 (k55 : Int32 → Int32 → Nat → Nat → Int32 → Int32 → Int64 → Int32 → Option (Int64)) (h : am_H) (x1 : Int32) (x3 : Int32) (a5 : Nat) (na5 : Nat) (x6 : Int32) (x7 : Int32) (x8 : Int64) (x10 : Int32) (x12 : Bool) (y0 : Int32) : Option (Int64) :=
  f_Reck_meanByClub_100 k55 h x1 x3 a5 na5 x6 x7 x8 x10 x12 x1 y0
def f_Reck_meanByClub_81 (k55 : Int32 → Int32 → Nat → Nat → Int32 → Int32 → Int64 → Int32 → Option (Int64)) (h : am_H) (x1 : Int32) (x3 : Int32) (a5 : Nat) (na5 : Nat) (x6 : Int32) (x7 : Int32) (x8 : Int64) (x10 : Int32) (x11 : Int32) (y0 : Bool) : Option (Int64) :=
  if y0 = true then f_Reck_meanByClub_94 k55 h x1 x3 a5 na5 x6 x7 x8 x10 y0 ((x3 - 1) * 31) else f_Reck_meanByClub_98 k55 h x1 x3 a5 na5 x6 x7 x8 x10 x11 y0 ((x3 - 1) * 31)
def f_Reck_meanByClub_70 (k55 : Int32 → Int32 → Nat → Nat → Int32 → Int32 → Int64 → Int32 → Option (Int64)) (h : am_H) (x1 : Int32) (x3 : Int32) (a5 : Nat) (na5 : Nat) (x6 : Int32) (x7 : Int32) (x8 : Int64) (x10 : Int32) (y0 : Int32) : Option (Int64) :=
  (f_Hole_isWater h y0).bind fun p => f_Reck_meanByClub_81 k55 h x1 x3 a5 na5 x6 x7 x8 x10 y0 p
def f_Reck_meanByClub_62 (k55 : Int32 → Int32 → Nat → Nat → Int32 → Int32 → Int64 → Int32 → Option (Int64)) (h : am_H) (x1 : Int32) (x3 : Int32) (a5 : Nat) (na5 : Nat) (x6 : Int32) (x7 : Int32) (x8 : Int64) (x10 : Int32) : Option (Int64) :=
  f_Reck_meanByClub_70 k55 h x1 x3 a5 na5 x6 x7 x8 x10 (f_Hole_held (x7 + x10))
def f_Reck_meanByClub_55 (k55 : Int32 → Int32 → Nat → Nat → Int32 → Int32 → Int64 → Int32 → Option (Int64)) (h : am_H) (x1 : Int32) (x3 : Int32) (a5 : Nat) (na5 : Nat) (x6 : Int32) (x7 : Int32) (x8 : Int64) (x10 : Int32) : Option (Int64) :=
  if x6 < x10 then f_Reck_meanByClub_148 h x3 x6 x8 else f_Reck_meanByClub_62 k55 h x1 x3 a5 na5 x6 x7 x8 x10
def f_Reck_meanByClub_55_l (h : am_H) : Nat → Int32 → Int32 → Nat → Nat → Int32 → Int32 → Int64 → Int32 → Option (Int64)
  | 0 => fun _ _ _ _ _ _ _ _ => none
  | n + 1 => f_Reck_meanByClub_55 (f_Reck_meanByClub_55_l h n) h
def f_Reck_meanByClub_45 (h : am_H) (x1 : Int32) (x3 : Int32) (a5 : Nat) (na5 : Nat) (x6 : Int32) (y0 : Int32) : Option (Int64) :=
  f_Reck_meanByClub_55_l h am_fu x1 x3 a5 na5 x6 y0 0 (-x6)
def f_Reck_meanByClub_42 (h : am_H) (x1 : Int32) (x3 : Int32) (a5 : Nat) (na5 : Nat) (x6 : Int32) (y2 : Int32) (y1 : Int32) : Option (Int64) :=
  (f_Hole_aim h y1 y2).bind fun p => f_Reck_meanByClub_45 h x1 x3 a5 na5 x6 p
def f_Reck_meanByClub_27 (h : am_H) (x1 : Int32) (x2 : Int32) (x3 : Int32) (a5 : Nat) (na5 : Nat) (y0 : Int32) : Option (Int64) :=
  (f_Hole_carryOf h x2).bind fun p => f_Reck_meanByClub_42 h x1 x3 a5 na5 y0 p x1
def f_Reck_meanByClub_17 (h : am_H) (x1 : Int32) (x2 : Int32) (x3 : Int32) (b0 : Nat) (nb0 : Nat) : Option (Int64) :=
  (f_Hole_spreadOf h x2).bind fun p => f_Reck_meanByClub_27 h x1 x2 x3 b0 nb0 p
def f_Reck_meanByClub_13 (h : am_H) (x1 : Int32) (x2 : Int32) (x3 : Int32) : Option (Int64) :=
  f_Reck_meanByClub_17 h x1 x2 x3 13 155
def f_Reck_meanByClub_6 (h : am_H) (x1 : Int32) (x2 : Int32) (x3 : Int32) : Option (Int64) :=
  f_Reck_meanByClub_17 h x1 x2 x3 14 155
def f_Reck_meanByClub (h : am_H) (x1 : Int32) (x2 : Int32) (x3 : Int32) (x4 : Int32) : Option (Int64) :=
  if x4 = 1 then f_Reck_meanByClub_6 h x1 x2 x3 else f_Reck_meanByClub_13 h x1 x2 x3
def f_Reck_workOut_57 (h : am_H) (y1 : Int64) (y0 : Int64) : Option (Int64 × am_H) :=
  some ((y0 * y1), h)
def f_Reck_workOut_52 (h : am_H) (x2 : Int32) (y0 : Int32) : Option (Int64 × am_H) :=
  (f_Reck_unit x2).bind fun p => f_Reck_workOut_57 h p y0.toInt64
def f_Reck_workOut_44 (h : am_H) (x1 : Int32) (x2 : Int32) : Option (Int64 × am_H) :=
  f_Reck_workOut_52 h x2 (f_Hole_strokesUnplayed h x1)
def f_Reck_workOut_146 (h : am_H) (x5 : Int64) : Option (Int64 × am_H) :=
  some (x5, h)
def f_Reck_workOut_138 (h : am_H) (x1 : Int32) (x2 : Int32) (x4 : Int32) (x5 : Int64) : Option (Int64 × am_H) :=
  (f_Reck_keepBest h x1 x2 x4).bind fun p => f_Reck_workOut_146 p x5
def f_Reck_workOut_132 (k93 : am_H → Int32 → Int32 → Int32 → Int64 → Int32 → Option (Int64 × am_H)) (h : am_H) (x1 : Int32) (x2 : Int32) (x4 : Int32) (x5 : Int64) (x7 : Int32) : Option (Int64 × am_H) :=
  k93 h x1 x2 x4 x5 (x7 + 1)
def f_Reck_workOut_124 (k93 : am_H → Int32 → Int32 → Int32 → Int64 → Int32 → Option (Int64 × am_H)) (h : am_H) (x1 : Int32) (x2 : Int32) (x7 : Int32) (x8 : Int64) : Option (Int64 × am_H) :=
  f_Reck_workOut_132 k93 h x1 x2 x7 x8 x7
def f_Reck_workOut_114 (k93 : am_H → Int32 → Int32 → Int32 → Int64 → Int32 → Option (Int64 × am_H)) (h : am_H) (x1 : Int32) (x2 : Int32) (x4 : Int32) (x5 : Int64) (x7 : Int32) (y0 : Int64) : Option (Int64 × am_H) :=
  if x5 ≤ y0 then f_Reck_workOut_132 k93 h x1 x2 x4 x5 x7 else f_Reck_workOut_124 k93 h x1 x2 x7 y0
def f_Reck_workOut_105 (k93 : am_H → Int32 → Int32 → Int32 → Int64 → Int32 → Option (Int64 × am_H)) (h : am_H) (x1 : Int32) (x2 : Int32) (x4 : Int32) (x5 : Int64) (x7 : Int32) : Option (Int64 × am_H) :=
  (f_Reck_meanByClub h x1 x7 x2 0).bind fun p => f_Reck_workOut_114 k93 h x1 x2 x4 x5 x7 p
def f_Reck_workOut_102 (k93 : am_H → Int32 → Int32 → Int32 → Int64 → Int32 → Option (Int64 × am_H)) (h : am_H) (x1 : Int32) (x2 : Int32) (x4 : Int32) (x5 : Int64) (x7 : Int32) (y1 : Int32) (y0 : Int32) : Option (Int64 × am_H) :=
  if y1 ≤ y0 then f_Reck_workOut_138 h x1 x2 x4 x5 else f_Reck_workOut_105 k93 h x1 x2 x4 x5 x7
def f_Reck_workOut_93 (k93 : am_H → Int32 → Int32 → Int32 → Int64 → Int32 → Option (Int64 × am_H)) (h : am_H) (x1 : Int32) (x2 : Int32) (x4 : Int32) (x5 : Int64) (x7 : Int32) : Option (Int64 × am_H) :=
  f_Reck_workOut_102 k93 h x1 x2 x4 x5 x7 (f_Hole_clubsHeld h) x7
def f_Reck_workOut_93_l  : Nat → am_H → Int32 → Int32 → Int32 → Int64 → Int32 → Option (Int64 × am_H)
  | 0 => fun _ _ _ _ _ _ => none
  | n + 1 => f_Reck_workOut_93 (f_Reck_workOut_93_l n)
def f_Reck_workOut_88 (h : am_H) (x1 : Int32) (x2 : Int32) (x4 : Int32) (y0 : Int64) : Option (Int64 × am_H) :=
  f_Reck_workOut_93_l am_fu h x1 x2 x4 y0 1
def f_Reck_workOut_77 (h : am_H) (x1 : Int32) (x2 : Int32) : Option (Int64 × am_H) :=
  (f_Reck_meanByClub h x1 0 x2 0).bind fun p => f_Reck_workOut_88 h x1 x2 0 p
def f_Reck_workOut_76 (h : am_H) (y0 : Int64) : Option (Int64 × am_H) :=
  some (y0, h)
def f_Reck_workOut_71 (h : am_H) (x2 : Int32) (y2 : Int32) (y1 : Int32) : Option (Int64 × am_H) :=
  (f_Reck_meanByClub h y1 y2 x2 1).bind fun p => f_Reck_workOut_76 h p
def f_Reck_workOut_64 (h : am_H) (x1 : Int32) (x2 : Int32) : Option (Int64 × am_H) :=
  (f_Reck_lawfulClub h x1).bind fun p => f_Reck_workOut_71 h x2 p x1
def f_Reck_workOut_59 (h : am_H) (x1 : Int32) (x2 : Int32) (x3 : Int32) : Option (Int64 × am_H) :=
  if x3 = 1 then f_Reck_workOut_64 h x1 x2 else f_Reck_workOut_77 h x1 x2
def f_Reck_workOut_41 (h : am_H) (x1 : Int32) (x2 : Int32) (x3 : Int32) (y0 : Bool) : Option (Int64 × am_H) :=
  if y0 = true then f_Reck_workOut_44 h x1 x2 else f_Reck_workOut_59 h x1 x2 x3
def f_Reck_workOut_34 (h : am_H) (x1 : Int32) (x2 : Int32) (x3 : Int32) : Option (Int64 × am_H) :=
  f_Reck_workOut_41 h x1 x2 x3 (f_Hole_hasNoClubs h)
def f_Reck_workOut_30 (h : am_H) (x1 : Int32) (x2 : Int32) (x3 : Int32) : Option (Int64 × am_H) :=
  if x2 = 0 then f_Reck_workOut_44 h x1 x2 else f_Reck_workOut_34 h x1 x2 x3
def f_Reck_workOut_24 (h : am_H) (y1 : Int64) (y0 : Int64) : Option (Int64 × am_H) :=
  some ((y0 * (y1 / 12)), h)
def f_Reck_workOut_19 (h : am_H) (x2 : Int32) (y0 : Int32) : Option (Int64 × am_H) :=
  (f_Reck_unit x2).bind fun p => f_Reck_workOut_24 h p y0.toInt64
def f_Reck_workOut_11 (h : am_H) (x1 : Int32) (x2 : Int32) : Option (Int64 × am_H) :=
  f_Reck_workOut_19 h x2 (f_Hole_puttTwelfths h x1)
def f_Reck_workOut_8 (h : am_H) (x1 : Int32) (x2 : Int32) (x3 : Int32) (y0 : Bool) : Option (Int64 × am_H) :=
  if y0 = true then f_Reck_workOut_11 h x1 x2 else f_Reck_workOut_30 h x1 x2 x3
def f_Reck_workOut (h : am_H) (x1 : Int32) (x2 : Int32) (x3 : Int32) : Option (Int64 × am_H) :=
  (f_Hole_isGreen h x1).bind fun p => f_Reck_workOut_8 h x1 x2 x3 p
def f_Reck_mean_16 (h : am_H) : Option (Int64 × am_H) :=
  some (0, h)
def f_Reck_mean_160 (h : am_H) : Option (Int64 × am_H) :=
  some (0, h)
def f_Reck_mean_152 (h : am_H) (a4 : Nat) (na4 : Nat) (x5 : Int32) : Option (Int64 × am_H) :=
  if am_ok x5 na4 = true then (some ((h.2 a4 x5.toNatClampNeg), h)) else none
def f_Reck_mean_144 (h : am_H) (a4 : Nat) (na4 : Nat) (x5 : Int32) : Option (Int64 × am_H) :=
  if (Int32.ofNat na4) ≤ x5 then f_Reck_mean_160 h else f_Reck_mean_152 h a4 na4 x5
def f_Reck_mean_138 (k65 : am_H → Int32 → Int32 → Nat → Nat → Int32 → Int32 → Option (Int64 × am_H)) (h : am_H) (x2 : Int32) (x3 : Int32) (a4 : Nat) (na4 : Nat) (x5 : Int32) (x6 : Int32) : Option (Int64 × am_H) :=
  k65 h x2 x3 a4 na4 x5 (x6 + 1)
def f_Reck_mean_137 (k65 : am_H → Int32 → Int32 → Nat → Nat → Int32 → Int32 → Option (Int64 × am_H)) (h : am_H) (x2 : Int32) (x3 : Int32) (a4 : Nat) (na4 : Nat) (x5 : Int32) (x6 : Int32) (y2 : Int64) (y1 : Int32) (b0 : Nat) (nb0 : Nat) : Option (Int64 × am_H) :=
  if am_ok y1 nb0 = true then (f_Reck_mean_138 k65 (am_pL h b0 y1.toNatClampNeg y2) x2 x3 a4 na4 x5 x6) else none
def f_Reck_mean_118 (k65 : am_H → Int32 → Int32 → Nat → Nat → Int32 → Int32 → Option (Int64 × am_H)) (h : am_H) (x2 : Int32) (x3 : Int32) (a4 : Nat) (na4 : Nat) (x5 : Int32) (x6 : Int32) : Option (Int64 × am_H) :=
  (f_Reck_workOut h (x6 - x6 / 31 * 31) (x6 / 31) x3).bind fun p => f_Reck_mean_137 k65 p.2 x2 x3 a4 na4 x5 x6 p.1 x6 a4 na4
def f_Reck_mean_108 (k65 : am_H → Int32 → Int32 → Nat → Nat → Int32 → Int32 → Option (Int64 × am_H)) (h : am_H) (x2 : Int32) (x3 : Int32) (a4 : Nat) (na4 : Nat) (x5 : Int32) (x6 : Int32) : Option (Int64 × am_H) :=
  if am_ok x6 na4 = true then (if (h.2 a4 x6.toNatClampNeg) = 0 then f_Reck_mean_118 k65 h x2 x3 a4 na4 x5 x6 else f_Reck_mean_138 k65 h x2 x3 a4 na4 x5 x6) else none
def f_Reck_mean_101 (k65 : am_H → Int32 → Int32 → Nat → Nat → Int32 → Int32 → Option (Int64 × am_H)) (h : am_H) (x2 : Int32) (x3 : Int32) (a4 : Nat) (na4 : Nat) (x5 : Int32) (x6 : Int32) (y0 : Int32) : Option (Int64 × am_H) :=
  if y0 = 0 then f_Reck_mean_138 k65 h x2 x3 a4 na4 x5 x6 else f_Reck_mean_108 k65 h x2 x3 a4 na4 x5 x6
def f_Reck_mean_96 (k65 : am_H → Int32 → Int32 → Nat → Nat → Int32 → Int32 → Option (Int64 × am_H)) (h : am_H) (x2 : Int32) (x3 : Int32) (a4 : Nat) (na4 : Nat) (x5 : Int32) (x6 : Int32) : Option (Int64 × am_H) :=
  f_Reck_mean_101 k65 h x2 x3 a4 na4 x5 x6 1
def f_Reck_mean_100 (k65 : am_H → Int32 → Int32 → Nat → Nat → Int32 → Int32 → Option (Int64 × am_H)) (h : am_H) (x2 : Int32) (x3 : Int32) (a4 : Nat) (na4 : Nat) (x5 : Int32) (x6 : Int32) : Option (Int64 × am_H) :=
  f_Reck_mean_101 k65 h x2 x3 a4 na4 x5 x6 0
def f_Reck_mean_87 (k65 : am_H → Int32 → Int32 → Nat → Nat → Int32 → Int32 → Option (Int64 × am_H)) (h : am_H) (x2 : Int32) (x3 : Int32) (a4 : Nat) (na4 : Nat) (x5 : Int32) (x6 : Int32) : Option (Int64 × am_H) :=
  if (x2 * 31) ≤ x6 then f_Reck_mean_100 k65 h x2 x3 a4 na4 x5 x6 else f_Reck_mean_96 k65 h x2 x3 a4 na4 x5 x6
def f_Reck_mean_80 (k65 : am_H → Int32 → Int32 → Nat → Nat → Int32 → Int32 → Option (Int64 × am_H)) (h : am_H) (x2 : Int32) (x3 : Int32) (a4 : Nat) (na4 : Nat) (x5 : Int32) (x6 : Int32) : Option (Int64 × am_H) :=
  if x6 = x5 then f_Reck_mean_96 k65 h x2 x3 a4 na4 x5 x6 else f_Reck_mean_87 k65 h x2 x3 a4 na4 x5 x6
def f_Reck_mean_72 (k65 : am_H → Int32 → Int32 → Nat → Nat → Int32 → Int32 → Option (Int64 × am_H)) (h : am_H) (x2 : Int32) (x3 : Int32) (a4 : Nat) (na4 : Nat) (x5 : Int32) (x6 : Int32) : Option (Int64 × am_H) :=
  if (Int32.ofNat na4) ≤ x6 then f_Reck_mean_144 h a4 na4 x5 else f_Reck_mean_80 k65 h x2 x3 a4 na4 x5 x6
def f_Reck_mean_65 (k65 : am_H → Int32 → Int32 → Nat → Nat → Int32 → Int32 → Option (Int64 × am_H)) (h : am_H) (x2 : Int32) (x3 : Int32) (a4 : Nat) (na4 : Nat) (x5 : Int32) (x6 : Int32) : Option (Int64 × am_H) :=
  if x5 < x6 then f_Reck_mean_144 h a4 na4 x5 else f_Reck_mean_72 k65 h x2 x3 a4 na4 x5 x6
def f_Reck_mean_65_l  : Nat → am_H → Int32 → Int32 → Nat → Nat → Int32 → Int32 → Option (Int64 × am_H)
  | 0 => fun _ _ _ _ _ _ _ => none
  | n + 1 => f_Reck_mean_65 (f_Reck_mean_65_l n)
def f_Reck_mean_54 (h : am_H) (x1 : Int32) (x2 : Int32) (x3 : Int32) (a4 : Nat) (na4 : Nat) : Option (Int64 × am_H) :=
  f_Reck_mean_65_l am_fu h x2 x3 a4 na4 ((x2 * 31) + x1) 0
def f_Reck_mean_49 (h : am_H) (x1 : Int32) (x2 : Int32) (x3 : Int32) (a4 : Nat) (na4 : Nat) : Option (Int64 × am_H) :=
  f_Reck_mean_54 (am_pI h 12 6 1) x1 x2 x3 a4 na4
def f_Reck_mean_41 (h : am_H) (x1 : Int32) (x2 : Int32) (x3 : Int32) (a4 : Nat) (na4 : Nat) : Option (Int64 × am_H) :=
  f_Reck_mean_54 (am_pI h 12 7 1) x1 x2 x3 a4 na4
def f_Reck_mean_34 (h : am_H) (x1 : Int32) (x2 : Int32) (x3 : Int32) (b0 : Nat) (nb0 : Nat) : Option (Int64 × am_H) :=
  if x3 = 1 then f_Reck_mean_41 h x1 x2 x3 b0 nb0 else f_Reck_mean_49 h x1 x2 x3 b0 nb0
def f_Reck_mean_30 (h : am_H) (x1 : Int32) (x2 : Int32) (x3 : Int32) : Option (Int64 × am_H) :=
  f_Reck_mean_34 h x1 x2 x3 13 155
def f_Reck_mean_23 (h : am_H) (x1 : Int32) (x2 : Int32) (x3 : Int32) : Option (Int64 × am_H) :=
  f_Reck_mean_34 h x1 x2 x3 14 155
def f_Reck_mean_18 (h : am_H) (x1 : Int32) (x2 : Int32) (x3 : Int32) : Option (Int64 × am_H) :=
  if x3 = 1 then f_Reck_mean_23 h x1 x2 x3 else f_Reck_mean_30 h x1 x2 x3
def f_Reck_mean_11 (h : am_H) (x1 : Int32) (x2 : Int32) (x3 : Int32) : Option (Int64 × am_H) :=
  if x2 ≤ 4 then f_Reck_mean_18 h x1 x2 x3 else f_Reck_mean_16 h
def f_Reck_mean_7 (h : am_H) (x1 : Int32) (x2 : Int32) (x3 : Int32) : Option (Int64 × am_H) :=
  if x2 < 0 then f_Reck_mean_16 h else f_Reck_mean_11 h x1 x2 x3
def f_Reck_mean_4 (h : am_H) (x1 : Int32) (x2 : Int32) (x3 : Int32) (y0 : Bool) : Option (Int64 × am_H) :=
  if y0 = true then f_Reck_mean_7 h x1 x2 x3 else f_Reck_mean_16 h
def f_Reck_mean (h : am_H) (x1 : Int32) (x2 : Int32) (x3 : Int32) : Option (Int64 × am_H) :=
  f_Reck_mean_4 h x1 x2 x3 (f_Hole_isCell x1)
def f_Club_strokes_25 (h : am_H) : Option (Int64 × am_H) :=
  some ((-9223372036854775808), h)
def f_Club_strokes_82 (h : am_H) : Option (Int64 × am_H) :=
  some ((-2), h)
def f_Club_strokes_97 (h : am_H) (y0 : Int32) : Option (Int64 × am_H) :=
  some (y0.toInt64, h)
def f_Club_strokes_88 (h : am_H) (x1 : Int32) (x2 : Int32) : Option (Int64 × am_H) :=
  (f_Reck_bestClub h x1 x2).bind fun p => f_Club_strokes_97 h p
def f_Club_strokes_79 (h : am_H) (x1 : Int32) (x2 : Int32) (y0 : Bool) : Option (Int64 × am_H) :=
  if y0 = true then f_Club_strokes_82 h else f_Club_strokes_88 h x1 x2
def f_Club_strokes_72 (h : am_H) (x1 : Int32) (x2 : Int32) : Option (Int64 × am_H) :=
  f_Club_strokes_79 h x1 x2 (f_Hole_hasNoClubs h)
def f_Club_strokes_69 (h : am_H) (x1 : Int32) (x2 : Int32) (y0 : Bool) : Option (Int64 × am_H) :=
  if y0 = true then f_Club_strokes_82 h else f_Club_strokes_72 h x1 x2
def f_Club_strokes_61 (h : am_H) (x1 : Int32) (x2 : Int32) : Option (Int64 × am_H) :=
  (f_Hole_isGreen h x1).bind fun p => f_Club_strokes_69 h x1 x2 p
def f_Club_strokes_57 (h : am_H) (x1 : Int32) (x2 : Int32) : Option (Int64 × am_H) :=
  if x2 = 0 then f_Club_strokes_82 h else f_Club_strokes_61 h x1 x2
def f_Club_strokes_56 (h : am_H) (y0 : Int64) : Option (Int64 × am_H) :=
  some (y0, h)
def f_Club_strokes_52 (h : am_H) (x3 : Int32) (y1 : Int64) (y0 : Int64) : Option (Int64 × am_H) :=
  (f_Club_partOf y0 y1 x3).bind fun p => f_Club_strokes_56 h p
def f_Club_strokes_46 (h : am_H) (x2 : Int32) (x3 : Int32) (x4 : Int64) : Option (Int64 × am_H) :=
  (f_Reck_unit x2).bind fun p => f_Club_strokes_52 h x3 p x4
def f_Club_strokes_39 (h : am_H) (x1 : Int32) (x2 : Int32) (x3 : Int32) (y0 : Int64) : Option (Int64 × am_H) :=
  if 2 ≤ x3 then f_Club_strokes_57 h x1 x2 else f_Club_strokes_46 h x2 x3 y0
def f_Club_strokes_29 (h : am_H) (x1 : Int32) (x2 : Int32) (x3 : Int32) : Option (Int64 × am_H) :=
  (f_Reck_mean h x1 x2 0).bind fun p => f_Club_strokes_39 p.2 x1 x2 x3 p.1
def f_Club_strokes_20 (h : am_H) (x1 : Int32) (x2 : Int32) (x3 : Int32) : Option (Int64 × am_H) :=
  if x3 ≤ 2 then f_Club_strokes_29 h x1 x2 x3 else f_Club_strokes_25 h
def f_Club_strokes_16 (h : am_H) (x1 : Int32) (x2 : Int32) (x3 : Int32) : Option (Int64 × am_H) :=
  if x3 < 0 then f_Club_strokes_25 h else f_Club_strokes_20 h x1 x2 x3
def f_Club_strokes_11 (h : am_H) (x1 : Int32) (x2 : Int32) (x3 : Int32) : Option (Int64 × am_H) :=
  if 4 < x2 then f_Club_strokes_25 h else f_Club_strokes_16 h x1 x2 x3
def f_Club_strokes_7 (h : am_H) (x1 : Int32) (x2 : Int32) (x3 : Int32) : Option (Int64 × am_H) :=
  if x2 < 0 then f_Club_strokes_25 h else f_Club_strokes_11 h x1 x2 x3
def f_Club_strokes_4 (h : am_H) (x1 : Int32) (x2 : Int32) (x3 : Int32) (y0 : Bool) : Option (Int64 × am_H) :=
  if y0 = true then f_Club_strokes_7 h x1 x2 x3 else f_Club_strokes_25 h
def f_Club_strokes (h : am_H) (x1 : Int32) (x2 : Int32) (x3 : Int32) : Option (Int64 × am_H) :=
  f_Club_strokes_4 h x1 x2 x3 (f_Hole_isCell x1)
def f_Reck_findLawfulClubs_37 (h : am_H) : Option (am_H) :=
  some (am_pI h 12 8 1)
def f_Reck_findLawfulClubs_30 (k10 : am_H → Int32 → Option (am_H)) (h : am_H) (x1 : Int32) (y2 : Int32) (y1 : Int32) : Option (am_H) :=
  if am_ok y1 31 = true then (k10 (am_pI h 16 y1.toNatClampNeg y2) (x1 + 1)) else none
def f_Reck_findLawfulClubs_19 (k10 : am_H → Int32 → Option (am_H)) (h : am_H) (x1 : Int32) : Option (am_H) :=
  (f_Reck_clubTold h x1 0).bind fun p => f_Reck_findLawfulClubs_30 k10 p.2 x1 p.1 x1
def f_Reck_findLawfulClubs_10 (k10 : am_H → Int32 → Option (am_H)) (h : am_H) (x1 : Int32) : Option (am_H) :=
  if 31 ≤ x1 then f_Reck_findLawfulClubs_37 h else f_Reck_findLawfulClubs_19 k10 h x1
def f_Reck_findLawfulClubs_10_l  : Nat → am_H → Int32 → Option (am_H)
  | 0 => fun _ _ => none
  | n + 1 => f_Reck_findLawfulClubs_10 (f_Reck_findLawfulClubs_10_l n)
def f_Reck_findLawfulClubs_8 (h : am_H) : Option (am_H) :=
  f_Reck_findLawfulClubs_10_l am_fu h 0
def f_Reck_findLawfulClubs_7 (h : am_H) : Option (am_H) :=
  some h
def f_Reck_findLawfulClubs (h : am_H) : Option (am_H) :=
  if (h.1 12 8) = 0 then f_Reck_findLawfulClubs_8 h else f_Reck_findLawfulClubs_7 h
def f_Reck_meanByLaw_11 (h : am_H) (y0 : Int64) : Option (Int64 × am_H) :=
  some (y0, h)
def f_Reck_meanByLaw_4 (h : am_H) (x1 : Int32) (x2 : Int32) : Option (Int64 × am_H) :=
  (f_Reck_mean h x1 x2 1).bind fun p => f_Reck_meanByLaw_11 p.2 p.1
def f_Reck_meanByLaw (h : am_H) (x1 : Int32) (x2 : Int32) : Option (Int64 × am_H) :=
  (f_Reck_findLawfulClubs h).bind fun p => f_Reck_meanByLaw_4 p x1 x2
def f_Club_byLaw_23 (h : am_H) : Option (Int64 × am_H) :=
  some ((-9223372036854775808), h)
def f_Club_byLaw_44 (h : am_H) (y0 : Int64) : Option (Int64 × am_H) :=
  some (y0, h)
def f_Club_byLaw_40 (h : am_H) (x3 : Int32) (y1 : Int64) (y0 : Int64) : Option (Int64 × am_H) :=
  (f_Club_partOf y0 y1 x3).bind fun p => f_Club_byLaw_44 h p
def f_Club_byLaw_36 (h : am_H) (x2 : Int32) (x3 : Int32) (y0 : Int64) : Option (Int64 × am_H) :=
  (f_Reck_unit x2).bind fun p => f_Club_byLaw_40 h x3 p y0
def f_Club_byLaw_27 (h : am_H) (x1 : Int32) (x2 : Int32) (x3 : Int32) : Option (Int64 × am_H) :=
  (f_Reck_meanByLaw h x1 x2).bind fun p => f_Club_byLaw_36 p.2 x2 x3 p.1
def f_Club_byLaw_20 (h : am_H) (x1 : Int32) (x2 : Int32) (x3 : Int32) (y0 : Bool) : Option (Int64 × am_H) :=
  if y0 = true then f_Club_byLaw_27 h x1 x2 x3 else f_Club_byLaw_23 h
def f_Club_byLaw_16 (h : am_H) (x1 : Int32) (x2 : Int32) (x3 : Int32) : Option (Int64 × am_H) :=
  f_Club_byLaw_20 h x1 x2 x3 (f_Club_isFractionPart x3)
def f_Club_byLaw_11 (h : am_H) (x1 : Int32) (x2 : Int32) (x3 : Int32) : Option (Int64 × am_H) :=
  if 4 < x2 then f_Club_byLaw_23 h else f_Club_byLaw_16 h x1 x2 x3
def f_Club_byLaw_7 (h : am_H) (x1 : Int32) (x2 : Int32) (x3 : Int32) : Option (Int64 × am_H) :=
  if x2 < 0 then f_Club_byLaw_23 h else f_Club_byLaw_11 h x1 x2 x3
def f_Club_byLaw_4 (h : am_H) (x1 : Int32) (x2 : Int32) (x3 : Int32) (y0 : Bool) : Option (Int64 × am_H) :=
  if y0 = true then f_Club_byLaw_7 h x1 x2 x3 else f_Club_byLaw_23 h
def f_Club_byLaw (h : am_H) (x1 : Int32) (x2 : Int32) (x3 : Int32) : Option (Int64 × am_H) :=
  f_Club_byLaw_4 h x1 x2 x3 (f_Hole_isCell x1)
def f_Reck_meanTold_13 (h : am_H) (y0 : Int64) : Option (Int64 × am_H) :=
  some (y0, h)
def f_Reck_meanTold_8 (h : am_H) (x2 : Int32) (y2 : Int32) (y1 : Int32) : Option (Int64 × am_H) :=
  (f_Reck_meanByClub h y1 y2 x2 1).bind fun p => f_Reck_meanTold_13 h p
def f_Reck_meanTold (h : am_H) (x1 : Int32) (x2 : Int32) (x3 : Int32) : Option (Int64 × am_H) :=
  (f_Reck_clubTold h x1 x3).bind fun p => f_Reck_meanTold_8 p.2 x2 p.1 x1
def f_Reck_bestLie_97 (h : am_H) (x4 : Int32) : Option (Int32 × am_H) :=
  some (x4, h)
def f_Reck_bestLie_91 (k15 : am_H → Int32 → Int32 → Int32 → Int32 → Int64 → Int32 → Option (Int32 × am_H)) (h : am_H) (x1 : Int32) (x2 : Int32) (x3 : Int32) (x4 : Int32) (x5 : Int64) (x7 : Int32) : Option (Int32 × am_H) :=
  k15 h x1 x2 x3 x4 x5 (x7 + 1)
def f_Reck_bestLie_83 (k15 : am_H → Int32 → Int32 → Int32 → Int32 → Int64 → Int32 → Option (Int32 × am_H)) (h : am_H) (x1 : Int32) (x2 : Int32) (x3 : Int32) (x7 : Int32) (x11 : Int64) : Option (Int32 × am_H) :=
  f_Reck_bestLie_91 k15 h x1 x2 x3 x7 x11 x7
def f_Reck_bestLie_73 (k15 : am_H → Int32 → Int32 → Int32 → Int32 → Int64 → Int32 → Option (Int32 × am_H)) (h : am_H) (x1 : Int32) (x2 : Int32) (x3 : Int32) (x4 : Int32) (x5 : Int64) (x7 : Int32) (y0 : Int64) : Option (Int32 × am_H) :=
  if x5 ≤ y0 then f_Reck_bestLie_91 k15 h x1 x2 x3 x4 x5 x7 else f_Reck_bestLie_83 k15 h x1 x2 x3 x7 y0
def f_Reck_bestLie_65 (k15 : am_H → Int32 → Int32 → Int32 → Int32 → Int64 → Int32 → Option (Int32 × am_H)) (h : am_H) (x1 : Int32) (x2 : Int32) (x3 : Int32) (x4 : Int32) (x5 : Int64) (x7 : Int32) (x8 : Int32) : Option (Int32 × am_H) :=
  (f_Reck_meanTold h x1 x2 x8).bind fun p => f_Reck_bestLie_73 k15 p.2 x1 x2 x3 x4 x5 x7 p.1
def f_Reck_bestLie_56 (k15 : am_H → Int32 → Int32 → Int32 → Int32 → Int64 → Int32 → Option (Int32 × am_H)) (h : am_H) (x1 : Int32) (x2 : Int32) (x3 : Int32) (x7 : Int32) (x8 : Int32) (x9 : Int64) : Option (Int32 × am_H) :=
  f_Reck_bestLie_65 k15 h x1 x2 x3 (-x7) x9 x7 x8
def f_Reck_bestLie_46 (k15 : am_H → Int32 → Int32 → Int32 → Int32 → Int64 → Int32 → Option (Int32 × am_H)) (h : am_H) (x1 : Int32) (x2 : Int32) (x3 : Int32) (x4 : Int32) (x5 : Int64) (x7 : Int32) (x8 : Int32) (y0 : Int64) : Option (Int32 × am_H) :=
  if x5 ≤ y0 then f_Reck_bestLie_65 k15 h x1 x2 x3 x4 x5 x7 x8 else f_Reck_bestLie_56 k15 h x1 x2 x3 x7 x8 y0
def f_Reck_bestLie_35 (k15 : am_H → Int32 → Int32 → Int32 → Int32 → Int64 → Int32 → Option (Int32 × am_H)) (h : am_H) (x1 : Int32) (x2 : Int32) (x3 : Int32) (x4 : Int32) (x5 : Int64) (x7 : Int32) (y0 : Int32) : Option (Int32 × am_H) :=
  (f_Reck_meanTold h x1 x2 (-y0)).bind fun p => f_Reck_bestLie_46 k15 p.2 x1 x2 x3 x4 x5 x7 y0 p.1
def f_Reck_bestLie_33 (k15 : am_H → Int32 → Int32 → Int32 → Int32 → Int64 → Int32 → Option (Int32 × am_H)) (h : am_H) (x1 : Int32) (x2 : Int32) (x3 : Int32) (x4 : Int32) (x5 : Int64) (x7 : Int32) : Option (Int32 × am_H) :=
  f_Reck_bestLie_35 k15 h x1 x2 x3 x4 x5 x7 x7
def f_Reck_bestLie_26 (k15 : am_H → Int32 → Int32 → Int32 → Int32 → Int64 → Int32 → Option (Int32 × am_H)) (h : am_H) (x1 : Int32) (x2 : Int32) (x3 : Int32) (x4 : Int32) (x5 : Int64) (x7 : Int32) : Option (Int32 × am_H) :=
  f_Reck_bestLie_35 k15 h x1 x2 x3 x4 x5 x7 (x7 / 2)
def f_Reck_bestLie_21 (k15 : am_H → Int32 → Int32 → Int32 → Int32 → Int64 → Int32 → Option (Int32 × am_H)) (h : am_H) (x1 : Int32) (x2 : Int32) (x3 : Int32) (x4 : Int32) (x5 : Int64) (x7 : Int32) : Option (Int32 × am_H) :=
  if x3 = 2 then f_Reck_bestLie_26 k15 h x1 x2 x3 x4 x5 x7 else f_Reck_bestLie_33 k15 h x1 x2 x3 x4 x5 x7
def f_Reck_bestLie_15 (k15 : am_H → Int32 → Int32 → Int32 → Int32 → Int64 → Int32 → Option (Int32 × am_H)) (h : am_H) (x1 : Int32) (x2 : Int32) (x3 : Int32) (x4 : Int32) (x5 : Int64) (x7 : Int32) : Option (Int32 × am_H) :=
  if 5 < x7 then f_Reck_bestLie_97 h x4 else f_Reck_bestLie_21 k15 h x1 x2 x3 x4 x5 x7
def f_Reck_bestLie_15_l  : Nat → am_H → Int32 → Int32 → Int32 → Int32 → Int64 → Int32 → Option (Int32 × am_H)
  | 0 => fun _ _ _ _ _ _ _ => none
  | n + 1 => f_Reck_bestLie_15 (f_Reck_bestLie_15_l n)
def f_Reck_bestLie_10 (h : am_H) (x1 : Int32) (x2 : Int32) (x3 : Int32) (x4 : Int32) (y0 : Int64) : Option (Int32 × am_H) :=
  f_Reck_bestLie_15_l am_fu h x1 x2 x3 x4 y0 1
def f_Reck_bestLie (h : am_H) (x1 : Int32) (x2 : Int32) (x3 : Int32) : Option (Int32 × am_H) :=
  (f_Reck_meanTold h x1 x2 0).bind fun p => f_Reck_bestLie_10 p.2 x1 x2 x3 0 p.1
def f_Club_lie_53 (h : am_H) : Option (Int64 × am_H) :=
  some ((-9223372036854775808), h)
def f_Club_lie_177 (h : am_H) (y0 : Int64) : Option (Int64 × am_H) :=
  some (y0, h)
def f_Club_lie_168 (h : am_H) (x3 : Int32) (x5 : Int64) (y1 : Int64) (y0 : Int64) : Option (Int64 × am_H) :=
  (f_Club_partOf (y0 - y1) x5 (x3 - 5)).bind fun p => f_Club_lie_177 h p
def f_Club_lie_151 (h : am_H) (x1 : Int32) (x2 : Int32) (x3 : Int32) (x5 : Int64) (x7 : Int64) (y0 : Int32) : Option (Int64 × am_H) :=
  (f_Reck_meanTold h x1 x2 (y0 / 2)).bind fun p => f_Club_lie_168 p.2 x3 x5 p.1 x7
def f_Club_lie_141 (h : am_H) (x1 : Int32) (x2 : Int32) (x3 : Int32) (x5 : Int64) (x7 : Int64) : Option (Int64 × am_H) :=
  (f_Reck_bestLie h x1 x2 2).bind fun p => f_Club_lie_151 p.2 x1 x2 x3 x5 x7 p.1
def f_Club_lie_140 (h : am_H) (y0 : Int64) : Option (Int64 × am_H) :=
  some (y0, h)
def f_Club_lie_127 (h : am_H) (x3 : Int32) (x5 : Int64) (x7 : Int64) (x10 : Int64) : Option (Int64 × am_H) :=
  (f_Club_partOf (x7 - x10) x5 (x3 - 3)).bind fun p => f_Club_lie_140 h p
def f_Club_lie_122 (h : am_H) (x1 : Int32) (x2 : Int32) (x3 : Int32) (x5 : Int64) (x7 : Int64) (x10 : Int64) : Option (Int64 × am_H) :=
  if 5 ≤ x3 then f_Club_lie_141 h x1 x2 x3 x5 x7 else f_Club_lie_127 h x3 x5 x7 x10
def f_Club_lie_118 (h : am_H) (x9 : Int32) : Option (Int64 × am_H) :=
  some (x9.toInt64, h)
def f_Club_lie_113 (h : am_H) (x1 : Int32) (x2 : Int32) (x3 : Int32) (x5 : Int64) (x7 : Int64) (x9 : Int32) (x10 : Int64) : Option (Int64 × am_H) :=
  if x3 = 2 then f_Club_lie_118 h x9 else f_Club_lie_122 h x1 x2 x3 x5 x7 x10
def f_Club_lie_112 (h : am_H) (y0 : Int64) : Option (Int64 × am_H) :=
  some (y0, h)
def f_Club_lie_104 (h : am_H) (x3 : Int32) (x5 : Int64) (x10 : Int64) : Option (Int64 × am_H) :=
  (f_Club_partOf x10 x5 x3).bind fun p => f_Club_lie_112 h p
def f_Club_lie_97 (h : am_H) (x1 : Int32) (x2 : Int32) (x3 : Int32) (x5 : Int64) (x7 : Int64) (x9 : Int32) (y0 : Int64) : Option (Int64 × am_H) :=
  if 2 ≤ x3 then f_Club_lie_113 h x1 x2 x3 x5 x7 x9 y0 else f_Club_lie_104 h x3 x5 y0
def f_Club_lie_84 (h : am_H) (x1 : Int32) (x2 : Int32) (x3 : Int32) (x5 : Int64) (x7 : Int64) (y0 : Int32) : Option (Int64 × am_H) :=
  (f_Reck_meanTold h x1 x2 y0).bind fun p => f_Club_lie_97 p.2 x1 x2 x3 x5 x7 y0 p.1
def f_Club_lie_72 (h : am_H) (x1 : Int32) (x2 : Int32) (x3 : Int32) (x5 : Int64) (y0 : Int64) : Option (Int64 × am_H) :=
  (f_Reck_bestLie h x1 x2 1).bind fun p => f_Club_lie_84 p.2 x1 x2 x3 x5 y0 p.1
def f_Club_lie_61 (h : am_H) (x1 : Int32) (x2 : Int32) (x3 : Int32) (y0 : Int64) : Option (Int64 × am_H) :=
  (f_Reck_meanByLaw h x1 x2).bind fun p => f_Club_lie_72 p.2 x1 x2 x3 y0 p.1
def f_Club_lie_57 (h : am_H) (x1 : Int32) (x2 : Int32) (x3 : Int32) : Option (Int64 × am_H) :=
  (f_Reck_unit x2).bind fun p => f_Club_lie_61 h x1 x2 x3 p
def f_Club_lie_50 (h : am_H) (x1 : Int32) (x2 : Int32) (x3 : Int32) (y0 : Bool) : Option (Int64 × am_H) :=
  if y0 = true then f_Club_lie_53 h else f_Club_lie_57 h x1 x2 x3
def f_Club_lie_43 (h : am_H) (x1 : Int32) (x2 : Int32) (x3 : Int32) : Option (Int64 × am_H) :=
  f_Club_lie_50 h x1 x2 x3 (f_Hole_hasNoClubs h)
def f_Club_lie_40 (h : am_H) (x1 : Int32) (x2 : Int32) (x3 : Int32) (y0 : Bool) : Option (Int64 × am_H) :=
  if y0 = true then f_Club_lie_43 h x1 x2 x3 else f_Club_lie_53 h
def f_Club_lie_32 (h : am_H) (x1 : Int32) (x2 : Int32) (x3 : Int32) : Option (Int64 × am_H) :=
  (f_Hole_isOffGreen h x1).bind fun p => f_Club_lie_40 h x1 x2 x3 p
def f_Club_lie_25 (h : am_H) (x1 : Int32) (x2 : Int32) (x3 : Int32) (y0 : Int32) : Option (Int64 × am_H) :=
  if y0 = 0 then f_Club_lie_53 h else f_Club_lie_32 h x1 x2 x3
def f_Club_lie_24 (h : am_H) (x1 : Int32) (x2 : Int32) (x3 : Int32) : Option (Int64 × am_H) :=
  f_Club_lie_25 h x1 x2 x3 0
def f_Club_lie_20 (h : am_H) (x1 : Int32) (x2 : Int32) (x3 : Int32) : Option (Int64 × am_H) :=
  f_Club_lie_25 h x1 x2 x3 1
def f_Club_lie_14 (h : am_H) (x1 : Int32) (x2 : Int32) (x3 : Int32) : Option (Int64 × am_H) :=
  if 6 < x3 then f_Club_lie_24 h x1 x2 x3 else f_Club_lie_20 h x1 x2 x3
def f_Club_lie_10 (h : am_H) (x1 : Int32) (x2 : Int32) (x3 : Int32) : Option (Int64 × am_H) :=
  if x3 < 0 then f_Club_lie_24 h x1 x2 x3 else f_Club_lie_14 h x1 x2 x3
def f_Club_lie_5 (h : am_H) (x1 : Int32) (x2 : Int32) (x3 : Int32) : Option (Int64 × am_H) :=
  if 4 < x2 then f_Club_lie_24 h x1 x2 x3 else f_Club_lie_10 h x1 x2 x3
def f_Club_lie (h : am_H) (x1 : Int32) (x2 : Int32) (x3 : Int32) : Option (Int64 × am_H) :=
  if x2 < 1 then f_Club_lie_24 h x1 x2 x3 else f_Club_lie_5 h x1 x2 x3
abbrev rc_Hole_waysAtBest : Type := (am_H → Int32 → Int32 → Option (Int32)) × (am_H → Int32 → Int32 → Option (Int32)) × (am_H → Int32 → Int32 → Option (Int32))
def f_Hole_waysAtBest_17 (rc : rc_Hole_waysAtBest) (h : am_H) : Option (Int32) :=
  some 0
def f_Hole_waysAtBest_13 (rc : rc_Hole_waysAtBest) (h : am_H) : Option (Int32) :=
  some 1
def f_Hole_waysAtBest_9 (rc : rc_Hole_waysAtBest) (h : am_H) (x1 : Int32) : Option (Int32) :=
  if 0 < x1 then f_Hole_waysAtBest_17 rc h else f_Hole_waysAtBest_13 rc h
def f_Hole_waysAtBest_31 (rc : rc_Hole_waysAtBest) (h : am_H) (y1 : Int32) (y0 : Int32) : Option (Int32) :=
  some (if y0 < y1 then y1 else y0)
def f_Hole_waysAtBest_25 (rc : rc_Hole_waysAtBest) (h : am_H) (x1 : Int32) (x2 : Int32) (y0 : Int32) : Option (Int32) :=
  (rc.2.1 h x1 x2).bind fun p => f_Hole_waysAtBest_31 rc h p y0
def f_Hole_waysAtBest_19 (rc : rc_Hole_waysAtBest) (h : am_H) (x1 : Int32) (x2 : Int32) : Option (Int32) :=
  (rc.2.2 h x1 x2).bind fun p => f_Hole_waysAtBest_25 rc h x1 x2 p
def f_Hole_waysAtBest_4 (rc : rc_Hole_waysAtBest) (h : am_H) (x1 : Int32) (x2 : Int32) : Option (Int32) :=
  if x2 ≤ 2 then f_Hole_waysAtBest_19 rc h x1 x2 else f_Hole_waysAtBest_9 rc h x1
def f_Hole_waysAtBest_0 (rc : rc_Hole_waysAtBest) (h : am_H) (x1 : Int32) (x2 : Int32) : Option (Int32) :=
  if x2 ≤ 0 then f_Hole_waysAtBest_9 rc h x1 else f_Hole_waysAtBest_4 rc h x1 x2
def f_Hole_waysBold_51 (rc : rc_Hole_waysAtBest) (h : am_H) (y2 : Int32) (y1 : Int32) (y0 : Int32) : Option (Int32) :=
  some (y0 + (y1 * y2))
def f_Hole_waysBold_29 (rc : rc_Hole_waysAtBest) (h : am_H) (x1 : Int32) (x2 : Int32) (y2 : Int32) (y1 : Int32) (y0 : Int32) : Option (Int32) :=
  (rc.1 h x1 (x2 - 1)).bind fun p => f_Hole_waysBold_51 rc h p ((12 - (h.1 1 8)) - (h.1 1 9)) (y0 + (y1 * y2))
def f_Hole_waysBold_14 (rc : rc_Hole_waysAtBest) (h : am_H) (x1 : Int32) (x2 : Int32) (y1 : Int32) (y0 : Int32) : Option (Int32) :=
  (rc.1 h (x1 + 2) (x2 - 1)).bind fun p => f_Hole_waysBold_29 rc h x1 x2 p (h.1 1 9) (y0 * y1)
def f_Hole_waysBold_0 (rc : rc_Hole_waysAtBest) (h : am_H) (x1 : Int32) (x2 : Int32) : Option (Int32) :=
  (rc.1 h (x1 - 1) (x2 - 1)).bind fun p => f_Hole_waysBold_14 rc h x1 x2 p (h.1 1 8)
def f_Hole_waysSafe_10 (rc : rc_Hole_waysAtBest) (h : am_H) (y1 : Int32) (y0 : Int32) : Option (Int32) :=
  some (y0 * y1)
def f_Hole_waysSafe_0 (rc : rc_Hole_waysAtBest) (h : am_H) (x1 : Int32) (x2 : Int32) : Option (Int32) :=
  (rc.1 h x1 (x2 - 1)).bind fun p => f_Hole_waysSafe_10 rc h p 12
def g_Hole_waysAtBest : Nat → rc_Hole_waysAtBest
  | 0 => ((fun _ _ _ => none), (fun _ _ _ => none), (fun _ _ _ => none))
  | n + 1 => (f_Hole_waysAtBest_0 (g_Hole_waysAtBest n), f_Hole_waysBold_0 (g_Hole_waysAtBest n), f_Hole_waysSafe_0 (g_Hole_waysAtBest n))
def f_Hole_waysAtBest : am_H → Int32 → Int32 → Option (Int32) := (g_Hole_waysAtBest 64).1
def f_Hole_waysBold : am_H → Int32 → Int32 → Option (Int32) := (g_Hole_waysAtBest 64).2.1
def f_Hole_waysSafe : am_H → Int32 → Int32 → Option (Int32) := (g_Hole_waysAtBest 64).2.2
def f_Hole_isBoldBetter_19 (h : am_H) : Option (Bool) :=
  some false
def f_Hole_isBoldBetter_15 (h : am_H) : Option (Bool) :=
  some true
def f_Hole_isBoldBetter_12 (h : am_H) (y1 : Int32) (y0 : Int32) : Option (Bool) :=
  if y0 ≤ y1 then f_Hole_isBoldBetter_19 h else f_Hole_isBoldBetter_15 h
def f_Hole_isBoldBetter_6 (h : am_H) (x1 : Int32) (x2 : Int32) (y0 : Int32) : Option (Bool) :=
  (f_Hole_waysSafe h x1 x2).bind fun p => f_Hole_isBoldBetter_12 h p y0
def f_Hole_isBoldBetter (h : am_H) (x1 : Int32) (x2 : Int32) : Option (Bool) :=
  (f_Hole_waysBold h x1 x2).bind fun p => f_Hole_isBoldBetter_6 h x1 x2 p
def f_Hole_waysToBeEven_6 (h : am_H) (y0 : Int32) : Option (Int32) :=
  some y0
def f_Hole_waysToBeEven (h : am_H) (x1 : Int32) (x2 : Int32) : Option (Int32) :=
  (f_Hole_waysAtBest h x1 x2).bind fun p => f_Hole_waysToBeEven_6 h p
def f_Club_atPin_57 (h : am_H) : Option (Int64) :=
  some (-9223372036854775808)
def f_Club_atPin_115 (h : am_H) (y0 : Int64) : Option (Int64) :=
  some y0
def f_Club_atPin_111 (h : am_H) (x2 : Int32) (y1 : Int64) (y0 : Int64) : Option (Int64) :=
  (f_Club_partOf y0 y1 x2).bind fun p => f_Club_atPin_115 h p
def f_Club_atPin_108 (h : am_H) (x2 : Int32) (y0 : Int64) : Option (Int64) :=
  f_Club_atPin_111 h x2 144 y0
def f_Club_atPin_102 (h : am_H) (x2 : Int32) (y0 : Int64) : Option (Int64) :=
  f_Club_atPin_111 h x2 12 y0
def f_Club_atPin_95 (h : am_H) (x2 : Int32) (x4 : Int32) (y0 : Int32) : Option (Int64) :=
  if x4 = 1 then f_Club_atPin_102 h x2 y0.toInt64 else f_Club_atPin_108 h x2 y0.toInt64
def f_Club_atPin_85 (h : am_H) (x2 : Int32) (x3 : Int32) (x4 : Int32) : Option (Int64) :=
  (f_Hole_waysToBeEven h x3 x4).bind fun p => f_Club_atPin_95 h x2 x4 p
def f_Club_atPin_83 (h : am_H) : Option (Int64) :=
  some 0
def f_Club_atPin_79 (h : am_H) : Option (Int64) :=
  some 1
def f_Club_atPin_76 (h : am_H) (y0 : Bool) : Option (Int64) :=
  if y0 = true then f_Club_atPin_79 h else f_Club_atPin_83 h
def f_Club_atPin_66 (h : am_H) (x3 : Int32) (x4 : Int32) : Option (Int64) :=
  (f_Hole_isBoldBetter h x3 x4).bind fun p => f_Club_atPin_76 h p
def f_Club_atPin_61 (h : am_H) (x2 : Int32) (x3 : Int32) (x4 : Int32) : Option (Int64) :=
  if x2 = 2 then f_Club_atPin_66 h x3 x4 else f_Club_atPin_85 h x2 x3 x4
def f_Club_atPin_52 (h : am_H) (x2 : Int32) (x3 : Int32) (x4 : Int32) : Option (Int64) :=
  if x2 ≤ 2 then f_Club_atPin_61 h x2 x3 x4 else f_Club_atPin_57 h
def f_Club_atPin_48 (h : am_H) (x2 : Int32) (x3 : Int32) (x4 : Int32) : Option (Int64) :=
  if x2 < 0 then f_Club_atPin_57 h else f_Club_atPin_52 h x2 x3 x4
def f_Club_atPin_41 (h : am_H) (x2 : Int32) (x3 : Int32) (x4 : Int32) (y0 : Int32) : Option (Int64) :=
  if y0 = 0 then f_Club_atPin_57 h else f_Club_atPin_48 h x2 x3 x4
def f_Club_atPin_40 (h : am_H) (x2 : Int32) (x3 : Int32) (x4 : Int32) : Option (Int64) :=
  f_Club_atPin_41 h x2 x3 x4 0
def f_Club_atPin_36 (h : am_H) (x2 : Int32) (x3 : Int32) (x4 : Int32) : Option (Int64) :=
  f_Club_atPin_41 h x2 x3 x4 1
def f_Club_atPin_30 (h : am_H) (x2 : Int32) (x3 : Int32) (x4 : Int32) : Option (Int64) :=
  if 2 < x4 then f_Club_atPin_40 h x2 x3 x4 else f_Club_atPin_36 h x2 x3 x4
def f_Club_atPin_24 (h : am_H) (x2 : Int32) (x3 : Int32) (x4 : Int32) : Option (Int64) :=
  if x4 < 1 then f_Club_atPin_40 h x2 x3 x4 else f_Club_atPin_30 h x2 x3 x4
def f_Club_atPin_18 (h : am_H) (x2 : Int32) (x3 : Int32) (x4 : Int32) : Option (Int64) :=
  if 9 < x3 then f_Club_atPin_40 h x2 x3 x4 else f_Club_atPin_24 h x2 x3 x4
def f_Club_atPin (h : am_H) (x1 : Int32) (x2 : Int32) : Option (Int64) :=
  if x1 < 0 then f_Club_atPin_40 h x2 ((x1 / 10) - 9) (x1 - x1 / 10 * 10) else f_Club_atPin_18 h x2 ((x1 / 10) - 9) (x1 - x1 / 10 * 10)
def f_Reck_gainBy_75 (h : am_H) (x1 : Int64) (x7 : Int64) : Option (Int64 × am_H) :=
  some ((x1 - x7), h)
def f_Reck_gainBy_71 (h : am_H) (x1 : Int64) (x7 : Int64) : Option (Int64 × am_H) :=
  (f_Reck_forgetBest h).bind fun p => f_Reck_gainBy_75 p x1 x7
def f_Reck_gainBy_57 (h : am_H) (x1 : Int64) (x3 : Int32) (x4 : Int32) (x6 : Int32) (y0 : Int64) : Option (Int64 × am_H) :=
  (f_Hole_become h x3 x4 x6).bind fun p => f_Reck_gainBy_71 p x1 y0
def f_Reck_gainBy_50 (h : am_H) (x1 : Int64) (x3 : Int32) (x4 : Int32) (x6 : Int32) : Option (Int64 × am_H) :=
  (f_Reck_mean h 0 3 0).bind fun p => f_Reck_gainBy_57 p.2 x1 x3 x4 x6 p.1
def f_Reck_gainBy_46 (h : am_H) (x1 : Int64) (x3 : Int32) (x4 : Int32) (x6 : Int32) : Option (Int64 × am_H) :=
  (f_Reck_forgetBest h).bind fun p => f_Reck_gainBy_50 p x1 x3 x4 x6
def f_Reck_gainBy_31 (h : am_H) (x1 : Int64) (x3 : Int32) (x4 : Int32) (x5 : Int32) (x6 : Int32) : Option (Int64 × am_H) :=
  (f_Hole_become h x3 x4 (x6 + x5)).bind fun p => f_Reck_gainBy_46 p x1 x3 x4 x6
def f_Reck_gainBy_29 (h : am_H) : Option (Int64 × am_H) :=
  some (0, h)
def f_Reck_gainBy_26 (h : am_H) (x1 : Int64) (x3 : Int32) (x4 : Int32) (x5 : Int32) (x6 : Int32) (y0 : Bool) : Option (Int64 × am_H) :=
  if y0 = true then f_Reck_gainBy_31 h x1 x3 x4 x5 x6 else f_Reck_gainBy_29 h
def f_Reck_gainBy_10 (h : am_H) (x1 : Int64) (x3 : Int32) (x4 : Int32) (x5 : Int32) (y0 : Int32) : Option (Int64 × am_H) :=
  (f_Hole_allows h x4 (y0 + x5)).bind fun p => f_Reck_gainBy_26 h x1 x3 x4 x5 y0 p
def f_Reck_gainBy (h : am_H) (x1 : Int64) (x3 : Int32) (x4 : Int32) (x5 : Int32) : Option (Int64 × am_H) :=
  (f_Hole_numberAt h x3 x4).bind fun p => f_Reck_gainBy_10 h x1 x3 x4 x5 p
def f_Reck_findPractice_78 (h : am_H) (x3 : Int32) (x4 : Int64) : Option (am_H) :=
  some (am_pI (am_pL (am_pI h 12 12 x3) 12 13 x4) 12 9 1)
def f_Reck_findPractice_72 (k32 : am_H → Int64 → Int32 → Int64 → Int32 → Option (am_H)) (h : am_H) (x1 : Int64) (x3 : Int32) (x4 : Int64) (x6 : Int32) : Option (am_H) :=
  k32 h x1 x3 x4 (x6 + 1)
def f_Reck_findPractice_63 (k32 : am_H → Int64 → Int32 → Int64 → Int32 → Option (am_H)) (h : am_H) (x1 : Int64) (x6 : Int32) (x7 : Int64) : Option (am_H) :=
  f_Reck_findPractice_72 k32 h x1 (x6 + 1) x7 x6
def f_Reck_findPractice_53 (k32 : am_H → Int64 → Int32 → Int64 → Int32 → Option (am_H)) (h : am_H) (x1 : Int64) (x3 : Int32) (x4 : Int64) (x6 : Int32) (y0 : Int64) : Option (am_H) :=
  if y0 ≤ x4 then f_Reck_findPractice_72 k32 h x1 x3 x4 x6 else f_Reck_findPractice_63 k32 h x1 x6 y0
def f_Reck_findPractice_44 (k32 : am_H → Int64 → Int32 → Int64 → Int32 → Option (am_H)) (h : am_H) (x1 : Int64) (x3 : Int32) (x4 : Int64) (x6 : Int32) : Option (am_H) :=
  (f_Reck_gainBy h x1 x6 2 (-1)).bind fun p => f_Reck_findPractice_53 k32 p.2 x1 x3 x4 x6 p.1
def f_Reck_findPractice_41 (k32 : am_H → Int64 → Int32 → Int64 → Int32 → Option (am_H)) (h : am_H) (x1 : Int64) (x3 : Int32) (x4 : Int64) (x6 : Int32) (y1 : Int32) (y0 : Int32) : Option (am_H) :=
  if y1 ≤ y0 then f_Reck_findPractice_78 h x3 x4 else f_Reck_findPractice_44 k32 h x1 x3 x4 x6
def f_Reck_findPractice_32 (k32 : am_H → Int64 → Int32 → Int64 → Int32 → Option (am_H)) (h : am_H) (x1 : Int64) (x3 : Int32) (x4 : Int64) (x6 : Int32) : Option (am_H) :=
  f_Reck_findPractice_41 k32 h x1 x3 x4 x6 (f_Hole_clubsHeld h) x6
def f_Reck_findPractice_32_l  : Nat → am_H → Int64 → Int32 → Int64 → Int32 → Option (am_H)
  | 0 => fun _ _ _ _ _ => none
  | n + 1 => f_Reck_findPractice_32 (f_Reck_findPractice_32_l n)
def f_Reck_findPractice_27 (h : am_H) (x1 : Int64) (x3 : Int32) (y0 : Int64) : Option (am_H) :=
  f_Reck_findPractice_32_l am_fu h x1 x3 y0 0
def f_Reck_findPractice_15 (h : am_H) (y0 : Int64) : Option (am_H) :=
  (f_Reck_gainBy h y0 0 6 1).bind fun p => f_Reck_findPractice_27 p.2 y0 0 p.1
def f_Reck_findPractice_8 (h : am_H) : Option (am_H) :=
  (f_Reck_mean h 0 3 0).bind fun p => f_Reck_findPractice_15 p.2 p.1
def f_Reck_findPractice_7 (h : am_H) : Option (am_H) :=
  some h
def f_Reck_findPractice (h : am_H) : Option (am_H) :=
  if (h.1 12 9) = 0 then f_Reck_findPractice_8 h else f_Reck_findPractice_7 h
def f_Reck_practiceGain (h : am_H) : Int64 :=
  (h.2 12 13)
def f_Reck_practiceWhich (h : am_H) : Int32 :=
  (h.1 12 12)
def f_Club_practise_9 (h : am_H) : Option (Int64 × am_H) :=
  some ((-9223372036854775808), h)
def f_Club_practise_49 (h : am_H) (y0 : Int64) : Option (Int64 × am_H) :=
  some (y0, h)
def f_Club_practise_45 (h : am_H) (x1 : Int32) (y1 : Int64) (y0 : Int64) : Option (Int64 × am_H) :=
  (f_Club_partOf y0 y1 x1).bind fun p => f_Club_practise_49 h p
def f_Club_practise_41 (h : am_H) (x1 : Int32) (y0 : Int64) : Option (Int64 × am_H) :=
  (f_Reck_unit 3).bind fun p => f_Club_practise_45 h x1 p y0
def f_Club_practise_34 (h : am_H) (x1 : Int32) : Option (Int64 × am_H) :=
  f_Club_practise_41 h x1 (f_Reck_practiceGain h)
def f_Club_practise_32 (h : am_H) (y0 : Int32) : Option (Int64 × am_H) :=
  some (y0.toInt64, h)
def f_Club_practise_25 (h : am_H) : Option (Int64 × am_H) :=
  f_Club_practise_32 h (f_Reck_practiceWhich h)
def f_Club_practise_20 (h : am_H) (x1 : Int32) : Option (Int64 × am_H) :=
  if x1 = 2 then f_Club_practise_25 h else f_Club_practise_34 h x1
def f_Club_practise_13 (h : am_H) (x1 : Int32) : Option (Int64 × am_H) :=
  (f_Reck_findPractice h).bind fun p => f_Club_practise_20 p x1
def f_Club_practise_4 (h : am_H) (x1 : Int32) : Option (Int64 × am_H) :=
  if x1 ≤ 2 then f_Club_practise_13 h x1 else f_Club_practise_9 h
def f_Club_practise (h : am_H) (x1 : Int32) : Option (Int64 × am_H) :=
  if x1 < 0 then f_Club_practise_9 h else f_Club_practise_4 h x1
def f_Reck_costOfBelief_44 (h : am_H) (x1 : Int64) (x3 : Int64) : Option (Int64 × am_H) :=
  some (((am_pI (am_pL h 12 14 (x1 - x3)) 12 10 1).2 12 14), am_pI (am_pL h 12 14 (x1 - x3)) 12 10 1)
def f_Reck_costOfBelief_34 (h : am_H) (x1 : Int64) (y0 : Int64) : Option (Int64 × am_H) :=
  (f_Reck_forgetLawful (am_pI h 12 11 0)).bind fun p => f_Reck_costOfBelief_44 p x1 y0
def f_Reck_costOfBelief_28 (h : am_H) (x1 : Int64) : Option (Int64 × am_H) :=
  (f_Reck_meanByLaw h 0 3).bind fun p => f_Reck_costOfBelief_34 p.2 x1 p.1
def f_Reck_costOfBelief_18 (h : am_H) (y0 : Int64) : Option (Int64 × am_H) :=
  (f_Reck_forgetLawful (am_pI h 12 11 1)).bind fun p => f_Reck_costOfBelief_28 p y0
def f_Reck_costOfBelief_12 (h : am_H) : Option (Int64 × am_H) :=
  (f_Reck_meanByLaw h 0 3).bind fun p => f_Reck_costOfBelief_18 p.2 p.1
def f_Reck_costOfBelief_7 (h : am_H) : Option (Int64 × am_H) :=
  some ((h.2 12 14), h)
def f_Reck_costOfBelief (h : am_H) : Option (Int64 × am_H) :=
  if (h.1 12 10) = 0 then f_Reck_costOfBelief_12 h else f_Reck_costOfBelief_7 h
def f_Club_dream_26 (h : am_H) (y0 : Int64) : Option (Int64 × am_H) :=
  some (y0, h)
def f_Club_dream_22 (h : am_H) (x1 : Int32) (y1 : Int64) (y0 : Int64) : Option (Int64 × am_H) :=
  (f_Club_partOf y0 y1 x1).bind fun p => f_Club_dream_26 h p
def f_Club_dream_18 (h : am_H) (x1 : Int32) (y0 : Int64) : Option (Int64 × am_H) :=
  (f_Reck_unit 3).bind fun p => f_Club_dream_22 h x1 p y0
def f_Club_dream_11 (h : am_H) (x1 : Int32) : Option (Int64 × am_H) :=
  (f_Reck_costOfBelief h).bind fun p => f_Club_dream_18 p.2 x1 p.1
def f_Club_dream_7 (h : am_H) : Option (Int64 × am_H) :=
  some ((-9223372036854775808), h)
def f_Club_dream_4 (h : am_H) (x1 : Int32) (y0 : Bool) : Option (Int64 × am_H) :=
  if y0 = true then f_Club_dream_11 h x1 else f_Club_dream_7 h
def f_Club_dream (h : am_H) (x1 : Int32) : Option (Int64 × am_H) :=
  f_Club_dream_4 h x1 (f_Club_isFractionPart x1)
def f_Club_refuseRound_40 (h : am_H) : Option (Int32) :=
  some (-12)
def f_Club_refuseRound_36 (h : am_H) : Option (Int32) :=
  some 0
def f_Club_refuseRound_33 (h : am_H) (y0 : Bool) : Option (Int32) :=
  if y0 = true then f_Club_refuseRound_36 h else f_Club_refuseRound_40 h
def f_Club_refuseRound_24 (h : am_H) (x1 : Int32) : Option (Int32) :=
  if am_ok x1 6 = true then (f_Club_refuseRound_33 h (f_Shelf_isByteRow h (am_shp x1))) else none
def f_Club_refuseRound_21 (h : am_H) : Option (Int32) :=
  some (-11)
def f_Club_refuseRound_18 (h : am_H) (x1 : Int32) (y0 : Bool) : Option (Int32) :=
  if y0 = true then f_Club_refuseRound_21 h else f_Club_refuseRound_24 h x1
def f_Club_refuseRound_9 (h : am_H) (x1 : Int32) : Option (Int32) :=
  if am_ok x1 6 = true then (f_Club_refuseRound_18 h x1 (f_Shelf_isEmpty h (am_shp x1))) else none
def f_Club_refuseRound_7 (h : am_H) : Option (Int32) :=
  some (-1)
def f_Club_refuseRound_4 (h : am_H) (x1 : Int32) (y0 : Bool) : Option (Int32) :=
  if y0 = true then f_Club_refuseRound_9 h x1 else f_Club_refuseRound_7 h
def f_Club_refuseRound (h : am_H) (x1 : Int32) : Option (Int32) :=
  f_Club_refuseRound_4 h x1 (f_Club_isShelf x1)
def f_Rounds_waysToBe_34 (h : am_H) : Option (Int32) :=
  some 0
def f_Rounds_waysToBe_31 (h : am_H) (y0 : Int32) : Option (Int32) :=
  some y0
def f_Rounds_waysToBe_19 (h : am_H) (x1 : Int32) (x2 : Int32) (x3 : Int32) (x4 : Int32) : Option (Int32) :=
  (f_Hole_waysToLie h x1 x2 x3 x4).bind fun p => f_Rounds_waysToBe_31 h p
def f_Rounds_waysToBe_16 (h : am_H) (x1 : Int32) (x2 : Int32) (x3 : Int32) (x4 : Int32) (y0 : Bool) : Option (Int32) :=
  if y0 = true then f_Rounds_waysToBe_19 h x1 x2 x3 x4 else f_Rounds_waysToBe_34 h
def f_Rounds_waysToBe_11 (h : am_H) (x1 : Int32) (x2 : Int32) (x3 : Int32) (x4 : Int32) : Option (Int32) :=
  f_Rounds_waysToBe_16 h x1 x2 x3 x4 (f_Hole_isCell x4)
def f_Rounds_waysToBe_8 (h : am_H) (x1 : Int32) (x2 : Int32) (x3 : Int32) (x4 : Int32) (y0 : Bool) : Option (Int32) :=
  if y0 = true then f_Rounds_waysToBe_11 h x1 x2 x3 x4 else f_Rounds_waysToBe_34 h
def f_Rounds_waysToBe (h : am_H) (x1 : Int32) (x2 : Int32) (x3 : Int32) (x4 : Int32) : Option (Int32) :=
  (f_Hole_isOffGreen h x1).bind fun p => f_Rounds_waysToBe_8 h x1 x2 x3 x4 p
def f_Shelf_length (h : am_H) (a0 : Nat) : Int32 :=
  (h.1 a0 3)
def f_Rounds_firstWrong_111 (h : am_H) (x2 : Int32) : Option (Int32) :=
  some x2
def f_Rounds_firstWrong_106 (h : am_H) : Option (Int32) :=
  some (-2)
def f_Rounds_firstWrong_101 (h : am_H) (x2 : Int32) (y0 : Int32) : Option (Int32) :=
  if (y0 - y0 / 3 * 3) = 0 then f_Rounds_firstWrong_106 h else f_Rounds_firstWrong_111 h x2
def f_Rounds_firstWrong_97 (h : am_H) (a1 : Nat) (x2 : Int32) : Option (Int32) :=
  f_Rounds_firstWrong_101 h x2 (f_Shelf_length h a1)
def f_Rounds_firstWrong_89 (h : am_H) (x3 : Int32) : Option (Int32) :=
  some x3
def f_Rounds_firstWrong_91 (k9 : Nat → Int32 → Int32 → Option (Int32)) (h : am_H) (a1 : Nat) (x2 : Int32) (x3 : Int32) : Option (Int32) :=
  k9 a1 x2 (x3 + 1)
def f_Rounds_firstWrong_86 (k9 : Nat → Int32 → Int32 → Option (Int32)) (h : am_H) (a1 : Nat) (x2 : Int32) (x3 : Int32) (y0 : Int32) : Option (Int32) :=
  if y0 = 0 then f_Rounds_firstWrong_89 h x3 else f_Rounds_firstWrong_91 k9 h a1 x2 x3
def f_Rounds_firstWrong_81 (k9 : Nat → Int32 → Int32 → Option (Int32)) (h : am_H) (a1 : Nat) (x2 : Int32) (x3 : Int32) (x6 : Int32) (y3 : Int32) (y2 : Int32) (y1 : Int32) : Option (Int32) :=
  (f_Rounds_waysToBe h y1 y2 y3 x6).bind fun p => f_Rounds_firstWrong_86 k9 h a1 x2 x3 p
def f_Rounds_firstWrong_72 (k9 : Nat → Int32 → Int32 → Option (Int32)) (h : am_H) (a1 : Nat) (x2 : Int32) (x3 : Int32) (x5 : Int32) (x6 : Int32) (y2 : Int32) (y1 : Int32) : Option (Int32) :=
  (f_Hole_spreadOf h x5).bind fun p => f_Rounds_firstWrong_81 k9 h a1 x2 x3 x6 p y2 y1
def f_Rounds_firstWrong_60 (k9 : Nat → Int32 → Int32 → Option (Int32)) (h : am_H) (a1 : Nat) (x2 : Int32) (x3 : Int32) (x4 : Int32) (x5 : Int32) (x6 : Int32) : Option (Int32) :=
  (f_Hole_carryOf h x5).bind fun p => f_Rounds_firstWrong_72 k9 h a1 x2 x3 x5 x6 p x4
def f_Rounds_firstWrong_57 (k9 : Nat → Int32 → Int32 → Option (Int32)) (h : am_H) (a1 : Nat) (x2 : Int32) (x3 : Int32) (x4 : Int32) (x5 : Int32) (x6 : Int32) (y0 : Bool) : Option (Int32) :=
  if y0 = true then f_Rounds_firstWrong_60 k9 h a1 x2 x3 x4 x5 x6 else f_Rounds_firstWrong_89 h x3
def f_Rounds_firstWrong_45 (k9 : Nat → Int32 → Int32 → Option (Int32)) (h : am_H) (a1 : Nat) (x2 : Int32) (x3 : Int32) (x4 : Int32) (x5 : Int32) (y0 : Int64) : Option (Int32) :=
  f_Rounds_firstWrong_57 k9 h a1 x2 x3 x4 x5 y0.toInt32 (f_Hole_hasClub h x5)
def f_Rounds_firstWrong_33 (k9 : Nat → Int32 → Int32 → Option (Int32)) (h : am_H) (a1 : Nat) (x2 : Int32) (x3 : Int32) (x4 : Int32) (y0 : Int64) : Option (Int32) :=
  (f_Shelf_read h a1 ((3 * x3) + 2)).bind fun p => f_Rounds_firstWrong_45 k9 h a1 x2 x3 x4 y0.toInt32 p
def f_Rounds_firstWrong_21 (k9 : Nat → Int32 → Int32 → Option (Int32)) (h : am_H) (a1 : Nat) (x2 : Int32) (x3 : Int32) (y0 : Int64) : Option (Int32) :=
  (f_Shelf_read h a1 ((3 * x3) + 1)).bind fun p => f_Rounds_firstWrong_33 k9 h a1 x2 x3 y0.toInt32 p
def f_Rounds_firstWrong_14 (k9 : Nat → Int32 → Int32 → Option (Int32)) (h : am_H) (a1 : Nat) (x2 : Int32) (x3 : Int32) : Option (Int32) :=
  (f_Shelf_read h a1 (3 * x3)).bind fun p => f_Rounds_firstWrong_21 k9 h a1 x2 x3 p
def f_Rounds_firstWrong_9 (k9 : Nat → Int32 → Int32 → Option (Int32)) (h : am_H) (a1 : Nat) (x2 : Int32) (x3 : Int32) : Option (Int32) :=
  if x2 ≤ x3 then f_Rounds_firstWrong_97 h a1 x2 else f_Rounds_firstWrong_14 k9 h a1 x2 x3
def f_Rounds_firstWrong_9_l (h : am_H) : Nat → Nat → Int32 → Int32 → Option (Int32)
  | 0 => fun _ _ _ => none
  | n + 1 => f_Rounds_firstWrong_9 (f_Rounds_firstWrong_9_l h n) h
def f_Rounds_firstWrong_4 (h : am_H) (a1 : Nat) (y0 : Int32) : Option (Int32) :=
  f_Rounds_firstWrong_9_l h am_fu a1 (y0 / 3) 0
def f_Rounds_firstWrong (h : am_H) (a1 : Nat) : Option (Int32) :=
  f_Rounds_firstWrong_4 h a1 (f_Shelf_length h a1)
def f_Club_judge_27 (h : am_H) (y0 : Int32) : Option (Int32) :=
  some y0
def f_Club_judge_14 (h : am_H) (x1 : Int32) : Option (Int32) :=
  if am_ok x1 6 = true then ((f_Rounds_firstWrong h (am_shp x1)).bind fun p => f_Club_judge_27 h p) else none
def f_Club_judge_10 (h : am_H) (x2 : Int32) : Option (Int32) :=
  some x2
def f_Club_judge_5 (h : am_H) (x1 : Int32) (y0 : Int32) : Option (Int32) :=
  if y0 = 0 then f_Club_judge_14 h x1 else f_Club_judge_10 h y0
def f_Club_judge (h : am_H) (x1 : Int32) : Option (Int32) :=
  (f_Club_refuseRound h x1).bind fun p => f_Club_judge_5 h x1 p
def f_Rounds_isToldOf_35 (h : am_H) : Option (Bool) :=
  some false
def f_Rounds_isToldOf_29 (k2 : Nat → Int32 → Int32 → Option (Bool)) (h : am_H) (a1 : Nat) (x2 : Int32) (x3 : Int32) : Option (Bool) :=
  k2 a1 x2 (x3 + 1)
def f_Rounds_isToldOf_27 (h : am_H) : Option (Bool) :=
  some true
def f_Rounds_isToldOf_21 (k2 : Nat → Int32 → Int32 → Option (Bool)) (h : am_H) (a1 : Nat) (x2 : Int32) (x3 : Int32) (y0 : Int64) : Option (Bool) :=
  if y0 = x2.toInt64 then f_Rounds_isToldOf_27 h else f_Rounds_isToldOf_29 k2 h a1 x2 x3
def f_Rounds_isToldOf_12 (k2 : Nat → Int32 → Int32 → Option (Bool)) (h : am_H) (a1 : Nat) (x2 : Int32) (x3 : Int32) : Option (Bool) :=
  (f_Shelf_read h a1 ((3 * x3) + 1)).bind fun p => f_Rounds_isToldOf_21 k2 h a1 x2 x3 p
def f_Rounds_isToldOf_7 (k2 : Nat → Int32 → Int32 → Option (Bool)) (h : am_H) (a1 : Nat) (x2 : Int32) (x3 : Int32) (y1 : Int32) (y0 : Int32) : Option (Bool) :=
  if (y1 / 3) ≤ y0 then f_Rounds_isToldOf_35 h else f_Rounds_isToldOf_12 k2 h a1 x2 x3
def f_Rounds_isToldOf_2 (k2 : Nat → Int32 → Int32 → Option (Bool)) (h : am_H) (a1 : Nat) (x2 : Int32) (x3 : Int32) : Option (Bool) :=
  f_Rounds_isToldOf_7 k2 h a1 x2 x3 (f_Shelf_length h a1) x3
def f_Rounds_isToldOf_2_l (h : am_H) : Nat → Nat → Int32 → Int32 → Option (Bool)
  | 0 => fun _ _ _ => none
  | n + 1 => f_Rounds_isToldOf_2 (f_Rounds_isToldOf_2_l h n) h
def f_Rounds_isToldOf (h : am_H) (a1 : Nat) (x2 : Int32) : Option (Bool) :=
  f_Rounds_isToldOf_2_l h am_fu a1 x2 0
def f_Rounds_waysOfAll_89 (h : am_H) (x4 : Int64) : Option (Int64) :=
  some x4
def f_Rounds_waysOfAll_83 (k6 : Nat → Int32 → Int32 → Int64 → Int32 → Option (Int64)) (h : am_H) (a1 : Nat) (x2 : Int32) (x3 : Int32) (x4 : Int64) (x6 : Int32) : Option (Int64) :=
  k6 a1 x2 x3 x4 (x6 + 1)
def f_Rounds_waysOfAll_79 (k6 : Nat → Int32 → Int32 → Int64 → Int32 → Option (Int64)) (h : am_H) (a1 : Nat) (x2 : Int32) (x3 : Int32) (x6 : Int32) (y1 : Int32) (y0 : Int64) : Option (Int64) :=
  f_Rounds_waysOfAll_83 k6 h a1 x2 x3 (y0 * y1.toInt64) x6
def f_Rounds_waysOfAll_75 (k6 : Nat → Int32 → Int32 → Int64 → Int32 → Option (Int64)) (h : am_H) (a1 : Nat) (x2 : Int32) (x3 : Int32) (x6 : Int32) (y5 : Int64) (y4 : Int32) (y3 : Int32) (y2 : Int32) (y0 : Int64) : Option (Int64) :=
  (f_Rounds_waysToBe h y2 y3 y4 y5.toInt32).bind fun p => f_Rounds_waysOfAll_79 k6 h a1 x2 x3 x6 p y0
def f_Rounds_waysOfAll_65 (k6 : Nat → Int32 → Int32 → Int64 → Int32 → Option (Int64)) (h : am_H) (a1 : Nat) (x2 : Int32) (x3 : Int32) (x6 : Int32) (y4 : Int32) (y3 : Int32) (y2 : Int32) (y0 : Int64) : Option (Int64) :=
  (f_Shelf_read h a1 ((3 * x6) + 2)).bind fun p => f_Rounds_waysOfAll_75 k6 h a1 x2 x3 x6 p y4 y3 y2 y0
def f_Rounds_waysOfAll_48 (k6 : Nat → Int32 → Int32 → Int64 → Int32 → Option (Int64)) (h : am_H) (a1 : Nat) (x2 : Int32) (x3 : Int32) (x4 : Int64) (x6 : Int32) (y0 : Int64) : Option (Int64) :=
  (f_Hole_spreadOf h x2).bind fun p => f_Rounds_waysOfAll_65 k6 h a1 x2 x3 x6 p x3 y0.toInt32 x4
def f_Rounds_waysOfAll_40 (k6 : Nat → Int32 → Int32 → Int64 → Int32 → Option (Int64)) (h : am_H) (a1 : Nat) (x2 : Int32) (x3 : Int32) (x4 : Int64) (x6 : Int32) : Option (Int64) :=
  (f_Shelf_read h a1 (3 * x6)).bind fun p => f_Rounds_waysOfAll_48 k6 h a1 x2 x3 x4 x6 p
def f_Rounds_waysOfAll_34 (k6 : Nat → Int32 → Int32 → Int64 → Int32 → Option (Int64)) (h : am_H) (a1 : Nat) (x2 : Int32) (x3 : Int32) (x4 : Int64) (x6 : Int32) (y0 : Int64) : Option (Int64) :=
  if y0 = x2.toInt64 then f_Rounds_waysOfAll_40 k6 h a1 x2 x3 x4 x6 else f_Rounds_waysOfAll_83 k6 h a1 x2 x3 x4 x6
def f_Rounds_waysOfAll_24 (k6 : Nat → Int32 → Int32 → Int64 → Int32 → Option (Int64)) (h : am_H) (a1 : Nat) (x2 : Int32) (x3 : Int32) (x4 : Int64) (x6 : Int32) : Option (Int64) :=
  (f_Shelf_read h a1 ((3 * x6) + 1)).bind fun p => f_Rounds_waysOfAll_34 k6 h a1 x2 x3 x4 x6 p
def f_Rounds_waysOfAll_17 (k6 : Nat → Int32 → Int32 → Int64 → Int32 → Option (Int64)) (h : am_H) (a1 : Nat) (x2 : Int32) (x3 : Int32) (x4 : Int64) (x6 : Int32) : Option (Int64) :=
  if x4 ≤ 0 then f_Rounds_waysOfAll_89 h x4 else f_Rounds_waysOfAll_24 k6 h a1 x2 x3 x4 x6
def f_Rounds_waysOfAll_12 (k6 : Nat → Int32 → Int32 → Int64 → Int32 → Option (Int64)) (h : am_H) (a1 : Nat) (x2 : Int32) (x3 : Int32) (x4 : Int64) (x6 : Int32) (y1 : Int32) (y0 : Int32) : Option (Int64) :=
  if (y1 / 3) ≤ y0 then f_Rounds_waysOfAll_89 h x4 else f_Rounds_waysOfAll_17 k6 h a1 x2 x3 x4 x6
def f_Rounds_waysOfAll_6 (k6 : Nat → Int32 → Int32 → Int64 → Int32 → Option (Int64)) (h : am_H) (a1 : Nat) (x2 : Int32) (x3 : Int32) (x4 : Int64) (x6 : Int32) : Option (Int64) :=
  f_Rounds_waysOfAll_12 k6 h a1 x2 x3 x4 x6 (f_Shelf_length h a1) x6
def f_Rounds_waysOfAll_6_l (h : am_H) : Nat → Nat → Int32 → Int32 → Int64 → Int32 → Option (Int64)
  | 0 => fun _ _ _ _ _ => none
  | n + 1 => f_Rounds_waysOfAll_6 (f_Rounds_waysOfAll_6_l h n) h
def f_Rounds_waysOfAll (h : am_H) (a1 : Nat) (x2 : Int32) (x3 : Int32) : Option (Int64) :=
  f_Rounds_waysOfAll_6_l h am_fu a1 x2 x3 1 0
def f_Rounds_likeliestCarry_59 (h : am_H) (x3 : Int32) : Option (Int32) :=
  some x3
def f_Rounds_likeliestCarry_53 (k21 : Nat → Int32 → Int32 → Int64 → Int32 → Option (Int32)) (h : am_H) (a1 : Nat) (x2 : Int32) (x3 : Int32) (x4 : Int64) (x6 : Int32) : Option (Int32) :=
  k21 a1 x2 x3 x4 (x6 + 1)
def f_Rounds_likeliestCarry_46 (k21 : Nat → Int32 → Int32 → Int64 → Int32 → Option (Int32)) (h : am_H) (a1 : Nat) (x2 : Int32) (x6 : Int32) (x7 : Int64) : Option (Int32) :=
  f_Rounds_likeliestCarry_53 k21 h a1 x2 x6 x7 x6
def f_Rounds_likeliestCarry_36 (k21 : Nat → Int32 → Int32 → Int64 → Int32 → Option (Int32)) (h : am_H) (a1 : Nat) (x2 : Int32) (x3 : Int32) (x4 : Int64) (x6 : Int32) (y0 : Int64) : Option (Int32) :=
  if y0 ≤ x4 then f_Rounds_likeliestCarry_53 k21 h a1 x2 x3 x4 x6 else f_Rounds_likeliestCarry_46 k21 h a1 x2 x6 y0
def f_Rounds_likeliestCarry_28 (k21 : Nat → Int32 → Int32 → Int64 → Int32 → Option (Int32)) (h : am_H) (a1 : Nat) (x2 : Int32) (x3 : Int32) (x4 : Int64) (x6 : Int32) : Option (Int32) :=
  (f_Rounds_waysOfAll h a1 x2 x6).bind fun p => f_Rounds_likeliestCarry_36 k21 h a1 x2 x3 x4 x6 p
def f_Rounds_likeliestCarry_21 (k21 : Nat → Int32 → Int32 → Int64 → Int32 → Option (Int32)) (h : am_H) (a1 : Nat) (x2 : Int32) (x3 : Int32) (x4 : Int64) (x6 : Int32) : Option (Int32) :=
  if 31 ≤ x6 then f_Rounds_likeliestCarry_59 h x3 else f_Rounds_likeliestCarry_28 k21 h a1 x2 x3 x4 x6
def f_Rounds_likeliestCarry_21_l (h : am_H) : Nat → Nat → Int32 → Int32 → Int64 → Int32 → Option (Int32)
  | 0 => fun _ _ _ _ _ => none
  | n + 1 => f_Rounds_likeliestCarry_21 (f_Rounds_likeliestCarry_21_l h n) h
def f_Rounds_likeliestCarry_12 (h : am_H) (a1 : Nat) (x2 : Int32) : Option (Int32) :=
  f_Rounds_likeliestCarry_21_l h am_fu a1 x2 (-2) 0 0
def f_Rounds_likeliestCarry_9 (h : am_H) : Option (Int32) :=
  some (-2)
def f_Rounds_likeliestCarry_6 (h : am_H) (a1 : Nat) (x2 : Int32) (y0 : Bool) : Option (Int32) :=
  if y0 = true then f_Rounds_likeliestCarry_12 h a1 x2 else f_Rounds_likeliestCarry_9 h
def f_Rounds_likeliestCarry (h : am_H) (a1 : Nat) (x2 : Int32) : Option (Int32) :=
  (f_Rounds_isToldOf h a1 x2).bind fun p => f_Rounds_likeliestCarry_6 h a1 x2 p
def f_Club_truly_41 (h : am_H) (y0 : Int32) : Option (Int32) :=
  some y0
def f_Club_truly_27 (h : am_H) (x1 : Int32) (x2 : Int32) : Option (Int32) :=
  if am_ok x1 6 = true then ((f_Rounds_likeliestCarry h (am_shp x1) x2).bind fun p => f_Club_truly_41 h p) else none
def f_Club_truly_23 (h : am_H) (x3 : Int32) : Option (Int32) :=
  some x3
def f_Club_truly_18 (h : am_H) (x1 : Int32) (x2 : Int32) (y0 : Int32) : Option (Int32) :=
  if y0 = 0 then f_Club_truly_27 h x1 x2 else f_Club_truly_23 h y0
def f_Club_truly_13 (h : am_H) (x1 : Int32) (x2 : Int32) : Option (Int32) :=
  (f_Club_refuseRound h x1).bind fun p => f_Club_truly_18 h x1 x2 p
def f_Club_truly_11 (h : am_H) : Option (Int32) :=
  some (-1)
def f_Club_truly_8 (h : am_H) (x1 : Int32) (x2 : Int32) (y0 : Bool) : Option (Int32) :=
  if y0 = true then f_Club_truly_13 h x1 x2 else f_Club_truly_11 h
def f_Club_truly (h : am_H) (x1 : Int32) (x2 : Int32) : Option (Int32) :=
  f_Club_truly_8 h x1 x2 (f_Hole_hasClub h x2)
def f_Rounds_tookByLaw_83 (h : am_H) (x2 : Int32) : Option (Int32) :=
  some x2
def f_Rounds_tookByLaw_77 (k4 : Nat → Int32 → Int32 → Option (Int32)) (h : am_H) (a1 : Nat) (x2 : Int32) (x3 : Int32) : Option (Int32) :=
  k4 a1 x2 (x3 + 1)
def f_Rounds_tookByLaw_74 (k4 : Nat → Int32 → Int32 → Option (Int32)) (h : am_H) (a1 : Nat) (x2 : Int32) (x3 : Int32) : Option (Int32) :=
  f_Rounds_tookByLaw_77 k4 h a1 (x2 + 1) x3
def f_Rounds_tookByLaw_69 (k4 : Nat → Int32 → Int32 → Option (Int32)) (h : am_H) (a1 : Nat) (x2 : Int32) (x3 : Int32) (x5 : Int32) (y0 : Int32) : Option (Int32) :=
  if y0 = x5 then f_Rounds_tookByLaw_74 k4 h a1 x2 x3 else f_Rounds_tookByLaw_77 k4 h a1 x2 x3
def f_Rounds_tookByLaw_60 (k4 : Nat → Int32 → Int32 → Option (Int32)) (h : am_H) (a1 : Nat) (x2 : Int32) (x3 : Int32) (x4 : Int32) (x5 : Int32) : Option (Int32) :=
  (f_Reck_lawfulClub h x4).bind fun p => f_Rounds_tookByLaw_69 k4 h a1 x2 x3 x5 p
def f_Rounds_tookByLaw_57 (k4 : Nat → Int32 → Int32 → Option (Int32)) (h : am_H) (a1 : Nat) (x2 : Int32) (x3 : Int32) (x4 : Int32) (x5 : Int32) (y0 : Bool) : Option (Int32) :=
  if y0 = true then f_Rounds_tookByLaw_60 k4 h a1 x2 x3 x4 x5 else f_Rounds_tookByLaw_77 k4 h a1 x2 x3
def f_Rounds_tookByLaw_48 (k4 : Nat → Int32 → Int32 → Option (Int32)) (h : am_H) (a1 : Nat) (x2 : Int32) (x3 : Int32) (x4 : Int32) (x5 : Int32) : Option (Int32) :=
  f_Rounds_tookByLaw_57 k4 h a1 x2 x3 x4 x5 (f_Hole_hasClub h x5)
def f_Rounds_tookByLaw_45 (k4 : Nat → Int32 → Int32 → Option (Int32)) (h : am_H) (a1 : Nat) (x2 : Int32) (x3 : Int32) (x4 : Int32) (x5 : Int32) (y0 : Bool) : Option (Int32) :=
  if y0 = true then f_Rounds_tookByLaw_48 k4 h a1 x2 x3 x4 x5 else f_Rounds_tookByLaw_77 k4 h a1 x2 x3
def f_Rounds_tookByLaw_33 (k4 : Nat → Int32 → Int32 → Option (Int32)) (h : am_H) (a1 : Nat) (x2 : Int32) (x3 : Int32) (x4 : Int32) (y0 : Int64) : Option (Int32) :=
  (f_Hole_isOffGreen h x4).bind fun p => f_Rounds_tookByLaw_45 k4 h a1 x2 x3 x4 y0.toInt32 p
def f_Rounds_tookByLaw_21 (k4 : Nat → Int32 → Int32 → Option (Int32)) (h : am_H) (a1 : Nat) (x2 : Int32) (x3 : Int32) (y0 : Int64) : Option (Int32) :=
  (f_Shelf_read h a1 ((3 * x3) + 1)).bind fun p => f_Rounds_tookByLaw_33 k4 h a1 x2 x3 y0.toInt32 p
def f_Rounds_tookByLaw_14 (k4 : Nat → Int32 → Int32 → Option (Int32)) (h : am_H) (a1 : Nat) (x2 : Int32) (x3 : Int32) : Option (Int32) :=
  (f_Shelf_read h a1 (3 * x3)).bind fun p => f_Rounds_tookByLaw_21 k4 h a1 x2 x3 p
def f_Rounds_tookByLaw_9 (k4 : Nat → Int32 → Int32 → Option (Int32)) (h : am_H) (a1 : Nat) (x2 : Int32) (x3 : Int32) (y1 : Int32) (y0 : Int32) : Option (Int32) :=
  if (y1 / 3) ≤ y0 then f_Rounds_tookByLaw_83 h x2 else f_Rounds_tookByLaw_14 k4 h a1 x2 x3
def f_Rounds_tookByLaw_4 (k4 : Nat → Int32 → Int32 → Option (Int32)) (h : am_H) (a1 : Nat) (x2 : Int32) (x3 : Int32) : Option (Int32) :=
  f_Rounds_tookByLaw_9 k4 h a1 x2 x3 (f_Shelf_length h a1) x3
def f_Rounds_tookByLaw_4_l (h : am_H) : Nat → Nat → Int32 → Int32 → Option (Int32)
  | 0 => fun _ _ _ => none
  | n + 1 => f_Rounds_tookByLaw_4 (f_Rounds_tookByLaw_4_l h n) h
def f_Rounds_tookByLaw (h : am_H) (a1 : Nat) : Option (Int32) :=
  f_Rounds_tookByLaw_4_l h am_fu a1 0 0
def f_Club_guessed_32 (h : am_H) (y0 : Int32) : Option (Int32 × am_H) :=
  some (y0, h)
def f_Club_guessed_19 (h : am_H) (x1 : Int32) : Option (Int32 × am_H) :=
  if am_ok x1 6 = true then ((f_Rounds_tookByLaw h (am_shp x1)).bind fun p => f_Club_guessed_32 h p) else none
def f_Club_guessed_12 (h : am_H) (x1 : Int32) : Option (Int32 × am_H) :=
  (f_Reck_findLawfulClubs h).bind fun p => f_Club_guessed_19 p x1
def f_Club_guessed_10 (h : am_H) (x2 : Int32) : Option (Int32 × am_H) :=
  some (x2, h)
def f_Club_guessed_5 (h : am_H) (x1 : Int32) (y0 : Int32) : Option (Int32 × am_H) :=
  if y0 = 0 then f_Club_guessed_12 h x1 else f_Club_guessed_10 h y0
def f_Club_guessed (h : am_H) (x1 : Int32) : Option (Int32 × am_H) :=
  (f_Club_refuseRound h x1).bind fun p => f_Club_guessed_5 h x1 p
def f_Draws_begin (h : am_H) (x1 : Int32) : am_H :=
  am_pI h 18 2 x1
def f_Draws_draw_23 (h : am_H) (x1 : Int32) : Option (Int32 × am_H) :=
  if ¬ x1 = 0 then (some (((((h.1 18 2).toUInt32 >>> (Int32.toUInt32 8 &&& Int32.toUInt32 31)).toInt32) - (((h.1 18 2).toUInt32 >>> (Int32.toUInt32 8 &&& Int32.toUInt32 31)).toInt32) / x1 * x1), h)) else none
def f_Draws_draw_19 (h : am_H) : Option (Int32 × am_H) :=
  some (0, h)
def f_Draws_draw (h : am_H) (x1 : Int32) : Option (Int32 × am_H) :=
  if 0 < x1 then f_Draws_draw_23 (am_pI h 18 2 (((h.1 18 2) * 1103515245) + 12345)) x1 else f_Draws_draw_19 (am_pI h 18 2 (((h.1 18 2) * 1103515245) + 12345))
def f_Draws_fall_43 (h : am_H) (y0 : Int32) : Option (Int32 × am_H) :=
  some (y0, h)
def f_Draws_fall_38 (h : am_H) (x3 : Int32) (y0 : Int32) : Option (Int32 × am_H) :=
  f_Draws_fall_43 h (f_Hole_held (y0 + x3))
def f_Draws_fall_35 (h : am_H) (x3 : Int32) (y2 : Int32) (y1 : Int32) : Option (Int32 × am_H) :=
  (f_Hole_aim h y1 y2).bind fun p => f_Draws_fall_38 h x3 p
def f_Draws_fall_20 (h : am_H) (x1 : Int32) (x2 : Int32) (y1 : Int32) (y0 : Int32) : Option (Int32 × am_H) :=
  (f_Hole_carryOf h x2).bind fun p => f_Draws_fall_35 h (y0 - y1) p x1
def f_Draws_fall_12 (h : am_H) (x1 : Int32) (x2 : Int32) (y0 : Int32) : Option (Int32 × am_H) :=
  (f_Hole_spreadOf h x2).bind fun p => f_Draws_fall_20 h x1 x2 p y0
def f_Draws_fall_9 (h : am_H) (x1 : Int32) (x2 : Int32) (y1 : Int32) : Option (Int32 × am_H) :=
  (f_Draws_draw h y1).bind fun p => f_Draws_fall_12 p.2 x1 x2 p.1
def f_Draws_fall (h : am_H) (x1 : Int32) (x2 : Int32) : Option (Int32 × am_H) :=
  (f_Hole_waysOf h x2).bind fun p => f_Draws_fall_9 h x1 x2 p
def f_Hole_isPin_12 (h : am_H) : Bool :=
  false
def f_Hole_isPin_8 (h : am_H) : Bool :=
  true
def f_Hole_isPin (h : am_H) (x1 : Int32) : Bool :=
  if x1 = (h.1 1 5) then f_Hole_isPin_8 h else f_Hole_isPin_12 h
def f_Hole_touchNow (h : am_H) : Int32 :=
  (h.1 1 7)
def f_Draws_puttsFrom_33 (h : am_H) : Option (Int32 × am_H) :=
  some (2, h)
def f_Draws_puttsFrom_29 (h : am_H) : Option (Int32 × am_H) :=
  some (1, h)
def f_Draws_puttsFrom_26 (h : am_H) (y1 : Int32) (y0 : Int32) : Option (Int32 × am_H) :=
  if y1 ≤ y0 then f_Draws_puttsFrom_33 h else f_Draws_puttsFrom_29 h
def f_Draws_puttsFrom_19 (h : am_H) (y0 : Int32) : Option (Int32 × am_H) :=
  f_Draws_puttsFrom_26 h (f_Hole_touchNow h) y0
def f_Draws_puttsFrom_13 (h : am_H) : Option (Int32 × am_H) :=
  (f_Draws_draw h 12).bind fun p => f_Draws_puttsFrom_19 p.2 p.1
def f_Draws_puttsFrom_11 (h : am_H) : Option (Int32 × am_H) :=
  some (1, h)
def f_Draws_puttsFrom_8 (h : am_H) (y0 : Bool) : Option (Int32 × am_H) :=
  if y0 = true then f_Draws_puttsFrom_11 h else f_Draws_puttsFrom_13 h
def f_Draws_puttsFrom (h : am_H) (x1 : Int32) : Option (Int32 × am_H) :=
  f_Draws_puttsFrom_8 h (f_Hole_isPin h x1)
def f_Draws_playHole_135 (h : am_H) (y2 : Int32) (y1 : Int32) : Option (am_H) :=
  some (am_pI h 18 3 (y1 + y2))
def f_Draws_playHole_134 (h : am_H) (y1 : Int32) : Option (am_H) :=
  f_Draws_playHole_135 h 5 y1
def f_Draws_playHole_131 (h : am_H) (y2 : Int32) (y1 : Int32) : Option (am_H) :=
  f_Draws_playHole_135 h y2 y1
def f_Draws_playHole_126 (h : am_H) (x2 : Int32) (y1 : Int32) : Option (am_H) :=
  (f_Draws_puttsFrom h x2).bind fun p => f_Draws_playHole_131 p.2 p.1 y1
def f_Draws_playHole_123 (h : am_H) (x2 : Int32) (y2 : Bool) (y1 : Int32) : Option (am_H) :=
  if y2 = true then f_Draws_playHole_126 h x2 y1 else f_Draws_playHole_134 h y1
def f_Draws_playHole_110 (h : am_H) (x2 : Int32) : Option (am_H) :=
  (f_Hole_isGreen h x2).bind fun p => f_Draws_playHole_123 h x2 p (h.1 18 3)
def f_Draws_playHole_104 (k4 : am_H → Int32 → Int32 → Int32 → Option (am_H)) (h : am_H) (x1 : Int32) (x2 : Int32) (x3 : Int32) : Option (am_H) :=
  k4 h x1 x2 (x3 + 1)
def f_Draws_playHole_101 (k4 : am_H → Int32 → Int32 → Int32 → Option (am_H)) (h : am_H) (x1 : Int32) (x3 : Int32) (x5 : Int32) : Option (am_H) :=
  f_Draws_playHole_104 k4 h x1 x5 x3
def f_Draws_playHole_78 (k4 : am_H → Int32 → Int32 → Int32 → Option (am_H)) (h : am_H) (x1 : Int32) (x2 : Int32) (x3 : Int32) : Option (am_H) :=
  f_Draws_playHole_104 k4 (am_pI (am_pI h 18 3 ((h.1 18 3) + 1)) 18 4 (((am_pI h 18 3 ((h.1 18 3) + 1)).1 18 4) + 1)) x1 x2 x3
def f_Draws_playHole_75 (k4 : am_H → Int32 → Int32 → Int32 → Option (am_H)) (h : am_H) (x1 : Int32) (x2 : Int32) (x3 : Int32) (x5 : Int32) (y0 : Bool) : Option (am_H) :=
  if y0 = true then f_Draws_playHole_78 k4 h x1 x2 x3 else f_Draws_playHole_101 k4 h x1 x3 x5
def f_Draws_playHole_54 (k4 : am_H → Int32 → Int32 → Int32 → Option (am_H)) (h : am_H) (x1 : Int32) (x2 : Int32) (x3 : Int32) (y0 : Int32) : Option (am_H) :=
  (f_Hole_isWater (am_pI h 18 3 ((h.1 18 3) + 1)) y0).bind fun p => f_Draws_playHole_75 k4 (am_pI h 18 3 ((h.1 18 3) + 1)) x1 x2 x3 y0 p
def f_Draws_playHole_45 (k4 : am_H → Int32 → Int32 → Int32 → Option (am_H)) (h : am_H) (x1 : Int32) (x2 : Int32) (x3 : Int32) (y0 : Int32) : Option (am_H) :=
  (f_Draws_fall h x2 y0).bind fun p => f_Draws_playHole_54 k4 p.2 x1 x2 x3 p.1
def f_Draws_playHole_37 (k4 : am_H → Int32 → Int32 → Int32 → Option (am_H)) (h : am_H) (x1 : Int32) (x2 : Int32) (x3 : Int32) : Option (am_H) :=
  (f_Reck_lawfulClub h x2).bind fun p => f_Draws_playHole_45 k4 h x1 x2 x3 p
def f_Draws_playHole_34 (k4 : am_H → Int32 → Int32 → Int32 → Option (am_H)) (h : am_H) (x1 : Int32) (x2 : Int32) (x3 : Int32) (y0 : Int32) : Option (am_H) :=
  f_Draws_playHole_45 k4 h x1 x2 x3 y0
def f_Draws_playHole_25 (k4 : am_H → Int32 → Int32 → Int32 → Option (am_H)) (h : am_H) (x1 : Int32) (x2 : Int32) (x3 : Int32) : Option (am_H) :=
  (f_Reck_bestClub h x2 3).bind fun p => f_Draws_playHole_34 k4 h x1 x2 x3 p
def f_Draws_playHole_21 (k4 : am_H → Int32 → Int32 → Int32 → Option (am_H)) (h : am_H) (x1 : Int32) (x2 : Int32) (x3 : Int32) : Option (am_H) :=
  if x1 = 0 then f_Draws_playHole_25 k4 h x1 x2 x3 else f_Draws_playHole_37 k4 h x1 x2 x3
def f_Draws_playHole_18 (k4 : am_H → Int32 → Int32 → Int32 → Option (am_H)) (h : am_H) (x1 : Int32) (x2 : Int32) (x3 : Int32) (y0 : Bool) : Option (am_H) :=
  if y0 = true then f_Draws_playHole_110 h x2 else f_Draws_playHole_21 k4 h x1 x2 x3
def f_Draws_playHole_10 (k4 : am_H → Int32 → Int32 → Int32 → Option (am_H)) (h : am_H) (x1 : Int32) (x2 : Int32) (x3 : Int32) : Option (am_H) :=
  (f_Hole_isGreen h x2).bind fun p => f_Draws_playHole_18 k4 h x1 x2 x3 p
def f_Draws_playHole_4 (k4 : am_H → Int32 → Int32 → Int32 → Option (am_H)) (h : am_H) (x1 : Int32) (x2 : Int32) (x3 : Int32) : Option (am_H) :=
  if 12 ≤ x3 then f_Draws_playHole_110 h x2 else f_Draws_playHole_10 k4 h x1 x2 x3
def f_Draws_playHole_4_l  : Nat → am_H → Int32 → Int32 → Int32 → Option (am_H)
  | 0 => fun _ _ _ _ => none
  | n + 1 => f_Draws_playHole_4 (f_Draws_playHole_4_l n)
def f_Draws_playHole (h : am_H) (x1 : Int32) : Option (am_H) :=
  f_Draws_playHole_4_l am_fu h x1 0 0
def f_Draws_playHoles_35 (h : am_H) : Option (am_H) :=
  some h
def f_Draws_playHoles_29 (k18 : am_H → Int32 → Int32 → Int32 → Option (am_H)) (h : am_H) (x2 : Int32) (x3 : Int32) (x4 : Int32) : Option (am_H) :=
  k18 h x2 x3 (x4 + 1)
def f_Draws_playHoles_24 (k18 : am_H → Int32 → Int32 → Int32 → Option (am_H)) (h : am_H) (x2 : Int32) (x3 : Int32) (x4 : Int32) : Option (am_H) :=
  (f_Draws_playHole h x3).bind fun p => f_Draws_playHoles_29 k18 p x2 x3 x4
def f_Draws_playHoles_18 (k18 : am_H → Int32 → Int32 → Int32 → Option (am_H)) (h : am_H) (x2 : Int32) (x3 : Int32) (x4 : Int32) : Option (am_H) :=
  if x2 ≤ x4 then f_Draws_playHoles_35 h else f_Draws_playHoles_24 k18 h x2 x3 x4
def f_Draws_playHoles_18_l  : Nat → am_H → Int32 → Int32 → Int32 → Option (am_H)
  | 0 => fun _ _ _ _ => none
  | n + 1 => f_Draws_playHoles_18 (f_Draws_playHoles_18_l n)
def f_Draws_playHoles_5 (h : am_H) (x2 : Int32) (x3 : Int32) : Option (am_H) :=
  f_Draws_playHoles_18_l am_fu (am_pI (am_pI h 18 3 0) 18 4 0) x2 x3 0
def f_Draws_playHoles (h : am_H) (x1 : Int32) (x2 : Int32) (x3 : Int32) : Option (am_H) :=
  f_Draws_playHoles_5 (f_Draws_begin h x1) x2 x3
def f_Draws_strokesPlayed (h : am_H) : Int32 :=
  (h.1 18 3)
def f_Draws_timesInWater (h : am_H) : Int32 :=
  (h.1 18 4)
def f_Reck_findClubs_32 (h : am_H) : Option (am_H) :=
  some h
def f_Reck_findClubs_25 (k12 : am_H → Int32 → Int32 → Option (am_H)) (h : am_H) (x1 : Int32) (x3 : Int32) (y0 : Int64) : Option (am_H) :=
  k12 h x1 (x3 + 1)
def f_Reck_findClubs_18 (k12 : am_H → Int32 → Int32 → Option (am_H)) (h : am_H) (x1 : Int32) (x3 : Int32) : Option (am_H) :=
  (f_Reck_mean h x3 x1 0).bind fun p => f_Reck_findClubs_25 k12 p.2 x1 x3 p.1
def f_Reck_findClubs_12 (k12 : am_H → Int32 → Int32 → Option (am_H)) (h : am_H) (x1 : Int32) (x3 : Int32) : Option (am_H) :=
  if 31 ≤ x3 then f_Reck_findClubs_32 h else f_Reck_findClubs_18 k12 h x1 x3
def f_Reck_findClubs_12_l  : Nat → am_H → Int32 → Int32 → Option (am_H)
  | 0 => fun _ _ _ => none
  | n + 1 => f_Reck_findClubs_12 (f_Reck_findClubs_12_l n)
def f_Reck_findClubs_10 (h : am_H) (x1 : Int32) : Option (am_H) :=
  f_Reck_findClubs_12_l am_fu h x1 0
def f_Reck_findClubs_9 (h : am_H) : Option (am_H) :=
  some h
def f_Reck_findClubs_5 (h : am_H) : Option (am_H) :=
  (f_Reck_findLawfulClubs h).bind fun p => f_Reck_findClubs_9 p
def f_Reck_findClubs (h : am_H) (x1 : Int32) (x2 : Int32) : Option (am_H) :=
  if x2 = 1 then f_Reck_findClubs_5 h else f_Reck_findClubs_10 h x1
def f_Club_drawn_56 (h : am_H) : Option (Int32 × am_H) :=
  some ((-1), h)
def f_Club_drawn_114 (h : am_H) (y0 : Int32) : Option (Int32 × am_H) :=
  some (y0, h)
def f_Club_drawn_107 (h : am_H) : Option (Int32 × am_H) :=
  f_Club_drawn_114 h (f_Draws_timesInWater h)
def f_Club_drawn_104 (h : am_H) (y0 : Int32) : Option (Int32 × am_H) :=
  some (y0, h)
def f_Club_drawn_97 (h : am_H) : Option (Int32 × am_H) :=
  f_Club_drawn_104 h (f_Draws_strokesPlayed h)
def f_Club_drawn_93 (h : am_H) (x3 : Int32) : Option (Int32 × am_H) :=
  if x3 = 0 then f_Club_drawn_97 h else f_Club_drawn_107 h
def f_Club_drawn_81 (h : am_H) (x1 : Int32) (x3 : Int32) (x4 : Int32) (x5 : Int32) : Option (Int32 × am_H) :=
  (f_Draws_playHoles h x1 x4 x5).bind fun p => f_Club_drawn_93 p x3
def f_Club_drawn_71 (h : am_H) (x1 : Int32) (x3 : Int32) (x4 : Int32) (x5 : Int32) : Option (Int32 × am_H) :=
  (f_Reck_findClubs h 3 x5).bind fun p => f_Club_drawn_81 p x1 x3 x4 x5
def f_Club_drawn_68 (h : am_H) : Option (Int32 × am_H) :=
  some ((-5), h)
def f_Club_drawn_65 (h : am_H) (x1 : Int32) (x3 : Int32) (x4 : Int32) (x5 : Int32) (y0 : Bool) : Option (Int32 × am_H) :=
  if y0 = true then f_Club_drawn_68 h else f_Club_drawn_71 h x1 x3 x4 x5
def f_Club_drawn_58 (h : am_H) (x1 : Int32) (x3 : Int32) (x4 : Int32) (x5 : Int32) : Option (Int32 × am_H) :=
  f_Club_drawn_65 h x1 x3 x4 x5 (f_Hole_hasNoClubs h)
def f_Club_drawn_51 (h : am_H) (x1 : Int32) (x3 : Int32) (x4 : Int32) (x5 : Int32) : Option (Int32 × am_H) :=
  if x3 ≤ 1 then f_Club_drawn_58 h x1 x3 x4 x5 else f_Club_drawn_56 h
def f_Club_drawn_47 (h : am_H) (x1 : Int32) (x3 : Int32) (x4 : Int32) (x5 : Int32) : Option (Int32 × am_H) :=
  if x3 < 0 then f_Club_drawn_56 h else f_Club_drawn_51 h x1 x3 x4 x5
def f_Club_drawn_40 (h : am_H) (x1 : Int32) (x3 : Int32) (x4 : Int32) (x5 : Int32) (y0 : Int32) : Option (Int32 × am_H) :=
  if y0 = 0 then f_Club_drawn_56 h else f_Club_drawn_47 h x1 x3 x4 x5
def f_Club_drawn_39 (h : am_H) (x1 : Int32) (x3 : Int32) (x4 : Int32) (x5 : Int32) : Option (Int32 × am_H) :=
  f_Club_drawn_40 h x1 x3 x4 x5 0
def f_Club_drawn_35 (h : am_H) (x1 : Int32) (x3 : Int32) (x4 : Int32) (x5 : Int32) : Option (Int32 × am_H) :=
  f_Club_drawn_40 h x1 x3 x4 x5 1
def f_Club_drawn_29 (h : am_H) (x1 : Int32) (x3 : Int32) (x4 : Int32) (x5 : Int32) : Option (Int32 × am_H) :=
  if 1 < x5 then f_Club_drawn_39 h x1 x3 x4 x5 else f_Club_drawn_35 h x1 x3 x4 x5
def f_Club_drawn_22 (h : am_H) (x1 : Int32) (x3 : Int32) (x4 : Int32) (x5 : Int32) : Option (Int32 × am_H) :=
  if 20 < x4 then f_Club_drawn_39 h x1 x3 x4 x5 else f_Club_drawn_29 h x1 x3 x4 x5
def f_Club_drawn_16 (h : am_H) (x1 : Int32) (x3 : Int32) (x4 : Int32) (x5 : Int32) : Option (Int32 × am_H) :=
  if x4 < 1 then f_Club_drawn_39 h x1 x3 x4 x5 else f_Club_drawn_22 h x1 x3 x4 x5
def f_Club_drawn (h : am_H) (x1 : Int32) (x2 : Int32) (x3 : Int32) : Option (Int32 × am_H) :=
  if x2 < 0 then f_Club_drawn_39 h x1 x3 (x2 / 10) (x2 - x2 / 10 * 10) else f_Club_drawn_16 h x1 x3 (x2 / 10) (x2 - x2 / 10 * 10)
def f_Deed_playShot_74 (h : am_H) : Option (Int32 × am_H) :=
  some ((h.1 20 (5 : Int32).toNatClampNeg), h)
def f_Deed_playShot_67 (h : am_H) (x3 : Int32) : Option (Int32 × am_H) :=
  f_Deed_playShot_74 (am_pI h 20 (5 : Int32).toNatClampNeg x3)
def f_Deed_playShot_44 (h : am_H) : Option (Int32 × am_H) :=
  f_Deed_playShot_74 (am_pI (am_pI h 20 (0 : Int32).toNatClampNeg ((h.1 20 (0 : Int32).toNatClampNeg) + 1)) 20 (3 : Int32).toNatClampNeg (((am_pI h 20 (0 : Int32).toNatClampNeg ((h.1 20 (0 : Int32).toNatClampNeg) + 1)).1 20 (3 : Int32).toNatClampNeg) + 1))
def f_Deed_playShot_41 (h : am_H) (x3 : Int32) (y0 : Bool) : Option (Int32 × am_H) :=
  if y0 = true then f_Deed_playShot_44 h else f_Deed_playShot_67 h x3
def f_Deed_playShot_22 (h : am_H) (y0 : Int32) : Option (Int32 × am_H) :=
  (f_Hole_isWater (am_pI h 20 (0 : Int32).toNatClampNeg ((h.1 20 (0 : Int32).toNatClampNeg) + 1)) y0).bind fun p => f_Deed_playShot_41 (am_pI h 20 (0 : Int32).toNatClampNeg ((h.1 20 (0 : Int32).toNatClampNeg) + 1)) y0 p
def f_Deed_playShot_8 (h : am_H) (x1 : Int32) : Option (Int32 × am_H) :=
  (f_Draws_fall h (h.1 20 (5 : Int32).toNatClampNeg) x1).bind fun p => f_Deed_playShot_22 p.2 p.1
def f_Deed_playShot (h : am_H) (x1 : Int32) (x2 : Int32) : Option (Int32 × am_H) :=
  f_Deed_playShot_8 (f_Draws_begin h x2) x1
def f_Club_hit_44 (h : am_H) (y0 : Int32) : Option (Int32 × am_H) :=
  some (y0, h)
def f_Club_hit_35 (h : am_H) (x1 : Int32) (x2 : Int32) : Option (Int32 × am_H) :=
  (f_Deed_playShot h x1 x2).bind fun p => f_Club_hit_44 p.2 p.1
def f_Club_hit_30 (h : am_H) : Option (Int32 × am_H) :=
  some ((-5), h)
def f_Club_hit_27 (h : am_H) (x1 : Int32) (x2 : Int32) (y0 : Bool) : Option (Int32 × am_H) :=
  if y0 = true then f_Club_hit_30 h else f_Club_hit_35 h x1 x2
def f_Club_hit_24 (h : am_H) (x1 : Int32) (x2 : Int32) (y1 : Int32) : Option (Int32 × am_H) :=
  (f_Hole_isGreen h y1).bind fun p => f_Club_hit_27 h x1 x2 p
def f_Club_hit_13 (h : am_H) (x1 : Int32) (x2 : Int32) : Option (Int32 × am_H) :=
  f_Club_hit_24 h x1 x2 (f_Deed_place h)
def f_Club_hit_11 (h : am_H) : Option (Int32 × am_H) :=
  some ((-1), h)
def f_Club_hit_8 (h : am_H) (x1 : Int32) (x2 : Int32) (y0 : Bool) : Option (Int32 × am_H) :=
  if y0 = true then f_Club_hit_13 h x1 x2 else f_Club_hit_11 h
def f_Club_hit (h : am_H) (x1 : Int32) (x2 : Int32) : Option (Int32 × am_H) :=
  f_Club_hit_8 h x1 x2 (f_Hole_hasClub h x1)
def f_Deed_playPutts_77 (h : am_H) (x2 : Int32) : Option (Int32 × am_H) :=
  some (x2, am_pI (am_pI h 20 (0 : Int32).toNatClampNeg 0) 20 (5 : Int32).toNatClampNeg 0)
def f_Deed_playPutts_70 (h : am_H) (x2 : Int32) (x3 : Int32) : Option (Int32 × am_H) :=
  f_Deed_playPutts_77 (am_pI h 20 (4 : Int32).toNatClampNeg x3) x2
def f_Deed_playPutts_60 (h : am_H) (x2 : Int32) (x3 : Int32) : Option (Int32 × am_H) :=
  if (h.1 20 (4 : Int32).toNatClampNeg) ≤ x3 then f_Deed_playPutts_77 h x2 else f_Deed_playPutts_70 h x2 x3
def f_Deed_playPutts_21 (h : am_H) (y0 : Int32) : Option (Int32 × am_H) :=
  if ((am_pI (am_pI h 20 (1 : Int32).toNatClampNeg ((h.1 20 (1 : Int32).toNatClampNeg) + 1)) 20 (2 : Int32).toNatClampNeg (((am_pI h 20 (1 : Int32).toNatClampNeg ((h.1 20 (1 : Int32).toNatClampNeg) + 1)).1 20 (2 : Int32).toNatClampNeg) + ((h.1 20 (0 : Int32).toNatClampNeg) + y0))).1 20 (4 : Int32).toNatClampNeg) = 0 then f_Deed_playPutts_70 (am_pI (am_pI h 20 (1 : Int32).toNatClampNeg ((h.1 20 (1 : Int32).toNatClampNeg) + 1)) 20 (2 : Int32).toNatClampNeg (((am_pI h 20 (1 : Int32).toNatClampNeg ((h.1 20 (1 : Int32).toNatClampNeg) + 1)).1 20 (2 : Int32).toNatClampNeg) + ((h.1 20 (0 : Int32).toNatClampNeg) + y0))) y0 ((h.1 20 (0 : Int32).toNatClampNeg) + y0) else f_Deed_playPutts_60 (am_pI (am_pI h 20 (1 : Int32).toNatClampNeg ((h.1 20 (1 : Int32).toNatClampNeg) + 1)) 20 (2 : Int32).toNatClampNeg (((am_pI h 20 (1 : Int32).toNatClampNeg ((h.1 20 (1 : Int32).toNatClampNeg) + 1)).1 20 (2 : Int32).toNatClampNeg) + ((h.1 20 (0 : Int32).toNatClampNeg) + y0))) y0 ((h.1 20 (0 : Int32).toNatClampNeg) + y0)
def f_Deed_playPutts_8 (h : am_H) : Option (Int32 × am_H) :=
  (f_Draws_puttsFrom h (h.1 20 (5 : Int32).toNatClampNeg)).bind fun p => f_Deed_playPutts_21 p.2 p.1
def f_Deed_playPutts (h : am_H) (x1 : Int32) : Option (Int32 × am_H) :=
  f_Deed_playPutts_8 (f_Draws_begin h x1)
def f_Club_putt_28 (h : am_H) : Option (Int32 × am_H) :=
  some ((-5), h)
def f_Club_putt_25 (h : am_H) (y0 : Int32) : Option (Int32 × am_H) :=
  some (y0, h)
def f_Club_putt_17 (h : am_H) (x1 : Int32) : Option (Int32 × am_H) :=
  (f_Deed_playPutts h x1).bind fun p => f_Club_putt_25 p.2 p.1
def f_Club_putt_14 (h : am_H) (x1 : Int32) (y0 : Bool) : Option (Int32 × am_H) :=
  if y0 = true then f_Club_putt_17 h x1 else f_Club_putt_28 h
def f_Club_putt_11 (h : am_H) (x1 : Int32) (y1 : Int32) : Option (Int32 × am_H) :=
  (f_Hole_isGreen h y1).bind fun p => f_Club_putt_14 h x1 p
def f_Club_putt (h : am_H) (x1 : Int32) : Option (Int32 × am_H) :=
  f_Club_putt_11 h x1 (f_Deed_place h)
def f_Deed_tally_19 (h : am_H) : Option (Int32) :=
  some (-1)
def f_Deed_tally_10 (h : am_H) (x1 : Int32) : Option (Int32) :=
  if am_ok x1 6 = true then (some (h.1 20 x1.toNatClampNeg)) else none
def f_Deed_tally_4 (h : am_H) (x1 : Int32) : Option (Int32) :=
  if 6 ≤ x1 then f_Deed_tally_19 h else f_Deed_tally_10 h x1
def f_Deed_tally (h : am_H) (x1 : Int32) : Option (Int32) :=
  if x1 < 0 then f_Deed_tally_19 h else f_Deed_tally_4 h x1
def f_Club_led_9 (h : am_H) : Option (Int32) :=
  some (-1)
def f_Club_led_21 (h : am_H) (y0 : Int32) : Option (Int32) :=
  some y0
def f_Club_led_13 (h : am_H) (x1 : Int32) : Option (Int32) :=
  (f_Deed_tally h x1).bind fun p => f_Club_led_21 h p
def f_Club_led_4 (h : am_H) (x1 : Int32) : Option (Int32) :=
  if x1 ≤ 4 then f_Club_led_13 h x1 else f_Club_led_9 h
def f_Club_led (h : am_H) (x1 : Int32) : Option (Int32) :=
  if x1 < 0 then f_Club_led_9 h else f_Club_led_4 h x1
def f_Deed_keepImage_15 (h : am_H) : Int32 × am_H :=
  (((am_pI h 19 4 1).1 20 (5 : Int32).toNatClampNeg), am_pI h 19 4 1)
def f_Deed_keepImage (h : am_H) : Int32 × am_H :=
  f_Deed_keepImage_15 (am_cI h 20 21 (0 : Int32).toNatClampNeg (0 : Int32).toNatClampNeg (6 : Int32).toNatClampNeg)
def f_Club_image_7 (h : am_H) (y0 : Int32) : Int32 × am_H :=
  (y0, h)
def f_Club_image (h : am_H) : Int32 × am_H :=
  f_Club_image_7 ((f_Deed_keepImage h).2) ((f_Deed_keepImage h).1)
def f_Deed_hasImage (h : am_H) : Option (Bool) :=
  if ((h.1 19 4) = 0 ∨ (h.1 19 4) = 1) then (some (decide (¬ (h.1 19 4) = 0))) else none
def f_Deed_layImageBack_15 (h : am_H) : Int32 × am_H :=
  ((h.1 20 (5 : Int32).toNatClampNeg), h)
def f_Deed_layImageBack (h : am_H) : Int32 × am_H :=
  f_Deed_layImageBack_15 (am_cI h 21 20 (0 : Int32).toNatClampNeg (0 : Int32).toNatClampNeg (6 : Int32).toNatClampNeg)
def f_Club_back_20 (h : am_H) : Option (Int32 × am_H) :=
  some ((-5), h)
def f_Club_back_17 (h : am_H) (y0 : Int32) : Option (Int32 × am_H) :=
  some (y0, h)
def f_Club_back_10 (h : am_H) : Option (Int32 × am_H) :=
  f_Club_back_17 ((f_Deed_layImageBack h).2) ((f_Deed_layImageBack h).1)
def f_Club_back_7 (h : am_H) (y0 : Bool) : Option (Int32 × am_H) :=
  if y0 = true then f_Club_back_10 h else f_Club_back_20 h
def f_Club_back (h : am_H) : Option (Int32 × am_H) :=
  (f_Deed_hasImage h).bind fun p => f_Club_back_7 h p
def f_Changes_isPlace_14  : Bool :=
  false
def f_Changes_isPlace_10  : Bool :=
  true
def f_Changes_isPlace_4 (x0 : Int32) : Bool :=
  if 40 ≤ x0 then f_Changes_isPlace_14 else f_Changes_isPlace_10
def f_Changes_isPlace (x0 : Int32) : Bool :=
  if x0 < 0 then f_Changes_isPlace_14 else f_Changes_isPlace_4 x0
def f_Changes_numberOf_16 (h : am_H) : Option (Int32) :=
  some (-1)
def f_Changes_numberOf_7 (h : am_H) (x1 : Int32) : Option (Int32) :=
  if am_ok x1 40 = true then (some (h.1 23 x1.toNatClampNeg)) else none
def f_Changes_numberOf_4 (h : am_H) (x1 : Int32) (y0 : Bool) : Option (Int32) :=
  if y0 = true then f_Changes_numberOf_7 h x1 else f_Changes_numberOf_16 h
def f_Changes_numberOf (h : am_H) (x1 : Int32) : Option (Int32) :=
  f_Changes_numberOf_4 h x1 (f_Changes_isPlace x1)
def f_Changes_stepBack_9 (h : am_H) : Int32 × am_H :=
  (((am_pI (am_pI h 22 4 ((h.1 22 4) - 1)) 22 5 (((am_pI h 22 4 ((h.1 22 4) - 1)).1 22 5) + 1)).1 22 4), am_pI (am_pI h 22 4 ((h.1 22 4) - 1)) 22 5 (((am_pI h 22 4 ((h.1 22 4) - 1)).1 22 5) + 1))
def f_Changes_stepBack_7 (h : am_H) : Int32 × am_H :=
  ((-1), h)
def f_Changes_stepBack (h : am_H) : Int32 × am_H :=
  if 0 < (h.1 22 4) then f_Changes_stepBack_9 h else f_Changes_stepBack_7 h
def f_Changes_toUndo (h : am_H) : Int32 :=
  (h.1 22 4)
def f_Changes_wasOf_16 (h : am_H) : Option (Int32) :=
  some 0
def f_Changes_wasOf_7 (h : am_H) (x1 : Int32) : Option (Int32) :=
  if am_ok x1 40 = true then (some (h.1 25 x1.toNatClampNeg)) else none
def f_Changes_wasOf_4 (h : am_H) (x1 : Int32) (y0 : Bool) : Option (Int32) :=
  if y0 = true then f_Changes_wasOf_7 h x1 else f_Changes_wasOf_16 h
def f_Changes_wasOf (h : am_H) (x1 : Int32) : Option (Int32) :=
  f_Changes_wasOf_4 h x1 (f_Changes_isPlace x1)
def f_Changes_whatOf_16 (h : am_H) : Option (Int32) :=
  some (-1)
def f_Changes_whatOf_7 (h : am_H) (x1 : Int32) : Option (Int32) :=
  if am_ok x1 40 = true then (some (h.1 24 x1.toNatClampNeg)) else none
def f_Changes_whatOf_4 (h : am_H) (x1 : Int32) (y0 : Bool) : Option (Int32) :=
  if y0 = true then f_Changes_whatOf_7 h x1 else f_Changes_whatOf_16 h
def f_Changes_whatOf (h : am_H) (x1 : Int32) : Option (Int32) :=
  f_Changes_whatOf_4 h x1 (f_Changes_isPlace x1)
def f_Club_undo_50 (h : am_H) (y0 : Int32) : Option (Int32 × am_H) :=
  some (y0, h)
def f_Club_undo_43 (h : am_H) : Option (Int32 × am_H) :=
  f_Club_undo_50 h (f_Changes_toUndo h)
def f_Club_undo_40 (h : am_H) (y3 : Int32) (y2 : Int32) (y1 : Int32) : Option (Int32 × am_H) :=
  (f_Club_alter h y1 y2 y3).bind fun p => f_Club_undo_43 p
def f_Club_undo_32 (h : am_H) (x1 : Int32) (y2 : Int32) (y1 : Int32) : Option (Int32 × am_H) :=
  (f_Changes_wasOf h x1).bind fun p => f_Club_undo_40 h p y2 y1
def f_Club_undo_24 (h : am_H) (x1 : Int32) (y1 : Int32) : Option (Int32 × am_H) :=
  (f_Changes_whatOf h x1).bind fun p => f_Club_undo_32 h x1 p y1
def f_Club_undo_15 (h : am_H) (x1 : Int32) : Option (Int32 × am_H) :=
  (f_Changes_numberOf h x1).bind fun p => f_Club_undo_24 h x1 p
def f_Club_undo_12 (h : am_H) : Option (Int32 × am_H) :=
  some ((-5), h)
def f_Club_undo_7 (h : am_H) (y0 : Int32) : Option (Int32 × am_H) :=
  if 0 ≤ y0 then f_Club_undo_15 h y0 else f_Club_undo_12 h
def f_Club_undo (h : am_H) : Option (Int32 × am_H) :=
  f_Club_undo_7 ((f_Changes_stepBack h).2) ((f_Changes_stepBack h).1)
def f_Changes_becameOf_16 (h : am_H) : Option (Int32) :=
  some 0
def f_Changes_becameOf_7 (h : am_H) (x1 : Int32) : Option (Int32) :=
  if am_ok x1 40 = true then (some (h.1 26 x1.toNatClampNeg)) else none
def f_Changes_becameOf_4 (h : am_H) (x1 : Int32) (y0 : Bool) : Option (Int32) :=
  if y0 = true then f_Changes_becameOf_7 h x1 else f_Changes_becameOf_16 h
def f_Changes_becameOf (h : am_H) (x1 : Int32) : Option (Int32) :=
  f_Changes_becameOf_4 h x1 (f_Changes_isPlace x1)
def f_Changes_stepOn_9 (h : am_H) : Int32 × am_H :=
  ((((am_pI (am_pI h 22 5 ((h.1 22 5) - 1)) 22 4 (((am_pI h 22 5 ((h.1 22 5) - 1)).1 22 4) + 1)).1 22 4) - 1), am_pI (am_pI h 22 5 ((h.1 22 5) - 1)) 22 4 (((am_pI h 22 5 ((h.1 22 5) - 1)).1 22 4) + 1))
def f_Changes_stepOn_7 (h : am_H) : Int32 × am_H :=
  ((-1), h)
def f_Changes_stepOn (h : am_H) : Int32 × am_H :=
  if 0 < (h.1 22 5) then f_Changes_stepOn_9 h else f_Changes_stepOn_7 h
def f_Changes_toRedo (h : am_H) : Int32 :=
  (h.1 22 5)
def f_Club_redo_50 (h : am_H) (y0 : Int32) : Option (Int32 × am_H) :=
  some (y0, h)
def f_Club_redo_43 (h : am_H) : Option (Int32 × am_H) :=
  f_Club_redo_50 h (f_Changes_toRedo h)
def f_Club_redo_40 (h : am_H) (y3 : Int32) (y2 : Int32) (y1 : Int32) : Option (Int32 × am_H) :=
  (f_Club_alter h y1 y2 y3).bind fun p => f_Club_redo_43 p
def f_Club_redo_32 (h : am_H) (x1 : Int32) (y2 : Int32) (y1 : Int32) : Option (Int32 × am_H) :=
  (f_Changes_becameOf h x1).bind fun p => f_Club_redo_40 h p y2 y1
def f_Club_redo_24 (h : am_H) (x1 : Int32) (y1 : Int32) : Option (Int32 × am_H) :=
  (f_Changes_whatOf h x1).bind fun p => f_Club_redo_32 h x1 p y1
def f_Club_redo_15 (h : am_H) (x1 : Int32) : Option (Int32 × am_H) :=
  (f_Changes_numberOf h x1).bind fun p => f_Club_redo_24 h x1 p
def f_Club_redo_12 (h : am_H) : Option (Int32 × am_H) :=
  some ((-5), h)
def f_Club_redo_7 (h : am_H) (y0 : Int32) : Option (Int32 × am_H) :=
  if 0 ≤ y0 then f_Club_redo_15 h y0 else f_Club_redo_12 h
def f_Club_redo (h : am_H) : Option (Int32 × am_H) :=
  f_Club_redo_7 ((f_Changes_stepOn h).2) ((f_Changes_stepOn h).1)
def f_Words_addWord_16 (h : am_H) : Option (Int32 × am_H) :=
  some ((-3), h)
def f_Words_addWord_19 (h : am_H) (x1 : Int32) : Option (Int32 × am_H) :=
  if am_ok (h.1 27 2) 50 = true then (some ((((am_pI (am_pI h 28 (h.1 27 2).toNatClampNeg x1) 27 2 (((am_pI h 28 (h.1 27 2).toNatClampNeg x1).1 27 2) + 1)).1 27 2) - 1), am_pI (am_pI h 28 (h.1 27 2).toNatClampNeg x1) 27 2 (((am_pI h 28 (h.1 27 2).toNatClampNeg x1).1 27 2) + 1))) else none
def f_Words_addWord_7 (h : am_H) (x1 : Int32) : Option (Int32 × am_H) :=
  if (h.1 27 2) < 50 then f_Words_addWord_19 h x1 else f_Words_addWord_16 h
def f_Words_addWord (h : am_H) (x1 : Int32) : Option (Int32 × am_H) :=
  if (h.1 27 2) < 0 then f_Words_addWord_16 h else f_Words_addWord_7 h x1
def f_Words_isFull_13 (h : am_H) : Bool :=
  false
def f_Words_isFull_9 (h : am_H) : Bool :=
  true
def f_Words_isFull (h : am_H) : Bool :=
  if (h.1 27 2) < 50 then f_Words_isFull_13 h else f_Words_isFull_9 h
def f_Words_isKind_16  : Bool :=
  false
def f_Words_isKind_12  : Bool :=
  true
def f_Words_isKind_4 (x0 : Int32) : Bool :=
  if 8 ≤ x0 then f_Words_isKind_16 else f_Words_isKind_12
def f_Words_isKind (x0 : Int32) : Bool :=
  if x0 < 0 then f_Words_isKind_16 else f_Words_isKind_4 x0
def f_Club_body_32 (h : am_H) (y0 : Int32) : Option (Int32 × am_H) :=
  some (y0, h)
def f_Club_body_24 (h : am_H) (x1 : Int32) : Option (Int32 × am_H) :=
  (f_Words_addWord h x1).bind fun p => f_Club_body_32 p.2 p.1
def f_Club_body_19 (h : am_H) : Option (Int32 × am_H) :=
  some ((-3), h)
def f_Club_body_16 (h : am_H) (x1 : Int32) (y0 : Bool) : Option (Int32 × am_H) :=
  if y0 = true then f_Club_body_19 h else f_Club_body_24 h x1
def f_Club_body_9 (h : am_H) (x1 : Int32) : Option (Int32 × am_H) :=
  f_Club_body_16 h x1 (f_Words_isFull h)
def f_Club_body_7 (h : am_H) : Option (Int32 × am_H) :=
  some ((-1), h)
def f_Club_body_4 (h : am_H) (x1 : Int32) (y0 : Bool) : Option (Int32 × am_H) :=
  if y0 = true then f_Club_body_9 h x1 else f_Club_body_7 h
def f_Club_body (h : am_H) (x1 : Int32) : Option (Int32 × am_H) :=
  f_Club_body_4 h x1 (f_Words_isKind x1)
def f_Words_holderOf_63  : Option (Int32) :=
  some (-1)
def f_Words_holderOf_51 (k4 : Int32 → Int32 → Int32 → Option (Int32)) (x1 : Int32) (x2 : Int32) (x3 : Int32) : Option (Int32) :=
  if am_ok x2 8 = true then (k4 x1 (tv_ABOVE x2) (x3 + 1)) else none
def f_Words_holderOf_49 (x2 : Int32) : Option (Int32) :=
  some x2
def f_Words_holderOf_40 (k4 : Int32 → Int32 → Int32 → Option (Int32)) (x1 : Int32) (x2 : Int32) (x3 : Int32) (x4 : Int32) : Option (Int32) :=
  if am_ok x4 32 = true then (if (tv_OWN x4) = 0 then f_Words_holderOf_51 k4 x1 x2 x3 else f_Words_holderOf_49 x2) else none
def f_Words_holderOf_31 (k4 : Int32 → Int32 → Int32 → Option (Int32)) (x1 : Int32) (x2 : Int32) (x3 : Int32) (x4 : Int32) : Option (Int32) :=
  if 32 ≤ x4 then f_Words_holderOf_51 k4 x1 x2 x3 else f_Words_holderOf_40 k4 x1 x2 x3 x4
def f_Words_holderOf_19 (k4 : Int32 → Int32 → Int32 → Option (Int32)) (x1 : Int32) (x2 : Int32) (x3 : Int32) : Option (Int32) :=
  if ((x2 * 4) + x1) < 0 then f_Words_holderOf_51 k4 x1 x2 x3 else f_Words_holderOf_31 k4 x1 x2 x3 ((x2 * 4) + x1)
def f_Words_holderOf_16 (k4 : Int32 → Int32 → Int32 → Option (Int32)) (x1 : Int32) (x2 : Int32) (x3 : Int32) (y0 : Bool) : Option (Int32) :=
  if y0 = true then f_Words_holderOf_19 k4 x1 x2 x3 else f_Words_holderOf_63
def f_Words_holderOf_12 (k4 : Int32 → Int32 → Int32 → Option (Int32)) (x1 : Int32) (x2 : Int32) (x3 : Int32) : Option (Int32) :=
  f_Words_holderOf_16 k4 x1 x2 x3 (f_Words_isKind x2)
def f_Words_holderOf_4 (k4 : Int32 → Int32 → Int32 → Option (Int32)) (x1 : Int32) (x2 : Int32) (x3 : Int32) : Option (Int32) :=
  if 8 ≤ x3 then f_Words_holderOf_63 else f_Words_holderOf_12 k4 x1 x2 x3
def f_Words_holderOf_4_l  : Nat → Int32 → Int32 → Int32 → Option (Int32)
  | 0 => fun _ _ _ => none
  | n + 1 => f_Words_holderOf_4 (f_Words_holderOf_4_l n)
def f_Words_holderOf (x0 : Int32) (x1 : Int32) : Option (Int32) :=
  f_Words_holderOf_4_l am_fu x1 x0 0
def f_Words_note_26 (h : am_H) : Option (am_H) :=
  some (am_pI h 27 3 ((h.1 27 3) + 1))
def f_Words_note_16 (h : am_H) (x1 : Int32) : Option (am_H) :=
  if am_ok (h.1 27 3) 24 = true then (f_Words_note_26 (am_pI h 29 (h.1 27 3).toNatClampNeg x1)) else none
def f_Words_note_7 (h : am_H) (x1 : Int32) : Option (am_H) :=
  if 24 ≤ (h.1 27 3) then f_Words_note_26 h else f_Words_note_16 h x1
def f_Words_note (h : am_H) (x1 : Int32) : Option (am_H) :=
  if (h.1 27 3) < 0 then f_Words_note_26 h else f_Words_note_7 h x1
def f_Words_hasWord_22 (h : am_H) : Bool :=
  false
def f_Words_hasWord_18 (h : am_H) : Bool :=
  true
def f_Words_hasWord_12 (h : am_H) (x1 : Int32) : Bool :=
  if 50 ≤ x1 then f_Words_hasWord_22 h else f_Words_hasWord_18 h
def f_Words_hasWord_4 (h : am_H) (x1 : Int32) : Bool :=
  if (h.1 27 2) ≤ x1 then f_Words_hasWord_22 h else f_Words_hasWord_12 h x1
def f_Words_hasWord (h : am_H) (x1 : Int32) : Bool :=
  if x1 < 0 then f_Words_hasWord_22 h else f_Words_hasWord_4 h x1
def f_Words_kindOf_17 (h : am_H) : Option (Int32) :=
  some (-1)
def f_Words_kindOf_8 (h : am_H) (x1 : Int32) : Option (Int32) :=
  if am_ok x1 50 = true then (some (h.1 28 x1.toNatClampNeg)) else none
def f_Words_kindOf_5 (h : am_H) (x1 : Int32) (y0 : Bool) : Option (Int32) :=
  if y0 = true then f_Words_kindOf_8 h x1 else f_Words_kindOf_17 h
def f_Words_kindOf (h : am_H) (x1 : Int32) : Option (Int32) :=
  f_Words_kindOf_5 h x1 (f_Words_hasWord h x1)
abbrev rc_Words_call : Type := (am_H → Int32 → Int32 → Int32 → Int32 → Int32 → Option (Int32 × am_H)) × (am_H → Int32 → Int32 → Int32 → Int32 → Int32 → Option (Int32 × am_H))
def f_Words_call_41 (rc : rc_Words_call) (h : am_H) : Option (Int32 × am_H) :=
  some (0, h)
def f_Words_call_72 (rc : rc_Words_call) (h : am_H) (y0 : Int32) : Option (Int32 × am_H) :=
  some (y0, h)
def f_Words_call_53 (rc : rc_Words_call) (h : am_H) (x1 : Int32) (x4 : Int32) (x5 : Int32) (x6 : Int32) (x7 : Int32) : Option (Int32 × am_H) :=
  if am_ok x7 32 = true then ((rc.2 h (tv_OWN x7) x1 x6 x4 (x5 + 1)).bind fun p => f_Words_call_72 rc p.2 p.1) else none
def f_Words_call_43 (rc : rc_Words_call) (h : am_H) (x1 : Int32) (x4 : Int32) (x5 : Int32) (x6 : Int32) (x7 : Int32) : Option (Int32 × am_H) :=
  if am_ok x7 32 = true then ((f_Words_note h (tv_OWN x7)).bind fun p => f_Words_call_53 rc p x1 x4 x5 x6 x7) else none
def f_Words_call_32 (rc : rc_Words_call) (h : am_H) (x1 : Int32) (x4 : Int32) (x5 : Int32) (x6 : Int32) (x7 : Int32) : Option (Int32 × am_H) :=
  if x7 < 32 then f_Words_call_43 rc h x1 x4 x5 x6 x7 else f_Words_call_41 rc h
def f_Words_call_27 (rc : rc_Words_call) (h : am_H) (x1 : Int32) (x4 : Int32) (x5 : Int32) (x6 : Int32) (x7 : Int32) : Option (Int32 × am_H) :=
  if x7 < 0 then f_Words_call_41 rc h else f_Words_call_32 rc h x1 x4 x5 x6 x7
def f_Words_call_22 (rc : rc_Words_call) (h : am_H) (x1 : Int32) (x4 : Int32) (x5 : Int32) (x6 : Int32) (x7 : Int32) : Option (Int32 × am_H) :=
  if x6 < 0 then f_Words_call_41 rc h else f_Words_call_27 rc h x1 x4 x5 x6 x7
def f_Words_call_5 (rc : rc_Words_call) (h : am_H) (x1 : Int32) (x3 : Int32) (x4 : Int32) (x5 : Int32) (y0 : Int32) : Option (Int32 × am_H) :=
  if 40 < x5 then f_Words_call_41 rc h else f_Words_call_22 rc h x1 x4 x5 y0 ((y0 * 4) + x3)
def f_Words_call_0 (rc : rc_Words_call) (h : am_H) (x1 : Int32) (x2 : Int32) (x3 : Int32) (x4 : Int32) (x5 : Int32) : Option (Int32 × am_H) :=
  (f_Words_holderOf x2 x3).bind fun p => f_Words_call_5 rc h x1 x3 x4 x5 p
def f_Words_runBody_140 (rc : rc_Words_call) (h : am_H) (x2 : Int32) (x4 : Int32) : Option (Int32 × am_H) :=
  some ((x4 + x2), h)
def f_Words_runBody_168 (rc : rc_Words_call) (h : am_H) (y1 : Int32) (y0 : Int32) : Option (Int32 × am_H) :=
  some ((y0 - y1), h)
def f_Words_runBody_157 (rc : rc_Words_call) (h : am_H) (x2 : Int32) (x5 : Int32) (x6 : Int32) (y0 : Int32) : Option (Int32 × am_H) :=
  (rc.1 h x2 x6 2 1 x5).bind fun p => f_Words_runBody_168 rc p.2 p.1 y0
def f_Words_runBody_145 (rc : rc_Words_call) (h : am_H) (x2 : Int32) (x4 : Int32) (x5 : Int32) (x6 : Int32) : Option (Int32 × am_H) :=
  (rc.1 h x2 x6 1 x4 x5).bind fun p => f_Words_runBody_157 rc p.2 x2 x5 x6 p.1
def f_Words_runBody_182 (rc : rc_Words_call) (h : am_H) (y0 : Int32) : Option (Int32 × am_H) :=
  some ((y0 * 2), h)
def f_Words_runBody_170 (rc : rc_Words_call) (h : am_H) (x2 : Int32) (x4 : Int32) (x5 : Int32) (x6 : Int32) : Option (Int32 × am_H) :=
  (rc.1 h x2 x6 0 x4 x5).bind fun p => f_Words_runBody_182 rc p.2 p.1
def f_Words_runBody_185 (rc : rc_Words_call) (h : am_H) (x2 : Int32) (x4 : Int32) : Option (Int32 × am_H) :=
  some ((x4 ^^^ x2), h)
def f_Words_runBody_202 (rc : rc_Words_call) (h : am_H) (y0 : Int32) : Option (Int32 × am_H) :=
  some ((y0 + 3), h)
def f_Words_runBody_190 (rc : rc_Words_call) (h : am_H) (x2 : Int32) (x4 : Int32) (x5 : Int32) (x7 : Int32) : Option (Int32 × am_H) :=
  (rc.1 h x2 x7 0 x4 x5).bind fun p => f_Words_runBody_202 rc p.2 p.1
def f_Words_runBody_217 (rc : rc_Words_call) (h : am_H) (y0 : Int32) : Option (Int32 × am_H) :=
  some ((-y0), h)
def f_Words_runBody_205 (rc : rc_Words_call) (h : am_H) (x2 : Int32) (x4 : Int32) (x5 : Int32) (x7 : Int32) : Option (Int32 × am_H) :=
  (rc.1 h x2 x7 1 x4 x5).bind fun p => f_Words_runBody_217 rc p.2 p.1
def f_Words_runBody_231 (rc : rc_Words_call) (h : am_H) (y0 : Int32) : Option (Int32 × am_H) :=
  some ((y0 * 3), h)
def f_Words_runBody_219 (rc : rc_Words_call) (h : am_H) (x2 : Int32) (x4 : Int32) (x5 : Int32) (x7 : Int32) : Option (Int32 × am_H) :=
  (rc.1 h x2 x7 2 x4 x5).bind fun p => f_Words_runBody_231 rc p.2 p.1
def f_Words_runBody_248 (rc : rc_Words_call) (h : am_H) (y0 : Int32) : Option (Int32 × am_H) :=
  some (y0, h)
def f_Words_runBody_234 (rc : rc_Words_call) (h : am_H) (x2 : Int32) (x4 : Int32) (x5 : Int32) (x7 : Int32) : Option (Int32 × am_H) :=
  (rc.1 h x2 x7 1 (x4 + 1) x5).bind fun p => f_Words_runBody_248 rc p.2 p.1
def f_Words_runBody_272 (rc : rc_Words_call) (h : am_H) (y1 : Int32) (y0 : Int32) : Option (Int32 × am_H) :=
  some ((y0 - y1), h)
def f_Words_runBody_261 (rc : rc_Words_call) (h : am_H) (x2 : Int32) (x5 : Int32) (x6 : Int32) (y0 : Int32) : Option (Int32 × am_H) :=
  (rc.1 h x2 x6 0 2 x5).bind fun p => f_Words_runBody_272 rc p.2 p.1 y0
def f_Words_runBody_249 (rc : rc_Words_call) (h : am_H) (x2 : Int32) (x4 : Int32) (x5 : Int32) (x6 : Int32) (x7 : Int32) : Option (Int32 × am_H) :=
  (rc.1 h x2 x7 2 x4 x5).bind fun p => f_Words_runBody_261 rc p.2 x2 x5 x6 p.1
def f_Words_runBody_286 (rc : rc_Words_call) (h : am_H) (y0 : Int32) : Option (Int32 × am_H) :=
  some ((y0 ^^^ 5), h)
def f_Words_runBody_274 (rc : rc_Words_call) (h : am_H) (x2 : Int32) (x4 : Int32) (x5 : Int32) (x7 : Int32) : Option (Int32 × am_H) :=
  (rc.1 h x2 x7 3 x4 x5).bind fun p => f_Words_runBody_286 rc p.2 p.1
def f_Words_runBody_301 (rc : rc_Words_call) (h : am_H) (y0 : Int32) : Option (Int32 × am_H) :=
  some ((y0 * 2), h)
def f_Words_runBody_289 (rc : rc_Words_call) (h : am_H) (x2 : Int32) (x4 : Int32) (x5 : Int32) (x7 : Int32) : Option (Int32 × am_H) :=
  (rc.1 h x2 x7 0 x4 x5).bind fun p => f_Words_runBody_301 rc p.2 p.1
def f_Words_runBody_327 (rc : rc_Words_call) (h : am_H) (y1 : Int32) (y0 : Int32) : Option (Int32 × am_H) :=
  some ((y0 + y1), h)
def f_Words_runBody_316 (rc : rc_Words_call) (h : am_H) (x2 : Int32) (x5 : Int32) (x6 : Int32) (y0 : Int32) : Option (Int32 × am_H) :=
  (rc.1 h x2 x6 2 2 x5).bind fun p => f_Words_runBody_327 rc p.2 p.1 y0
def f_Words_runBody_304 (rc : rc_Words_call) (h : am_H) (x2 : Int32) (x4 : Int32) (x5 : Int32) (x6 : Int32) (x7 : Int32) : Option (Int32 × am_H) :=
  (rc.1 h x2 x7 1 x4 x5).bind fun p => f_Words_runBody_316 rc p.2 x2 x5 x6 p.1
def f_Words_runBody_341 (rc : rc_Words_call) (h : am_H) (y0 : Int32) : Option (Int32 × am_H) :=
  some ((y0 - 1), h)
def f_Words_runBody_329 (rc : rc_Words_call) (h : am_H) (x2 : Int32) (x4 : Int32) (x5 : Int32) (x7 : Int32) : Option (Int32 × am_H) :=
  (rc.1 h x2 x7 3 x4 x5).bind fun p => f_Words_runBody_341 rc p.2 p.1
def f_Words_runBody_344 (rc : rc_Words_call) (h : am_H) : Option (Int32 × am_H) :=
  some (0, h)
def f_Words_runBody_23 (rc : rc_Words_call) (h : am_H) (x1 : Int32) (x2 : Int32) (x4 : Int32) (x5 : Int32) (x6 : Int32) (y0 : Int32) : Option (Int32 × am_H) :=
  if x1 = 1 then f_Words_runBody_140 rc h x2 x4 else if x1 = 2 then f_Words_runBody_145 rc h x2 x4 x5 x6 else if x1 = 10 then f_Words_runBody_170 rc h x2 x4 x5 x6 else if x1 = 11 then f_Words_runBody_185 rc h x2 x4 else if x1 = 20 then f_Words_runBody_190 rc h x2 x4 x5 y0 else if x1 = 30 then f_Words_runBody_205 rc h x2 x4 x5 y0 else if x1 = 40 then f_Words_runBody_219 rc h x2 x4 x5 y0 else if x1 = 41 then f_Words_runBody_234 rc h x2 x4 x5 y0 else if x1 = 50 then f_Words_runBody_249 rc h x2 x4 x5 x6 y0 else if x1 = 60 then f_Words_runBody_274 rc h x2 x4 x5 y0 else if x1 = 70 then f_Words_runBody_289 rc h x2 x4 x5 y0 else if x1 = 80 then f_Words_runBody_304 rc h x2 x4 x5 x6 y0 else if x1 = 81 then f_Words_runBody_329 rc h x2 x4 x5 y0 else f_Words_runBody_344 rc h
def f_Words_runBody_22 (rc : rc_Words_call) (h : am_H) (x1 : Int32) (x2 : Int32) (x4 : Int32) (x5 : Int32) (x6 : Int32) : Option (Int32 × am_H) :=
  f_Words_runBody_23 rc h x1 x2 x4 x5 x6 (-1)
def f_Words_runBody_14 (rc : rc_Words_call) (h : am_H) (x1 : Int32) (x2 : Int32) (x3 : Int32) (x4 : Int32) (x5 : Int32) (x6 : Int32) : Option (Int32 × am_H) :=
  if am_ok x3 8 = true then (f_Words_runBody_23 rc h x1 x2 x4 x5 x6 (tv_ABOVE x3)) else none
def f_Words_runBody_11 (rc : rc_Words_call) (h : am_H) (x1 : Int32) (x2 : Int32) (x3 : Int32) (x4 : Int32) (x5 : Int32) (x6 : Int32) (y0 : Bool) : Option (Int32 × am_H) :=
  if y0 = true then f_Words_runBody_14 rc h x1 x2 x3 x4 x5 x6 else f_Words_runBody_22 rc h x1 x2 x4 x5 x6
def f_Words_runBody_5 (rc : rc_Words_call) (h : am_H) (x1 : Int32) (x2 : Int32) (x3 : Int32) (x4 : Int32) (x5 : Int32) (y0 : Int32) : Option (Int32 × am_H) :=
  f_Words_runBody_11 rc h x1 x2 x3 x4 x5 y0 (f_Words_isKind x3)
def f_Words_runBody_0 (rc : rc_Words_call) (h : am_H) (x1 : Int32) (x2 : Int32) (x3 : Int32) (x4 : Int32) (x5 : Int32) : Option (Int32 × am_H) :=
  (f_Words_kindOf h x2).bind fun p => f_Words_runBody_5 rc h x1 x2 x3 x4 x5 p
def g_Words_call : Nat → rc_Words_call
  | 0 => ((fun _ _ _ _ _ _ => none), (fun _ _ _ _ _ _ => none))
  | n + 1 => (f_Words_call_0 (g_Words_call n), f_Words_runBody_0 (g_Words_call n))
def f_Words_call : am_H → Int32 → Int32 → Int32 → Int32 → Int32 → Option (Int32 × am_H) := (g_Words_call 64).1
def f_Words_runBody : am_H → Int32 → Int32 → Int32 → Int32 → Int32 → Option (Int32 × am_H) := (g_Words_call 64).2
def f_Words_perform_22 (h : am_H) : Option (Int32 × am_H) :=
  some (0, h)
def f_Words_perform_37 (h : am_H) (y0 : Int32) : Option (Int32 × am_H) :=
  some (y0, h)
def f_Words_perform_31 (h : am_H) (x2 : Int32) (x3 : Int32) (y2 : Int32) (y1 : Int32) : Option (Int32 × am_H) :=
  (f_Words_call h y1 y2 x2 x3 0).bind fun p => f_Words_perform_37 p.2 p.1
def f_Words_perform_24 (h : am_H) (x1 : Int32) (x2 : Int32) (x3 : Int32) : Option (Int32 × am_H) :=
  (f_Words_kindOf h x1).bind fun p => f_Words_perform_31 h x2 x3 p x1
def f_Words_perform_17 (h : am_H) (x1 : Int32) (x2 : Int32) (x3 : Int32) : Option (Int32 × am_H) :=
  if x2 < 4 then f_Words_perform_24 h x1 x2 x3 else f_Words_perform_22 h
def f_Words_perform_13 (h : am_H) (x1 : Int32) (x2 : Int32) (x3 : Int32) : Option (Int32 × am_H) :=
  if x2 < 0 then f_Words_perform_22 h else f_Words_perform_17 h x1 x2 x3
def f_Words_perform_10 (h : am_H) (x1 : Int32) (x2 : Int32) (x3 : Int32) (y0 : Bool) : Option (Int32 × am_H) :=
  if y0 = true then f_Words_perform_13 h x1 x2 x3 else f_Words_perform_22 h
def f_Words_perform (h : am_H) (x1 : Int32) (x2 : Int32) (x3 : Int32) : Option (Int32 × am_H) :=
  f_Words_perform_10 (am_pI h 27 3 0) x1 x2 x3 (f_Words_hasWord (am_pI h 27 3 0) x1)
def f_Club_act_10 (h : am_H) (y0 : Int32) : Option (Int32 × am_H) :=
  some (y0, h)
def f_Club_act (h : am_H) (x1 : Int32) (x2 : Int32) (x3 : Int32) : Option (Int32 × am_H) :=
  (f_Words_perform h x1 x2 x3).bind fun p => f_Club_act_10 p.2 p.1
def f_Words_ranAt_19 (h : am_H) : Option (Int32) :=
  some (-1)
def f_Words_ranAt_10 (h : am_H) (x1 : Int32) : Option (Int32) :=
  if am_ok x1 24 = true then (some (h.1 29 x1.toNatClampNeg)) else none
def f_Words_ranAt_4 (h : am_H) (x1 : Int32) : Option (Int32) :=
  if 24 ≤ x1 then f_Words_ranAt_19 h else f_Words_ranAt_10 h x1
def f_Words_ranAt (h : am_H) (x1 : Int32) : Option (Int32) :=
  if x1 < 0 then f_Words_ranAt_19 h else f_Words_ranAt_4 h x1
def f_Words_ranKept (h : am_H) : Int32 :=
  (if 24 < (h.1 27 3) then 24 else (h.1 27 3))
def f_Club_trace_15 (h : am_H) : Option (Int32) :=
  some (-1)
def f_Club_trace_27 (h : am_H) (y0 : Int32) : Option (Int32) :=
  some y0
def f_Club_trace_19 (h : am_H) (x1 : Int32) : Option (Int32) :=
  (f_Words_ranAt h x1).bind fun p => f_Club_trace_27 h p
def f_Club_trace_12 (h : am_H) (x1 : Int32) (y1 : Int32) (y0 : Int32) : Option (Int32) :=
  if y0 < y1 then f_Club_trace_19 h x1 else f_Club_trace_15 h
def f_Club_trace_4 (h : am_H) (x1 : Int32) : Option (Int32) :=
  f_Club_trace_12 h x1 (f_Words_ranKept h) x1
def f_Club_trace (h : am_H) (x1 : Int32) : Option (Int32) :=
  if x1 < 0 then f_Club_trace_15 h else f_Club_trace_4 h x1
def f_Shelf_holdNothing (h : am_H) (a0 : Nat) : am_H :=
  am_pI (am_pI (am_pI h a0 1 (-1)) a0 2 (-1)) a0 3 0
def f_Shelf_holdWord_4 (h : am_H) (a0 : Nat) (x1 : Int32) : am_H :=
  am_pI h a0 1 x1
def f_Shelf_holdWord (h : am_H) (a0 : Nat) (x1 : Int32) : am_H :=
  f_Shelf_holdWord_4 (f_Shelf_holdNothing h a0) a0 x1
def f_Club_keep_23 (h : am_H) : Option (Int32 × am_H) :=
  some ((-1), h)
def f_Club_keep_52 (h : am_H) : Option (Int32 × am_H) :=
  some (1, h)
def f_Club_keep_42 (h : am_H) (x1 : Int32) (x2 : Int32) : Option (Int32 × am_H) :=
  if am_ok x1 6 = true then (f_Club_keep_52 (f_Shelf_holdWord h (am_shp x1) x2)) else none
def f_Club_keep_39 (h : am_H) : Option (Int32 × am_H) :=
  f_Club_keep_52 h
def f_Club_keep_30 (h : am_H) (x1 : Int32) : Option (Int32 × am_H) :=
  if am_ok x1 6 = true then (f_Club_keep_39 (f_Shelf_holdNothing h (am_shp x1))) else none
def f_Club_keep_25 (h : am_H) (x1 : Int32) (x2 : Int32) : Option (Int32 × am_H) :=
  if x2 = (-1) then f_Club_keep_30 h x1 else f_Club_keep_42 h x1 x2
def f_Club_keep_20 (h : am_H) (x1 : Int32) (x2 : Int32) (y0 : Bool) : Option (Int32 × am_H) :=
  if y0 = true then f_Club_keep_25 h x1 x2 else f_Club_keep_23 h
def f_Club_keep_12 (h : am_H) (x1 : Int32) (x2 : Int32) : Option (Int32 × am_H) :=
  f_Club_keep_20 h x1 x2 (f_Words_hasWord h x2)
def f_Club_keep_7 (h : am_H) (x1 : Int32) (x2 : Int32) : Option (Int32 × am_H) :=
  if x2 = (-1) then f_Club_keep_25 h x1 x2 else f_Club_keep_12 h x1 x2
def f_Club_keep_4 (h : am_H) (x1 : Int32) (x2 : Int32) (y0 : Bool) : Option (Int32 × am_H) :=
  if y0 = true then f_Club_keep_7 h x1 x2 else f_Club_keep_23 h
def f_Club_keep (h : am_H) (x1 : Int32) (x2 : Int32) : Option (Int32 × am_H) :=
  f_Club_keep_4 h x1 x2 (f_Club_isShelf x1)
def f_Shelf_holdRow_12 (h : am_H) (a0 : Nat) (x1 : Int32) (x2 : Int32) : Option (am_H) :=
  some (am_pI (am_pI h a0 2 x1) a0 3 (if (0 : Int32) < (if x2 < (60 : Int32) then x2 else (60 : Int32)) then (if x2 < (60 : Int32) then x2 else (60 : Int32)) else (0 : Int32)))
def f_Shelf_holdRow_4 (h : am_H) (a0 : Nat) (x1 : Int32) (x2 : Int32) : Option (am_H) :=
  (f_Arrays_fill_AJJ h (a0 + 1) 60 0).bind fun p => f_Shelf_holdRow_12 p a0 x1 x2
def f_Shelf_holdRow (h : am_H) (a0 : Nat) (x1 : Int32) (x2 : Int32) : Option (am_H) :=
  f_Shelf_holdRow_4 (f_Shelf_holdNothing h a0) a0 x1 x2
def f_Shelf_isSort_13  : Bool :=
  false
def f_Shelf_isSort_9  : Bool :=
  true
def f_Shelf_isSort_4 (x0 : Int32) : Bool :=
  if 4 < x0 then f_Shelf_isSort_13 else f_Shelf_isSort_9
def f_Shelf_isSort (x0 : Int32) : Bool :=
  if x0 < 0 then f_Shelf_isSort_13 else f_Shelf_isSort_4 x0
def f_Club_row_20 (h : am_H) : Option (Int32 × am_H) :=
  some ((-1), h)
def f_Club_row_40 (h : am_H) : Option (Int32 × am_H) :=
  some (1, h)
def f_Club_row_29 (h : am_H) (x1 : Int32) (x2 : Int32) (x3 : Int32) : Option (Int32 × am_H) :=
  if am_ok x1 6 = true then ((f_Shelf_holdRow h (am_shp x1) x2 x3).bind fun p => f_Club_row_40 p) else none
def f_Club_row_26 (h : am_H) : Option (Int32 × am_H) :=
  some ((-14), h)
def f_Club_row_22 (h : am_H) (x1 : Int32) (x2 : Int32) (x3 : Int32) : Option (Int32 × am_H) :=
  if 0 ≤ x3 then f_Club_row_29 h x1 x2 x3 else f_Club_row_26 h
def f_Club_row_14 (h : am_H) (x1 : Int32) (x2 : Int32) (x3 : Int32) : Option (Int32 × am_H) :=
  if x3 ≤ 60 then f_Club_row_22 h x1 x2 x3 else f_Club_row_20 h
def f_Club_row_11 (h : am_H) (x1 : Int32) (x2 : Int32) (x3 : Int32) (y0 : Bool) : Option (Int32 × am_H) :=
  if y0 = true then f_Club_row_14 h x1 x2 x3 else f_Club_row_20 h
def f_Club_row_7 (h : am_H) (x1 : Int32) (x2 : Int32) (x3 : Int32) : Option (Int32 × am_H) :=
  f_Club_row_11 h x1 x2 x3 (f_Shelf_isSort x2)
def f_Club_row_4 (h : am_H) (x1 : Int32) (x2 : Int32) (x3 : Int32) (y0 : Bool) : Option (Int32 × am_H) :=
  if y0 = true then f_Club_row_7 h x1 x2 x3 else f_Club_row_20 h
def f_Club_row (h : am_H) (x1 : Int32) (x2 : Int32) (x3 : Int32) : Option (Int32 × am_H) :=
  f_Club_row_4 h x1 x2 x3 (f_Club_isShelf x1)
def f_Shelf_isRow_12 (h : am_H) : Bool :=
  false
def f_Shelf_isRow_8 (h : am_H) : Bool :=
  true
def f_Shelf_isRow (h : am_H) (a0 : Nat) : Bool :=
  if (h.1 a0 2) = (-1) then f_Shelf_isRow_12 h else f_Shelf_isRow_8 h
def f_Club_refuseElement_49 (h : am_H) : Option (Int32) :=
  some (-13)
def f_Club_refuseElement_45 (h : am_H) : Option (Int32) :=
  some 0
def f_Club_refuseElement_42 (h : am_H) (y0 : Bool) : Option (Int32) :=
  if y0 = true then f_Club_refuseElement_45 h else f_Club_refuseElement_49 h
def f_Club_refuseElement_36 (h : am_H) (x2 : Int32) (a3 : Nat) : Option (Int32) :=
  f_Club_refuseElement_42 h (f_Shelf_hasPlaces h a3 x2 1)
def f_Club_refuseElement_33 (h : am_H) : Option (Int32) :=
  some (-12)
def f_Club_refuseElement_30 (h : am_H) (x2 : Int32) (a3 : Nat) (y0 : Bool) : Option (Int32) :=
  if y0 = true then f_Club_refuseElement_36 h x2 a3 else f_Club_refuseElement_33 h
def f_Club_refuseElement_26 (h : am_H) (x2 : Int32) (a3 : Nat) : Option (Int32) :=
  f_Club_refuseElement_30 h x2 a3 (f_Shelf_isRow h a3)
def f_Club_refuseElement_23 (h : am_H) : Option (Int32) :=
  some (-11)
def f_Club_refuseElement_20 (h : am_H) (x2 : Int32) (a3 : Nat) (y0 : Bool) : Option (Int32) :=
  if y0 = true then f_Club_refuseElement_23 h else f_Club_refuseElement_26 h x2 a3
def f_Club_refuseElement_9 (h : am_H) (x1 : Int32) (x2 : Int32) : Option (Int32) :=
  if am_ok x1 6 = true then (f_Club_refuseElement_20 h x2 (am_shp x1) (f_Shelf_isEmpty h (am_shp x1))) else none
def f_Club_refuseElement_7 (h : am_H) : Option (Int32) :=
  some (-1)
def f_Club_refuseElement_4 (h : am_H) (x1 : Int32) (x2 : Int32) (y0 : Bool) : Option (Int32) :=
  if y0 = true then f_Club_refuseElement_9 h x1 x2 else f_Club_refuseElement_7 h
def f_Club_refuseElement (h : am_H) (x1 : Int32) (x2 : Int32) : Option (Int32) :=
  f_Club_refuseElement_4 h x1 x2 (f_Club_isShelf x1)
def f_Shelf_lowestBits_40 (h : am_H) (x1 : Int64) : Int64 :=
  x1.toInt32.toInt8.toInt32.toInt64
def f_Shelf_lowestBits_45 (h : am_H) (x1 : Int64) : Int64 :=
  x1.toInt32.toInt16.toInt32.toInt64
def f_Shelf_lowestBits_50 (h : am_H) (x1 : Int64) : Int64 :=
  x1.toInt32.toInt64
def f_Shelf_lowestBits_66 (h : am_H) (x1 : Int64) : Int64 :=
  x1
def f_Shelf_lowestBits_64 (h : am_H) : Int64 :=
  0
def f_Shelf_lowestBits_60 (h : am_H) : Int64 :=
  1
def f_Shelf_lowestBits_54 (h : am_H) (x1 : Int64) : Int64 :=
  if x1 = 0 then f_Shelf_lowestBits_64 h else f_Shelf_lowestBits_60 h
def f_Shelf_lowestBits (h : am_H) (a0 : Nat) (x1 : Int64) : Int64 :=
  if (h.1 a0 2) = 0 then f_Shelf_lowestBits_40 h x1 else if (h.1 a0 2) = 1 then f_Shelf_lowestBits_45 h x1 else if (h.1 a0 2) = 2 then f_Shelf_lowestBits_50 h x1 else if (h.1 a0 2) = 3 then f_Shelf_lowestBits_66 h x1 else if (h.1 a0 2) = 4 then f_Shelf_lowestBits_54 h x1 else f_Shelf_lowestBits_66 h x1
def f_Shelf_write_29 (h : am_H) : Option (am_H) :=
  some h
def f_Shelf_write_28 (h : am_H) (y2 : Int64) (y1 : Int32) (b0 : Nat) (nb0 : Nat) : Option (am_H) :=
  if am_ok y1 nb0 = true then (some (am_pL h b0 y1.toNatClampNeg y2)) else none
def f_Shelf_write_18 (h : am_H) (a0 : Nat) (x1 : Int32) (x2 : Int64) : Option (am_H) :=
  f_Shelf_write_28 h (f_Shelf_lowestBits h a0 x2) x1 (a0 + 1) 60
def f_Shelf_write_12 (h : am_H) (a0 : Nat) (x1 : Int32) (x2 : Int64) : Option (am_H) :=
  if 60 ≤ x1 then f_Shelf_write_29 h else f_Shelf_write_18 h a0 x1 x2
def f_Shelf_write_4 (h : am_H) (a0 : Nat) (x1 : Int32) (x2 : Int64) : Option (am_H) :=
  if (h.1 a0 3) ≤ x1 then f_Shelf_write_29 h else f_Shelf_write_12 h a0 x1 x2
def f_Shelf_write (h : am_H) (a0 : Nat) (x1 : Int32) (x2 : Int64) : Option (am_H) :=
  if x1 < 0 then f_Shelf_write_29 h else f_Shelf_write_4 h a0 x1 x2
def f_Club_put_27 (h : am_H) : Option (Int32 × am_H) :=
  some (1, h)
def f_Club_put_16 (h : am_H) (x1 : Int32) (x2 : Int32) (x3 : Int64) : Option (Int32 × am_H) :=
  if am_ok x1 6 = true then ((f_Shelf_write h (am_shp x1) x2 x3).bind fun p => f_Club_put_27 p) else none
def f_Club_put_13 (h : am_H) (x5 : Int32) : Option (Int32 × am_H) :=
  some (x5, h)
def f_Club_put_6 (h : am_H) (x1 : Int32) (x2 : Int32) (x3 : Int64) (y0 : Int32) : Option (Int32 × am_H) :=
  if y0 = 0 then f_Club_put_16 h x1 x2 x3 else f_Club_put_13 h y0
def f_Club_put (h : am_H) (x1 : Int32) (x2 : Int32) (x3 : Int64) : Option (Int32 × am_H) :=
  (f_Club_refuseElement h x1 x2).bind fun p => f_Club_put_6 h x1 x2 x3 p
def f_Club_element_25 (h : am_H) (y0 : Int64) : Option (Int64) :=
  some y0
def f_Club_element_15 (h : am_H) (x1 : Int32) (x2 : Int32) : Option (Int64) :=
  if am_ok x1 6 = true then ((f_Shelf_read h (am_shp x1) x2).bind fun p => f_Club_element_25 h p) else none
def f_Club_element_9 (h : am_H) : Option (Int64) :=
  some (-9223372036854775808)
def f_Club_element_6 (h : am_H) (x1 : Int32) (x2 : Int32) (y0 : Int32) : Option (Int64) :=
  if y0 = 0 then f_Club_element_15 h x1 x2 else f_Club_element_9 h
def f_Club_element (h : am_H) (x1 : Int32) (x2 : Int32) : Option (Int64) :=
  (f_Club_refuseElement h x1 x2).bind fun p => f_Club_element_6 h x1 x2 p
def f_Shelf_copyFrom_35 (h : am_H) : Option (am_H) :=
  some h
def f_Shelf_copyFrom_20 (h : am_H) (a0 : Nat) (a1 : Nat) (x2 : Int32) (x3 : Int32) (x4 : Int32) : Option (am_H) :=
  if ¬ x2 < 0 then (if ¬ x3 < 0 then (if ¬ x4 < 0 then (if x2.toNatClampNeg + x4.toNatClampNeg ≤ 60 then (if x3.toNatClampNeg + x4.toNatClampNeg ≤ 60 then (f_Shelf_copyFrom_35 (am_cL h (a1 + 1) (a0 + 1) x2.toNatClampNeg x3.toNatClampNeg x4.toNatClampNeg)) else none) else none) else none) else none) else none
def f_Shelf_copyFrom_17 (h : am_H) (a0 : Nat) (a1 : Nat) (x2 : Int32) (x3 : Int32) (x4 : Int32) (y0 : Bool) : Option (am_H) :=
  if y0 = true then f_Shelf_copyFrom_20 h a0 a1 x2 x3 x4 else f_Shelf_copyFrom_35 h
def f_Shelf_copyFrom_10 (h : am_H) (a0 : Nat) (a1 : Nat) (x2 : Int32) (x3 : Int32) (x4 : Int32) : Option (am_H) :=
  f_Shelf_copyFrom_17 h a0 a1 x2 x3 x4 (f_Shelf_hasPlaces h a0 x3 x4)
def f_Shelf_copyFrom_7 (h : am_H) (a0 : Nat) (a1 : Nat) (x2 : Int32) (x3 : Int32) (x4 : Int32) (y0 : Bool) : Option (am_H) :=
  if y0 = true then f_Shelf_copyFrom_10 h a0 a1 x2 x3 x4 else f_Shelf_copyFrom_35 h
def f_Shelf_copyFrom (h : am_H) (a0 : Nat) (a1 : Nat) (x2 : Int32) (x3 : Int32) (x4 : Int32) : Option (am_H) :=
  f_Shelf_copyFrom_7 h a0 a1 x2 x3 x4 (f_Shelf_hasPlaces h a1 x2 x4)
def f_Shelf_sortHeld (h : am_H) (a0 : Nat) : Int32 :=
  (h.1 a0 2)
def f_Club_shift_14 (h : am_H) : Option (Int32 × am_H) :=
  some ((-1), h)
def f_Club_shift_48 (h : am_H) : Option (Int32 × am_H) :=
  some ((-11), h)
def f_Club_shift_80 (h : am_H) : Option (Int32 × am_H) :=
  some ((-12), h)
def f_Club_shift_106 (h : am_H) : Option (Int32 × am_H) :=
  some ((-13), h)
def f_Club_shift_121 (h : am_H) (x5 : Int32) : Option (Int32 × am_H) :=
  some (x5, h)
def f_Club_shift_109 (h : am_H) (x2 : Int32) (x4 : Int32) (x5 : Int32) (a6 : Nat) (a7 : Nat) : Option (Int32 × am_H) :=
  (f_Shelf_copyFrom h a7 a6 x2 x4 x5).bind fun p => f_Club_shift_121 p x5
def f_Club_shift_103 (h : am_H) (x2 : Int32) (x4 : Int32) (x5 : Int32) (a6 : Nat) (a7 : Nat) (y0 : Bool) : Option (Int32 × am_H) :=
  if y0 = true then f_Club_shift_109 h x2 x4 x5 a6 a7 else f_Club_shift_106 h
def f_Club_shift_94 (h : am_H) (x2 : Int32) (x4 : Int32) (x5 : Int32) (a6 : Nat) (a7 : Nat) : Option (Int32 × am_H) :=
  f_Club_shift_103 h x2 x4 x5 a6 a7 (f_Shelf_hasPlaces h a7 x4 x5)
def f_Club_shift_91 (h : am_H) (x2 : Int32) (x4 : Int32) (x5 : Int32) (a6 : Nat) (a7 : Nat) (y0 : Bool) : Option (Int32 × am_H) :=
  if y0 = true then f_Club_shift_94 h x2 x4 x5 a6 a7 else f_Club_shift_106 h
def f_Club_shift_83 (h : am_H) (x2 : Int32) (x4 : Int32) (x5 : Int32) (a6 : Nat) (a7 : Nat) : Option (Int32 × am_H) :=
  f_Club_shift_91 h x2 x4 x5 a6 a7 (f_Shelf_hasPlaces h a6 x2 x5)
def f_Club_shift_77 (h : am_H) (x2 : Int32) (x4 : Int32) (x5 : Int32) (a6 : Nat) (a7 : Nat) (y1 : Int32) (y0 : Int32) : Option (Int32 × am_H) :=
  if y0 = y1 then f_Club_shift_83 h x2 x4 x5 a6 a7 else f_Club_shift_80 h
def f_Club_shift_72 (h : am_H) (x2 : Int32) (x4 : Int32) (x5 : Int32) (a6 : Nat) (a7 : Nat) (y0 : Int32) : Option (Int32 × am_H) :=
  f_Club_shift_77 h x2 x4 x5 a6 a7 (f_Shelf_sortHeld h a7) y0
def f_Club_shift_67 (h : am_H) (x2 : Int32) (x4 : Int32) (x5 : Int32) (a6 : Nat) (a7 : Nat) : Option (Int32 × am_H) :=
  f_Club_shift_72 h x2 x4 x5 a6 a7 (f_Shelf_sortHeld h a6)
def f_Club_shift_64 (h : am_H) (x2 : Int32) (x4 : Int32) (x5 : Int32) (a6 : Nat) (a7 : Nat) (y0 : Bool) : Option (Int32 × am_H) :=
  if y0 = true then f_Club_shift_67 h x2 x4 x5 a6 a7 else f_Club_shift_80 h
def f_Club_shift_59 (h : am_H) (x2 : Int32) (x4 : Int32) (x5 : Int32) (a6 : Nat) (a7 : Nat) : Option (Int32 × am_H) :=
  f_Club_shift_64 h x2 x4 x5 a6 a7 (f_Shelf_isRow h a7)
def f_Club_shift_56 (h : am_H) (x2 : Int32) (x4 : Int32) (x5 : Int32) (a6 : Nat) (a7 : Nat) (y0 : Bool) : Option (Int32 × am_H) :=
  if y0 = true then f_Club_shift_59 h x2 x4 x5 a6 a7 else f_Club_shift_80 h
def f_Club_shift_51 (h : am_H) (x2 : Int32) (x4 : Int32) (x5 : Int32) (a6 : Nat) (a7 : Nat) : Option (Int32 × am_H) :=
  f_Club_shift_56 h x2 x4 x5 a6 a7 (f_Shelf_isRow h a6)
def f_Club_shift_45 (h : am_H) (x2 : Int32) (x4 : Int32) (x5 : Int32) (a6 : Nat) (a7 : Nat) (y0 : Bool) : Option (Int32 × am_H) :=
  if y0 = true then f_Club_shift_48 h else f_Club_shift_51 h x2 x4 x5 a6 a7
def f_Club_shift_40 (h : am_H) (x2 : Int32) (x4 : Int32) (x5 : Int32) (a6 : Nat) (a7 : Nat) : Option (Int32 × am_H) :=
  f_Club_shift_45 h x2 x4 x5 a6 a7 (f_Shelf_isEmpty h a7)
def f_Club_shift_37 (h : am_H) (x2 : Int32) (x4 : Int32) (x5 : Int32) (a6 : Nat) (a7 : Nat) (y0 : Bool) : Option (Int32 × am_H) :=
  if y0 = true then f_Club_shift_48 h else f_Club_shift_40 h x2 x4 x5 a6 a7
def f_Club_shift_16 (h : am_H) (x1 : Int32) (x2 : Int32) (x3 : Int32) (x4 : Int32) (x5 : Int32) : Option (Int32 × am_H) :=
  if am_ok x1 6 = true then (if am_ok x3 6 = true then (f_Club_shift_37 h x2 x4 x5 (am_shp x1) (am_shp x3) (f_Shelf_isEmpty h (am_shp x1))) else none) else none
def f_Club_shift_11 (h : am_H) (x1 : Int32) (x2 : Int32) (x3 : Int32) (x4 : Int32) (x5 : Int32) (y0 : Bool) : Option (Int32 × am_H) :=
  if y0 = true then f_Club_shift_16 h x1 x2 x3 x4 x5 else f_Club_shift_14 h
def f_Club_shift_7 (h : am_H) (x1 : Int32) (x2 : Int32) (x3 : Int32) (x4 : Int32) (x5 : Int32) : Option (Int32 × am_H) :=
  f_Club_shift_11 h x1 x2 x3 x4 x5 (f_Club_isShelf x3)
def f_Club_shift_4 (h : am_H) (x1 : Int32) (x2 : Int32) (x3 : Int32) (x4 : Int32) (x5 : Int32) (y0 : Bool) : Option (Int32 × am_H) :=
  if y0 = true then f_Club_shift_7 h x1 x2 x3 x4 x5 else f_Club_shift_14 h
def f_Club_shift (h : am_H) (x1 : Int32) (x2 : Int32) (x3 : Int32) (x4 : Int32) (x5 : Int32) : Option (Int32 × am_H) :=
  f_Club_shift_4 h x1 x2 x3 x4 x5 (f_Club_isShelf x1)
def f_Shelf_wordHeld (h : am_H) (a0 : Nat) : Int32 :=
  (h.1 a0 1)
def f_Words_isUnder_38  : Option (Bool) :=
  some false
def f_Words_isUnder_26 (k4 : Int32 → Int32 → Int32 → Option (Bool)) (x1 : Int32) (x2 : Int32) (x3 : Int32) : Option (Bool) :=
  if am_ok x2 8 = true then (k4 x1 (tv_ABOVE x2) (x3 + 1)) else none
def f_Words_isUnder_24  : Option (Bool) :=
  some true
def f_Words_isUnder_19 (k4 : Int32 → Int32 → Int32 → Option (Bool)) (x1 : Int32) (x2 : Int32) (x3 : Int32) : Option (Bool) :=
  if x2 = x1 then f_Words_isUnder_24 else f_Words_isUnder_26 k4 x1 x2 x3
def f_Words_isUnder_16 (k4 : Int32 → Int32 → Int32 → Option (Bool)) (x1 : Int32) (x2 : Int32) (x3 : Int32) (y0 : Bool) : Option (Bool) :=
  if y0 = true then f_Words_isUnder_19 k4 x1 x2 x3 else f_Words_isUnder_38
def f_Words_isUnder_12 (k4 : Int32 → Int32 → Int32 → Option (Bool)) (x1 : Int32) (x2 : Int32) (x3 : Int32) : Option (Bool) :=
  f_Words_isUnder_16 k4 x1 x2 x3 (f_Words_isKind x2)
def f_Words_isUnder_4 (k4 : Int32 → Int32 → Int32 → Option (Bool)) (x1 : Int32) (x2 : Int32) (x3 : Int32) : Option (Bool) :=
  if 8 ≤ x3 then f_Words_isUnder_38 else f_Words_isUnder_12 k4 x1 x2 x3
def f_Words_isUnder_4_l  : Nat → Int32 → Int32 → Int32 → Option (Bool)
  | 0 => fun _ _ _ => none
  | n + 1 => f_Words_isUnder_4 (f_Words_isUnder_4_l n)
def f_Words_isUnder (x0 : Int32) (x1 : Int32) : Option (Bool) :=
  f_Words_isUnder_4_l am_fu x1 x0 0
def f_Club_taken_14 (h : am_H) : Option (Int32) :=
  some (-1)
def f_Club_taken_70 (h : am_H) : Option (Int32) :=
  some (-12)
def f_Club_taken_65 (h : am_H) (x4 : Int32) : Option (Int32) :=
  some x4
def f_Club_taken_62 (h : am_H) (x4 : Int32) (y0 : Bool) : Option (Int32) :=
  if y0 = true then f_Club_taken_65 h x4 else f_Club_taken_70 h
def f_Club_taken_54 (h : am_H) (x2 : Int32) (y0 : Int32) : Option (Int32) :=
  (f_Words_isUnder y0 x2).bind fun p => f_Club_taken_62 h y0 p
def f_Club_taken_51 (h : am_H) (x2 : Int32) (y1 : Int32) : Option (Int32) :=
  (f_Words_kindOf h y1).bind fun p => f_Club_taken_54 h x2 p
def f_Club_taken_43 (h : am_H) (x2 : Int32) (a3 : Nat) : Option (Int32) :=
  f_Club_taken_51 h x2 (f_Shelf_wordHeld h a3)
def f_Club_taken_40 (h : am_H) : Option (Int32) :=
  some (-12)
def f_Club_taken_37 (h : am_H) (x2 : Int32) (a3 : Nat) (y0 : Bool) : Option (Int32) :=
  if y0 = true then f_Club_taken_40 h else f_Club_taken_43 h x2 a3
def f_Club_taken_33 (h : am_H) (x2 : Int32) (a3 : Nat) : Option (Int32) :=
  f_Club_taken_37 h x2 a3 (f_Shelf_isRow h a3)
def f_Club_taken_30 (h : am_H) : Option (Int32) :=
  some (-11)
def f_Club_taken_27 (h : am_H) (x2 : Int32) (a3 : Nat) (y0 : Bool) : Option (Int32) :=
  if y0 = true then f_Club_taken_30 h else f_Club_taken_33 h x2 a3
def f_Club_taken_16 (h : am_H) (x1 : Int32) (x2 : Int32) : Option (Int32) :=
  if am_ok x1 6 = true then (f_Club_taken_27 h x2 (am_shp x1) (f_Shelf_isEmpty h (am_shp x1))) else none
def f_Club_taken_11 (h : am_H) (x1 : Int32) (x2 : Int32) (y0 : Bool) : Option (Int32) :=
  if y0 = true then f_Club_taken_16 h x1 x2 else f_Club_taken_14 h
def f_Club_taken_7 (h : am_H) (x1 : Int32) (x2 : Int32) : Option (Int32) :=
  f_Club_taken_11 h x1 x2 (f_Words_isKind x2)
def f_Club_taken_4 (h : am_H) (x1 : Int32) (x2 : Int32) (y0 : Bool) : Option (Int32) :=
  if y0 = true then f_Club_taken_7 h x1 x2 else f_Club_taken_14 h
def f_Club_taken (h : am_H) (x1 : Int32) (x2 : Int32) : Option (Int32) :=
  f_Club_taken_4 h x1 x2 (f_Club_isShelf x1)
def f_Hole_greenCells_32 (h : am_H) (x1 : Int32) : Option (Int32) :=
  some x1
def f_Hole_greenCells_24 (k4 : Int32 → Int32 → Option (Int32)) (h : am_H) (x2 : Int32) (y1 : Int32) (y0 : Int32) : Option (Int32) :=
  k4 (y0 + y1) (x2 + 1)
def f_Hole_greenCells_23 (k4 : Int32 → Int32 → Option (Int32)) (h : am_H) (x2 : Int32) (y0 : Int32) : Option (Int32) :=
  f_Hole_greenCells_24 k4 h x2 0 y0
def f_Hole_greenCells_19 (k4 : Int32 → Int32 → Option (Int32)) (h : am_H) (x2 : Int32) (y0 : Int32) : Option (Int32) :=
  f_Hole_greenCells_24 k4 h x2 1 y0
def f_Hole_greenCells_16 (k4 : Int32 → Int32 → Option (Int32)) (h : am_H) (x2 : Int32) (y1 : Bool) (y0 : Int32) : Option (Int32) :=
  if y1 = true then f_Hole_greenCells_19 k4 h x2 y0 else f_Hole_greenCells_23 k4 h x2 y0
def f_Hole_greenCells_10 (k4 : Int32 → Int32 → Option (Int32)) (h : am_H) (x1 : Int32) (x2 : Int32) : Option (Int32) :=
  (f_Hole_isGreen h x2).bind fun p => f_Hole_greenCells_16 k4 h x2 p x1
def f_Hole_greenCells_4 (k4 : Int32 → Int32 → Option (Int32)) (h : am_H) (x1 : Int32) (x2 : Int32) : Option (Int32) :=
  if 31 ≤ x2 then f_Hole_greenCells_32 h x1 else f_Hole_greenCells_10 k4 h x1 x2
def f_Hole_greenCells_4_l (h : am_H) : Nat → Int32 → Int32 → Option (Int32)
  | 0 => fun _ _ => none
  | n + 1 => f_Hole_greenCells_4 (f_Hole_greenCells_4_l h n) h
def f_Hole_greenCells (h : am_H) : Option (Int32) :=
  f_Hole_greenCells_4_l h am_fu 0 0
def f_Hole_waterCells_32 (h : am_H) (x1 : Int32) : Option (Int32) :=
  some x1
def f_Hole_waterCells_24 (k4 : Int32 → Int32 → Option (Int32)) (h : am_H) (x2 : Int32) (y1 : Int32) (y0 : Int32) : Option (Int32) :=
  k4 (y0 + y1) (x2 + 1)
def f_Hole_waterCells_23 (k4 : Int32 → Int32 → Option (Int32)) (h : am_H) (x2 : Int32) (y0 : Int32) : Option (Int32) :=
  f_Hole_waterCells_24 k4 h x2 0 y0
def f_Hole_waterCells_19 (k4 : Int32 → Int32 → Option (Int32)) (h : am_H) (x2 : Int32) (y0 : Int32) : Option (Int32) :=
  f_Hole_waterCells_24 k4 h x2 1 y0
def f_Hole_waterCells_16 (k4 : Int32 → Int32 → Option (Int32)) (h : am_H) (x2 : Int32) (y1 : Bool) (y0 : Int32) : Option (Int32) :=
  if y1 = true then f_Hole_waterCells_19 k4 h x2 y0 else f_Hole_waterCells_23 k4 h x2 y0
def f_Hole_waterCells_10 (k4 : Int32 → Int32 → Option (Int32)) (h : am_H) (x1 : Int32) (x2 : Int32) : Option (Int32) :=
  (f_Hole_isWater h x2).bind fun p => f_Hole_waterCells_16 k4 h x2 p x1
def f_Hole_waterCells_4 (k4 : Int32 → Int32 → Option (Int32)) (h : am_H) (x1 : Int32) (x2 : Int32) : Option (Int32) :=
  if 31 ≤ x2 then f_Hole_waterCells_32 h x1 else f_Hole_waterCells_10 k4 h x1 x2
def f_Hole_waterCells_4_l (h : am_H) : Nat → Int32 → Int32 → Option (Int32)
  | 0 => fun _ _ => none
  | n + 1 => f_Hole_waterCells_4 (f_Hole_waterCells_4_l h n) h
def f_Hole_waterCells (h : am_H) : Option (Int32) :=
  f_Hole_waterCells_4_l h am_fu 0 0
def f_Law_tapeLength (h : am_H) : Int32 :=
  (h.1 6 5)
def f_Words_ranInAll (h : am_H) : Int32 :=
  (h.1 27 3)
def f_Words_wordsHeld (h : am_H) : Int32 :=
  (h.1 27 2)
def f_Club_count_51 (h : am_H) (y0 : Int32) : Option (Int32) :=
  some y0
def f_Club_count_44 (h : am_H) : Option (Int32) :=
  f_Club_count_51 h (f_Hole_clubsHeld h)
def f_Club_count_59 (h : am_H) (y0 : Int32) : Option (Int32) :=
  some y0
def f_Club_count_52 (h : am_H) : Option (Int32) :=
  (f_Hole_greenCells h).bind fun p => f_Club_count_59 h p
def f_Club_count_67 (h : am_H) (y0 : Int32) : Option (Int32) :=
  some y0
def f_Club_count_60 (h : am_H) : Option (Int32) :=
  (f_Hole_waterCells h).bind fun p => f_Club_count_67 h p
def f_Club_count_75 (h : am_H) (y0 : Int32) : Option (Int32) :=
  some y0
def f_Club_count_68 (h : am_H) : Option (Int32) :=
  f_Club_count_75 h (f_Law_tapeLength h)
def f_Club_count_83 (h : am_H) (y0 : Int32) : Option (Int32) :=
  some y0
def f_Club_count_76 (h : am_H) : Option (Int32) :=
  f_Club_count_83 h (f_Changes_toUndo h)
def f_Club_count_91 (h : am_H) (y0 : Int32) : Option (Int32) :=
  some y0
def f_Club_count_84 (h : am_H) : Option (Int32) :=
  f_Club_count_91 h (f_Words_wordsHeld h)
def f_Club_count_99 (h : am_H) (y0 : Int32) : Option (Int32) :=
  some y0
def f_Club_count_92 (h : am_H) : Option (Int32) :=
  f_Club_count_99 h (f_Words_ranInAll h)
def f_Club_count_100 (h : am_H) : Option (Int32) :=
  some (-1)
def f_Club_count (h : am_H) (x1 : Int32) : Option (Int32) :=
  if x1 = 0 then f_Club_count_44 h else if x1 = 1 then f_Club_count_52 h else if x1 = 2 then f_Club_count_60 h else if x1 = 3 then f_Club_count_68 h else if x1 = 4 then f_Club_count_76 h else if x1 = 5 then f_Club_count_84 h else if x1 = 6 then f_Club_count_92 h else f_Club_count_100 h
def f_Model_within_17  : Bool :=
  false
def f_Model_within_13  : Bool :=
  true
def f_Model_within_6 (x0 : Int64) (x4 : Int64) : Bool :=
  if x4 < x0 then f_Model_within_17 else f_Model_within_13
def f_Model_within (x0 : Int64) (x2 : Int64) (x4 : Int64) : Bool :=
  if x0 < x2 then f_Model_within_17 else f_Model_within_6 x0 x4
def f_Model_sizeOf_9 (x0 : Int32) : Int32 :=
  x0
def f_Model_sizeOf_4 (x0 : Int32) : Int32 :=
  (-x0)
def f_Model_sizeOf (x0 : Int32) : Int32 :=
  if 0 ≤ x0 then f_Model_sizeOf_9 x0 else f_Model_sizeOf_4 x0
def f_Model_becomes_97 (h : am_H) (x1 : Int32) (x2 : Int32) (x3 : Int32) : Option (Int32 × am_H) :=
  if am_ok (h.1 0 5) 40 = true then (if am_ok ((am_pI h 2 (h.1 0 5).toNatClampNeg x1).1 0 5) 40 = true then (if am_ok ((am_pI (am_pI h 2 (h.1 0 5).toNatClampNeg x1) 3 ((am_pI h 2 (h.1 0 5).toNatClampNeg x1).1 0 5).toNatClampNeg x3).1 0 5) 40 = true then (if am_ok x1 54 = true then (some (x3, am_pI (am_pI (am_pI (am_pI (am_pI (am_pI h 2 (h.1 0 5).toNatClampNeg x1) 3 ((am_pI h 2 (h.1 0 5).toNatClampNeg x1).1 0 5).toNatClampNeg x3) 4 ((am_pI (am_pI h 2 (h.1 0 5).toNatClampNeg x1) 3 ((am_pI h 2 (h.1 0 5).toNatClampNeg x1).1 0 5).toNatClampNeg x3).1 0 5).toNatClampNeg x2) 0 5 (((am_pI (am_pI (am_pI h 2 (h.1 0 5).toNatClampNeg x1) 3 ((am_pI h 2 (h.1 0 5).toNatClampNeg x1).1 0 5).toNatClampNeg x3) 4 ((am_pI (am_pI h 2 (h.1 0 5).toNatClampNeg x1) 3 ((am_pI h 2 (h.1 0 5).toNatClampNeg x1).1 0 5).toNatClampNeg x3).1 0 5).toNatClampNeg x2).1 0 5) + 1)) 0 4 ((am_pI (am_pI (am_pI (am_pI h 2 (h.1 0 5).toNatClampNeg x1) 3 ((am_pI h 2 (h.1 0 5).toNatClampNeg x1).1 0 5).toNatClampNeg x3) 4 ((am_pI (am_pI h 2 (h.1 0 5).toNatClampNeg x1) 3 ((am_pI h 2 (h.1 0 5).toNatClampNeg x1).1 0 5).toNatClampNeg x3).1 0 5).toNatClampNeg x2) 0 5 (((am_pI (am_pI (am_pI h 2 (h.1 0 5).toNatClampNeg x1) 3 ((am_pI h 2 (h.1 0 5).toNatClampNeg x1).1 0 5).toNatClampNeg x3) 4 ((am_pI (am_pI h 2 (h.1 0 5).toNatClampNeg x1) 3 ((am_pI h 2 (h.1 0 5).toNatClampNeg x1).1 0 5).toNatClampNeg x3).1 0 5).toNatClampNeg x2).1 0 5) + 1)).1 0 5)) 1 x1.toNatClampNeg x2)) else none) else none) else none) else none
def f_Model_becomes_87 (h : am_H) (x1 : Int32) (x2 : Int32) (x3 : Int32) : Option (Int32 × am_H) :=
  f_Model_becomes_97 (am_pI h 0 5 ((h.1 0 5) - 1)) x1 x2 x3
def f_Model_becomes_33 (k26 : am_H → Int32 → Int32 → Int32 → Int32 → Option (Int32 × am_H)) (h : am_H) (x1 : Int32) (x2 : Int32) (x3 : Int32) (x4 : Int32) : Option (Int32 × am_H) :=
  if am_ok x4 40 = true then (if am_ok (x4 - 1) 40 = true then (k26 (am_pI (am_pI (am_pI h 2 (x4 - 1).toNatClampNeg (h.1 2 x4.toNatClampNeg)) 3 (x4 - 1).toNatClampNeg ((am_pI h 2 (x4 - 1).toNatClampNeg (h.1 2 x4.toNatClampNeg)).1 3 x4.toNatClampNeg)) 4 (x4 - 1).toNatClampNeg ((am_pI (am_pI h 2 (x4 - 1).toNatClampNeg (h.1 2 x4.toNatClampNeg)) 3 (x4 - 1).toNatClampNeg ((am_pI h 2 (x4 - 1).toNatClampNeg (h.1 2 x4.toNatClampNeg)).1 3 x4.toNatClampNeg)).1 4 x4.toNatClampNeg)) x1 x2 x3 (x4 + 1)) else none) else none
def f_Model_becomes_26 (k26 : am_H → Int32 → Int32 → Int32 → Int32 → Option (Int32 × am_H)) (h : am_H) (x1 : Int32) (x2 : Int32) (x3 : Int32) (x4 : Int32) : Option (Int32 × am_H) :=
  if 40 ≤ x4 then f_Model_becomes_87 h x1 x2 x3 else f_Model_becomes_33 k26 h x1 x2 x3 x4
def f_Model_becomes_26_l  : Nat → am_H → Int32 → Int32 → Int32 → Int32 → Option (Int32 × am_H)
  | 0 => fun _ _ _ _ _ => none
  | n + 1 => f_Model_becomes_26 (f_Model_becomes_26_l n)
def f_Model_becomes_23 (h : am_H) (x1 : Int32) (x2 : Int32) (x3 : Int32) : Option (Int32 × am_H) :=
  f_Model_becomes_26_l am_fu h x1 x2 x3 1
def f_Model_becomes_14 (h : am_H) (x1 : Int32) (x2 : Int32) (x3 : Int32) : Option (Int32 × am_H) :=
  if (h.1 0 5) = 40 then f_Model_becomes_23 h x1 x2 x3 else f_Model_becomes_97 h x1 x2 x3
def f_Model_becomes_12 (h : am_H) (x3 : Int32) : Option (Int32 × am_H) :=
  some (x3, h)
def f_Model_becomes (h : am_H) (x1 : Int32) (x2 : Int32) : Option (Int32 × am_H) :=
  if am_ok x1 54 = true then (if (h.1 1 x1.toNatClampNeg) = x2 then f_Model_becomes_12 h (h.1 1 x1.toNatClampNeg) else f_Model_becomes_14 h x1 x2 (h.1 1 x1.toNatClampNeg)) else none
def f_Model_undo_10 (h : am_H) : Option (Int32 × am_H) :=
  if am_ok ((am_pI h 0 5 ((h.1 0 5) - 1)).1 0 5) 40 = true then (if am_ok ((am_pI h 0 5 ((h.1 0 5) - 1)).1 2 ((am_pI h 0 5 ((h.1 0 5) - 1)).1 0 5).toNatClampNeg) 54 = true then (some (((am_pI (am_pI h 0 5 ((h.1 0 5) - 1)) 1 ((am_pI h 0 5 ((h.1 0 5) - 1)).1 2 ((am_pI h 0 5 ((h.1 0 5) - 1)).1 0 5).toNatClampNeg).toNatClampNeg ((am_pI h 0 5 ((h.1 0 5) - 1)).1 3 ((am_pI h 0 5 ((h.1 0 5) - 1)).1 0 5).toNatClampNeg)).1 0 5), am_pI (am_pI h 0 5 ((h.1 0 5) - 1)) 1 ((am_pI h 0 5 ((h.1 0 5) - 1)).1 2 ((am_pI h 0 5 ((h.1 0 5) - 1)).1 0 5).toNatClampNeg).toNatClampNeg ((am_pI h 0 5 ((h.1 0 5) - 1)).1 3 ((am_pI h 0 5 ((h.1 0 5) - 1)).1 0 5).toNatClampNeg))) else none) else none
def f_Model_undo_7 (h : am_H) : Option (Int32 × am_H) :=
  some ((-5), h)
def f_Model_undo (h : am_H) : Option (Int32 × am_H) :=
  if (h.1 0 5) = 0 then f_Model_undo_7 h else f_Model_undo_10 h
def f_Model_redo_14 (h : am_H) : Option (Int32 × am_H) :=
  if am_ok (h.1 0 5) 40 = true then (if am_ok (h.1 2 (h.1 0 5).toNatClampNeg) 54 = true then (some ((((am_pI (am_pI h 1 (h.1 2 (h.1 0 5).toNatClampNeg).toNatClampNeg (h.1 4 (h.1 0 5).toNatClampNeg)) 0 5 (((am_pI h 1 (h.1 2 (h.1 0 5).toNatClampNeg).toNatClampNeg (h.1 4 (h.1 0 5).toNatClampNeg)).1 0 5) + 1)).1 0 4) - ((am_pI (am_pI h 1 (h.1 2 (h.1 0 5).toNatClampNeg).toNatClampNeg (h.1 4 (h.1 0 5).toNatClampNeg)) 0 5 (((am_pI h 1 (h.1 2 (h.1 0 5).toNatClampNeg).toNatClampNeg (h.1 4 (h.1 0 5).toNatClampNeg)).1 0 5) + 1)).1 0 5)), am_pI (am_pI h 1 (h.1 2 (h.1 0 5).toNatClampNeg).toNatClampNeg (h.1 4 (h.1 0 5).toNatClampNeg)) 0 5 (((am_pI h 1 (h.1 2 (h.1 0 5).toNatClampNeg).toNatClampNeg (h.1 4 (h.1 0 5).toNatClampNeg)).1 0 5) + 1))) else none) else none
def f_Model_redo_11 (h : am_H) : Option (Int32 × am_H) :=
  some ((-5), h)
def f_Model_redo (h : am_H) : Option (Int32 × am_H) :=
  if (h.1 0 5) = (h.1 0 4) then f_Model_redo_11 h else f_Model_redo_14 h
def f_Model_isClub_12 (h : am_H) (y0 : Bool) : Bool :=
  y0
def f_Model_isClub (h : am_H) (x1 : Int64) : Bool :=
  f_Model_isClub_12 h (f_Model_within x1 0 (((h.1 0 6) - 1).toInt64))
def f_Model_isCell_8 (y0 : Bool) : Bool :=
  y0
def f_Model_isCell (x0 : Int64) : Bool :=
  f_Model_isCell_8 (f_Model_within x0 0 30)
def f_Model_isGreen_21 (h : am_H) : Option (Bool) :=
  some true
def f_Model_isGreen_25 (h : am_H) : Option (Bool) :=
  some false
def f_Model_isGreen_10 (h : am_H) (x1 : Int32) : Option (Bool) :=
  if x1 = (h.1 1 (49 : Int32).toNatClampNeg) then f_Model_isGreen_21 h else f_Model_isGreen_25 h
def f_Model_isGreen (h : am_H) (x1 : Int32) : Option (Bool) :=
  if am_ok x1 54 = true then (if (h.1 1 x1.toNatClampNeg) = 4 then f_Model_isGreen_21 h else f_Model_isGreen_10 h x1) else none
def f_Model_isWater_22 (h : am_H) : Option (Bool) :=
  some false
def f_Model_isWater_18 (h : am_H) : Option (Bool) :=
  some true
def f_Model_isWater_15 (h : am_H) (y0 : Bool) : Option (Bool) :=
  if y0 = true then f_Model_isWater_22 h else f_Model_isWater_18 h
def f_Model_isWater_10 (h : am_H) (x1 : Int32) : Option (Bool) :=
  (f_Model_isGreen h x1).bind fun p => f_Model_isWater_15 h p
def f_Model_isWater (h : am_H) (x1 : Int32) : Option (Bool) :=
  if am_ok x1 54 = true then (if (h.1 1 x1.toNatClampNeg) = 3 then f_Model_isWater_10 h x1 else f_Model_isWater_22 h) else none
def f_Model_adds (h : am_H) (x1 : Int32) (x2 : Int32) (x3 : Int32) : Option (am_H) :=
  if am_ok (31 + (h.1 0 6)) 54 = true then (if am_ok (37 + ((am_pI h 1 (31 + (h.1 0 6)).toNatClampNeg x1).1 0 6)) 54 = true then (if am_ok (43 + ((am_pI (am_pI h 1 (31 + (h.1 0 6)).toNatClampNeg x1) 1 (37 + ((am_pI h 1 (31 + (h.1 0 6)).toNatClampNeg x1).1 0 6)).toNatClampNeg x2).1 0 6)) 54 = true then (some (am_pI (am_pI (am_pI (am_pI h 1 (31 + (h.1 0 6)).toNatClampNeg x1) 1 (37 + ((am_pI h 1 (31 + (h.1 0 6)).toNatClampNeg x1).1 0 6)).toNatClampNeg x2) 1 (43 + ((am_pI (am_pI h 1 (31 + (h.1 0 6)).toNatClampNeg x1) 1 (37 + ((am_pI h 1 (31 + (h.1 0 6)).toNatClampNeg x1).1 0 6)).toNatClampNeg x2).1 0 6)).toNatClampNeg x3) 0 6 (((am_pI (am_pI (am_pI h 1 (31 + (h.1 0 6)).toNatClampNeg x1) 1 (37 + ((am_pI h 1 (31 + (h.1 0 6)).toNatClampNeg x1).1 0 6)).toNatClampNeg x2) 1 (43 + ((am_pI (am_pI h 1 (31 + (h.1 0 6)).toNatClampNeg x1) 1 (37 + ((am_pI h 1 (31 + (h.1 0 6)).toNatClampNeg x1).1 0 6)).toNatClampNeg x2).1 0 6)).toNatClampNeg x3).1 0 6) + 1))) else none) else none) else none
def f_Model_isOne_26  : Bool :=
  false
def f_Model_isOne_22  : Bool :=
  true
def f_Model_isOne_19 (y0 : Bool) : Bool :=
  if y0 = true then f_Model_isOne_22 else f_Model_isOne_26
def f_Model_isOne_11 (x2 : Int64) : Bool :=
  f_Model_isOne_19 (f_Model_within x2 0 3)
def f_Model_isOne_8 (x2 : Int64) (y0 : Bool) : Bool :=
  if y0 = true then f_Model_isOne_11 x2 else f_Model_isOne_26
def f_Model_isOne (x0 : Int64) (x2 : Int64) : Bool :=
  f_Model_isOne_8 x2 (f_Model_within x0 0 30)
def f_Model_club_20 (h : am_H) : Option (Int32 × am_H) :=
  some ((-1), h)
def f_Model_club_47 (h : am_H) : Option (Int32 × am_H) :=
  some (((h.1 0 6) - 1), h)
def f_Model_club_34 (h : am_H) (x1 : Int32) : Option (Int32 × am_H) :=
  (f_Model_adds h (x1 / 10) (x1 - x1 / 10 * 10) 1).bind fun p => f_Model_club_47 p
def f_Model_club_31 (h : am_H) : Option (Int32 × am_H) :=
  some ((-3), h)
def f_Model_club_22 (h : am_H) (x1 : Int32) : Option (Int32 × am_H) :=
  if (h.1 0 6) = 6 then f_Model_club_31 h else f_Model_club_34 h x1
def f_Model_club_17 (h : am_H) (x1 : Int32) (y0 : Bool) : Option (Int32 × am_H) :=
  if y0 = true then f_Model_club_22 h x1 else f_Model_club_20 h
def f_Model_club_4 (h : am_H) (x1 : Int32) : Option (Int32 × am_H) :=
  f_Model_club_17 h x1 (f_Model_isOne ((x1 / 10).toInt64) ((x1 - x1 / 10 * 10).toInt64))
def f_Model_club (h : am_H) (x1 : Int32) : Option (Int32 × am_H) :=
  if x1 < 0 then f_Model_club_20 h else f_Model_club_4 h x1
def f_Model_isShelf_9 (y0 : Bool) : Bool :=
  y0
def f_Model_isShelf (x0 : Int32) : Bool :=
  f_Model_isShelf_9 (f_Model_within x0.toInt64 0 5)
def f_Model_clubs_19 (h : am_H) : Option (Int32 × am_H) :=
  some ((-1), h)
def f_Model_clubs_222 (h : am_H) (x4 : Int32) : Option (Int32 × am_H) :=
  some (x4, h)
def f_Model_clubs_219 (k69 : am_H → Int32 → Int32 → Int32 → Int32 → Int32 → Option (Int32 × am_H)) (h : am_H) (x1 : Int32) (x2 : Int32) (x3 : Int32) (x4 : Int32) (x5 : Int32) : Option (Int32 × am_H) :=
  k69 h x1 x2 x3 x4 x5
def f_Model_clubs_216 (k69 : am_H → Int32 → Int32 → Int32 → Int32 → Int32 → Option (Int32 × am_H)) (h : am_H) (x1 : Int32) (x2 : Int32) (x3 : Int32) (x4 : Int32) (x5 : Int32) : Option (Int32 × am_H) :=
  f_Model_clubs_219 k69 h x1 x2 x3 (x4 + 1) x5
def f_Model_clubs_184 (k69 : am_H → Int32 → Int32 → Int32 → Int32 → Int32 → Option (Int32 × am_H)) (h : am_H) (x1 : Int32) (x2 : Int32) (x3 : Int32) (x4 : Int32) (x5 : Int32) (x6 : Int32) : Option (Int32 × am_H) :=
  if am_ok x6 360 = true then (if am_ok (x6 + 1) 360 = true then (if am_ok (x6 + 2) 360 = true then ((f_Model_adds h ((h.2 18 x6.toNatClampNeg).toInt32) ((h.2 18 (x6 + 1).toNatClampNeg).toInt32) ((h.2 18 (x6 + 2).toNatClampNeg).toInt32)).bind fun p => f_Model_clubs_216 k69 p x1 x2 x3 x4 x5) else none) else none) else none
def f_Model_clubs_177 (k69 : am_H → Int32 → Int32 → Int32 → Int32 → Int32 → Option (Int32 × am_H)) (h : am_H) (x1 : Int32) (x2 : Int32) (x3 : Int32) (x4 : Int32) (x6 : Int32) (y0 : Int32) : Option (Int32 × am_H) :=
  if y0 = 0 then f_Model_clubs_219 k69 h x1 x2 x3 x4 y0 else f_Model_clubs_184 k69 h x1 x2 x3 x4 y0 x6
def f_Model_clubs_176 (k69 : am_H → Int32 → Int32 → Int32 → Int32 → Int32 → Option (Int32 × am_H)) (h : am_H) (x1 : Int32) (x2 : Int32) (x3 : Int32) (x4 : Int32) (x6 : Int32) : Option (Int32 × am_H) :=
  f_Model_clubs_177 k69 h x1 x2 x3 x4 x6 0
def f_Model_clubs_172 (k69 : am_H → Int32 → Int32 → Int32 → Int32 → Int32 → Option (Int32 × am_H)) (h : am_H) (x1 : Int32) (x2 : Int32) (x3 : Int32) (x4 : Int32) (x6 : Int32) : Option (Int32 × am_H) :=
  f_Model_clubs_177 k69 h x1 x2 x3 x4 x6 1
def f_Model_clubs_169 (k69 : am_H → Int32 → Int32 → Int32 → Int32 → Int32 → Option (Int32 × am_H)) (h : am_H) (x1 : Int32) (x2 : Int32) (x3 : Int32) (x4 : Int32) (x6 : Int32) (y0 : Bool) : Option (Int32 × am_H) :=
  if y0 = true then f_Model_clubs_172 k69 h x1 x2 x3 x4 x6 else f_Model_clubs_176 k69 h x1 x2 x3 x4 x6
def f_Model_clubs_153 (k69 : am_H → Int32 → Int32 → Int32 → Int32 → Int32 → Option (Int32 × am_H)) (h : am_H) (x1 : Int32) (x2 : Int32) (x3 : Int32) (x4 : Int32) (x6 : Int32) : Option (Int32 × am_H) :=
  if am_ok (x6 + 2) 360 = true then (f_Model_clubs_169 k69 h x1 x2 x3 x4 x6 (f_Model_within (h.2 18 (x6 + 2).toNatClampNeg) 0 9)) else none
def f_Model_clubs_150 (k69 : am_H → Int32 → Int32 → Int32 → Int32 → Int32 → Option (Int32 × am_H)) (h : am_H) (x1 : Int32) (x2 : Int32) (x3 : Int32) (x4 : Int32) (x6 : Int32) (y0 : Bool) : Option (Int32 × am_H) :=
  if y0 = true then f_Model_clubs_153 k69 h x1 x2 x3 x4 x6 else f_Model_clubs_176 k69 h x1 x2 x3 x4 x6
def f_Model_clubs_131 (k69 : am_H → Int32 → Int32 → Int32 → Int32 → Int32 → Option (Int32 × am_H)) (h : am_H) (x1 : Int32) (x2 : Int32) (x3 : Int32) (x4 : Int32) (x6 : Int32) : Option (Int32 × am_H) :=
  if am_ok x6 360 = true then (if am_ok (x6 + 1) 360 = true then (f_Model_clubs_150 k69 h x1 x2 x3 x4 x6 (f_Model_isOne (h.2 18 x6.toNatClampNeg) (h.2 18 (x6 + 1).toNatClampNeg))) else none) else none
def f_Model_clubs_111 (k69 : am_H → Int32 → Int32 → Int32 → Int32 → Int32 → Option (Int32 × am_H)) (h : am_H) (x1 : Int32) (x2 : Int32) (x3 : Int32) (x4 : Int32) (y0 : Int32) : Option (Int32 × am_H) :=
  if y0 = 0 then f_Model_clubs_176 k69 h x1 x2 x3 x4 (((60 * x1) + x2) + (3 * x4)) else f_Model_clubs_131 k69 h x1 x2 x3 x4 (((60 * x1) + x2) + (3 * x4))
def f_Model_clubs_110 (k69 : am_H → Int32 → Int32 → Int32 → Int32 → Int32 → Option (Int32 × am_H)) (h : am_H) (x1 : Int32) (x2 : Int32) (x3 : Int32) (x4 : Int32) : Option (Int32 × am_H) :=
  f_Model_clubs_111 k69 h x1 x2 x3 x4 0
def f_Model_clubs_106 (k69 : am_H → Int32 → Int32 → Int32 → Int32 → Int32 → Option (Int32 × am_H)) (h : am_H) (x1 : Int32) (x2 : Int32) (x3 : Int32) (x4 : Int32) : Option (Int32 × am_H) :=
  f_Model_clubs_111 k69 h x1 x2 x3 x4 1
def f_Model_clubs_97 (k69 : am_H → Int32 → Int32 → Int32 → Int32 → Int32 → Option (Int32 × am_H)) (h : am_H) (x1 : Int32) (x2 : Int32) (x3 : Int32) (x4 : Int32) : Option (Int32 × am_H) :=
  if 6 ≤ (h.1 0 6) then f_Model_clubs_110 k69 h x1 x2 x3 x4 else f_Model_clubs_106 k69 h x1 x2 x3 x4
def f_Model_clubs_80 (k69 : am_H → Int32 → Int32 → Int32 → Int32 → Int32 → Option (Int32 × am_H)) (h : am_H) (x1 : Int32) (x2 : Int32) (x3 : Int32) (x4 : Int32) : Option (Int32 × am_H) :=
  if am_ok x1 6 = true then (if (((h.1 17 x1.toNatClampNeg) - 3) - (3 * x4)) < x2 then f_Model_clubs_110 k69 h x1 x2 x3 x4 else f_Model_clubs_97 k69 h x1 x2 x3 x4) else none
def f_Model_clubs_74 (k69 : am_H → Int32 → Int32 → Int32 → Int32 → Int32 → Option (Int32 × am_H)) (h : am_H) (x1 : Int32) (x2 : Int32) (x3 : Int32) (x4 : Int32) : Option (Int32 × am_H) :=
  if x3 ≤ x4 then f_Model_clubs_222 h x4 else f_Model_clubs_80 k69 h x1 x2 x3 x4
def f_Model_clubs_69 (k69 : am_H → Int32 → Int32 → Int32 → Int32 → Int32 → Option (Int32 × am_H)) (h : am_H) (x1 : Int32) (x2 : Int32) (x3 : Int32) (x4 : Int32) (x5 : Int32) : Option (Int32 × am_H) :=
  if x5 = 0 then f_Model_clubs_222 h x4 else f_Model_clubs_74 k69 h x1 x2 x3 x4
def f_Model_clubs_69_l  : Nat → am_H → Int32 → Int32 → Int32 → Int32 → Int32 → Option (Int32 × am_H)
  | 0 => fun _ _ _ _ _ _ => none
  | n + 1 => f_Model_clubs_69 (f_Model_clubs_69_l n)
def f_Model_clubs_67 (h : am_H) (x1 : Int32) (x2 : Int32) (x3 : Int32) (x4 : Int32) (y0 : Int32) : Option (Int32 × am_H) :=
  f_Model_clubs_69_l am_fu h x1 x2 x3 x4 y0
def f_Model_clubs_66 (h : am_H) (x1 : Int32) (x2 : Int32) (x3 : Int32) (x4 : Int32) : Option (Int32 × am_H) :=
  f_Model_clubs_67 h x1 x2 x3 x4 0
def f_Model_clubs_62 (h : am_H) (x1 : Int32) (x2 : Int32) (x3 : Int32) (x4 : Int32) : Option (Int32 × am_H) :=
  f_Model_clubs_67 h x1 x2 x3 x4 1
def f_Model_clubs_58 (h : am_H) (x1 : Int32) (x2 : Int32) (x3 : Int32) (x4 : Int32) : Option (Int32 × am_H) :=
  if x2 < 0 then f_Model_clubs_66 h x1 x2 x3 x4 else f_Model_clubs_62 h x1 x2 x3 x4
def f_Model_clubs_44 (h : am_H) (x1 : Int32) (x2 : Int32) (x3 : Int32) : Option (Int32 × am_H) :=
  if am_ok x1 6 = true then (if (h.1 16 x1.toNatClampNeg) = 50 then f_Model_clubs_58 h x1 x2 x3 0 else f_Model_clubs_66 h x1 x2 x3 0) else none
def f_Model_clubs_41 (h : am_H) : Option (Int32 × am_H) :=
  some ((-12), h)
def f_Model_clubs_30 (h : am_H) (x1 : Int32) (x2 : Int32) (x3 : Int32) : Option (Int32 × am_H) :=
  if am_ok x1 6 = true then (if (h.1 16 x1.toNatClampNeg) = 50 then f_Model_clubs_44 h x1 x2 x3 else f_Model_clubs_41 h) else none
def f_Model_clubs_21 (h : am_H) (x1 : Int32) (x2 : Int32) (x3 : Int32) : Option (Int32 × am_H) :=
  if am_ok x1 6 = true then (if (h.1 16 x1.toNatClampNeg) < 0 then f_Model_clubs_44 h x1 x2 x3 else f_Model_clubs_30 h x1 x2 x3) else none
def f_Model_clubs_16 (h : am_H) (x1 : Int32) (x2 : Int32) (x3 : Int32) (y0 : Bool) : Option (Int32 × am_H) :=
  if y0 = true then f_Model_clubs_21 h x1 x2 x3 else f_Model_clubs_19 h
def f_Model_clubs_7 (h : am_H) (x1 : Int32) (x2 : Int32) (x3 : Int32) : Option (Int32 × am_H) :=
  f_Model_clubs_16 h x1 x2 x3 (f_Model_within x3.toInt64 1 6)
def f_Model_clubs_4 (h : am_H) (x1 : Int32) (x2 : Int32) (x3 : Int32) (y0 : Bool) : Option (Int32 × am_H) :=
  if y0 = true then f_Model_clubs_7 h x1 x2 x3 else f_Model_clubs_19 h
def f_Model_clubs (h : am_H) (x1 : Int32) (x2 : Int32) (x3 : Int32) : Option (Int32 × am_H) :=
  f_Model_clubs_4 h x1 x2 x3 (f_Model_isShelf x1)
def f_Model_placeOf_82 (h : am_H) : Int32 :=
  (-1)
def f_Model_placeOf_73 (h : am_H) (x2 : Int32) : Int32 :=
  ((49 + x2) - 4)
def f_Model_placeOf_70 (h : am_H) (x2 : Int32) (y0 : Bool) : Int32 :=
  if y0 = true then f_Model_placeOf_73 h x2 else f_Model_placeOf_82 h
def f_Model_placeOf_59 (h : am_H) (x2 : Int32) : Int32 :=
  f_Model_placeOf_70 h x2 (f_Model_within x2.toInt64 4 8)
def f_Model_placeOf_55 (h : am_H) (x1 : Int32) (x2 : Int32) : Int32 :=
  if x1 = 0 then f_Model_placeOf_59 h x2 else f_Model_placeOf_82 h
def f_Model_placeOf_53 (h : am_H) : Int32 :=
  (-1)
def f_Model_placeOf_39 (h : am_H) (x1 : Int32) (x2 : Int32) : Int32 :=
  ((31 + (6 * (x2 - 1))) + x1)
def f_Model_placeOf_36 (h : am_H) (x1 : Int32) (x2 : Int32) (y0 : Bool) : Int32 :=
  if y0 = true then f_Model_placeOf_39 h x1 x2 else f_Model_placeOf_53 h
def f_Model_placeOf_30 (h : am_H) (x1 : Int32) (x2 : Int32) : Int32 :=
  f_Model_placeOf_36 h x1 x2 (f_Model_isClub h x1.toInt64)
def f_Model_placeOf_27 (h : am_H) (x1 : Int32) (x2 : Int32) (y0 : Bool) : Int32 :=
  if y0 = true then f_Model_placeOf_30 h x1 x2 else f_Model_placeOf_55 h x1 x2
def f_Model_placeOf_18 (h : am_H) (x1 : Int32) (x2 : Int32) : Int32 :=
  f_Model_placeOf_27 h x1 x2 (f_Model_within x2.toInt64 1 3)
def f_Model_placeOf_16 (h : am_H) : Int32 :=
  (-1)
def f_Model_placeOf_12 (h : am_H) (x1 : Int32) : Int32 :=
  x1
def f_Model_placeOf_9 (h : am_H) (x1 : Int32) (y0 : Bool) : Int32 :=
  if y0 = true then f_Model_placeOf_12 h x1 else f_Model_placeOf_16 h
def f_Model_placeOf_4 (h : am_H) (x1 : Int32) : Int32 :=
  f_Model_placeOf_9 h x1 (f_Model_isCell x1.toInt64)
def f_Model_placeOf (h : am_H) (x1 : Int32) (x2 : Int32) : Int32 :=
  if x2 = 0 then f_Model_placeOf_4 h x1 else f_Model_placeOf_18 h x1 x2
def f_Model_mayBecome_57 (h : am_H) (y0 : Bool) : Bool :=
  y0
def f_Model_mayBecome_48 (h : am_H) (x2 : Int32) : Bool :=
  f_Model_mayBecome_57 h (f_Model_within x2.toInt64 0 4)
def f_Model_mayBecome_67 (h : am_H) (y0 : Bool) : Bool :=
  y0
def f_Model_mayBecome_58 (h : am_H) (x2 : Int32) : Bool :=
  f_Model_mayBecome_67 h (f_Model_within x2.toInt64 0 30)
def f_Model_mayBecome_77 (h : am_H) (y0 : Bool) : Bool :=
  y0
def f_Model_mayBecome_68 (h : am_H) (x2 : Int32) : Bool :=
  f_Model_mayBecome_77 h (f_Model_within x2.toInt64 0 3)
def f_Model_mayBecome_87 (h : am_H) (y0 : Bool) : Bool :=
  y0
def f_Model_mayBecome_78 (h : am_H) (x2 : Int32) : Bool :=
  f_Model_mayBecome_87 h (f_Model_within x2.toInt64 0 9)
def f_Model_mayBecome_97 (h : am_H) (y0 : Bool) : Bool :=
  y0
def f_Model_mayBecome_88 (h : am_H) (x2 : Int32) : Bool :=
  f_Model_mayBecome_97 h (f_Model_within x2.toInt64 1 29)
def f_Model_mayBecome_109 (h : am_H) (y0 : Bool) : Bool :=
  y0
def f_Model_mayBecome_98 (h : am_H) (x2 : Int32) : Bool :=
  f_Model_mayBecome_109 h (f_Model_within x2.toInt64 (-3) 3)
def f_Model_mayBecome_119 (h : am_H) (y0 : Bool) : Bool :=
  y0
def f_Model_mayBecome_110 (h : am_H) (x2 : Int32) : Bool :=
  f_Model_mayBecome_119 h (f_Model_within x2.toInt64 0 12)
def f_Model_mayBecome_137 (h : am_H) (y0 : Bool) : Bool :=
  y0
def f_Model_mayBecome_120 (h : am_H) (x2 : Int32) : Bool :=
  f_Model_mayBecome_137 h (f_Model_within x2.toInt64 0 ((12 - (h.1 1 (53 : Int32).toNatClampNeg)).toInt64))
def f_Model_mayBecome_155 (h : am_H) (y0 : Bool) : Bool :=
  y0
def f_Model_mayBecome_138 (h : am_H) (x2 : Int32) : Bool :=
  f_Model_mayBecome_155 h (f_Model_within x2.toInt64 0 ((12 - (h.1 1 (52 : Int32).toNatClampNeg)).toInt64))
def f_Model_mayBecome (h : am_H) (x1 : Int32) (x2 : Int32) : Bool :=
  if x1 = 0 then f_Model_mayBecome_48 h x2 else if x1 = 1 then f_Model_mayBecome_58 h x2 else if x1 = 2 then f_Model_mayBecome_68 h x2 else if x1 = 3 then f_Model_mayBecome_78 h x2 else if x1 = 4 then f_Model_mayBecome_88 h x2 else if x1 = 5 then f_Model_mayBecome_98 h x2 else if x1 = 6 then f_Model_mayBecome_110 h x2 else if x1 = 7 then f_Model_mayBecome_120 h x2 else f_Model_mayBecome_138 h x2
def f_Model_mend_32 (h : am_H) : Option (Int32 × am_H) :=
  some ((-2000000000), h)
def f_Model_mend_29 (h : am_H) (y0 : Int32) : Option (Int32 × am_H) :=
  some (y0, h)
def f_Model_mend_22 (h : am_H) (x3 : Int32) (x4 : Int32) : Option (Int32 × am_H) :=
  (f_Model_becomes h x4 x3).bind fun p => f_Model_mend_29 p.2 p.1
def f_Model_mend_19 (h : am_H) (x3 : Int32) (x4 : Int32) (y0 : Bool) : Option (Int32 × am_H) :=
  if y0 = true then f_Model_mend_22 h x3 x4 else f_Model_mend_32 h
def f_Model_mend_13 (h : am_H) (x2 : Int32) (x3 : Int32) (x4 : Int32) : Option (Int32 × am_H) :=
  f_Model_mend_19 h x3 x4 (f_Model_mayBecome h x2 x3)
def f_Model_mend_6 (h : am_H) (x2 : Int32) (x3 : Int32) (y0 : Int32) : Option (Int32 × am_H) :=
  if y0 < 0 then f_Model_mend_32 h else f_Model_mend_13 h x2 x3 y0
def f_Model_mend (h : am_H) (x1 : Int32) (x2 : Int32) (x3 : Int32) : Option (Int32 × am_H) :=
  f_Model_mend_6 h x2 x3 (f_Model_placeOf h x1 x2)
def f_Model_of_35 (h : am_H) : Option (Int32) :=
  some (-2000000000)
def f_Model_of_28 (h : am_H) : Option (Int32) :=
  some (h.1 0 22)
def f_Model_of_22 (h : am_H) (x2 : Int32) : Option (Int32) :=
  if x2 = 9 then f_Model_of_28 h else f_Model_of_35 h
def f_Model_of_18 (h : am_H) (x1 : Int32) (x2 : Int32) : Option (Int32) :=
  if x1 = 0 then f_Model_of_22 h x2 else f_Model_of_35 h
def f_Model_of_11 (h : am_H) (x3 : Int32) : Option (Int32) :=
  if am_ok x3 54 = true then (some (h.1 1 x3.toNatClampNeg)) else none
def f_Model_of_6 (h : am_H) (x1 : Int32) (x2 : Int32) (y0 : Int32) : Option (Int32) :=
  if y0 < 0 then f_Model_of_18 h x1 x2 else f_Model_of_11 h y0
def f_Model_of (h : am_H) (x1 : Int32) (x2 : Int32) : Option (Int32) :=
  f_Model_of_6 h x1 x2 (f_Model_placeOf h x1 x2)
def f_Model_feed_26 (h : am_H) (x1 : Int32) : Option (Int32 × am_H) :=
  if am_ok (h.1 0 8) 120 = true then (some (((am_pI (am_pI h 5 (h.1 0 8).toNatClampNeg x1) 0 8 (((am_pI h 5 (h.1 0 8).toNatClampNeg x1).1 0 8) + 1)).1 0 8), am_pI (am_pI h 5 (h.1 0 8).toNatClampNeg x1) 0 8 (((am_pI h 5 (h.1 0 8).toNatClampNeg x1).1 0 8) + 1))) else none
def f_Model_feed_23 (h : am_H) : Option (Int32 × am_H) :=
  some ((-3), h)
def f_Model_feed_14 (h : am_H) (x1 : Int32) : Option (Int32 × am_H) :=
  if (h.1 0 8) = 120 then f_Model_feed_23 h else f_Model_feed_26 h x1
def f_Model_feed_12 (h : am_H) : Option (Int32 × am_H) :=
  some ((-1), h)
def f_Model_feed_9 (h : am_H) (x1 : Int32) (y0 : Bool) : Option (Int32 × am_H) :=
  if y0 = true then f_Model_feed_14 h x1 else f_Model_feed_12 h
def f_Model_feed (h : am_H) (x1 : Int32) : Option (Int32 × am_H) :=
  f_Model_feed_9 h x1 (f_Model_within x1.toInt64 0 255)
def f_Model_byteAt_47 (h : am_H) : Option (Int32) :=
  some 0
def f_Model_byteAt_30 (h : am_H) : Option (Int32) :=
  if am_ok ((h.1 0 11) + (h.1 0 12)) 120 = true then (some (h.1 6 ((h.1 0 11) + (h.1 0 12)).toNatClampNeg)) else none
def f_Model_byteAt_18 (h : am_H) : Option (Int32) :=
  if am_ok (h.1 0 12) 120 = true then (some (h.1 5 (h.1 0 12).toNatClampNeg)) else none
def f_Model_byteAt_11 (h : am_H) : Option (Int32) :=
  if 0 ≤ (h.1 0 11) then f_Model_byteAt_30 h else f_Model_byteAt_18 h
def f_Model_byteAt (h : am_H) : Option (Int32) :=
  if (h.1 0 13) ≤ (h.1 0 12) then f_Model_byteAt_47 h else f_Model_byteAt_11 h
def f_Model_wrong_19 (h : am_H) (y1 : Int32) : Int32 × am_H :=
  (0, am_pI h 0 14 y1)
def f_Model_wrong_15 (h : am_H) : Int32 × am_H :=
  f_Model_wrong_19 h (h.1 0 14)
def f_Model_wrong_8 (h : am_H) : Int32 × am_H :=
  f_Model_wrong_19 h (h.1 0 12)
def f_Model_wrong (h : am_H) : Int32 × am_H :=
  if 0 ≤ (h.1 0 14) then f_Model_wrong_15 h else f_Model_wrong_8 h
def f_Model_takes_15 (h : am_H) : Option (Bool × am_H) :=
  some (false, h)
def f_Model_takes_17 (h : am_H) : Option (Bool × am_H) :=
  some (true, am_pI h 0 12 ((h.1 0 12) + 1))
def f_Model_takes_11 (h : am_H) (x1 : Int32) (y0 : Int32) : Option (Bool × am_H) :=
  if y0 = x1 then f_Model_takes_17 h else f_Model_takes_15 h
def f_Model_takes_7 (h : am_H) (x1 : Int32) : Option (Bool × am_H) :=
  (f_Model_byteAt h).bind fun p => f_Model_takes_11 h x1 p
def f_Model_takes (h : am_H) (x1 : Int32) : Option (Bool × am_H) :=
  if 0 ≤ (h.1 0 14) then f_Model_takes_15 h else f_Model_takes_7 h x1
def f_Model_nameOf_64  : Int32 :=
  2
def f_Model_nameOf_60  : Int32 :=
  0
def f_Model_nameOf_62  : Int32 :=
  1
def f_Model_nameOf_70  : Int32 :=
  5
def f_Model_nameOf_66  : Int32 :=
  3
def f_Model_nameOf_68  : Int32 :=
  4
def f_Model_nameOf_72  : Int32 :=
  (-1)
def f_Model_nameOf (x0 : Int32) : Int32 :=
  if x0 = 99 then f_Model_nameOf_64 else if x0 = 100 then f_Model_nameOf_60 else if x0 = 103 then f_Model_nameOf_62 else if x0 = 107 then f_Model_nameOf_70 else if x0 = 115 then f_Model_nameOf_66 else if x0 = 119 then f_Model_nameOf_68 else f_Model_nameOf_72
abbrev rc_Model_both : Type := (am_H → Option (Int32 × am_H)) × (am_H → Option (Int32 × am_H)) × (am_H → Option (Int32 × am_H)) × (am_H → Option (Int32 × am_H)) × (am_H → Option (Int32 × am_H)) × (am_H → Option (Int32 × am_H))
def f_Model_both_36 (rc : rc_Model_both) (h : am_H) (x1 : Int32) : Option (Int32 × am_H) :=
  some (x1, h)
def f_Model_both_32 (rc : rc_Model_both) (k5 : am_H → Int32 → Option (Int32 × am_H)) (h : am_H) (y0 : Int32) : Option (Int32 × am_H) :=
  k5 h y0
def f_Model_both_31 (rc : rc_Model_both) (k5 : am_H → Int32 → Option (Int32 × am_H)) (h : am_H) : Option (Int32 × am_H) :=
  f_Model_both_32 rc k5 h 0
def f_Model_both_27 (rc : rc_Model_both) (k5 : am_H → Int32 → Option (Int32 × am_H)) (h : am_H) : Option (Int32 × am_H) :=
  f_Model_both_32 rc k5 h 1
def f_Model_both_23 (rc : rc_Model_both) (k5 : am_H → Int32 → Option (Int32 × am_H)) (h : am_H) (x2 : Int32) : Option (Int32 × am_H) :=
  if x2 = 0 then f_Model_both_31 rc k5 h else f_Model_both_27 rc k5 h
def f_Model_both_18 (rc : rc_Model_both) (k5 : am_H → Int32 → Option (Int32 × am_H)) (h : am_H) (x1 : Int32) (y0 : Int32) : Option (Int32 × am_H) :=
  if x1 = 0 then f_Model_both_31 rc k5 h else f_Model_both_23 rc k5 h y0
def f_Model_both_14 (rc : rc_Model_both) (k5 : am_H → Int32 → Option (Int32 × am_H)) (h : am_H) (x1 : Int32) : Option (Int32 × am_H) :=
  (rc.2.1 h).bind fun p => f_Model_both_18 rc k5 p.2 x1 p.1
def f_Model_both_11 (rc : rc_Model_both) (k5 : am_H → Int32 → Option (Int32 × am_H)) (h : am_H) (x1 : Int32) (y0 : Bool) : Option (Int32 × am_H) :=
  if y0 = true then f_Model_both_14 rc k5 h x1 else f_Model_both_36 rc h x1
def f_Model_both_5 (rc : rc_Model_both) (k5 : am_H → Int32 → Option (Int32 × am_H)) (h : am_H) (x1 : Int32) : Option (Int32 × am_H) :=
  (f_Model_takes h 38).bind fun p => f_Model_both_11 rc k5 p.2 x1 p.1
def f_Model_both_5_l (rc : rc_Model_both) : Nat → am_H → Int32 → Option (Int32 × am_H)
  | 0 => fun _ _ => none
  | n + 1 => f_Model_both_5 rc (f_Model_both_5_l rc n)
def f_Model_both_4 (rc : rc_Model_both) (h : am_H) (y0 : Int32) : Option (Int32 × am_H) :=
  f_Model_both_5_l rc am_fu h y0
def f_Model_both_0 (rc : rc_Model_both) (h : am_H) : Option (Int32 × am_H) :=
  (rc.2.1 h).bind fun p => f_Model_both_4 rc p.2 p.1
def f_Model_compared_35 (rc : rc_Model_both) (h : am_H) (x1 : Int32) : Option (Int32 × am_H) :=
  some (x1, h)
def f_Model_compared_89 (rc : rc_Model_both) (h : am_H) : Option (Int32 × am_H) :=
  some (0, h)
def f_Model_compared_85 (rc : rc_Model_both) (h : am_H) : Option (Int32 × am_H) :=
  some (1, h)
def f_Model_compared_80 (rc : rc_Model_both) (h : am_H) (x1 : Int32) (x3 : Int32) : Option (Int32 × am_H) :=
  if x1 ≤ x3 then f_Model_compared_89 rc h else f_Model_compared_85 rc h
def f_Model_compared_77 (rc : rc_Model_both) (h : am_H) : Option (Int32 × am_H) :=
  f_Model_compared_85 rc h
def f_Model_compared_72 (rc : rc_Model_both) (h : am_H) (x1 : Int32) (x3 : Int32) : Option (Int32 × am_H) :=
  if x1 = x3 then f_Model_compared_77 rc h else f_Model_compared_89 rc h
def f_Model_compared_66 (rc : rc_Model_both) (h : am_H) (x1 : Int32) (x2 : Int32) (x3 : Int32) : Option (Int32 × am_H) :=
  if x2 = 61 then f_Model_compared_72 rc h x1 x3 else f_Model_compared_80 rc h x1 x3
def f_Model_compared_63 (rc : rc_Model_both) (h : am_H) : Option (Int32 × am_H) :=
  f_Model_compared_85 rc h
def f_Model_compared_58 (rc : rc_Model_both) (h : am_H) (x1 : Int32) (x3 : Int32) : Option (Int32 × am_H) :=
  if x3 ≤ x1 then f_Model_compared_89 rc h else f_Model_compared_63 rc h
def f_Model_compared_51 (rc : rc_Model_both) (h : am_H) (x1 : Int32) (x2 : Int32) (y0 : Int32) : Option (Int32 × am_H) :=
  if x2 = 60 then f_Model_compared_58 rc h x1 y0 else f_Model_compared_66 rc h x1 x2 y0
def f_Model_compared_37 (rc : rc_Model_both) (h : am_H) (x1 : Int32) (x2 : Int32) : Option (Int32 × am_H) :=
  (rc.2.2.2.2.2 (am_pI h 0 12 ((h.1 0 12) + 1))).bind fun p => f_Model_compared_51 rc p.2 x1 x2 p.1
def f_Model_compared_29 (rc : rc_Model_both) (h : am_H) (x1 : Int32) (x2 : Int32) : Option (Int32 × am_H) :=
  if x2 = 62 then f_Model_compared_37 rc h x1 x2 else f_Model_compared_35 rc h x1
def f_Model_compared_23 (rc : rc_Model_both) (h : am_H) (x1 : Int32) (x2 : Int32) : Option (Int32 × am_H) :=
  if x2 = 61 then f_Model_compared_37 rc h x1 x2 else f_Model_compared_29 rc h x1 x2
def f_Model_compared_17 (rc : rc_Model_both) (h : am_H) (x1 : Int32) (x2 : Int32) : Option (Int32 × am_H) :=
  if x2 = 60 then f_Model_compared_37 rc h x1 x2 else f_Model_compared_23 rc h x1 x2
def f_Model_compared_9 (rc : rc_Model_both) (h : am_H) (x1 : Int32) (y0 : Int32) : Option (Int32 × am_H) :=
  if 0 ≤ (h.1 0 14) then f_Model_compared_35 rc h x1 else f_Model_compared_17 rc h x1 y0
def f_Model_compared_4 (rc : rc_Model_both) (h : am_H) (y0 : Int32) : Option (Int32 × am_H) :=
  (f_Model_byteAt h).bind fun p => f_Model_compared_9 rc h y0 p
def f_Model_compared_0 (rc : rc_Model_both) (h : am_H) : Option (Int32 × am_H) :=
  (rc.2.2.2.2.2 h).bind fun p => f_Model_compared_4 rc p.2 p.1
def f_Model_either_36 (rc : rc_Model_both) (h : am_H) (x1 : Int32) : Option (Int32 × am_H) :=
  some (x1, h)
def f_Model_either_32 (rc : rc_Model_both) (k5 : am_H → Int32 → Option (Int32 × am_H)) (h : am_H) (y0 : Int32) : Option (Int32 × am_H) :=
  k5 h y0
def f_Model_either_27 (rc : rc_Model_both) (k5 : am_H → Int32 → Option (Int32 × am_H)) (h : am_H) : Option (Int32 × am_H) :=
  f_Model_either_32 rc k5 h 1
def f_Model_either_31 (rc : rc_Model_both) (k5 : am_H → Int32 → Option (Int32 × am_H)) (h : am_H) : Option (Int32 × am_H) :=
  f_Model_either_32 rc k5 h 0
def f_Model_either_23 (rc : rc_Model_both) (k5 : am_H → Int32 → Option (Int32 × am_H)) (h : am_H) (x2 : Int32) : Option (Int32 × am_H) :=
  if x2 = 0 then f_Model_either_31 rc k5 h else f_Model_either_27 rc k5 h
def f_Model_either_18 (rc : rc_Model_both) (k5 : am_H → Int32 → Option (Int32 × am_H)) (h : am_H) (x1 : Int32) (y0 : Int32) : Option (Int32 × am_H) :=
  if x1 = 0 then f_Model_either_23 rc k5 h y0 else f_Model_either_27 rc k5 h
def f_Model_either_14 (rc : rc_Model_both) (k5 : am_H → Int32 → Option (Int32 × am_H)) (h : am_H) (x1 : Int32) : Option (Int32 × am_H) :=
  (rc.1 h).bind fun p => f_Model_either_18 rc k5 p.2 x1 p.1
def f_Model_either_11 (rc : rc_Model_both) (k5 : am_H → Int32 → Option (Int32 × am_H)) (h : am_H) (x1 : Int32) (y0 : Bool) : Option (Int32 × am_H) :=
  if y0 = true then f_Model_either_14 rc k5 h x1 else f_Model_either_36 rc h x1
def f_Model_either_5 (rc : rc_Model_both) (k5 : am_H → Int32 → Option (Int32 × am_H)) (h : am_H) (x1 : Int32) : Option (Int32 × am_H) :=
  (f_Model_takes h 124).bind fun p => f_Model_either_11 rc k5 p.2 x1 p.1
def f_Model_either_5_l (rc : rc_Model_both) : Nat → am_H → Int32 → Option (Int32 × am_H)
  | 0 => fun _ _ => none
  | n + 1 => f_Model_either_5 rc (f_Model_either_5_l rc n)
def f_Model_either_4 (rc : rc_Model_both) (h : am_H) (y0 : Int32) : Option (Int32 × am_H) :=
  f_Model_either_5_l rc am_fu h y0
def f_Model_either_0 (rc : rc_Model_both) (h : am_H) : Option (Int32 × am_H) :=
  (rc.1 h).bind fun p => f_Model_either_4 rc p.2 p.1
def f_Model_one_143 (rc : rc_Model_both) (h : am_H) : Option (Int32 × am_H) :=
  some (0, h)
def f_Model_one_139 (rc : rc_Model_both) (h : am_H) : Option (Int32 × am_H) :=
  some (1, h)
def f_Model_one_135 (rc : rc_Model_both) (h : am_H) (x2 : Int32) : Option (Int32 × am_H) :=
  if x2 = 0 then f_Model_one_139 rc h else f_Model_one_143 rc h
def f_Model_one_130 (rc : rc_Model_both) (h : am_H) (x2 : Int32) : Option (Int32 × am_H) :=
  some ((-x2), h)
def f_Model_one_124 (rc : rc_Model_both) (h : am_H) (x1 : Int32) (x2 : Int32) : Option (Int32 × am_H) :=
  if x1 = 45 then f_Model_one_130 rc h x2 else f_Model_one_135 rc h x2
def f_Model_one_120 (rc : rc_Model_both) (h : am_H) (x2 : Int32) : Option (Int32 × am_H) :=
  some (x2, h)
def f_Model_one_104 (rc : rc_Model_both) (h : am_H) (x1 : Int32) (x2 : Int32) : Option (Int32 × am_H) :=
  if x1 = 40 then f_Model_one_120 rc (am_pI h 0 15 ((h.1 0 15) - 1)) x2 else f_Model_one_124 rc (am_pI h 0 15 ((h.1 0 15) - 1)) x1 x2
def f_Model_one_103 (rc : rc_Model_both) (h : am_H) (y0 : Int32) : Option (Int32 × am_H) :=
  some (y0, h)
def f_Model_one_99 (rc : rc_Model_both) (h : am_H) : Option (Int32 × am_H) :=
  f_Model_one_103 rc ((f_Model_wrong h).2) ((f_Model_wrong h).1)
def f_Model_one_96 (rc : rc_Model_both) (h : am_H) (x1 : Int32) (x2 : Int32) (y0 : Bool) : Option (Int32 × am_H) :=
  if y0 = true then f_Model_one_104 rc h x1 x2 else f_Model_one_99 rc h
def f_Model_one_90 (rc : rc_Model_both) (h : am_H) (x1 : Int32) (x2 : Int32) : Option (Int32 × am_H) :=
  (f_Model_takes h 41).bind fun p => f_Model_one_96 rc p.2 x1 x2 p.1
def f_Model_one_83 (rc : rc_Model_both) (h : am_H) (x1 : Int32) (y0 : Int32) : Option (Int32 × am_H) :=
  if x1 = 40 then f_Model_one_90 rc h x1 y0 else f_Model_one_104 rc h x1 y0
def f_Model_one_79 (rc : rc_Model_both) (h : am_H) (x1 : Int32) : Option (Int32 × am_H) :=
  (rc.2.2.2.1 h).bind fun p => f_Model_one_83 rc p.2 x1 p.1
def f_Model_one_76 (rc : rc_Model_both) (h : am_H) (x1 : Int32) (y0 : Int32) : Option (Int32 × am_H) :=
  f_Model_one_83 rc h x1 y0
def f_Model_one_72 (rc : rc_Model_both) (h : am_H) (x1 : Int32) : Option (Int32 × am_H) :=
  (rc.2.2.1 h).bind fun p => f_Model_one_76 rc p.2 x1 p.1
def f_Model_one_46 (rc : rc_Model_both) (h : am_H) (x1 : Int32) : Option (Int32 × am_H) :=
  if x1 = 40 then f_Model_one_72 rc (am_pI (am_pI h 0 15 ((h.1 0 15) + 1)) 0 12 (((am_pI h 0 15 ((h.1 0 15) + 1)).1 0 12) + 1)) x1 else f_Model_one_79 rc (am_pI (am_pI h 0 15 ((h.1 0 15) + 1)) 0 12 (((am_pI h 0 15 ((h.1 0 15) + 1)).1 0 12) + 1)) x1
def f_Model_one_45 (rc : rc_Model_both) (h : am_H) (y0 : Int32) : Option (Int32 × am_H) :=
  some (y0, h)
def f_Model_one_41 (rc : rc_Model_both) (h : am_H) : Option (Int32 × am_H) :=
  f_Model_one_45 rc ((f_Model_wrong h).2) ((f_Model_wrong h).1)
def f_Model_one_32 (rc : rc_Model_both) (h : am_H) (x1 : Int32) : Option (Int32 × am_H) :=
  if (h.1 0 15) = 6 then f_Model_one_41 rc h else f_Model_one_46 rc h x1
def f_Model_one_241 (rc : rc_Model_both) (h : am_H) (x3 : Int32) : Option (Int32 × am_H) :=
  some (x3, h)
def f_Model_one_238 (rc : rc_Model_both) (h : am_H) (y0 : Int32) : Option (Int32 × am_H) :=
  some (y0, h)
def f_Model_one_234 (rc : rc_Model_both) (h : am_H) : Option (Int32 × am_H) :=
  f_Model_one_238 rc ((f_Model_wrong h).2) ((f_Model_wrong h).1)
def f_Model_one_229 (rc : rc_Model_both) (h : am_H) (x3 : Int32) (x4 : Int32) : Option (Int32 × am_H) :=
  if x4 = 0 then f_Model_one_234 rc h else f_Model_one_241 rc h x3
def f_Model_one_208 (rc : rc_Model_both) (k176 : am_H → Int32 → Int32 → Option (Int32 × am_H)) (h : am_H) (x4 : Int32) (y1 : Int32) (y0 : Int32) : Option (Int32 × am_H) :=
  k176 (am_pI h 0 12 ((h.1 0 12) + 1)) ((y0 + y1) - 48) (x4 + 1)
def f_Model_one_200 (rc : rc_Model_both) (k176 : am_H → Int32 → Int32 → Option (Int32 × am_H)) (h : am_H) (x3 : Int32) (x4 : Int32) : Option (Int32 × am_H) :=
  (f_Model_byteAt h).bind fun p => f_Model_one_208 rc k176 h x4 p (10 * x3)
def f_Model_one_195 (rc : rc_Model_both) (k176 : am_H → Int32 → Int32 → Option (Int32 × am_H)) (h : am_H) (x3 : Int32) (x4 : Int32) (y0 : Int32) : Option (Int32 × am_H) :=
  if 57 < y0 then f_Model_one_229 rc h x3 x4 else f_Model_one_200 rc k176 h x3 x4
def f_Model_one_191 (rc : rc_Model_both) (k176 : am_H → Int32 → Int32 → Option (Int32 × am_H)) (h : am_H) (x3 : Int32) (x4 : Int32) : Option (Int32 × am_H) :=
  (f_Model_byteAt h).bind fun p => f_Model_one_195 rc k176 h x3 x4 p
def f_Model_one_186 (rc : rc_Model_both) (k176 : am_H → Int32 → Int32 → Option (Int32 × am_H)) (h : am_H) (x3 : Int32) (x4 : Int32) (y0 : Int32) : Option (Int32 × am_H) :=
  if y0 < 48 then f_Model_one_229 rc h x3 x4 else f_Model_one_191 rc k176 h x3 x4
def f_Model_one_182 (rc : rc_Model_both) (k176 : am_H → Int32 → Int32 → Option (Int32 × am_H)) (h : am_H) (x3 : Int32) (x4 : Int32) : Option (Int32 × am_H) :=
  (f_Model_byteAt h).bind fun p => f_Model_one_186 rc k176 h x3 x4 p
def f_Model_one_176 (rc : rc_Model_both) (k176 : am_H → Int32 → Int32 → Option (Int32 × am_H)) (h : am_H) (x3 : Int32) (x4 : Int32) : Option (Int32 × am_H) :=
  if 4 ≤ x4 then f_Model_one_229 rc h x3 x4 else f_Model_one_182 rc k176 h x3 x4
def f_Model_one_176_l (rc : rc_Model_both) : Nat → am_H → Int32 → Int32 → Option (Int32 × am_H)
  | 0 => fun _ _ _ => none
  | n + 1 => f_Model_one_176 rc (f_Model_one_176_l rc n)
def f_Model_one_171 (rc : rc_Model_both) (h : am_H) : Option (Int32 × am_H) :=
  f_Model_one_176_l rc am_fu h 0 0
def f_Model_one_154 (rc : rc_Model_both) (h : am_H) (x2 : Int32) : Option (Int32 × am_H) :=
  if am_ok x2 6 = true then (some (((am_pI h 0 12 ((h.1 0 12) + 1)).1 7 x2.toNatClampNeg), am_pI h 0 12 ((h.1 0 12) + 1))) else none
def f_Model_one_149 (rc : rc_Model_both) (h : am_H) (y0 : Int32) : Option (Int32 × am_H) :=
  if y0 < 0 then f_Model_one_171 rc h else f_Model_one_154 rc h y0
def f_Model_one_145 (rc : rc_Model_both) (h : am_H) (x1 : Int32) : Option (Int32 × am_H) :=
  f_Model_one_149 rc h (f_Model_nameOf x1)
def f_Model_one_26 (rc : rc_Model_both) (h : am_H) (x1 : Int32) : Option (Int32 × am_H) :=
  if x1 = 40 then f_Model_one_32 rc h x1 else f_Model_one_145 rc h x1
def f_Model_one_20 (rc : rc_Model_both) (h : am_H) (x1 : Int32) : Option (Int32 × am_H) :=
  if x1 = 45 then f_Model_one_32 rc h x1 else f_Model_one_26 rc h x1
def f_Model_one_13 (rc : rc_Model_both) (h : am_H) (y0 : Int32) : Option (Int32 × am_H) :=
  if y0 = 33 then f_Model_one_32 rc h y0 else f_Model_one_20 rc h y0
def f_Model_one_9 (rc : rc_Model_both) (h : am_H) : Option (Int32 × am_H) :=
  (f_Model_byteAt h).bind fun p => f_Model_one_13 rc h p
def f_Model_one_7 (rc : rc_Model_both) (h : am_H) : Option (Int32 × am_H) :=
  some (0, h)
def f_Model_one_0 (rc : rc_Model_both) (h : am_H) : Option (Int32 × am_H) :=
  if (h.1 0 14) < 0 then f_Model_one_9 rc h else f_Model_one_7 rc h
def f_Model_product_94 (rc : rc_Model_both) (h : am_H) (x1 : Int32) : Option (Int32 × am_H) :=
  some (x1, h)
def f_Model_product_90 (rc : rc_Model_both) (k10 : am_H → Int32 → Int32 → Option (Int32 × am_H)) (h : am_H) (x1 : Int32) (y0 : Int32) : Option (Int32 × am_H) :=
  k10 h x1 y0
def f_Model_product_85 (rc : rc_Model_both) (k10 : am_H → Int32 → Int32 → Option (Int32 × am_H)) (h : am_H) (y0 : Int32) : Option (Int32 × am_H) :=
  (f_Model_byteAt h).bind fun p => f_Model_product_90 rc k10 h y0 p
def f_Model_product_82 (rc : rc_Model_both) (k10 : am_H → Int32 → Int32 → Option (Int32 × am_H)) (h : am_H) (x1 : Int32) (x3 : Int32) : Option (Int32 × am_H) :=
  if ¬ x3 = 0 then (f_Model_product_85 rc k10 h (x1 - x1 / x3 * x3)) else none
def f_Model_product_76 (rc : rc_Model_both) (k10 : am_H → Int32 → Int32 → Option (Int32 × am_H)) (h : am_H) (x1 : Int32) (x3 : Int32) : Option (Int32 × am_H) :=
  if ¬ x3 = 0 then (f_Model_product_85 rc k10 h (x1 / x3)) else none
def f_Model_product_70 (rc : rc_Model_both) (k10 : am_H → Int32 → Int32 → Option (Int32 × am_H)) (h : am_H) (x1 : Int32) (x2 : Int32) (x3 : Int32) : Option (Int32 × am_H) :=
  if x2 = 47 then f_Model_product_76 rc k10 h x1 x3 else f_Model_product_82 rc k10 h x1 x3
def f_Model_product_66 (rc : rc_Model_both) (k10 : am_H → Int32 → Int32 → Option (Int32 × am_H)) (h : am_H) : Option (Int32 × am_H) :=
  f_Model_product_85 rc k10 h 0
def f_Model_product_62 (rc : rc_Model_both) (k10 : am_H → Int32 → Int32 → Option (Int32 × am_H)) (h : am_H) (x1 : Int32) (x2 : Int32) (x3 : Int32) : Option (Int32 × am_H) :=
  if x3 = 0 then f_Model_product_66 rc k10 h else f_Model_product_70 rc k10 h x1 x2 x3
def f_Model_product_56 (rc : rc_Model_both) (k10 : am_H → Int32 → Int32 → Option (Int32 × am_H)) (h : am_H) (x1 : Int32) (x3 : Int32) : Option (Int32 × am_H) :=
  f_Model_product_85 rc k10 h (x1 * x3)
def f_Model_product_49 (rc : rc_Model_both) (k10 : am_H → Int32 → Int32 → Option (Int32 × am_H)) (h : am_H) (x1 : Int32) (x2 : Int32) (y0 : Int32) : Option (Int32 × am_H) :=
  if x2 = 42 then f_Model_product_56 rc k10 h x1 y0 else f_Model_product_62 rc k10 h x1 x2 y0
def f_Model_product_35 (rc : rc_Model_both) (k10 : am_H → Int32 → Int32 → Option (Int32 × am_H)) (h : am_H) (x1 : Int32) (x2 : Int32) : Option (Int32 × am_H) :=
  (rc.2.2.2.1 (am_pI h 0 12 ((h.1 0 12) + 1))).bind fun p => f_Model_product_49 rc k10 p.2 x1 x2 p.1
def f_Model_product_29 (rc : rc_Model_both) (k10 : am_H → Int32 → Int32 → Option (Int32 × am_H)) (h : am_H) (x1 : Int32) (x2 : Int32) : Option (Int32 × am_H) :=
  if x2 = 37 then f_Model_product_35 rc k10 h x1 x2 else f_Model_product_94 rc h x1
def f_Model_product_23 (rc : rc_Model_both) (k10 : am_H → Int32 → Int32 → Option (Int32 × am_H)) (h : am_H) (x1 : Int32) (x2 : Int32) : Option (Int32 × am_H) :=
  if x2 = 47 then f_Model_product_35 rc k10 h x1 x2 else f_Model_product_29 rc k10 h x1 x2
def f_Model_product_17 (rc : rc_Model_both) (k10 : am_H → Int32 → Int32 → Option (Int32 × am_H)) (h : am_H) (x1 : Int32) (x2 : Int32) : Option (Int32 × am_H) :=
  if x2 = 42 then f_Model_product_35 rc k10 h x1 x2 else f_Model_product_23 rc k10 h x1 x2
def f_Model_product_10 (rc : rc_Model_both) (k10 : am_H → Int32 → Int32 → Option (Int32 × am_H)) (h : am_H) (x1 : Int32) (x2 : Int32) : Option (Int32 × am_H) :=
  if 0 ≤ (h.1 0 14) then f_Model_product_94 rc h x1 else f_Model_product_17 rc k10 h x1 x2
def f_Model_product_10_l (rc : rc_Model_both) : Nat → am_H → Int32 → Int32 → Option (Int32 × am_H)
  | 0 => fun _ _ _ => none
  | n + 1 => f_Model_product_10 rc (f_Model_product_10_l rc n)
def f_Model_product_9 (rc : rc_Model_both) (h : am_H) (x1 : Int32) (y0 : Int32) : Option (Int32 × am_H) :=
  f_Model_product_10_l rc am_fu h x1 y0
def f_Model_product_4 (rc : rc_Model_both) (h : am_H) (y0 : Int32) : Option (Int32 × am_H) :=
  (f_Model_byteAt h).bind fun p => f_Model_product_9 rc h y0 p
def f_Model_product_0 (rc : rc_Model_both) (h : am_H) : Option (Int32 × am_H) :=
  (rc.2.2.2.1 h).bind fun p => f_Model_product_4 rc p.2 p.1
def f_Model_sums_77 (rc : rc_Model_both) (h : am_H) (x1 : Int32) : Option (Int32 × am_H) :=
  some (x1, h)
def f_Model_sums_73 (rc : rc_Model_both) (k5 : am_H → Int32 → Option (Int32 × am_H)) (h : am_H) (y0 : Int32) : Option (Int32 × am_H) :=
  k5 h y0
def f_Model_sums_70 (rc : rc_Model_both) (k5 : am_H → Int32 → Option (Int32 × am_H)) (h : am_H) (x1 : Int32) (x3 : Int32) : Option (Int32 × am_H) :=
  f_Model_sums_73 rc k5 h (x1 - x3)
def f_Model_sums_64 (rc : rc_Model_both) (k5 : am_H → Int32 → Option (Int32 × am_H)) (h : am_H) (x1 : Int32) (x3 : Int32) : Option (Int32 × am_H) :=
  f_Model_sums_73 rc k5 h (x1 + x3)
def f_Model_sums_59 (rc : rc_Model_both) (k5 : am_H → Int32 → Option (Int32 × am_H)) (h : am_H) (x1 : Int32) (x2 : Int32) (y0 : Int32) : Option (Int32 × am_H) :=
  if x2 = 0 then f_Model_sums_70 rc k5 h x1 y0 else f_Model_sums_64 rc k5 h x1 y0
def f_Model_sums_44 (rc : rc_Model_both) (k5 : am_H → Int32 → Option (Int32 × am_H)) (h : am_H) (x1 : Int32) (y0 : Int32) : Option (Int32 × am_H) :=
  (rc.2.2.2.2.1 (am_pI h 0 12 ((h.1 0 12) + 1))).bind fun p => f_Model_sums_59 rc k5 p.2 x1 y0 p.1
def f_Model_sums_43 (rc : rc_Model_both) (k5 : am_H → Int32 → Option (Int32 × am_H)) (h : am_H) (x1 : Int32) : Option (Int32 × am_H) :=
  f_Model_sums_44 rc k5 h x1 0
def f_Model_sums_39 (rc : rc_Model_both) (k5 : am_H → Int32 → Option (Int32 × am_H)) (h : am_H) (x1 : Int32) : Option (Int32 × am_H) :=
  f_Model_sums_44 rc k5 h x1 1
def f_Model_sums_34 (rc : rc_Model_both) (k5 : am_H → Int32 → Option (Int32 × am_H)) (h : am_H) (x1 : Int32) (y0 : Int32) : Option (Int32 × am_H) :=
  if y0 = 43 then f_Model_sums_39 rc k5 h x1 else f_Model_sums_43 rc k5 h x1
def f_Model_sums_30 (rc : rc_Model_both) (k5 : am_H → Int32 → Option (Int32 × am_H)) (h : am_H) (x1 : Int32) : Option (Int32 × am_H) :=
  (f_Model_byteAt h).bind fun p => f_Model_sums_34 rc k5 h x1 p
def f_Model_sums_25 (rc : rc_Model_both) (k5 : am_H → Int32 → Option (Int32 × am_H)) (h : am_H) (x1 : Int32) (y0 : Int32) : Option (Int32 × am_H) :=
  if y0 = 45 then f_Model_sums_30 rc k5 h x1 else f_Model_sums_77 rc h x1
def f_Model_sums_21 (rc : rc_Model_both) (k5 : am_H → Int32 → Option (Int32 × am_H)) (h : am_H) (x1 : Int32) : Option (Int32 × am_H) :=
  (f_Model_byteAt h).bind fun p => f_Model_sums_25 rc k5 h x1 p
def f_Model_sums_16 (rc : rc_Model_both) (k5 : am_H → Int32 → Option (Int32 × am_H)) (h : am_H) (x1 : Int32) (y0 : Int32) : Option (Int32 × am_H) :=
  if y0 = 43 then f_Model_sums_30 rc k5 h x1 else f_Model_sums_21 rc k5 h x1
def f_Model_sums_12 (rc : rc_Model_both) (k5 : am_H → Int32 → Option (Int32 × am_H)) (h : am_H) (x1 : Int32) : Option (Int32 × am_H) :=
  (f_Model_byteAt h).bind fun p => f_Model_sums_16 rc k5 h x1 p
def f_Model_sums_5 (rc : rc_Model_both) (k5 : am_H → Int32 → Option (Int32 × am_H)) (h : am_H) (x1 : Int32) : Option (Int32 × am_H) :=
  if 0 ≤ (h.1 0 14) then f_Model_sums_77 rc h x1 else f_Model_sums_12 rc k5 h x1
def f_Model_sums_5_l (rc : rc_Model_both) : Nat → am_H → Int32 → Option (Int32 × am_H)
  | 0 => fun _ _ => none
  | n + 1 => f_Model_sums_5 rc (f_Model_sums_5_l rc n)
def f_Model_sums_4 (rc : rc_Model_both) (h : am_H) (y0 : Int32) : Option (Int32 × am_H) :=
  f_Model_sums_5_l rc am_fu h y0
def f_Model_sums_0 (rc : rc_Model_both) (h : am_H) : Option (Int32 × am_H) :=
  (rc.2.2.2.2.1 h).bind fun p => f_Model_sums_4 rc p.2 p.1
def g_Model_both : Nat → rc_Model_both
  | 0 => ((fun _ => none), (fun _ => none), (fun _ => none), (fun _ => none), (fun _ => none), (fun _ => none))
  | n + 1 => (f_Model_both_0 (g_Model_both n), f_Model_compared_0 (g_Model_both n), f_Model_either_0 (g_Model_both n), f_Model_one_0 (g_Model_both n), f_Model_product_0 (g_Model_both n), f_Model_sums_0 (g_Model_both n))
def f_Model_both : am_H → Option (Int32 × am_H) := (g_Model_both 64).1
def f_Model_compared : am_H → Option (Int32 × am_H) := (g_Model_both 64).2.1
def f_Model_either : am_H → Option (Int32 × am_H) := (g_Model_both 64).2.2.1
def f_Model_one : am_H → Option (Int32 × am_H) := (g_Model_both 64).2.2.2.1
def f_Model_product : am_H → Option (Int32 × am_H) := (g_Model_both 64).2.2.2.2.1
def f_Model_sums : am_H → Option (Int32 × am_H) := (g_Model_both 64).2.2.2.2.2
def f_Model_workOut_130 (h : am_H) (x4 : Int32) : Option (Int32 × am_H) :=
  some (x4, h)
def f_Model_workOut_129 (h : am_H) (y0 : Int32) : Option (Int32 × am_H) :=
  some (y0, h)
def f_Model_workOut_125 (h : am_H) : Option (Int32 × am_H) :=
  f_Model_workOut_129 ((f_Model_wrong h).2) ((f_Model_wrong h).1)
def f_Model_workOut_114 (h : am_H) (x4 : Int32) : Option (Int32 × am_H) :=
  if (h.1 0 13) ≤ (h.1 0 12) then f_Model_workOut_130 h x4 else f_Model_workOut_125 h
def f_Model_workOut_107 (h : am_H) (x4 : Int32) : Option (Int32 × am_H) :=
  if 0 ≤ (h.1 0 14) then f_Model_workOut_130 h x4 else f_Model_workOut_114 h x4
def f_Model_workOut_102 (k33 : am_H → Int32 → Int32 → Int32 → Option (Int32 × am_H)) (h : am_H) (x3 : Int32) (x4 : Int32) (y0 : Bool) : Option (Int32 × am_H) :=
  k33 h x3 x4 (am_b y0)
def f_Model_workOut_96 (k33 : am_H → Int32 → Int32 → Int32 → Option (Int32 × am_H)) (h : am_H) (x3 : Int32) (x4 : Int32) : Option (Int32 × am_H) :=
  (f_Model_takes h 59).bind fun p => f_Model_workOut_102 k33 p.2 x3 x4 p.1
def f_Model_workOut_90 (k33 : am_H → Int32 → Int32 → Int32 → Option (Int32 × am_H)) (h : am_H) (x6 : Int32) : Option (Int32 × am_H) :=
  f_Model_workOut_96 k33 h 1 x6
def f_Model_workOut_86 (k33 : am_H → Int32 → Int32 → Int32 → Option (Int32 × am_H)) (h : am_H) (x3 : Int32) (x4 : Int32) (x6 : Int32) : Option (Int32 × am_H) :=
  if x3 = 0 then f_Model_workOut_90 k33 h x6 else f_Model_workOut_96 k33 h x3 x4
def f_Model_workOut_81 (k33 : am_H → Int32 → Int32 → Int32 → Option (Int32 × am_H)) (h : am_H) (x3 : Int32) (x4 : Int32) (x6 : Int32) (x7 : Int32) : Option (Int32 × am_H) :=
  if x7 = 0 then f_Model_workOut_96 k33 h x3 x4 else f_Model_workOut_86 k33 h x3 x4 x6
def f_Model_workOut_74 (k33 : am_H → Int32 → Int32 → Int32 → Option (Int32 × am_H)) (h : am_H) (x3 : Int32) (x4 : Int32) (x6 : Int32) (x7 : Int32) : Option (Int32 × am_H) :=
  if 0 ≤ (h.1 0 14) then f_Model_workOut_96 k33 h x3 x4 else f_Model_workOut_81 k33 h x3 x4 x6 x7
def f_Model_workOut_72 (k33 : am_H → Int32 → Int32 → Int32 → Option (Int32 × am_H)) (h : am_H) (x3 : Int32) (x4 : Int32) (x7 : Int32) (y0 : Int32) : Option (Int32 × am_H) :=
  f_Model_workOut_74 k33 h x3 x4 y0 x7
def f_Model_workOut_66 (k33 : am_H → Int32 → Int32 → Int32 → Option (Int32 × am_H)) (h : am_H) (x3 : Int32) (x4 : Int32) (y0 : Int32) : Option (Int32 × am_H) :=
  (f_Model_either h).bind fun p => f_Model_workOut_72 k33 p.2 x3 x4 y0 p.1
def f_Model_workOut_65 (k33 : am_H → Int32 → Int32 → Int32 → Option (Int32 × am_H)) (h : am_H) (x3 : Int32) (x4 : Int32) : Option (Int32 × am_H) :=
  f_Model_workOut_66 k33 h x3 x4 0
def f_Model_workOut_61 (k33 : am_H → Int32 → Int32 → Int32 → Option (Int32 × am_H)) (h : am_H) (x3 : Int32) (x4 : Int32) : Option (Int32 × am_H) :=
  f_Model_workOut_66 k33 h x3 x4 1
def f_Model_workOut_56 (k33 : am_H → Int32 → Int32 → Int32 → Option (Int32 × am_H)) (h : am_H) (x3 : Int32) (x4 : Int32) (x6 : Int32) : Option (Int32 × am_H) :=
  if x6 = 0 then f_Model_workOut_65 k33 h x3 x4 else f_Model_workOut_61 k33 h x3 x4
def f_Model_workOut_53 (k33 : am_H → Int32 → Int32 → Int32 → Option (Int32 × am_H)) (h : am_H) (x3 : Int32) (x4 : Int32) (x6 : Int32) (x7 : Int32) (y0 : Bool) : Option (Int32 × am_H) :=
  if y0 = true then f_Model_workOut_56 k33 h x3 x4 x6 else f_Model_workOut_74 k33 h x3 x4 x6 x7
def f_Model_workOut_42 (k33 : am_H → Int32 → Int32 → Int32 → Option (Int32 × am_H)) (h : am_H) (x3 : Int32) (x4 : Int32) (y0 : Int32) : Option (Int32 × am_H) :=
  (f_Model_takes h 63).bind fun p => f_Model_workOut_53 k33 p.2 x3 x4 y0 1 p.1
def f_Model_workOut_38 (k33 : am_H → Int32 → Int32 → Int32 → Option (Int32 × am_H)) (h : am_H) (x3 : Int32) (x4 : Int32) : Option (Int32 × am_H) :=
  (f_Model_either h).bind fun p => f_Model_workOut_42 k33 p.2 x3 x4 p.1
def f_Model_workOut_33 (k33 : am_H → Int32 → Int32 → Int32 → Option (Int32 × am_H)) (h : am_H) (x3 : Int32) (x4 : Int32) (x5 : Int32) : Option (Int32 × am_H) :=
  if x5 = 0 then f_Model_workOut_107 h x4 else f_Model_workOut_38 k33 h x3 x4
def f_Model_workOut_33_l  : Nat → am_H → Int32 → Int32 → Int32 → Option (Int32 × am_H)
  | 0 => fun _ _ _ _ => none
  | n + 1 => f_Model_workOut_33 (f_Model_workOut_33_l n)
def f_Model_workOut (h : am_H) (x1 : Int32) (x2 : Int32) : Option (Int32 × am_H) :=
  f_Model_workOut_33_l am_fu (am_pI (am_pI (am_pI (am_pI (am_pI h 0 11 x1) 0 12 0) 0 13 x2) 0 14 (-1)) 0 15 0) 0 0 1
def f_Model_law_60 (h : am_H) (x2 : Int32) : Option (Int32 × am_H) :=
  some (1, am_pI h 0 10 x2)
def f_Model_law_42 (k37 : am_H → Int32 → Int32 → Option (Int32 × am_H)) (h : am_H) (x2 : Int32) (x3 : Int32) : Option (Int32 × am_H) :=
  if am_ok x3 120 = true then (k37 (am_pI h 6 x3.toNatClampNeg (h.1 5 x3.toNatClampNeg)) x2 (x3 + 1)) else none
def f_Model_law_37 (k37 : am_H → Int32 → Int32 → Option (Int32 × am_H)) (h : am_H) (x2 : Int32) (x3 : Int32) : Option (Int32 × am_H) :=
  if x2 ≤ x3 then f_Model_law_60 h x2 else f_Model_law_42 k37 h x2 x3
def f_Model_law_37_l  : Nat → am_H → Int32 → Int32 → Option (Int32 × am_H)
  | 0 => fun _ _ _ => none
  | n + 1 => f_Model_law_37 (f_Model_law_37_l n)
def f_Model_law_35 (h : am_H) (x2 : Int32) : Option (Int32 × am_H) :=
  f_Model_law_37_l am_fu h x2 0
def f_Model_law_27 (h : am_H) : Option (Int32 × am_H) :=
  some (((-100) - (h.1 0 14)), h)
def f_Model_law_9 (h : am_H) (y0 : Int32) : Option (Int32 × am_H) :=
  if ((am_pI h 0 8 0).1 0 14) < 0 then f_Model_law_35 (am_pI h 0 8 0) (h.1 0 8) else f_Model_law_27 (am_pI h 0 8 0)
def f_Model_law (h : am_H) : Option (Int32 × am_H) :=
  (f_Model_workOut h (-1) (h.1 0 8)).bind fun p => f_Model_law_9 p.2 p.1
def f_Model_rankOf_134 (h : am_H) (y0 : Int32) : Option (Int32 × am_H) :=
  some (y0, h)
def f_Model_rankOf_62 (h : am_H) (x1 : Int32) (x2 : Int32) (x4 : Int32) (x5 : Int32) : Option (Int32 × am_H) :=
  if am_ok x2 54 = true then (if am_ok (37 + x1) 54 = true then ((f_Model_workOut (am_pI (am_pI (am_pI (am_pI (am_pI (am_pI h 7 (0 : Int32).toNatClampNeg x4) 7 (1 : Int32).toNatClampNeg ((am_pI h 7 (0 : Int32).toNatClampNeg x4).1 1 x2.toNatClampNeg)) 7 (2 : Int32).toNatClampNeg x5) 7 (3 : Int32).toNatClampNeg ((am_pI (am_pI (am_pI h 7 (0 : Int32).toNatClampNeg x4) 7 (1 : Int32).toNatClampNeg ((am_pI h 7 (0 : Int32).toNatClampNeg x4).1 1 x2.toNatClampNeg)) 7 (2 : Int32).toNatClampNeg x5).1 1 (37 + x1).toNatClampNeg)) 7 (4 : Int32).toNatClampNeg ((am_pI (am_pI (am_pI (am_pI h 7 (0 : Int32).toNatClampNeg x4) 7 (1 : Int32).toNatClampNeg ((am_pI h 7 (0 : Int32).toNatClampNeg x4).1 1 x2.toNatClampNeg)) 7 (2 : Int32).toNatClampNeg x5) 7 (3 : Int32).toNatClampNeg ((am_pI (am_pI (am_pI h 7 (0 : Int32).toNatClampNeg x4) 7 (1 : Int32).toNatClampNeg ((am_pI h 7 (0 : Int32).toNatClampNeg x4).1 1 x2.toNatClampNeg)) 7 (2 : Int32).toNatClampNeg x5).1 1 (37 + x1).toNatClampNeg)).1 1 (50 : Int32).toNatClampNeg)) 7 (5 : Int32).toNatClampNeg x1) 0 ((am_pI (am_pI (am_pI (am_pI (am_pI (am_pI h 7 (0 : Int32).toNatClampNeg x4) 7 (1 : Int32).toNatClampNeg ((am_pI h 7 (0 : Int32).toNatClampNeg x4).1 1 x2.toNatClampNeg)) 7 (2 : Int32).toNatClampNeg x5) 7 (3 : Int32).toNatClampNeg ((am_pI (am_pI (am_pI h 7 (0 : Int32).toNatClampNeg x4) 7 (1 : Int32).toNatClampNeg ((am_pI h 7 (0 : Int32).toNatClampNeg x4).1 1 x2.toNatClampNeg)) 7 (2 : Int32).toNatClampNeg x5).1 1 (37 + x1).toNatClampNeg)) 7 (4 : Int32).toNatClampNeg ((am_pI (am_pI (am_pI (am_pI h 7 (0 : Int32).toNatClampNeg x4) 7 (1 : Int32).toNatClampNeg ((am_pI h 7 (0 : Int32).toNatClampNeg x4).1 1 x2.toNatClampNeg)) 7 (2 : Int32).toNatClampNeg x5) 7 (3 : Int32).toNatClampNeg ((am_pI (am_pI (am_pI h 7 (0 : Int32).toNatClampNeg x4) 7 (1 : Int32).toNatClampNeg ((am_pI h 7 (0 : Int32).toNatClampNeg x4).1 1 x2.toNatClampNeg)) 7 (2 : Int32).toNatClampNeg x5).1 1 (37 + x1).toNatClampNeg)).1 1 (50 : Int32).toNatClampNeg)) 7 (5 : Int32).toNatClampNeg x1).1 0 10)).bind fun p => f_Model_rankOf_134 p.2 p.1) else none) else none
def f_Model_rankOf_60 (h : am_H) (y0 : Int32) : Option (Int32 × am_H) :=
  some ((-y0), h)
def f_Model_rankOf_44 (h : am_H) (x4 : Int32) (x5 : Int32) : Option (Int32 × am_H) :=
  f_Model_rankOf_60 h (f_Model_sizeOf ((x4 - x5) - (h.1 1 (50 : Int32).toNatClampNeg)))
def f_Model_rankOf_12 (h : am_H) (x1 : Int32) (x2 : Int32) (x3 : Int32) (y0 : Int32) : Option (Int32 × am_H) :=
  if am_ok (31 + x1) 54 = true then (if am_ok (43 + x1) 54 = true then (if 0 ≤ (h.1 0 10) then f_Model_rankOf_62 h x1 x2 (y0 + x3) ((h.1 1 (31 + x1).toNatClampNeg) + (h.1 1 (43 + x1).toNatClampNeg)) else f_Model_rankOf_44 h (y0 + x3) ((h.1 1 (31 + x1).toNatClampNeg) + (h.1 1 (43 + x1).toNatClampNeg))) else none) else none
def f_Model_rankOf (h : am_H) (x1 : Int32) (x2 : Int32) (x3 : Int32) : Option (Int32 × am_H) :=
  f_Model_rankOf_12 h x1 x2 x3 (f_Model_sizeOf ((h.1 1 (49 : Int32).toNatClampNeg) - x2))
def f_Model_takenFrom_51 (h : am_H) (x3 : Int32) : Option (Int32 × am_H) :=
  some (x3, h)
def f_Model_takenFrom_45 (k8 : am_H → Int32 → Int32 → Int32 → Int32 → Int32 → Option (Int32 × am_H)) (h : am_H) (x1 : Int32) (x2 : Int32) (x3 : Int32) (x4 : Int32) (x5 : Int32) : Option (Int32 × am_H) :=
  k8 h x1 x2 x3 x4 (x5 + 1)
def f_Model_takenFrom_38 (k8 : am_H → Int32 → Int32 → Int32 → Int32 → Int32 → Option (Int32 × am_H)) (h : am_H) (x1 : Int32) (x2 : Int32) (x5 : Int32) (x6 : Int32) : Option (Int32 × am_H) :=
  f_Model_takenFrom_45 k8 h x1 x2 x5 x6 x5
def f_Model_takenFrom_31 (k8 : am_H → Int32 → Int32 → Int32 → Int32 → Int32 → Option (Int32 × am_H)) (h : am_H) (x1 : Int32) (x2 : Int32) (x3 : Int32) (x4 : Int32) (x5 : Int32) (x6 : Int32) : Option (Int32 × am_H) :=
  if x6 ≤ x4 then f_Model_takenFrom_45 k8 h x1 x2 x3 x4 x5 else f_Model_takenFrom_38 k8 h x1 x2 x5 x6
def f_Model_takenFrom_25 (k8 : am_H → Int32 → Int32 → Int32 → Int32 → Int32 → Option (Int32 × am_H)) (h : am_H) (x1 : Int32) (x2 : Int32) (x3 : Int32) (x4 : Int32) (x5 : Int32) (y0 : Int32) : Option (Int32 × am_H) :=
  if x3 < 0 then f_Model_takenFrom_38 k8 h x1 x2 x5 y0 else f_Model_takenFrom_31 k8 h x1 x2 x3 x4 x5 y0
def f_Model_takenFrom_17 (k8 : am_H → Int32 → Int32 → Int32 → Int32 → Int32 → Option (Int32 × am_H)) (h : am_H) (x1 : Int32) (x2 : Int32) (x3 : Int32) (x4 : Int32) (x5 : Int32) : Option (Int32 × am_H) :=
  (f_Model_rankOf h x5 x1 x2).bind fun p => f_Model_takenFrom_25 k8 p.2 x1 x2 x3 x4 x5 p.1
def f_Model_takenFrom_8 (k8 : am_H → Int32 → Int32 → Int32 → Int32 → Int32 → Option (Int32 × am_H)) (h : am_H) (x1 : Int32) (x2 : Int32) (x3 : Int32) (x4 : Int32) (x5 : Int32) : Option (Int32 × am_H) :=
  if (h.1 0 6) ≤ x5 then f_Model_takenFrom_51 h x3 else f_Model_takenFrom_17 k8 h x1 x2 x3 x4 x5
def f_Model_takenFrom_8_l  : Nat → am_H → Int32 → Int32 → Int32 → Int32 → Int32 → Option (Int32 × am_H)
  | 0 => fun _ _ _ _ _ _ => none
  | n + 1 => f_Model_takenFrom_8 (f_Model_takenFrom_8_l n)
def f_Model_takenFrom (h : am_H) (x1 : Int32) (x2 : Int32) : Option (Int32 × am_H) :=
  f_Model_takenFrom_8_l am_fu h x1 x2 (-1) 0 0
def f_Model_believed_25 (h : am_H) : Option (Int32 × am_H) :=
  some ((-2), h)
def f_Model_believed_36 (h : am_H) (y0 : Int32) : Option (Int32 × am_H) :=
  some (y0, h)
def f_Model_believed_30 (h : am_H) (x1 : Int32) : Option (Int32 × am_H) :=
  (f_Model_takenFrom h x1 0).bind fun p => f_Model_believed_36 p.2 p.1
def f_Model_believed_22 (h : am_H) (x1 : Int32) (y0 : Bool) : Option (Int32 × am_H) :=
  if y0 = true then f_Model_believed_25 h else f_Model_believed_30 h x1
def f_Model_believed_17 (h : am_H) (x1 : Int32) : Option (Int32 × am_H) :=
  (f_Model_isGreen h x1).bind fun p => f_Model_believed_22 h x1 p
def f_Model_believed_10 (h : am_H) (x1 : Int32) : Option (Int32 × am_H) :=
  if (h.1 0 6) = 0 then f_Model_believed_25 h else f_Model_believed_17 h x1
def f_Model_believed_8 (h : am_H) : Option (Int32 × am_H) :=
  some ((-1), h)
def f_Model_believed_5 (h : am_H) (x1 : Int32) (y0 : Bool) : Option (Int32 × am_H) :=
  if y0 = true then f_Model_believed_10 h x1 else f_Model_believed_8 h
def f_Model_believed (h : am_H) (x1 : Int32) : Option (Int32 × am_H) :=
  f_Model_believed_5 h x1 (f_Model_isCell x1.toInt64)
def f_Model_lengthOf_103 (h : am_H) (x5 : Int32) : Option (Int32) :=
  some x5
def f_Model_lengthOf_99 (h : am_H) : Option (Int32) :=
  some 0
def f_Model_lengthOf_92 (h : am_H) (y0 : Int32) : Option (Int32) :=
  if 0 ≤ y0 then f_Model_lengthOf_103 h y0 else f_Model_lengthOf_99 h
def f_Model_lengthOf_90 (h : am_H) (x5 : Int32) : Option (Int32) :=
  f_Model_lengthOf_92 h x5
def f_Model_lengthOf_83 (h : am_H) (x5 : Int32) : Option (Int32) :=
  f_Model_lengthOf_92 h (x5 / 2)
def f_Model_lengthOf_73 (h : am_H) (x1 : Int32) (x5 : Int32) : Option (Int32) :=
  if am_ok x1 54 = true then (if (h.1 1 x1.toNatClampNeg) = 2 then f_Model_lengthOf_83 h x5 else f_Model_lengthOf_90 h x5) else none
def f_Model_lengthOf_66 (h : am_H) (x5 : Int32) : Option (Int32) :=
  f_Model_lengthOf_92 h (x5 - 1)
def f_Model_lengthOf_48 (h : am_H) (x1 : Int32) (x2 : Int32) (y0 : Int32) : Option (Int32) :=
  if am_ok x1 54 = true then (if (h.1 1 x1.toNatClampNeg) = 1 then f_Model_lengthOf_66 h (x2 + y0) else f_Model_lengthOf_73 h x1 (x2 + y0)) else none
def f_Model_lengthOf_41 (h : am_H) (x1 : Int32) (x2 : Int32) : Option (Int32) :=
  f_Model_lengthOf_48 h x1 x2 (h.1 1 (50 : Int32).toNatClampNeg)
def f_Model_lengthOf_30 (h : am_H) (x1 : Int32) (x2 : Int32) : Option (Int32) :=
  f_Model_lengthOf_48 h x1 x2 (-(h.1 1 (50 : Int32).toNatClampNeg))
def f_Model_lengthOf_26 (h : am_H) (x1 : Int32) (x2 : Int32) (x3 : Int32) : Option (Int32) :=
  if x3 = 0 then f_Model_lengthOf_41 h x1 x2 else f_Model_lengthOf_30 h x1 x2
def f_Model_lengthOf_22 (h : am_H) (x1 : Int32) (x2 : Int32) : Option (Int32) :=
  f_Model_lengthOf_48 h x1 x2 0
def f_Model_lengthOf_16 (h : am_H) (x1 : Int32) (x2 : Int32) (y0 : Int32) : Option (Int32) :=
  if 5 ≤ x2 then f_Model_lengthOf_26 h x1 x2 y0 else f_Model_lengthOf_22 h x1 x2
def f_Model_lengthOf_15 (h : am_H) (x1 : Int32) (x2 : Int32) : Option (Int32) :=
  f_Model_lengthOf_16 h x1 x2 0
def f_Model_lengthOf_11 (h : am_H) (x1 : Int32) (x2 : Int32) : Option (Int32) :=
  f_Model_lengthOf_16 h x1 x2 1
def f_Model_lengthOf (h : am_H) (x1 : Int32) (x2 : Int32) : Option (Int32) :=
  if x1 ≤ (h.1 1 (49 : Int32).toNatClampNeg) then f_Model_lengthOf_15 h x1 x2 else f_Model_lengthOf_11 h x1 x2
def f_Model_downOf_55 (h : am_H) (x5 : Int32) : Option (Int32) :=
  some x5
def f_Model_downOf_50 (h : am_H) : Option (Int32) :=
  some 30
def f_Model_downOf_43 (h : am_H) (x5 : Int32) : Option (Int32) :=
  if x5 ≤ 30 then f_Model_downOf_55 h x5 else f_Model_downOf_50 h
def f_Model_downOf_39 (h : am_H) : Option (Int32) :=
  some 0
def f_Model_downOf_30 (h : am_H) (x3 : Int32) (y0 : Int32) : Option (Int32) :=
  if 0 ≤ (y0 + x3) then f_Model_downOf_43 h (y0 + x3) else f_Model_downOf_39 h
def f_Model_downOf_26 (h : am_H) (x1 : Int32) (x3 : Int32) (x4 : Int32) : Option (Int32) :=
  f_Model_downOf_30 h x3 (x1 + x4)
def f_Model_downOf_19 (h : am_H) (x1 : Int32) (x3 : Int32) (x4 : Int32) : Option (Int32) :=
  f_Model_downOf_30 h x3 (x1 - x4)
def f_Model_downOf_6 (h : am_H) (x1 : Int32) (x3 : Int32) (y0 : Int32) : Option (Int32) :=
  if x1 ≤ (h.1 1 (49 : Int32).toNatClampNeg) then f_Model_downOf_26 h x1 x3 y0 else f_Model_downOf_19 h x1 x3 y0
def f_Model_downOf (h : am_H) (x1 : Int32) (x2 : Int32) (x3 : Int32) : Option (Int32) :=
  (f_Model_lengthOf h x1 x2).bind fun p => f_Model_downOf_6 h x1 x3 p
def f_Model_isCc_42 (h : am_H) : Option (Bool) :=
  some false
def f_Model_isCc_38 (h : am_H) : Option (Bool) :=
  some true
def f_Model_isCc_35 (h : am_H) (y0 : Bool) : Option (Bool) :=
  if y0 = true then f_Model_isCc_42 h else f_Model_isCc_38 h
def f_Model_isCc_27 (h : am_H) (x1 : Int32) : Option (Bool) :=
  (f_Model_isGreen h (x1 / 10)).bind fun p => f_Model_isCc_35 h p
def f_Model_isCc_24 (h : am_H) (x1 : Int32) (y0 : Bool) : Option (Bool) :=
  if y0 = true then f_Model_isCc_27 h x1 else f_Model_isCc_42 h
def f_Model_isCc_15 (h : am_H) (x1 : Int32) : Option (Bool) :=
  f_Model_isCc_24 h x1 (f_Model_isClub h ((x1 - x1 / 10 * 10).toInt64))
def f_Model_isCc_12 (h : am_H) (x1 : Int32) (y0 : Bool) : Option (Bool) :=
  if y0 = true then f_Model_isCc_15 h x1 else f_Model_isCc_42 h
def f_Model_isCc_4 (h : am_H) (x1 : Int32) : Option (Bool) :=
  f_Model_isCc_12 h x1 (f_Model_isCell ((x1 / 10).toInt64))
def f_Model_isCc (h : am_H) (x1 : Int32) : Option (Bool) :=
  if x1 < 0 then f_Model_isCc_42 h else f_Model_isCc_4 h x1
def f_Model_commonOf_42 (x4 : Int64) : Option (Int64) :=
  some x4
def f_Model_commonOf_24 (k17 : Int64 → Int64 → Option (Int64)) (x4 : Int64) (x6 : Int64) : Option (Int64) :=
  if ¬ x6 = 0 then (k17 x6 (x4 - x4 / x6 * x6)) else none
def f_Model_commonOf_17 (k17 : Int64 → Int64 → Option (Int64)) (x4 : Int64) (x6 : Int64) : Option (Int64) :=
  if x6 = 0 then f_Model_commonOf_42 x4 else f_Model_commonOf_24 k17 x4 x6
def f_Model_commonOf_17_l  : Nat → Int64 → Int64 → Option (Int64)
  | 0 => fun _ _ => none
  | n + 1 => f_Model_commonOf_17 (f_Model_commonOf_17_l n)
def f_Model_commonOf_12 (x2 : Int64) (y0 : Int64) : Option (Int64) :=
  f_Model_commonOf_17_l am_fu y0 x2
def f_Model_commonOf_11 (x0 : Int64) (x2 : Int64) : Option (Int64) :=
  f_Model_commonOf_12 x2 x0
def f_Model_commonOf_6 (x0 : Int64) (x2 : Int64) : Option (Int64) :=
  f_Model_commonOf_12 x2 (-x0)
def f_Model_commonOf (x0 : Int64) (x2 : Int64) : Option (Int64) :=
  if 0 ≤ x0 then f_Model_commonOf_11 x0 x2 else f_Model_commonOf_6 x0 x2
def f_Model_partOf_29 (x2 : Int64) (x5 : Int64) : Option (Int64) :=
  if ¬ x5 = 0 then (some (x2 / x5)) else none
def f_Model_partOf_22 (x0 : Int64) (x5 : Int64) : Option (Int64) :=
  if ¬ x5 = 0 then (some (x0 / x5)) else none
def f_Model_partOf_15 (x0 : Int64) (x2 : Int64) (x4 : Int32) (y0 : Int64) : Option (Int64) :=
  if x4 = 0 then f_Model_partOf_22 x0 y0 else f_Model_partOf_29 x2 y0
def f_Model_partOf_10 (x0 : Int64) (x2 : Int64) (x4 : Int32) : Option (Int64) :=
  (f_Model_commonOf x0 x2).bind fun p => f_Model_partOf_15 x0 x2 x4 p
def f_Model_partOf_6 (x4 : Int32) : Option (Int64) :=
  some x4.toInt64
def f_Model_partOf (x0 : Int64) (x2 : Int64) (x4 : Int32) : Option (Int64) :=
  if x0 = 0 then f_Model_partOf_6 x4 else f_Model_partOf_10 x0 x2 x4
def f_Model_waysTo_59 (h : am_H) (x5 : Int32) : Option (Int32) :=
  some x5
def f_Model_waysTo_50 (k7 : Int32 → Int32 → Int32 → Int32 → Int32 → Int32 → Option (Int32)) (h : am_H) (x1 : Int32) (x2 : Int32) (x3 : Int32) (x4 : Int32) (x6 : Int32) (y1 : Int32) (y0 : Int32) : Option (Int32) :=
  k7 x1 x2 x3 x4 (y0 + y1) (x6 + 1)
def f_Model_waysTo_49 (k7 : Int32 → Int32 → Int32 → Int32 → Int32 → Int32 → Option (Int32)) (h : am_H) (x1 : Int32) (x2 : Int32) (x3 : Int32) (x4 : Int32) (x6 : Int32) (y0 : Int32) : Option (Int32) :=
  f_Model_waysTo_50 k7 h x1 x2 x3 x4 x6 0 y0
def f_Model_waysTo_45 (k7 : Int32 → Int32 → Int32 → Int32 → Int32 → Int32 → Option (Int32)) (h : am_H) (x1 : Int32) (x2 : Int32) (x3 : Int32) (x4 : Int32) (x6 : Int32) (y0 : Int32) : Option (Int32) :=
  f_Model_waysTo_50 k7 h x1 x2 x3 x4 x6 1 y0
def f_Model_waysTo_40 (k7 : Int32 → Int32 → Int32 → Int32 → Int32 → Int32 → Option (Int32)) (h : am_H) (x1 : Int32) (x2 : Int32) (x3 : Int32) (x4 : Int32) (x6 : Int32) (y1 : Int32) (y0 : Int32) : Option (Int32) :=
  if y1 = x4 then f_Model_waysTo_45 k7 h x1 x2 x3 x4 x6 y0 else f_Model_waysTo_49 k7 h x1 x2 x3 x4 x6 y0
def f_Model_waysTo_38 (k7 : Int32 → Int32 → Int32 → Int32 → Int32 → Int32 → Option (Int32)) (h : am_H) (x1 : Int32) (x2 : Int32) (x3 : Int32) (x4 : Int32) (x6 : Int32) (x7 : Int32) (y0 : Int32) : Option (Int32) :=
  f_Model_waysTo_40 k7 h x1 x2 x3 x4 x6 x7 y0
def f_Model_waysTo_34 (k7 : Int32 → Int32 → Int32 → Int32 → Int32 → Int32 → Option (Int32)) (h : am_H) (x1 : Int32) (x2 : Int32) (x3 : Int32) (x4 : Int32) (x6 : Int32) (y0 : Int32) : Option (Int32) :=
  f_Model_waysTo_40 k7 h x1 x2 x3 x4 x6 x1 y0
def f_Model_waysTo_31 (k7 : Int32 → Int32 → Int32 → Int32 → Int32 → Int32 → Option (Int32)) (h : am_H) (x1 : Int32) (x2 : Int32) (x3 : Int32) (x4 : Int32) (x6 : Int32) (x7 : Int32) (y1 : Bool) (y0 : Int32) : Option (Int32) :=
  if y1 = true then f_Model_waysTo_34 k7 h x1 x2 x3 x4 x6 y0 else f_Model_waysTo_38 k7 h x1 x2 x3 x4 x6 x7 y0
def f_Model_waysTo_21 (k7 : Int32 → Int32 → Int32 → Int32 → Int32 → Int32 → Option (Int32)) (h : am_H) (x1 : Int32) (x2 : Int32) (x3 : Int32) (x4 : Int32) (x5 : Int32) (x6 : Int32) (y0 : Int32) : Option (Int32) :=
  (f_Model_isWater h y0).bind fun p => f_Model_waysTo_31 k7 h x1 x2 x3 x4 x6 y0 p x5
def f_Model_waysTo_13 (k7 : Int32 → Int32 → Int32 → Int32 → Int32 → Int32 → Option (Int32)) (h : am_H) (x1 : Int32) (x2 : Int32) (x3 : Int32) (x4 : Int32) (x5 : Int32) (x6 : Int32) : Option (Int32) :=
  (f_Model_downOf h x1 x2 x6).bind fun p => f_Model_waysTo_21 k7 h x1 x2 x3 x4 x5 x6 p
def f_Model_waysTo_7 (k7 : Int32 → Int32 → Int32 → Int32 → Int32 → Int32 → Option (Int32)) (h : am_H) (x1 : Int32) (x2 : Int32) (x3 : Int32) (x4 : Int32) (x5 : Int32) (x6 : Int32) : Option (Int32) :=
  if x3 < x6 then f_Model_waysTo_59 h x5 else f_Model_waysTo_13 k7 h x1 x2 x3 x4 x5 x6
def f_Model_waysTo_7_l (h : am_H) : Nat → Int32 → Int32 → Int32 → Int32 → Int32 → Int32 → Option (Int32)
  | 0 => fun _ _ _ _ _ _ => none
  | n + 1 => f_Model_waysTo_7 (f_Model_waysTo_7_l h n) h
def f_Model_waysTo (h : am_H) (x1 : Int32) (x2 : Int32) (x3 : Int32) (x4 : Int32) : Option (Int32) :=
  f_Model_waysTo_7_l h am_fu x1 x2 x3 x4 0 (-x3)
def f_Model_lies_26 (h : am_H) : Option (Int64) :=
  some (-9223372036854775808)
def f_Model_lies_79 (h : am_H) (y0 : Int64) : Option (Int64) :=
  some y0
def f_Model_lies_67 (h : am_H) (x3 : Int32) (x4 : Int32) (y0 : Int32) : Option (Int64) :=
  (f_Model_partOf y0.toInt64 (((2 * x4) + 1).toInt64) x3).bind fun p => f_Model_lies_79 h p
def f_Model_lies_30 (h : am_H) (x1 : Int32) (x2 : Int32) (x3 : Int32) : Option (Int64) :=
  if am_ok (37 + (x1 - x1 / 10 * 10)) 54 = true then (if am_ok (31 + (x1 - x1 / 10 * 10)) 54 = true then ((f_Model_waysTo h (x1 / 10) (h.1 1 (31 + (x1 - x1 / 10 * 10)).toNatClampNeg) (h.1 1 (37 + (x1 - x1 / 10 * 10)).toNatClampNeg) x2).bind fun p => f_Model_lies_67 h x3 (h.1 1 (37 + (x1 - x1 / 10 * 10)).toNatClampNeg) p) else none) else none
def f_Model_lies_23 (h : am_H) (x1 : Int32) (x2 : Int32) (x3 : Int32) (y0 : Bool) : Option (Int64) :=
  if y0 = true then f_Model_lies_30 h x1 x2 x3 else f_Model_lies_26 h
def f_Model_lies_16 (h : am_H) (x1 : Int32) (x2 : Int32) (x3 : Int32) : Option (Int64) :=
  f_Model_lies_23 h x1 x2 x3 (f_Model_within x3.toInt64 0 1)
def f_Model_lies_13 (h : am_H) (x1 : Int32) (x2 : Int32) (x3 : Int32) (y0 : Bool) : Option (Int64) :=
  if y0 = true then f_Model_lies_16 h x1 x2 x3 else f_Model_lies_26 h
def f_Model_lies_8 (h : am_H) (x1 : Int32) (x2 : Int32) (x3 : Int32) : Option (Int64) :=
  f_Model_lies_13 h x1 x2 x3 (f_Model_isCell x2.toInt64)
def f_Model_lies_5 (h : am_H) (x1 : Int32) (x2 : Int32) (x3 : Int32) (y0 : Bool) : Option (Int64) :=
  if y0 = true then f_Model_lies_8 h x1 x2 x3 else f_Model_lies_26 h
def f_Model_lies (h : am_H) (x1 : Int32) (x2 : Int32) (x3 : Int32) : Option (Int64) :=
  (f_Model_isCc h x1).bind fun p => f_Model_lies_5 h x1 x2 x3 p
def f_Model_wetWays_65 (h : am_H) (x3 : Int32) : Option (Int32) :=
  some x3
def f_Model_wetWays_57 (k14 : Int32 → Int32 → Int32 → Int32 → Option (Int32)) (h : am_H) (x1 : Int32) (x2 : Int32) (x4 : Int32) (y1 : Int32) (y0 : Int32) : Option (Int32) :=
  k14 x1 x2 (y0 + y1) (x4 + 1)
def f_Model_wetWays_56 (k14 : Int32 → Int32 → Int32 → Int32 → Option (Int32)) (h : am_H) (x1 : Int32) (x2 : Int32) (x4 : Int32) (y0 : Int32) : Option (Int32) :=
  f_Model_wetWays_57 k14 h x1 x2 x4 0 y0
def f_Model_wetWays_52 (k14 : Int32 → Int32 → Int32 → Int32 → Option (Int32)) (h : am_H) (x1 : Int32) (x2 : Int32) (x4 : Int32) (y0 : Int32) : Option (Int32) :=
  f_Model_wetWays_57 k14 h x1 x2 x4 1 y0
def f_Model_wetWays_49 (k14 : Int32 → Int32 → Int32 → Int32 → Option (Int32)) (h : am_H) (x1 : Int32) (x2 : Int32) (x4 : Int32) (y1 : Bool) (y0 : Int32) : Option (Int32) :=
  if y1 = true then f_Model_wetWays_52 k14 h x1 x2 x4 y0 else f_Model_wetWays_56 k14 h x1 x2 x4 y0
def f_Model_wetWays_46 (k14 : Int32 → Int32 → Int32 → Int32 → Option (Int32)) (h : am_H) (x1 : Int32) (x2 : Int32) (x4 : Int32) (y2 : Int32) (y0 : Int32) : Option (Int32) :=
  (f_Model_isWater h y2).bind fun p => f_Model_wetWays_49 k14 h x1 x2 x4 p y0
def f_Model_wetWays_28 (k14 : Int32 → Int32 → Int32 → Int32 → Option (Int32)) (h : am_H) (x1 : Int32) (x2 : Int32) (x3 : Int32) (x4 : Int32) : Option (Int32) :=
  if am_ok (31 + x2) 54 = true then ((f_Model_downOf h x1 (h.1 1 (31 + x2).toNatClampNeg) x4).bind fun p => f_Model_wetWays_46 k14 h x1 x2 x4 p x3) else none
def f_Model_wetWays_14 (k14 : Int32 → Int32 → Int32 → Int32 → Option (Int32)) (h : am_H) (x1 : Int32) (x2 : Int32) (x3 : Int32) (x4 : Int32) : Option (Int32) :=
  if am_ok (37 + x2) 54 = true then (if (h.1 1 (37 + x2).toNatClampNeg) < x4 then f_Model_wetWays_65 h x3 else f_Model_wetWays_28 k14 h x1 x2 x3 x4) else none
def f_Model_wetWays_14_l (h : am_H) : Nat → Int32 → Int32 → Int32 → Int32 → Option (Int32)
  | 0 => fun _ _ _ _ => none
  | n + 1 => f_Model_wetWays_14 (f_Model_wetWays_14_l h n) h
def f_Model_wetWays (h : am_H) (x1 : Int32) (x2 : Int32) : Option (Int32) :=
  if am_ok (37 + x2) 54 = true then (f_Model_wetWays_14_l h am_fu x1 x2 0 (-(h.1 1 (37 + x2).toNatClampNeg))) else none
def f_Model_greenWays_65 (h : am_H) (x3 : Int32) : Option (Int32) :=
  some x3
def f_Model_greenWays_57 (k14 : Int32 → Int32 → Int32 → Int32 → Option (Int32)) (h : am_H) (x1 : Int32) (x2 : Int32) (x4 : Int32) (y1 : Int32) (y0 : Int32) : Option (Int32) :=
  k14 x1 x2 (y0 + y1) (x4 + 1)
def f_Model_greenWays_56 (k14 : Int32 → Int32 → Int32 → Int32 → Option (Int32)) (h : am_H) (x1 : Int32) (x2 : Int32) (x4 : Int32) (y0 : Int32) : Option (Int32) :=
  f_Model_greenWays_57 k14 h x1 x2 x4 0 y0
def f_Model_greenWays_52 (k14 : Int32 → Int32 → Int32 → Int32 → Option (Int32)) (h : am_H) (x1 : Int32) (x2 : Int32) (x4 : Int32) (y0 : Int32) : Option (Int32) :=
  f_Model_greenWays_57 k14 h x1 x2 x4 1 y0
def f_Model_greenWays_49 (k14 : Int32 → Int32 → Int32 → Int32 → Option (Int32)) (h : am_H) (x1 : Int32) (x2 : Int32) (x4 : Int32) (y1 : Bool) (y0 : Int32) : Option (Int32) :=
  if y1 = true then f_Model_greenWays_52 k14 h x1 x2 x4 y0 else f_Model_greenWays_56 k14 h x1 x2 x4 y0
def f_Model_greenWays_46 (k14 : Int32 → Int32 → Int32 → Int32 → Option (Int32)) (h : am_H) (x1 : Int32) (x2 : Int32) (x4 : Int32) (y2 : Int32) (y0 : Int32) : Option (Int32) :=
  (f_Model_isGreen h y2).bind fun p => f_Model_greenWays_49 k14 h x1 x2 x4 p y0
def f_Model_greenWays_28 (k14 : Int32 → Int32 → Int32 → Int32 → Option (Int32)) (h : am_H) (x1 : Int32) (x2 : Int32) (x3 : Int32) (x4 : Int32) : Option (Int32) :=
  if am_ok (31 + x2) 54 = true then ((f_Model_downOf h x1 (h.1 1 (31 + x2).toNatClampNeg) x4).bind fun p => f_Model_greenWays_46 k14 h x1 x2 x4 p x3) else none
def f_Model_greenWays_14 (k14 : Int32 → Int32 → Int32 → Int32 → Option (Int32)) (h : am_H) (x1 : Int32) (x2 : Int32) (x3 : Int32) (x4 : Int32) : Option (Int32) :=
  if am_ok (37 + x2) 54 = true then (if (h.1 1 (37 + x2).toNatClampNeg) < x4 then f_Model_greenWays_65 h x3 else f_Model_greenWays_28 k14 h x1 x2 x3 x4) else none
def f_Model_greenWays_14_l (h : am_H) : Nat → Int32 → Int32 → Int32 → Int32 → Option (Int32)
  | 0 => fun _ _ _ _ => none
  | n + 1 => f_Model_greenWays_14 (f_Model_greenWays_14_l h n) h
def f_Model_greenWays (h : am_H) (x1 : Int32) (x2 : Int32) : Option (Int32) :=
  if am_ok (37 + x2) 54 = true then (f_Model_greenWays_14_l h am_fu x1 x2 0 (-(h.1 1 (37 + x2).toNatClampNeg))) else none
def f_Model_chance_28 (h : am_H) : Option (Int64) :=
  some (-9223372036854775808)
def f_Model_chance_89 (h : am_H) (y0 : Int64) : Option (Int64) :=
  some y0
def f_Model_chance_63 (h : am_H) (x1 : Int32) (x3 : Int32) (y0 : Int32) : Option (Int64) :=
  if am_ok (37 + (x1 - x1 / 10 * 10)) 54 = true then ((f_Model_partOf y0.toInt64 (((2 * (h.1 1 (37 + (x1 - x1 / 10 * 10)).toNatClampNeg)) + 1).toInt64) x3).bind fun p => f_Model_chance_89 h p) else none
def f_Model_chance_51 (h : am_H) (x1 : Int32) (x3 : Int32) : Option (Int64) :=
  (f_Model_greenWays h (x1 / 10) (x1 - x1 / 10 * 10)).bind fun p => f_Model_chance_63 h x1 x3 p
def f_Model_chance_48 (h : am_H) (x1 : Int32) (x3 : Int32) (y0 : Int32) : Option (Int64) :=
  f_Model_chance_63 h x1 x3 y0
def f_Model_chance_36 (h : am_H) (x1 : Int32) (x3 : Int32) : Option (Int64) :=
  (f_Model_wetWays h (x1 / 10) (x1 - x1 / 10 * 10)).bind fun p => f_Model_chance_48 h x1 x3 p
def f_Model_chance_32 (h : am_H) (x1 : Int32) (x2 : Int32) (x3 : Int32) : Option (Int64) :=
  if x2 = 0 then f_Model_chance_36 h x1 x3 else f_Model_chance_51 h x1 x3
def f_Model_chance_25 (h : am_H) (x1 : Int32) (x2 : Int32) (x3 : Int32) (y0 : Bool) : Option (Int64) :=
  if y0 = true then f_Model_chance_32 h x1 x2 x3 else f_Model_chance_28 h
def f_Model_chance_18 (h : am_H) (x1 : Int32) (x2 : Int32) (x3 : Int32) : Option (Int64) :=
  f_Model_chance_25 h x1 x2 x3 (f_Model_within x3.toInt64 0 1)
def f_Model_chance_15 (h : am_H) (x1 : Int32) (x2 : Int32) (x3 : Int32) (y0 : Bool) : Option (Int64) :=
  if y0 = true then f_Model_chance_18 h x1 x2 x3 else f_Model_chance_28 h
def f_Model_chance_8 (h : am_H) (x1 : Int32) (x2 : Int32) (x3 : Int32) : Option (Int64) :=
  f_Model_chance_15 h x1 x2 x3 (f_Model_within x2.toInt64 0 1)
def f_Model_chance_5 (h : am_H) (x1 : Int32) (x2 : Int32) (x3 : Int32) (y0 : Bool) : Option (Int64) :=
  if y0 = true then f_Model_chance_8 h x1 x2 x3 else f_Model_chance_28 h
def f_Model_chance (h : am_H) (x1 : Int32) (x2 : Int32) (x3 : Int32) : Option (Int64) :=
  (f_Model_isCc h x1).bind fun p => f_Model_chance_5 h x1 x2 x3 p
def f_Model_layUp_16 (h : am_H) : Option (Int32) :=
  some (-1)
def f_Model_layUp_80 (h : am_H) (x2 : Int32) : Option (Int32) :=
  some x2
def f_Model_layUp_74 (k26 : Int32 → Int32 → Int32 → Int32 → Option (Int32)) (h : am_H) (x1 : Int32) (x2 : Int32) (x3 : Int32) (x4 : Int32) : Option (Int32) :=
  k26 x1 x2 x3 (x4 + 1)
def f_Model_layUp_68 (k26 : Int32 → Int32 → Int32 → Int32 → Option (Int32)) (h : am_H) (x1 : Int32) (x4 : Int32) (x5 : Int32) : Option (Int32) :=
  f_Model_layUp_74 k26 h x1 x4 x5 x4
def f_Model_layUp_62 (k26 : Int32 → Int32 → Int32 → Int32 → Option (Int32)) (h : am_H) (x1 : Int32) (x2 : Int32) (x3 : Int32) (x4 : Int32) (x5 : Int32) : Option (Int32) :=
  if x5 ≤ x3 then f_Model_layUp_74 k26 h x1 x2 x3 x4 else f_Model_layUp_68 k26 h x1 x4 x5
def f_Model_layUp_59 (k26 : Int32 → Int32 → Int32 → Int32 → Option (Int32)) (h : am_H) (x1 : Int32) (x2 : Int32) (x3 : Int32) (x4 : Int32) (x5 : Int32) (y0 : Int32) : Option (Int32) :=
  if y0 = 0 then f_Model_layUp_62 k26 h x1 x2 x3 x4 x5 else f_Model_layUp_74 k26 h x1 x2 x3 x4
def f_Model_layUp_50 (k26 : Int32 → Int32 → Int32 → Int32 → Option (Int32)) (h : am_H) (x1 : Int32) (x2 : Int32) (x3 : Int32) (x4 : Int32) (y0 : Int32) : Option (Int32) :=
  (f_Model_wetWays h x1 x4).bind fun p => f_Model_layUp_59 k26 h x1 x2 x3 x4 y0 p
def f_Model_layUp_35 (k26 : Int32 → Int32 → Int32 → Int32 → Option (Int32)) (h : am_H) (x1 : Int32) (x2 : Int32) (x3 : Int32) (x4 : Int32) : Option (Int32) :=
  if am_ok (31 + x4) 54 = true then ((f_Model_lengthOf h x1 (h.1 1 (31 + x4).toNatClampNeg)).bind fun p => f_Model_layUp_50 k26 h x1 x2 x3 x4 p) else none
def f_Model_layUp_26 (k26 : Int32 → Int32 → Int32 → Int32 → Option (Int32)) (h : am_H) (x1 : Int32) (x2 : Int32) (x3 : Int32) (x4 : Int32) : Option (Int32) :=
  if (h.1 0 6) ≤ x4 then f_Model_layUp_80 h x2 else f_Model_layUp_35 k26 h x1 x2 x3 x4
def f_Model_layUp_26_l (h : am_H) : Nat → Int32 → Int32 → Int32 → Int32 → Option (Int32)
  | 0 => fun _ _ _ _ => none
  | n + 1 => f_Model_layUp_26 (f_Model_layUp_26_l h n) h
def f_Model_layUp_18 (h : am_H) (x1 : Int32) : Option (Int32) :=
  f_Model_layUp_26_l h am_fu x1 (-2) (-1) 0
def f_Model_layUp_13 (h : am_H) (x1 : Int32) (y0 : Bool) : Option (Int32) :=
  if y0 = true then f_Model_layUp_16 h else f_Model_layUp_18 h x1
def f_Model_layUp_8 (h : am_H) (x1 : Int32) : Option (Int32) :=
  (f_Model_isGreen h x1).bind fun p => f_Model_layUp_13 h x1 p
def f_Model_layUp_5 (h : am_H) (x1 : Int32) (y0 : Bool) : Option (Int32) :=
  if y0 = true then f_Model_layUp_8 h x1 else f_Model_layUp_16 h
def f_Model_layUp (h : am_H) (x1 : Int32) : Option (Int32) :=
  f_Model_layUp_5 h x1 (f_Model_isCell x1.toInt64)
def f_Model_byClub_108 (h : am_H) (x4 : Int32) (x5 : Int64) : Option (Int64) :=
  if ¬ ((2 * x4) + 1) = 0 then (some (x5 * ((105 / ((2 * x4) + 1)).toInt64))) else none
def f_Model_byClub_96 (k19 : Int32 → Int32 → Int32 → Int32 → Int64 → Int32 → Option (Int64)) (h : am_H) (x1 : Int32) (x2 : Int32) (x3 : Int32) (x4 : Int32) (x7 : Int32) (y4 : Int32) (y3 : Int32) (y1 : Int64) (y0 : Int64) : Option (Int64) :=
  if am_ok (y3 + y4) 155 = true then (k19 x1 x2 x3 x4 (y0 + (y1 + (h.2 8 (y3 + y4).toNatClampNeg))) (x7 + 1)) else none
def f_Model_byClub_94 (k19 : Int32 → Int32 → Int32 → Int32 → Int64 → Int32 → Option (Int64)) (h : am_H) (x1 : Int32) (x2 : Int32) (x3 : Int32) (x4 : Int32) (x7 : Int32) (x8 : Int32) (y3 : Int32) (y1 : Int64) (y0 : Int64) : Option (Int64) :=
  f_Model_byClub_96 k19 h x1 x2 x3 x4 x7 x8 y3 y1 y0
def f_Model_byClub_90 (k19 : Int32 → Int32 → Int32 → Int32 → Int64 → Int32 → Option (Int64)) (h : am_H) (x1 : Int32) (x2 : Int32) (x3 : Int32) (x4 : Int32) (x7 : Int32) (y3 : Int32) (y1 : Int64) (y0 : Int64) : Option (Int64) :=
  f_Model_byClub_96 k19 h x1 x2 x3 x4 x7 x1 y3 y1 y0
def f_Model_byClub_66 (k19 : Int32 → Int32 → Int32 → Int32 → Int64 → Int32 → Option (Int64)) (h : am_H) (x1 : Int32) (x2 : Int32) (x3 : Int32) (x4 : Int32) (x7 : Int32) (x8 : Int32) (x9 : Bool) (y1 : Int64) (y0 : Int64) : Option (Int64) :=
  if am_ok (x2 - 1) 5 = true then (if x9 = true then f_Model_byClub_90 k19 h x1 x2 x3 x4 x7 (31 * (x2 - 1)) (y1 * (h.2 10 (x2 - 1).toNatClampNeg)) y0 else f_Model_byClub_94 k19 h x1 x2 x3 x4 x7 x8 (31 * (x2 - 1)) (y1 * (h.2 10 (x2 - 1).toNatClampNeg)) y0) else none
def f_Model_byClub_65 (k19 : Int32 → Int32 → Int32 → Int32 → Int64 → Int32 → Option (Int64)) (h : am_H) (x1 : Int32) (x2 : Int32) (x3 : Int32) (x4 : Int32) (x7 : Int32) (x8 : Int32) (x9 : Bool) (y0 : Int64) : Option (Int64) :=
  f_Model_byClub_66 k19 h x1 x2 x3 x4 x7 x8 x9 1 y0
def f_Model_byClub_59 (k19 : Int32 → Int32 → Int32 → Int32 → Int64 → Int32 → Option (Int64)) (h : am_H) (x1 : Int32) (x2 : Int32) (x3 : Int32) (x4 : Int32) (x7 : Int32) (x8 : Int32) (x9 : Bool) (y0 : Int64) : Option (Int64) :=
  f_Model_byClub_66 k19 h x1 x2 x3 x4 x7 x8 x9 2 y0
def f_Model_byClub_50 (k19 : Int32 → Int32 → Int32 → Int32 → Int64 → Int32 → Option (Int64)) (h : am_H) (x1 : Int32) (x2 : Int32) (x3 : Int32) (x4 : Int32) (x5 : Int64) (x7 : Int32) (x8 : Int32) (y0 : Bool) : Option (Int64) :=
  if y0 = true then f_Model_byClub_59 k19 h x1 x2 x3 x4 x7 x8 y0 x5 else f_Model_byClub_65 k19 h x1 x2 x3 x4 x7 x8 y0 x5
def f_Model_byClub_42 (k19 : Int32 → Int32 → Int32 → Int32 → Int64 → Int32 → Option (Int64)) (h : am_H) (x1 : Int32) (x2 : Int32) (x3 : Int32) (x4 : Int32) (x5 : Int64) (x7 : Int32) (y0 : Int32) : Option (Int64) :=
  (f_Model_isWater h y0).bind fun p => f_Model_byClub_50 k19 h x1 x2 x3 x4 x5 x7 y0 p
def f_Model_byClub_26 (k19 : Int32 → Int32 → Int32 → Int32 → Int64 → Int32 → Option (Int64)) (h : am_H) (x1 : Int32) (x2 : Int32) (x3 : Int32) (x4 : Int32) (x5 : Int64) (x7 : Int32) : Option (Int64) :=
  if am_ok (31 + x3) 54 = true then ((f_Model_downOf h x1 (h.1 1 (31 + x3).toNatClampNeg) x7).bind fun p => f_Model_byClub_42 k19 h x1 x2 x3 x4 x5 x7 p) else none
def f_Model_byClub_19 (k19 : Int32 → Int32 → Int32 → Int32 → Int64 → Int32 → Option (Int64)) (h : am_H) (x1 : Int32) (x2 : Int32) (x3 : Int32) (x4 : Int32) (x5 : Int64) (x7 : Int32) : Option (Int64) :=
  if x4 < x7 then f_Model_byClub_108 h x4 x5 else f_Model_byClub_26 k19 h x1 x2 x3 x4 x5 x7
def f_Model_byClub_19_l (h : am_H) : Nat → Int32 → Int32 → Int32 → Int32 → Int64 → Int32 → Option (Int64)
  | 0 => fun _ _ _ _ _ _ => none
  | n + 1 => f_Model_byClub_19 (f_Model_byClub_19_l h n) h
def f_Model_byClub (h : am_H) (x1 : Int32) (x2 : Int32) (x3 : Int32) : Option (Int64) :=
  if am_ok (37 + x3) 54 = true then (f_Model_byClub_19_l h am_fu x1 x2 x3 (h.1 1 (37 + x3).toNatClampNeg) 0 (-(h.1 1 (37 + x3).toNatClampNeg))) else none
def f_Model_onGreen_36 (h : am_H) (y1 : Int32) (y0 : Int64) : Option (Int64) :=
  some (y0 * y1.toInt64)
def f_Model_onGreen_26 (h : am_H) (y0 : Int64) : Option (Int64) :=
  f_Model_onGreen_36 h (24 - (h.1 1 (51 : Int32).toNatClampNeg)) y0
def f_Model_onGreen_21 (h : am_H) (y0 : Int64) : Option (Int64) :=
  f_Model_onGreen_36 h 12 y0
def f_Model_onGreen (h : am_H) (x1 : Int32) (x2 : Int32) : Option (Int64) :=
  if am_ok x2 5 = true then (if x1 = (h.1 1 (49 : Int32).toNatClampNeg) then f_Model_onGreen_21 h ((h.2 10 x2.toNatClampNeg) / 12) else f_Model_onGreen_26 h ((h.2 10 x2.toNatClampNeg) / 12)) else none
def f_Model_fills_300 (h : am_H) : Option (am_H) :=
  some h
def f_Model_fills_294 (k42 : am_H → Int32 → Int32 → Option (am_H)) (h : am_H) (x1 : Int32) (x2 : Int32) : Option (am_H) :=
  k42 h x1 (x2 + 1)
def f_Model_fills_288 (k42 : am_H → Int32 → Int32 → Option (am_H)) (k49 : am_H → Int32 → Int32 → Int32 → Option (am_H)) (h : am_H) (x1 : Int32) (x2 : Int32) (x3 : Int32) : Option (am_H) :=
  k49 h x1 x2 (x3 + 1)
def f_Model_fills_126 (k42 : am_H → Int32 → Int32 → Option (am_H)) (k49 : am_H → Int32 → Int32 → Int32 → Option (am_H)) (h : am_H) (x1 : Int32) (x2 : Int32) (x3 : Int32) (y3 : Int32) (y2 : Int32) (y1 : Int32) : Option (am_H) :=
  if am_ok x2 5 = true then (if am_ok y1 155 = true then (f_Model_fills_288 k42 k49 (am_pL h 8 y1.toNatClampNeg (((y2 + (y3 / 5)).toInt64) * (h.2 10 x2.toNatClampNeg))) x1 x2 x3) else none) else none
def f_Model_fills_107 (k42 : am_H → Int32 → Int32 → Option (am_H)) (k49 : am_H → Int32 → Int32 → Int32 → Option (am_H)) (h : am_H) (x1 : Int32) (x2 : Int32) (x3 : Int32) (x4 : Int32) : Option (am_H) :=
  f_Model_fills_126 k42 k49 h x1 x2 x3 (f_Model_sizeOf ((h.1 1 (49 : Int32).toNatClampNeg) - x3)) 2 x4
def f_Model_fills_281 (k42 : am_H → Int32 → Int32 → Option (am_H)) (k49 : am_H → Int32 → Int32 → Int32 → Option (am_H)) (k185 : am_H → Int32 → Int32 → Int32 → Int32 → Int32 → Option (am_H)) (h : am_H) (x1 : Int32) (x2 : Int32) (x3 : Int32) (x4 : Int32) (x5 : Int32) (y2 : Int64) (y1 : Int32) : Option (am_H) :=
  if am_ok y1 155 = true then (k185 (am_pL h 8 y1.toNatClampNeg y2) x1 x2 x3 x4 (x5 + 1)) else none
def f_Model_fills_274 (k42 : am_H → Int32 → Int32 → Option (am_H)) (k49 : am_H → Int32 → Int32 → Int32 → Option (am_H)) (k185 : am_H → Int32 → Int32 → Int32 → Int32 → Int32 → Option (am_H)) (h : am_H) (x1 : Int32) (x2 : Int32) (x3 : Int32) (x4 : Int32) (x5 : Int32) (y1 : Int32) : Option (am_H) :=
  if am_ok x4 155 = true then (f_Model_fills_281 k42 k49 k185 h x1 x2 x3 x4 x5 (h.2 8 x4.toNatClampNeg) y1) else none
def f_Model_fills_269 (k42 : am_H → Int32 → Int32 → Option (am_H)) (k49 : am_H → Int32 → Int32 → Int32 → Option (am_H)) (k185 : am_H → Int32 → Int32 → Int32 → Int32 → Int32 → Option (am_H)) (h : am_H) (x1 : Int32) (x2 : Int32) (x3 : Int32) (x4 : Int32) (x5 : Int32) (x6 : Int64) (y1 : Int32) : Option (am_H) :=
  f_Model_fills_281 k42 k49 k185 h x1 x2 x3 x4 x5 x6 y1
def f_Model_fills_257 (k42 : am_H → Int32 → Int32 → Option (am_H)) (k49 : am_H → Int32 → Int32 → Int32 → Option (am_H)) (k185 : am_H → Int32 → Int32 → Int32 → Int32 → Int32 → Option (am_H)) (h : am_H) (x1 : Int32) (x2 : Int32) (x3 : Int32) (x4 : Int32) (x5 : Int32) (x6 : Int64) (x8 : Int32) (y2 : Int32) (y1 : Int32) : Option (am_H) :=
  if am_ok y1 155 = true then (if x8 = 0 then f_Model_fills_274 k42 k49 k185 (am_pI h 9 y1.toNatClampNeg y2) x1 x2 x3 x4 x5 x4 else f_Model_fills_269 k42 k49 k185 (am_pI h 9 y1.toNatClampNeg y2) x1 x2 x3 x4 x5 x6 x4) else none
def f_Model_fills_250 (k42 : am_H → Int32 → Int32 → Option (am_H)) (k49 : am_H → Int32 → Int32 → Int32 → Option (am_H)) (k185 : am_H → Int32 → Int32 → Int32 → Int32 → Int32 → Option (am_H)) (h : am_H) (x1 : Int32) (x2 : Int32) (x3 : Int32) (x4 : Int32) (x5 : Int32) (x6 : Int64) (x8 : Int32) (y1 : Int32) : Option (am_H) :=
  if am_ok x4 155 = true then (f_Model_fills_257 k42 k49 k185 h x1 x2 x3 x4 x5 x6 x8 (h.1 9 x4.toNatClampNeg) y1) else none
def f_Model_fills_245 (k42 : am_H → Int32 → Int32 → Option (am_H)) (k49 : am_H → Int32 → Int32 → Int32 → Option (am_H)) (k185 : am_H → Int32 → Int32 → Int32 → Int32 → Int32 → Option (am_H)) (h : am_H) (x1 : Int32) (x2 : Int32) (x3 : Int32) (x4 : Int32) (x5 : Int32) (x6 : Int64) (x8 : Int32) (y1 : Int32) : Option (am_H) :=
  f_Model_fills_257 k42 k49 k185 h x1 x2 x3 x4 x5 x6 x8 x5 y1
def f_Model_fills_232 (k42 : am_H → Int32 → Int32 → Option (am_H)) (k49 : am_H → Int32 → Int32 → Int32 → Option (am_H)) (k185 : am_H → Int32 → Int32 → Int32 → Int32 → Int32 → Option (am_H)) (h : am_H) (x1 : Int32) (x2 : Int32) (x3 : Int32) (x4 : Int32) (x5 : Int32) (x6 : Int64) (y0 : Int32) : Option (am_H) :=
  if y0 = 0 then f_Model_fills_250 k42 k49 k185 h x1 x2 x3 x4 x5 x6 y0 x4 else f_Model_fills_245 k42 k49 k185 h x1 x2 x3 x4 x5 x6 y0 x4
def f_Model_fills_227 (k42 : am_H → Int32 → Int32 → Option (am_H)) (k49 : am_H → Int32 → Int32 → Int32 → Option (am_H)) (k185 : am_H → Int32 → Int32 → Int32 → Int32 → Int32 → Option (am_H)) (h : am_H) (x1 : Int32) (x2 : Int32) (x3 : Int32) (x4 : Int32) (x5 : Int32) (x6 : Int64) : Option (am_H) :=
  f_Model_fills_232 k42 k49 k185 h x1 x2 x3 x4 x5 x6 1
def f_Model_fills_231 (k42 : am_H → Int32 → Int32 → Option (am_H)) (k49 : am_H → Int32 → Int32 → Int32 → Option (am_H)) (k185 : am_H → Int32 → Int32 → Int32 → Int32 → Int32 → Option (am_H)) (h : am_H) (x1 : Int32) (x2 : Int32) (x3 : Int32) (x4 : Int32) (x5 : Int32) (x6 : Int64) : Option (am_H) :=
  f_Model_fills_232 k42 k49 k185 h x1 x2 x3 x4 x5 x6 0
def f_Model_fills_214 (k42 : am_H → Int32 → Int32 → Option (am_H)) (k49 : am_H → Int32 → Int32 → Int32 → Option (am_H)) (k185 : am_H → Int32 → Int32 → Int32 → Int32 → Int32 → Option (am_H)) (h : am_H) (x1 : Int32) (x2 : Int32) (x3 : Int32) (x4 : Int32) (x5 : Int32) (x6 : Int64) : Option (am_H) :=
  if am_ok x4 155 = true then (if (h.2 8 x4.toNatClampNeg) ≤ x6 then f_Model_fills_231 k42 k49 k185 h x1 x2 x3 x4 x5 x6 else f_Model_fills_227 k42 k49 k185 h x1 x2 x3 x4 x5 x6) else none
def f_Model_fills_202 (k42 : am_H → Int32 → Int32 → Option (am_H)) (k49 : am_H → Int32 → Int32 → Int32 → Option (am_H)) (k185 : am_H → Int32 → Int32 → Int32 → Int32 → Int32 → Option (am_H)) (h : am_H) (x1 : Int32) (x2 : Int32) (x3 : Int32) (x4 : Int32) (x5 : Int32) (y0 : Int64) : Option (am_H) :=
  if am_ok x4 155 = true then (if (h.1 9 x4.toNatClampNeg) < 0 then f_Model_fills_227 k42 k49 k185 h x1 x2 x3 x4 x5 y0 else f_Model_fills_214 k42 k49 k185 h x1 x2 x3 x4 x5 y0) else none
def f_Model_fills_194 (k42 : am_H → Int32 → Int32 → Option (am_H)) (k49 : am_H → Int32 → Int32 → Int32 → Option (am_H)) (k185 : am_H → Int32 → Int32 → Int32 → Int32 → Int32 → Option (am_H)) (h : am_H) (x1 : Int32) (x2 : Int32) (x3 : Int32) (x4 : Int32) (x5 : Int32) : Option (am_H) :=
  (f_Model_byClub h x3 x2 x5).bind fun p => f_Model_fills_202 k42 k49 k185 h x1 x2 x3 x4 x5 p
def f_Model_fills_185 (k42 : am_H → Int32 → Int32 → Option (am_H)) (k49 : am_H → Int32 → Int32 → Int32 → Option (am_H)) (k185 : am_H → Int32 → Int32 → Int32 → Int32 → Int32 → Option (am_H)) (h : am_H) (x1 : Int32) (x2 : Int32) (x3 : Int32) (x4 : Int32) (x5 : Int32) : Option (am_H) :=
  if (h.1 0 6) ≤ x5 then f_Model_fills_288 k42 k49 h x1 x2 x3 else f_Model_fills_194 k42 k49 k185 h x1 x2 x3 x4 x5
def f_Model_fills_185_l (k42 : am_H → Int32 → Int32 → Option (am_H)) (k49 : am_H → Int32 → Int32 → Int32 → Option (am_H)) : Nat → am_H → Int32 → Int32 → Int32 → Int32 → Int32 → Option (am_H)
  | 0 => fun _ _ _ _ _ _ => none
  | n + 1 => f_Model_fills_185 k42 k49 (f_Model_fills_185_l k42 k49 n)
def f_Model_fills_182 (k42 : am_H → Int32 → Int32 → Option (am_H)) (k49 : am_H → Int32 → Int32 → Int32 → Option (am_H)) (h : am_H) (x1 : Int32) (x2 : Int32) (x3 : Int32) (x4 : Int32) : Option (am_H) :=
  f_Model_fills_185_l k42 k49 am_fu h x1 x2 x3 x4 0
def f_Model_fills_178 (k42 : am_H → Int32 → Int32 → Option (am_H)) (k49 : am_H → Int32 → Int32 → Int32 → Option (am_H)) (h : am_H) (x1 : Int32) (x2 : Int32) (x3 : Int32) (y2 : Int64) (y1 : Int32) : Option (am_H) :=
  if am_ok y1 155 = true then (f_Model_fills_288 k42 k49 (am_pL h 8 y1.toNatClampNeg y2) x1 x2 x3) else none
def f_Model_fills_158 (k42 : am_H → Int32 → Int32 → Option (am_H)) (k49 : am_H → Int32 → Int32 → Int32 → Option (am_H)) (h : am_H) (x1 : Int32) (x2 : Int32) (x3 : Int32) (x4 : Int32) (y2 : Int32) (y1 : Int32) : Option (am_H) :=
  if am_ok y1 155 = true then (if am_ok x4 155 = true then ((f_Model_byClub (am_pI h 9 y1.toNatClampNeg y2) x3 x2 ((am_pI h 9 y1.toNatClampNeg y2).1 9 x4.toNatClampNeg)).bind fun p => f_Model_fills_178 k42 k49 (am_pI h 9 y1.toNatClampNeg y2) x1 x2 x3 p x4) else none) else none
def f_Model_fills_146 (k42 : am_H → Int32 → Int32 → Option (am_H)) (k49 : am_H → Int32 → Int32 → Int32 → Option (am_H)) (h : am_H) (x1 : Int32) (x2 : Int32) (x3 : Int32) (x4 : Int32) : Option (am_H) :=
  (f_Model_takenFrom h x3 0).bind fun p => f_Model_fills_158 k42 k49 p.2 x1 x2 x3 x4 p.1 x4
def f_Model_fills_141 (k42 : am_H → Int32 → Int32 → Option (am_H)) (k49 : am_H → Int32 → Int32 → Int32 → Option (am_H)) (h : am_H) (x1 : Int32) (x2 : Int32) (x3 : Int32) (x4 : Int32) : Option (am_H) :=
  if x1 = 1 then f_Model_fills_146 k42 k49 h x1 x2 x3 x4 else f_Model_fills_182 k42 k49 h x1 x2 x3 x4
def f_Model_fills_100 (k42 : am_H → Int32 → Int32 → Option (am_H)) (k49 : am_H → Int32 → Int32 → Int32 → Option (am_H)) (h : am_H) (x1 : Int32) (x2 : Int32) (x3 : Int32) (x4 : Int32) : Option (am_H) :=
  if (h.1 0 6) = 0 then f_Model_fills_107 k42 k49 h x1 x2 x3 x4 else f_Model_fills_141 k42 k49 h x1 x2 x3 x4
def f_Model_fills_96 (k42 : am_H → Int32 → Int32 → Option (am_H)) (k49 : am_H → Int32 → Int32 → Int32 → Option (am_H)) (h : am_H) (x1 : Int32) (x2 : Int32) (x3 : Int32) (x4 : Int32) : Option (am_H) :=
  if x2 = 0 then f_Model_fills_107 k42 k49 h x1 x2 x3 x4 else f_Model_fills_100 k42 k49 h x1 x2 x3 x4
def f_Model_fills_92 (k42 : am_H → Int32 → Int32 → Option (am_H)) (k49 : am_H → Int32 → Int32 → Int32 → Option (am_H)) (h : am_H) (x1 : Int32) (x2 : Int32) (x3 : Int32) (y2 : Int64) (y1 : Int32) : Option (am_H) :=
  if am_ok y1 155 = true then (f_Model_fills_288 k42 k49 (am_pL h 8 y1.toNatClampNeg y2) x1 x2 x3) else none
def f_Model_fills_80 (k42 : am_H → Int32 → Int32 → Option (am_H)) (k49 : am_H → Int32 → Int32 → Int32 → Option (am_H)) (h : am_H) (x1 : Int32) (x2 : Int32) (x3 : Int32) (x4 : Int32) : Option (am_H) :=
  (f_Model_onGreen h x3 x2).bind fun p => f_Model_fills_92 k42 k49 h x1 x2 x3 p x4
def f_Model_fills_77 (k42 : am_H → Int32 → Int32 → Option (am_H)) (k49 : am_H → Int32 → Int32 → Int32 → Option (am_H)) (h : am_H) (x1 : Int32) (x2 : Int32) (x3 : Int32) (x4 : Int32) (y0 : Bool) : Option (am_H) :=
  if y0 = true then f_Model_fills_80 k42 k49 h x1 x2 x3 x4 else f_Model_fills_96 k42 k49 h x1 x2 x3 x4
def f_Model_fills_55 (k42 : am_H → Int32 → Int32 → Option (am_H)) (k49 : am_H → Int32 → Int32 → Int32 → Option (am_H)) (h : am_H) (x1 : Int32) (x2 : Int32) (x3 : Int32) : Option (am_H) :=
  if am_ok ((31 * x2) + x3) 155 = true then ((f_Model_isGreen (am_pI h 9 ((31 * x2) + x3).toNatClampNeg (-2)) x3).bind fun p => f_Model_fills_77 k42 k49 (am_pI h 9 ((31 * x2) + x3).toNatClampNeg (-2)) x1 x2 x3 ((31 * x2) + x3) p) else none
def f_Model_fills_49 (k42 : am_H → Int32 → Int32 → Option (am_H)) (k49 : am_H → Int32 → Int32 → Int32 → Option (am_H)) (h : am_H) (x1 : Int32) (x2 : Int32) (x3 : Int32) : Option (am_H) :=
  if 31 ≤ x3 then f_Model_fills_294 k42 h x1 x2 else f_Model_fills_55 k42 k49 h x1 x2 x3
def f_Model_fills_49_l (k42 : am_H → Int32 → Int32 → Option (am_H)) : Nat → am_H → Int32 → Int32 → Int32 → Option (am_H)
  | 0 => fun _ _ _ _ => none
  | n + 1 => f_Model_fills_49 k42 (f_Model_fills_49_l k42 n)
def f_Model_fills_47 (k42 : am_H → Int32 → Int32 → Option (am_H)) (h : am_H) (x1 : Int32) (x2 : Int32) : Option (am_H) :=
  f_Model_fills_49_l k42 am_fu h x1 x2 0
def f_Model_fills_42 (k42 : am_H → Int32 → Int32 → Option (am_H)) (h : am_H) (x1 : Int32) (x2 : Int32) : Option (am_H) :=
  if 4 < x2 then f_Model_fills_300 h else f_Model_fills_47 k42 h x1 x2
def f_Model_fills_42_l  : Nat → am_H → Int32 → Int32 → Option (am_H)
  | 0 => fun _ _ _ => none
  | n + 1 => f_Model_fills_42 (f_Model_fills_42_l n)
def f_Model_fills_40 (h : am_H) (x1 : Int32) : Option (am_H) :=
  f_Model_fills_42_l am_fu h x1 0
def f_Model_fills_16 (k11 : am_H → Int32 → Int32 → Option (am_H)) (h : am_H) (x1 : Int32) (x2 : Int32) : Option (am_H) :=
  if am_ok (x2 - 1) 5 = true then (if am_ok x2 5 = true then (k11 (am_pL h 10 x2.toNatClampNeg ((h.2 10 (x2 - 1).toNatClampNeg) * 105)) x1 (x2 + 1)) else none) else none
def f_Model_fills_11 (k11 : am_H → Int32 → Int32 → Option (am_H)) (h : am_H) (x1 : Int32) (x2 : Int32) : Option (am_H) :=
  if 4 < x2 then f_Model_fills_40 h x1 else f_Model_fills_16 k11 h x1 x2
def f_Model_fills_11_l  : Nat → am_H → Int32 → Int32 → Option (am_H)
  | 0 => fun _ _ _ => none
  | n + 1 => f_Model_fills_11 (f_Model_fills_11_l n)
def f_Model_fills (h : am_H) (x1 : Int32) : Option (am_H) :=
  f_Model_fills_11_l am_fu (am_pL h 10 (0 : Int32).toNatClampNeg 12) x1 1
def f_Model_strokes_32 (h : am_H) : Option (Int64 × am_H) :=
  some ((-9223372036854775808), h)
def f_Model_strokes_82 (h : am_H) (y0 : Int64) : Option (Int64 × am_H) :=
  some (y0, h)
def f_Model_strokes_61 (h : am_H) (x1 : Int32) (x2 : Int32) (x3 : Int32) : Option (Int64 × am_H) :=
  if am_ok ((31 * x2) + x1) 155 = true then (if am_ok x2 5 = true then ((f_Model_partOf (h.2 8 ((31 * x2) + x1).toNatClampNeg) (h.2 10 x2.toNatClampNeg) x3).bind fun p => f_Model_strokes_82 h p) else none) else none
def f_Model_strokes_46 (h : am_H) (x1 : Int32) (x2 : Int32) : Option (Int64 × am_H) :=
  if am_ok ((31 * x2) + x1) 155 = true then (some ((h.1 9 ((31 * x2) + x1).toNatClampNeg).toInt64, h)) else none
def f_Model_strokes_41 (h : am_H) (x1 : Int32) (x2 : Int32) (x3 : Int32) : Option (Int64 × am_H) :=
  if x3 = 2 then f_Model_strokes_46 h x1 x2 else f_Model_strokes_61 h x1 x2 x3
def f_Model_strokes_36 (h : am_H) (x1 : Int32) (x2 : Int32) (x3 : Int32) : Option (Int64 × am_H) :=
  (f_Model_fills h 0).bind fun p => f_Model_strokes_41 p x1 x2 x3
def f_Model_strokes_29 (h : am_H) (x1 : Int32) (x2 : Int32) (x3 : Int32) (y0 : Bool) : Option (Int64 × am_H) :=
  if y0 = true then f_Model_strokes_36 h x1 x2 x3 else f_Model_strokes_32 h
def f_Model_strokes_20 (h : am_H) (x1 : Int32) (x2 : Int32) (x3 : Int32) : Option (Int64 × am_H) :=
  f_Model_strokes_29 h x1 x2 x3 (f_Model_within x3.toInt64 0 2)
def f_Model_strokes_17 (h : am_H) (x1 : Int32) (x2 : Int32) (x3 : Int32) (y0 : Bool) : Option (Int64 × am_H) :=
  if y0 = true then f_Model_strokes_20 h x1 x2 x3 else f_Model_strokes_32 h
def f_Model_strokes_8 (h : am_H) (x1 : Int32) (x2 : Int32) (x3 : Int32) : Option (Int64 × am_H) :=
  f_Model_strokes_17 h x1 x2 x3 (f_Model_within x2.toInt64 0 4)
def f_Model_strokes_5 (h : am_H) (x1 : Int32) (x2 : Int32) (x3 : Int32) (y0 : Bool) : Option (Int64 × am_H) :=
  if y0 = true then f_Model_strokes_8 h x1 x2 x3 else f_Model_strokes_32 h
def f_Model_strokes (h : am_H) (x1 : Int32) (x2 : Int32) (x3 : Int32) : Option (Int64 × am_H) :=
  f_Model_strokes_5 h x1 x2 x3 (f_Model_isCell x1.toInt64)
def f_Model_byLaw_30 (h : am_H) : Option (Int64 × am_H) :=
  some ((-9223372036854775808), h)
def f_Model_byLaw_60 (h : am_H) (y0 : Int64) : Option (Int64 × am_H) :=
  some (y0, h)
def f_Model_byLaw_39 (h : am_H) (x1 : Int32) (x2 : Int32) (x3 : Int32) : Option (Int64 × am_H) :=
  if am_ok ((31 * x2) + x1) 155 = true then (if am_ok x2 5 = true then ((f_Model_partOf (h.2 8 ((31 * x2) + x1).toNatClampNeg) (h.2 10 x2.toNatClampNeg) x3).bind fun p => f_Model_byLaw_60 h p) else none) else none
def f_Model_byLaw_34 (h : am_H) (x1 : Int32) (x2 : Int32) (x3 : Int32) : Option (Int64 × am_H) :=
  (f_Model_fills h 1).bind fun p => f_Model_byLaw_39 p x1 x2 x3
def f_Model_byLaw_27 (h : am_H) (x1 : Int32) (x2 : Int32) (x3 : Int32) (y0 : Bool) : Option (Int64 × am_H) :=
  if y0 = true then f_Model_byLaw_34 h x1 x2 x3 else f_Model_byLaw_30 h
def f_Model_byLaw_20 (h : am_H) (x1 : Int32) (x2 : Int32) (x3 : Int32) : Option (Int64 × am_H) :=
  f_Model_byLaw_27 h x1 x2 x3 (f_Model_within x3.toInt64 0 1)
def f_Model_byLaw_17 (h : am_H) (x1 : Int32) (x2 : Int32) (x3 : Int32) (y0 : Bool) : Option (Int64 × am_H) :=
  if y0 = true then f_Model_byLaw_20 h x1 x2 x3 else f_Model_byLaw_30 h
def f_Model_byLaw_8 (h : am_H) (x1 : Int32) (x2 : Int32) (x3 : Int32) : Option (Int64 × am_H) :=
  f_Model_byLaw_17 h x1 x2 x3 (f_Model_within x2.toInt64 0 4)
def f_Model_byLaw_5 (h : am_H) (x1 : Int32) (x2 : Int32) (x3 : Int32) (y0 : Bool) : Option (Int64 × am_H) :=
  if y0 = true then f_Model_byLaw_8 h x1 x2 x3 else f_Model_byLaw_30 h
def f_Model_byLaw (h : am_H) (x1 : Int32) (x2 : Int32) (x3 : Int32) : Option (Int64 × am_H) :=
  f_Model_byLaw_5 h x1 x2 x3 (f_Model_isCell x1.toInt64)
def f_Model_lie_47 (h : am_H) : Option (Int64 × am_H) :=
  some ((-9223372036854775808), h)
def f_Model_lie_274 (h : am_H) (y0 : Int64) : Option (Int64 × am_H) :=
  some (y0, h)
def f_Model_lie_257 (h : am_H) (x2 : Int32) (x3 : Int32) (x4 : Int64) (x8 : Int64) : Option (Int64 × am_H) :=
  if am_ok x2 5 = true then ((f_Model_partOf (x4 - x8) (h.2 10 x2.toNatClampNeg) (x3 - 5)).bind fun p => f_Model_lie_274 h p) else none
def f_Model_lie_254 (h : am_H) (y0 : Int64) : Option (Int64 × am_H) :=
  some (y0, h)
def f_Model_lie_237 (h : am_H) (x2 : Int32) (x3 : Int32) (x4 : Int64) (x6 : Int64) : Option (Int64 × am_H) :=
  if am_ok x2 5 = true then ((f_Model_partOf (x4 - x6) (h.2 10 x2.toNatClampNeg) (x3 - 3)).bind fun p => f_Model_lie_254 h p) else none
def f_Model_lie_232 (h : am_H) (x2 : Int32) (x3 : Int32) (x4 : Int64) (x6 : Int64) (x8 : Int64) : Option (Int64 × am_H) :=
  if 5 ≤ x3 then f_Model_lie_257 h x2 x3 x4 x8 else f_Model_lie_237 h x2 x3 x4 x6
def f_Model_lie_226 (h : am_H) (x10 : Int32) : Option (Int64 × am_H) :=
  some (x10.toInt64, h)
def f_Model_lie_221 (h : am_H) (x2 : Int32) (x3 : Int32) (x4 : Int64) (x6 : Int64) (x8 : Int64) (x10 : Int32) : Option (Int64 × am_H) :=
  if x3 = 2 then f_Model_lie_226 h x10 else f_Model_lie_232 h x2 x3 x4 x6 x8
def f_Model_lie_220 (h : am_H) (y0 : Int64) : Option (Int64 × am_H) :=
  some (y0, h)
def f_Model_lie_208 (h : am_H) (x2 : Int32) (x3 : Int32) (x6 : Int64) : Option (Int64 × am_H) :=
  if am_ok x2 5 = true then ((f_Model_partOf x6 (h.2 10 x2.toNatClampNeg) x3).bind fun p => f_Model_lie_220 h p) else none
def f_Model_lie_203 (h : am_H) (x2 : Int32) (x3 : Int32) (x4 : Int64) (x6 : Int64) (x8 : Int64) (x10 : Int32) : Option (Int64 × am_H) :=
  if 2 ≤ x3 then f_Model_lie_221 h x2 x3 x4 x6 x8 x10 else f_Model_lie_208 h x2 x3 x6
def f_Model_lie_197 (k84 : am_H → Int32 → Int32 → Int32 → Int64 → Int64 → Int64 → Int32 → Int32 → Option (Int64 × am_H)) (h : am_H) (x1 : Int32) (x2 : Int32) (x3 : Int32) (x4 : Int64) (x6 : Int64) (x8 : Int64) (x10 : Int32) (x11 : Int32) : Option (Int64 × am_H) :=
  k84 h x1 x2 x3 x4 x6 x8 x10 (x11 + 1)
def f_Model_lie_189 (k84 : am_H → Int32 → Int32 → Int32 → Int64 → Int64 → Int64 → Int32 → Int32 → Option (Int64 × am_H)) (k93 : am_H → Int32 → Int32 → Int32 → Int64 → Int64 → Int64 → Int32 → Int32 → Int32 → Option (Int64 × am_H)) (h : am_H) (x1 : Int32) (x2 : Int32) (x3 : Int32) (x4 : Int64) (x6 : Int64) (x10 : Int32) (x11 : Int32) (x12 : Int32) (y0 : Int64) : Option (Int64 × am_H) :=
  k93 h x1 x2 x3 x4 x6 y0 x10 x11 (x12 + 2)
def f_Model_lie_187 (k84 : am_H → Int32 → Int32 → Int32 → Int64 → Int64 → Int64 → Int32 → Int32 → Option (Int64 × am_H)) (k93 : am_H → Int32 → Int32 → Int32 → Int64 → Int64 → Int64 → Int32 → Int32 → Int32 → Option (Int64 × am_H)) (h : am_H) (x1 : Int32) (x2 : Int32) (x3 : Int32) (x4 : Int64) (x6 : Int64) (x8 : Int64) (x10 : Int32) (x11 : Int32) (x12 : Int32) : Option (Int64 × am_H) :=
  f_Model_lie_189 k84 k93 h x1 x2 x3 x4 x6 x10 x11 x12 x8
def f_Model_lie_182 (k84 : am_H → Int32 → Int32 → Int32 → Int64 → Int64 → Int64 → Int32 → Int32 → Option (Int64 × am_H)) (k93 : am_H → Int32 → Int32 → Int32 → Int64 → Int64 → Int64 → Int32 → Int32 → Int32 → Option (Int64 × am_H)) (h : am_H) (x1 : Int32) (x2 : Int32) (x3 : Int32) (x4 : Int64) (x6 : Int64) (x10 : Int32) (x11 : Int32) (x12 : Int32) (x15 : Int64) : Option (Int64 × am_H) :=
  f_Model_lie_189 k84 k93 h x1 x2 x3 x4 x6 x10 x11 x12 x15
def f_Model_lie_172 (k84 : am_H → Int32 → Int32 → Int32 → Int64 → Int64 → Int64 → Int32 → Int32 → Option (Int64 × am_H)) (k93 : am_H → Int32 → Int32 → Int32 → Int64 → Int64 → Int64 → Int32 → Int32 → Int32 → Option (Int64 × am_H)) (h : am_H) (x1 : Int32) (x2 : Int32) (x3 : Int32) (x4 : Int64) (x6 : Int64) (x8 : Int64) (x10 : Int32) (x11 : Int32) (x12 : Int32) (y0 : Int64) : Option (Int64 × am_H) :=
  if x8 ≤ y0 then f_Model_lie_187 k84 k93 h x1 x2 x3 x4 x6 x8 x10 x11 x12 else f_Model_lie_182 k84 k93 h x1 x2 x3 x4 x6 x10 x11 x12 y0
def f_Model_lie_169 (k84 : am_H → Int32 → Int32 → Int32 → Int64 → Int64 → Int64 → Int32 → Int32 → Option (Int64 × am_H)) (k93 : am_H → Int32 → Int32 → Int32 → Int64 → Int64 → Int64 → Int32 → Int32 → Int32 → Option (Int64 × am_H)) (h : am_H) (x1 : Int32) (x2 : Int32) (x3 : Int32) (x4 : Int64) (x6 : Int64) (x8 : Int64) (x10 : Int32) (x11 : Int32) (x12 : Int32) (y3 : Int32) (y2 : Int32) (y1 : Int32) : Option (Int64 × am_H) :=
  (f_Model_byClub h y1 y2 y3).bind fun p => f_Model_lie_172 k84 k93 h x1 x2 x3 x4 x6 x8 x10 x11 x12 p
def f_Model_lie_152 (k84 : am_H → Int32 → Int32 → Int32 → Int64 → Int64 → Int64 → Int32 → Int32 → Option (Int64 × am_H)) (k93 : am_H → Int32 → Int32 → Int32 → Int64 → Int64 → Int64 → Int32 → Int32 → Int32 → Option (Int64 × am_H)) (h : am_H) (x1 : Int32) (x2 : Int32) (x3 : Int32) (x4 : Int64) (x8 : Int64) (x10 : Int32) (x11 : Int32) (x12 : Int32) (y0 : Int64) : Option (Int64 × am_H) :=
  (f_Model_takenFrom h x1 ((x12 * x11) / 2)).bind fun p => f_Model_lie_169 k84 k93 p.2 x1 x2 x3 x4 y0 x8 x10 x11 x12 p.1 x2 x1
def f_Model_lie_150 (k84 : am_H → Int32 → Int32 → Int32 → Int64 → Int64 → Int64 → Int32 → Int32 → Option (Int64 × am_H)) (k93 : am_H → Int32 → Int32 → Int32 → Int64 → Int64 → Int64 → Int32 → Int32 → Int32 → Option (Int64 × am_H)) (h : am_H) (x1 : Int32) (x2 : Int32) (x3 : Int32) (x4 : Int64) (x6 : Int64) (x8 : Int64) (x10 : Int32) (x11 : Int32) (x12 : Int32) : Option (Int64 × am_H) :=
  f_Model_lie_152 k84 k93 h x1 x2 x3 x4 x8 x10 x11 x12 x6
def f_Model_lie_145 (k84 : am_H → Int32 → Int32 → Int32 → Int64 → Int64 → Int64 → Int32 → Int32 → Option (Int64 × am_H)) (k93 : am_H → Int32 → Int32 → Int32 → Int64 → Int64 → Int64 → Int32 → Int32 → Int32 → Option (Int64 × am_H)) (h : am_H) (x1 : Int32) (x2 : Int32) (x3 : Int32) (x4 : Int64) (x8 : Int64) (x10 : Int32) (x11 : Int32) (x12 : Int32) (x13 : Int64) : Option (Int64 × am_H) :=
  f_Model_lie_152 k84 k93 h x1 x2 x3 x4 x8 x10 x11 x12 x13
def f_Model_lie_135 (k84 : am_H → Int32 → Int32 → Int32 → Int64 → Int64 → Int64 → Int32 → Int32 → Option (Int64 × am_H)) (k93 : am_H → Int32 → Int32 → Int32 → Int64 → Int64 → Int64 → Int32 → Int32 → Int32 → Option (Int64 × am_H)) (h : am_H) (x1 : Int32) (x2 : Int32) (x3 : Int32) (x4 : Int64) (x6 : Int64) (x8 : Int64) (x11 : Int32) (x12 : Int32) (x13 : Int64) (y0 : Int32) : Option (Int64 × am_H) :=
  if x6 ≤ x13 then f_Model_lie_150 k84 k93 h x1 x2 x3 x4 x6 x8 y0 x11 x12 else f_Model_lie_145 k84 k93 h x1 x2 x3 x4 x8 y0 x11 x12 x13
def f_Model_lie_133 (k84 : am_H → Int32 → Int32 → Int32 → Int64 → Int64 → Int64 → Int32 → Int32 → Option (Int64 × am_H)) (k93 : am_H → Int32 → Int32 → Int32 → Int64 → Int64 → Int64 → Int32 → Int32 → Int32 → Option (Int64 × am_H)) (h : am_H) (x1 : Int32) (x2 : Int32) (x3 : Int32) (x4 : Int64) (x6 : Int64) (x8 : Int64) (x10 : Int32) (x11 : Int32) (x12 : Int32) (x13 : Int64) : Option (Int64 × am_H) :=
  f_Model_lie_135 k84 k93 h x1 x2 x3 x4 x6 x8 x11 x12 x13 x10
def f_Model_lie_125 (k84 : am_H → Int32 → Int32 → Int32 → Int64 → Int64 → Int64 → Int32 → Int32 → Option (Int64 × am_H)) (k93 : am_H → Int32 → Int32 → Int32 → Int64 → Int64 → Int64 → Int32 → Int32 → Int32 → Option (Int64 × am_H)) (h : am_H) (x1 : Int32) (x2 : Int32) (x3 : Int32) (x4 : Int64) (x6 : Int64) (x8 : Int64) (x11 : Int32) (x12 : Int32) (x13 : Int64) : Option (Int64 × am_H) :=
  f_Model_lie_135 k84 k93 h x1 x2 x3 x4 x6 x8 x11 x12 x13 (x12 * x11)
def f_Model_lie_115 (k84 : am_H → Int32 → Int32 → Int32 → Int64 → Int64 → Int64 → Int32 → Int32 → Option (Int64 × am_H)) (k93 : am_H → Int32 → Int32 → Int32 → Int64 → Int64 → Int64 → Int32 → Int32 → Int32 → Option (Int64 × am_H)) (h : am_H) (x1 : Int32) (x2 : Int32) (x3 : Int32) (x4 : Int64) (x6 : Int64) (x8 : Int64) (x10 : Int32) (x11 : Int32) (x12 : Int32) (y0 : Int64) : Option (Int64 × am_H) :=
  if x6 ≤ y0 then f_Model_lie_133 k84 k93 h x1 x2 x3 x4 x6 x8 x10 x11 x12 y0 else f_Model_lie_125 k84 k93 h x1 x2 x3 x4 x6 x8 x11 x12 y0
def f_Model_lie_112 (k84 : am_H → Int32 → Int32 → Int32 → Int64 → Int64 → Int64 → Int32 → Int32 → Option (Int64 × am_H)) (k93 : am_H → Int32 → Int32 → Int32 → Int64 → Int64 → Int64 → Int32 → Int32 → Int32 → Option (Int64 × am_H)) (h : am_H) (x1 : Int32) (x2 : Int32) (x3 : Int32) (x4 : Int64) (x6 : Int64) (x8 : Int64) (x10 : Int32) (x11 : Int32) (x12 : Int32) (y3 : Int32) (y2 : Int32) (y1 : Int32) : Option (Int64 × am_H) :=
  (f_Model_byClub h y1 y2 y3).bind fun p => f_Model_lie_115 k84 k93 h x1 x2 x3 x4 x6 x8 x10 x11 x12 p
def f_Model_lie_99 (k84 : am_H → Int32 → Int32 → Int32 → Int64 → Int64 → Int64 → Int32 → Int32 → Option (Int64 × am_H)) (k93 : am_H → Int32 → Int32 → Int32 → Int64 → Int64 → Int64 → Int32 → Int32 → Int32 → Option (Int64 × am_H)) (h : am_H) (x1 : Int32) (x2 : Int32) (x3 : Int32) (x4 : Int64) (x6 : Int64) (x8 : Int64) (x10 : Int32) (x11 : Int32) (x12 : Int32) : Option (Int64 × am_H) :=
  (f_Model_takenFrom h x1 (x12 * x11)).bind fun p => f_Model_lie_112 k84 k93 p.2 x1 x2 x3 x4 x6 x8 x10 x11 x12 p.1 x2 x1
def f_Model_lie_93 (k84 : am_H → Int32 → Int32 → Int32 → Int64 → Int64 → Int64 → Int32 → Int32 → Option (Int64 × am_H)) (k93 : am_H → Int32 → Int32 → Int32 → Int64 → Int64 → Int64 → Int32 → Int32 → Int32 → Option (Int64 × am_H)) (h : am_H) (x1 : Int32) (x2 : Int32) (x3 : Int32) (x4 : Int64) (x6 : Int64) (x8 : Int64) (x10 : Int32) (x11 : Int32) (x12 : Int32) : Option (Int64 × am_H) :=
  if 2 ≤ x12 then f_Model_lie_197 k84 h x1 x2 x3 x4 x6 x8 x10 x11 else f_Model_lie_99 k84 k93 h x1 x2 x3 x4 x6 x8 x10 x11 x12
def f_Model_lie_93_l (k84 : am_H → Int32 → Int32 → Int32 → Int64 → Int64 → Int64 → Int32 → Int32 → Option (Int64 × am_H)) : Nat → am_H → Int32 → Int32 → Int32 → Int64 → Int64 → Int64 → Int32 → Int32 → Int32 → Option (Int64 × am_H)
  | 0 => fun _ _ _ _ _ _ _ _ _ _ => none
  | n + 1 => f_Model_lie_93 k84 (f_Model_lie_93_l k84 n)
def f_Model_lie_90 (k84 : am_H → Int32 → Int32 → Int32 → Int64 → Int64 → Int64 → Int32 → Int32 → Option (Int64 × am_H)) (h : am_H) (x1 : Int32) (x2 : Int32) (x3 : Int32) (x4 : Int64) (x6 : Int64) (x8 : Int64) (x10 : Int32) (x11 : Int32) : Option (Int64 × am_H) :=
  f_Model_lie_93_l k84 am_fu h x1 x2 x3 x4 x6 x8 x10 x11 (-1)
def f_Model_lie_84 (k84 : am_H → Int32 → Int32 → Int32 → Int64 → Int64 → Int64 → Int32 → Int32 → Option (Int64 × am_H)) (h : am_H) (x1 : Int32) (x2 : Int32) (x3 : Int32) (x4 : Int64) (x6 : Int64) (x8 : Int64) (x10 : Int32) (x11 : Int32) : Option (Int64 × am_H) :=
  if 5 < x11 then f_Model_lie_203 h x2 x3 x4 x6 x8 x10 else f_Model_lie_90 k84 h x1 x2 x3 x4 x6 x8 x10 x11
def f_Model_lie_84_l  : Nat → am_H → Int32 → Int32 → Int32 → Int64 → Int64 → Int64 → Int32 → Int32 → Option (Int64 × am_H)
  | 0 => fun _ _ _ _ _ _ _ _ _ => none
  | n + 1 => f_Model_lie_84 (f_Model_lie_84_l n)
def f_Model_lie_68 (h : am_H) (x1 : Int32) (x2 : Int32) (x3 : Int32) (y0 : Int64) : Option (Int64 × am_H) :=
  f_Model_lie_84_l am_fu h x1 x2 x3 y0 y0 y0 0 1
def f_Model_lie_65 (h : am_H) (x1 : Int32) (x2 : Int32) (x3 : Int32) (y3 : Int32) (y2 : Int32) (y1 : Int32) : Option (Int64 × am_H) :=
  (f_Model_byClub h y1 y2 y3).bind fun p => f_Model_lie_68 h x1 x2 x3 p
def f_Model_lie_56 (h : am_H) (x1 : Int32) (x2 : Int32) (x3 : Int32) : Option (Int64 × am_H) :=
  (f_Model_takenFrom h x1 0).bind fun p => f_Model_lie_65 p.2 x1 x2 x3 p.1 x2 x1
def f_Model_lie_51 (h : am_H) (x1 : Int32) (x2 : Int32) (x3 : Int32) : Option (Int64 × am_H) :=
  (f_Model_fills h 1).bind fun p => f_Model_lie_56 p x1 x2 x3
def f_Model_lie_44 (h : am_H) (x1 : Int32) (x2 : Int32) (x3 : Int32) (y0 : Bool) : Option (Int64 × am_H) :=
  if y0 = true then f_Model_lie_47 h else f_Model_lie_51 h x1 x2 x3
def f_Model_lie_39 (h : am_H) (x1 : Int32) (x2 : Int32) (x3 : Int32) : Option (Int64 × am_H) :=
  (f_Model_isGreen h x1).bind fun p => f_Model_lie_44 h x1 x2 x3 p
def f_Model_lie_32 (h : am_H) (x1 : Int32) (x2 : Int32) (x3 : Int32) : Option (Int64 × am_H) :=
  if (h.1 0 6) = 0 then f_Model_lie_47 h else f_Model_lie_39 h x1 x2 x3
def f_Model_lie_29 (h : am_H) (x1 : Int32) (x2 : Int32) (x3 : Int32) (y0 : Bool) : Option (Int64 × am_H) :=
  if y0 = true then f_Model_lie_32 h x1 x2 x3 else f_Model_lie_47 h
def f_Model_lie_20 (h : am_H) (x1 : Int32) (x2 : Int32) (x3 : Int32) : Option (Int64 × am_H) :=
  f_Model_lie_29 h x1 x2 x3 (f_Model_within x3.toInt64 0 6)
def f_Model_lie_17 (h : am_H) (x1 : Int32) (x2 : Int32) (x3 : Int32) (y0 : Bool) : Option (Int64 × am_H) :=
  if y0 = true then f_Model_lie_20 h x1 x2 x3 else f_Model_lie_47 h
def f_Model_lie_8 (h : am_H) (x1 : Int32) (x2 : Int32) (x3 : Int32) : Option (Int64 × am_H) :=
  f_Model_lie_17 h x1 x2 x3 (f_Model_within x2.toInt64 1 4)
def f_Model_lie_5 (h : am_H) (x1 : Int32) (x2 : Int32) (x3 : Int32) (y0 : Bool) : Option (Int64 × am_H) :=
  if y0 = true then f_Model_lie_8 h x1 x2 x3 else f_Model_lie_47 h
def f_Model_lie (h : am_H) (x1 : Int32) (x2 : Int32) (x3 : Int32) : Option (Int64 × am_H) :=
  f_Model_lie_5 h x1 x2 x3 (f_Model_isCell x1.toInt64)
abbrev rc_Model_even : Type := (am_H → Int32 → Int32 → Option (Int32)) × (am_H → Int32 → Int32 → Int32 → Option (Int32))
def f_Model_even_27 (rc : rc_Model_even) (h : am_H) (x4 : Int32) : Option (Int32) :=
  some x4
def f_Model_even_23 (rc : rc_Model_even) (h : am_H) (x3 : Int32) : Option (Int32) :=
  some x3
def f_Model_even_15 (rc : rc_Model_even) (h : am_H) (x3 : Int32) (y0 : Int32) : Option (Int32) :=
  if x3 ≤ y0 then f_Model_even_27 rc h y0 else f_Model_even_23 rc h x3
def f_Model_even_7 (rc : rc_Model_even) (h : am_H) (x1 : Int32) (x2 : Int32) (y0 : Int32) : Option (Int32) :=
  (rc.2 h x1 x2 1).bind fun p => f_Model_even_15 rc h y0 p
def f_Model_even_0 (rc : rc_Model_even) (h : am_H) (x1 : Int32) (x2 : Int32) : Option (Int32) :=
  (rc.2 h x1 x2 0).bind fun p => f_Model_even_7 rc h x1 x2 p
def f_Model_evenBy_91 (rc : rc_Model_even) (h : am_H) (y2 : Int32) (y1 : Int32) (y0 : Int32) : Option (Int32) :=
  some (y0 + (y1 * y2))
def f_Model_evenBy_73 (rc : rc_Model_even) (h : am_H) (x1 : Int32) (x2 : Int32) (x4 : Int32) (x5 : Int32) (y2 : Int32) (y1 : Int32) (y0 : Int32) : Option (Int32) :=
  (rc.1 h x1 (x2 - 1)).bind fun p => f_Model_evenBy_91 rc h p ((12 - x4) - x5) (y0 + (y1 * y2))
def f_Model_evenBy_60 (rc : rc_Model_even) (h : am_H) (x1 : Int32) (x2 : Int32) (x4 : Int32) (x5 : Int32) (y1 : Int32) (y0 : Int32) : Option (Int32) :=
  (rc.1 h (x1 + 2) (x2 - 1)).bind fun p => f_Model_evenBy_73 rc h x1 x2 x4 x5 p x5 (y0 * y1)
def f_Model_evenBy_30 (rc : rc_Model_even) (h : am_H) (x1 : Int32) (x2 : Int32) : Option (Int32) :=
  (rc.1 h (x1 - 1) (x2 - 1)).bind fun p => f_Model_evenBy_60 rc h x1 x2 (h.1 1 (52 : Int32).toNatClampNeg) (h.1 1 (53 : Int32).toNatClampNeg) p (h.1 1 (52 : Int32).toNatClampNeg)
def f_Model_evenBy_28 (rc : rc_Model_even) (h : am_H) (y1 : Int32) (y0 : Int32) : Option (Int32) :=
  some (y0 * y1)
def f_Model_evenBy_18 (rc : rc_Model_even) (h : am_H) (x1 : Int32) (x2 : Int32) : Option (Int32) :=
  (rc.1 h x1 (x2 - 1)).bind fun p => f_Model_evenBy_28 rc h p 12
def f_Model_evenBy_14 (rc : rc_Model_even) (h : am_H) (x1 : Int32) (x2 : Int32) (x3 : Int32) : Option (Int32) :=
  if x3 = 0 then f_Model_evenBy_18 rc h x1 x2 else f_Model_evenBy_30 rc h x1 x2
def f_Model_evenBy_12 (rc : rc_Model_even) (h : am_H) : Option (Int32) :=
  some 0
def f_Model_evenBy_8 (rc : rc_Model_even) (h : am_H) : Option (Int32) :=
  some 1
def f_Model_evenBy_4 (rc : rc_Model_even) (h : am_H) (x1 : Int32) : Option (Int32) :=
  if 0 < x1 then f_Model_evenBy_12 rc h else f_Model_evenBy_8 rc h
def f_Model_evenBy_0 (rc : rc_Model_even) (h : am_H) (x1 : Int32) (x2 : Int32) (x3 : Int32) : Option (Int32) :=
  if x2 = 0 then f_Model_evenBy_4 rc h x1 else f_Model_evenBy_14 rc h x1 x2 x3
def g_Model_even : Nat → rc_Model_even
  | 0 => ((fun _ _ _ => none), (fun _ _ _ _ => none))
  | n + 1 => (f_Model_even_0 (g_Model_even n), f_Model_evenBy_0 (g_Model_even n))
def f_Model_even : am_H → Int32 → Int32 → Option (Int32) := (g_Model_even 64).1
def f_Model_evenBy : am_H → Int32 → Int32 → Int32 → Option (Int32) := (g_Model_even 64).2
def f_Model_atPin_40 (h : am_H) : Option (Int64) :=
  some (-9223372036854775808)
def f_Model_atPin_131 (h : am_H) (y0 : Int64) : Option (Int64) :=
  some y0
def f_Model_atPin_127 (h : am_H) (x2 : Int32) (y1 : Int64) (y0 : Int64) : Option (Int64) :=
  (f_Model_partOf y0 y1 x2).bind fun p => f_Model_atPin_131 h p
def f_Model_atPin_124 (h : am_H) (x2 : Int32) (y0 : Int64) : Option (Int64) :=
  f_Model_atPin_127 h x2 144 y0
def f_Model_atPin_118 (h : am_H) (x2 : Int32) (y0 : Int64) : Option (Int64) :=
  f_Model_atPin_127 h x2 12 y0
def f_Model_atPin_110 (h : am_H) (x1 : Int32) (x2 : Int32) (y0 : Int64) : Option (Int64) :=
  if (x1 - x1 / 10 * 10) = 1 then f_Model_atPin_118 h x2 y0 else f_Model_atPin_124 h x2 y0
def f_Model_atPin_108 (h : am_H) (x1 : Int32) (x2 : Int32) (x3 : Int32) : Option (Int64) :=
  f_Model_atPin_110 h x1 x2 x3.toInt64
def f_Model_atPin_102 (h : am_H) (x1 : Int32) (x2 : Int32) (x4 : Int32) : Option (Int64) :=
  f_Model_atPin_110 h x1 x2 x4.toInt64
def f_Model_atPin_96 (h : am_H) (x1 : Int32) (x2 : Int32) (x3 : Int32) (x4 : Int32) : Option (Int64) :=
  if x4 ≤ x3 then f_Model_atPin_108 h x1 x2 x3 else f_Model_atPin_102 h x1 x2 x4
def f_Model_atPin_94 (h : am_H) : Option (Int64) :=
  some 0
def f_Model_atPin_90 (h : am_H) : Option (Int64) :=
  some 1
def f_Model_atPin_84 (h : am_H) (x3 : Int32) (x4 : Int32) : Option (Int64) :=
  if x4 ≤ x3 then f_Model_atPin_94 h else f_Model_atPin_90 h
def f_Model_atPin_77 (h : am_H) (x1 : Int32) (x2 : Int32) (x3 : Int32) (y0 : Int32) : Option (Int64) :=
  if x2 = 2 then f_Model_atPin_84 h x3 y0 else f_Model_atPin_96 h x1 x2 x3 y0
def f_Model_atPin_60 (h : am_H) (x1 : Int32) (x2 : Int32) (y0 : Int32) : Option (Int64) :=
  (f_Model_evenBy h ((x1 / 10) - 9) (x1 - x1 / 10 * 10) 1).bind fun p => f_Model_atPin_77 h x1 x2 y0 p
def f_Model_atPin_44 (h : am_H) (x1 : Int32) (x2 : Int32) : Option (Int64) :=
  (f_Model_evenBy h ((x1 / 10) - 9) (x1 - x1 / 10 * 10) 0).bind fun p => f_Model_atPin_60 h x1 x2 p
def f_Model_atPin_37 (h : am_H) (x1 : Int32) (x2 : Int32) (y0 : Bool) : Option (Int64) :=
  if y0 = true then f_Model_atPin_44 h x1 x2 else f_Model_atPin_40 h
def f_Model_atPin_28 (h : am_H) (x1 : Int32) (x2 : Int32) : Option (Int64) :=
  f_Model_atPin_37 h x1 x2 (f_Model_within x2.toInt64 0 2)
def f_Model_atPin_25 (h : am_H) (x1 : Int32) (x2 : Int32) (y0 : Bool) : Option (Int64) :=
  if y0 = true then f_Model_atPin_28 h x1 x2 else f_Model_atPin_40 h
def f_Model_atPin_13 (h : am_H) (x1 : Int32) (x2 : Int32) : Option (Int64) :=
  f_Model_atPin_25 h x1 x2 (f_Model_within ((x1 - x1 / 10 * 10).toInt64) 1 2)
def f_Model_atPin_4 (h : am_H) (x1 : Int32) (x2 : Int32) : Option (Int64) :=
  if 18 < (x1 / 10) then f_Model_atPin_40 h else f_Model_atPin_13 h x1 x2
def f_Model_atPin (h : am_H) (x1 : Int32) (x2 : Int32) : Option (Int64) :=
  if x1 < 0 then f_Model_atPin_40 h else f_Model_atPin_4 h x1 x2
def f_Model_fromTee_5 (h : am_H) : Option (Int64 × am_H) :=
  some ((h.2 8 (93 : Int32).toNatClampNeg), h)
def f_Model_fromTee (h : am_H) (x1 : Int32) : Option (Int64 × am_H) :=
  (f_Model_fills h x1).bind fun p => f_Model_fromTee_5 p
def f_Model_teeWith_19 (h : am_H) (x1 : Int32) (x3 : Int32) (y0 : Int64) : Option (Int64 × am_H) :=
  if am_ok x1 54 = true then (some (y0, am_pI h 1 x1.toNatClampNeg x3)) else none
def f_Model_teeWith (h : am_H) (x1 : Int32) (x2 : Int32) : Option (Int64 × am_H) :=
  if am_ok x1 54 = true then ((f_Model_fromTee (am_pI h 1 x1.toNatClampNeg x2) 0).bind fun p => f_Model_teeWith_19 p.2 x1 (h.1 1 x1.toNatClampNeg) p.1) else none
def f_Model_practise_176 (h : am_H) (y0 : Int64) : Option (Int64 × am_H) :=
  some (y0, h)
def f_Model_practise_164 (h : am_H) (x1 : Int32) (x5 : Int64) : Option (Int64 × am_H) :=
  (f_Model_partOf x5 (h.2 10 (3 : Int32).toNatClampNeg) x1).bind fun p => f_Model_practise_176 h p
def f_Model_practise_158 (h : am_H) (x4 : Int32) : Option (Int64 × am_H) :=
  some (x4.toInt64, h)
def f_Model_practise_153 (h : am_H) (x1 : Int32) (x4 : Int32) (x5 : Int64) : Option (Int64 × am_H) :=
  if x1 = 2 then f_Model_practise_158 h x4 else f_Model_practise_164 h x1 x5
def f_Model_practise_145 (k64 : am_H → Int32 → Int64 → Int32 → Int64 → Int32 → Option (Int64 × am_H)) (h : am_H) (x1 : Int32) (x2 : Int64) (x4 : Int32) (x7 : Int32) (y0 : Int64) : Option (Int64 × am_H) :=
  k64 h x1 x2 x4 y0 (x7 + 1)
def f_Model_practise_143 (k64 : am_H → Int32 → Int64 → Int32 → Int64 → Int32 → Option (Int64 × am_H)) (h : am_H) (x1 : Int32) (x2 : Int64) (x4 : Int32) (x5 : Int64) (x7 : Int32) : Option (Int64 × am_H) :=
  f_Model_practise_145 k64 h x1 x2 x4 x7 x5
def f_Model_practise_138 (k64 : am_H → Int32 → Int64 → Int32 → Int64 → Int32 → Option (Int64 × am_H)) (h : am_H) (x1 : Int32) (x2 : Int64) (x4 : Int32) (x7 : Int32) (x9 : Int64) : Option (Int64 × am_H) :=
  f_Model_practise_145 k64 h x1 x2 x4 x7 x9
def f_Model_practise_128 (k64 : am_H → Int32 → Int64 → Int32 → Int64 → Int32 → Option (Int64 × am_H)) (h : am_H) (x1 : Int32) (x2 : Int64) (x5 : Int64) (x7 : Int32) (x9 : Int64) (y0 : Int32) : Option (Int64 × am_H) :=
  if x9 ≤ x5 then f_Model_practise_143 k64 h x1 x2 y0 x5 x7 else f_Model_practise_138 k64 h x1 x2 y0 x7 x9
def f_Model_practise_126 (k64 : am_H → Int32 → Int64 → Int32 → Int64 → Int32 → Option (Int64 × am_H)) (h : am_H) (x1 : Int32) (x2 : Int64) (x4 : Int32) (x5 : Int64) (x7 : Int32) (x9 : Int64) : Option (Int64 × am_H) :=
  f_Model_practise_128 k64 h x1 x2 x5 x7 x9 x4
def f_Model_practise_119 (k64 : am_H → Int32 → Int64 → Int32 → Int64 → Int32 → Option (Int64 × am_H)) (h : am_H) (x1 : Int32) (x2 : Int64) (x5 : Int64) (x7 : Int32) (x9 : Int64) : Option (Int64 × am_H) :=
  f_Model_practise_128 k64 h x1 x2 x5 x7 x9 (x7 + 1)
def f_Model_practise_108 (k64 : am_H → Int32 → Int64 → Int32 → Int64 → Int32 → Option (Int64 × am_H)) (h : am_H) (x1 : Int32) (x2 : Int64) (x4 : Int32) (x5 : Int64) (x7 : Int32) (y1 : Int64) (y0 : Int64) : Option (Int64 × am_H) :=
  if (y0 - y1) ≤ x5 then f_Model_practise_126 k64 h x1 x2 x4 x5 x7 (y0 - y1) else f_Model_practise_119 k64 h x1 x2 x5 x7 (y0 - y1)
def f_Model_practise_105 (k64 : am_H → Int32 → Int64 → Int32 → Int64 → Int32 → Option (Int64 × am_H)) (h : am_H) (x1 : Int32) (x2 : Int64) (x4 : Int32) (x5 : Int64) (x7 : Int32) (y3 : Int32) (y2 : Int32) (y0 : Int64) : Option (Int64 × am_H) :=
  (f_Model_teeWith h y2 y3).bind fun p => f_Model_practise_108 k64 p.2 x1 x2 x4 x5 x7 p.1 y0
def f_Model_practise_104 (k64 : am_H → Int32 → Int64 → Int32 → Int64 → Int32 → Option (Int64 × am_H)) (h : am_H) (x1 : Int32) (x2 : Int64) (x4 : Int32) (x5 : Int64) (x7 : Int32) (y2 : Int32) (y0 : Int64) : Option (Int64 × am_H) :=
  f_Model_practise_105 k64 h x1 x2 x4 x5 x7 0 y2 y0
def f_Model_practise_97 (k64 : am_H → Int32 → Int64 → Int32 → Int64 → Int32 → Option (Int64 × am_H)) (h : am_H) (x1 : Int32) (x2 : Int64) (x4 : Int32) (x5 : Int64) (x7 : Int32) (x8 : Int32) (y2 : Int32) (y0 : Int64) : Option (Int64 × am_H) :=
  f_Model_practise_105 k64 h x1 x2 x4 x5 x7 (x8 - 1) y2 y0
def f_Model_practise_73 (k64 : am_H → Int32 → Int64 → Int32 → Int64 → Int32 → Option (Int64 × am_H)) (h : am_H) (x1 : Int32) (x2 : Int64) (x4 : Int32) (x5 : Int64) (x7 : Int32) : Option (Int64 × am_H) :=
  if am_ok (37 + x7) 54 = true then (if (h.1 1 (37 + x7).toNatClampNeg) ≤ 0 then f_Model_practise_104 k64 h x1 x2 x4 x5 x7 (37 + x7) x2 else f_Model_practise_97 k64 h x1 x2 x4 x5 x7 (h.1 1 (37 + x7).toNatClampNeg) (37 + x7) x2) else none
def f_Model_practise_64 (k64 : am_H → Int32 → Int64 → Int32 → Int64 → Int32 → Option (Int64 × am_H)) (h : am_H) (x1 : Int32) (x2 : Int64) (x4 : Int32) (x5 : Int64) (x7 : Int32) : Option (Int64 × am_H) :=
  if (h.1 0 6) ≤ x7 then f_Model_practise_153 h x1 x4 x5 else f_Model_practise_73 k64 h x1 x2 x4 x5 x7
def f_Model_practise_64_l  : Nat → am_H → Int32 → Int64 → Int32 → Int64 → Int32 → Option (Int64 × am_H)
  | 0 => fun _ _ _ _ _ _ => none
  | n + 1 => f_Model_practise_64 (f_Model_practise_64_l n)
def f_Model_practise_58 (h : am_H) (x1 : Int32) (x2 : Int64) (x4 : Int32) (y1 : Int64) (y0 : Int64) : Option (Int64 × am_H) :=
  f_Model_practise_64_l am_fu h x1 x2 x4 (y0 - y1) 0
def f_Model_practise_55 (h : am_H) (x1 : Int32) (x2 : Int64) (x4 : Int32) (y3 : Int32) (y2 : Int32) (y0 : Int64) : Option (Int64 × am_H) :=
  (f_Model_teeWith h y2 y3).bind fun p => f_Model_practise_58 p.2 x1 x2 x4 p.1 y0
def f_Model_practise_53 (h : am_H) (x1 : Int32) (x2 : Int64) (x4 : Int32) (y2 : Int32) (y0 : Int64) : Option (Int64 × am_H) :=
  f_Model_practise_55 h x1 x2 x4 12 y2 y0
def f_Model_practise_41 (h : am_H) (x1 : Int32) (x2 : Int64) (x4 : Int32) (y2 : Int32) (y0 : Int64) : Option (Int64 × am_H) :=
  f_Model_practise_55 h x1 x2 x4 ((h.1 1 (51 : Int32).toNatClampNeg) + 1) y2 y0
def f_Model_practise_21 (h : am_H) (x1 : Int32) (y0 : Int64) : Option (Int64 × am_H) :=
  if 12 ≤ (h.1 1 (51 : Int32).toNatClampNeg) then f_Model_practise_53 h x1 y0 0 51 y0 else f_Model_practise_41 h x1 y0 0 51 y0
def f_Model_practise_16 (h : am_H) (x1 : Int32) : Option (Int64 × am_H) :=
  (f_Model_fromTee h 0).bind fun p => f_Model_practise_21 p.2 x1 p.1
def f_Model_practise_12 (h : am_H) : Option (Int64 × am_H) :=
  some ((-9223372036854775808), h)
def f_Model_practise_9 (h : am_H) (x1 : Int32) (y0 : Bool) : Option (Int64 × am_H) :=
  if y0 = true then f_Model_practise_16 h x1 else f_Model_practise_12 h
def f_Model_practise (h : am_H) (x1 : Int32) : Option (Int64 × am_H) :=
  f_Model_practise_9 h x1 (f_Model_within x1.toInt64 0 2)
def f_Model_dream_122 (h : am_H) (y0 : Int64) : Option (Int64 × am_H) :=
  some (y0, h)
def f_Model_dream_108 (h : am_H) (x1 : Int32) (x2 : Int64) (x4 : Int64) : Option (Int64 × am_H) :=
  (f_Model_partOf (x2 - x4) (h.2 10 (3 : Int32).toNatClampNeg) x1).bind fun p => f_Model_dream_122 h p
def f_Model_dream_85 (k76 : am_H → Int32 → Int64 → Int64 → Int32 → Option (Int64 × am_H)) (h : am_H) (x1 : Int32) (x2 : Int64) (x4 : Int64) (x6 : Int32) : Option (Int64 × am_H) :=
  if am_ok x6 6 = true then (if am_ok (43 + x6) 54 = true then (k76 (am_pI h 1 (43 + x6).toNatClampNeg (h.1 11 x6.toNatClampNeg)) x1 x2 x4 (x6 + 1)) else none) else none
def f_Model_dream_76 (k76 : am_H → Int32 → Int64 → Int64 → Int32 → Option (Int64 × am_H)) (h : am_H) (x1 : Int32) (x2 : Int64) (x4 : Int64) (x6 : Int32) : Option (Int64 × am_H) :=
  if (h.1 0 6) ≤ x6 then f_Model_dream_108 h x1 x2 x4 else f_Model_dream_85 k76 h x1 x2 x4 x6
def f_Model_dream_76_l  : Nat → am_H → Int32 → Int64 → Int64 → Int32 → Option (Int64 × am_H)
  | 0 => fun _ _ _ _ _ => none
  | n + 1 => f_Model_dream_76 (f_Model_dream_76_l n)
def f_Model_dream_71 (h : am_H) (x1 : Int32) (x2 : Int64) (y0 : Int64) : Option (Int64 × am_H) :=
  f_Model_dream_76_l am_fu h x1 x2 y0 0
def f_Model_dream_66 (h : am_H) (x1 : Int32) (x2 : Int64) : Option (Int64 × am_H) :=
  (f_Model_fromTee h 1).bind fun p => f_Model_dream_71 p.2 x1 x2 p.1
def f_Model_dream_32 (k23 : am_H → Int32 → Int64 → Int32 → Option (Int64 × am_H)) (h : am_H) (x1 : Int32) (x2 : Int64) (x4 : Int32) : Option (Int64 × am_H) :=
  if am_ok (43 + x4) 54 = true then (if am_ok x4 6 = true then (k23 (am_pI (am_pI h 11 x4.toNatClampNeg (h.1 1 (43 + x4).toNatClampNeg)) 1 (43 + x4).toNatClampNeg 0) x1 x2 (x4 + 1)) else none) else none
def f_Model_dream_23 (k23 : am_H → Int32 → Int64 → Int32 → Option (Int64 × am_H)) (h : am_H) (x1 : Int32) (x2 : Int64) (x4 : Int32) : Option (Int64 × am_H) :=
  if (h.1 0 6) ≤ x4 then f_Model_dream_66 h x1 x2 else f_Model_dream_32 k23 h x1 x2 x4
def f_Model_dream_23_l  : Nat → am_H → Int32 → Int64 → Int32 → Option (Int64 × am_H)
  | 0 => fun _ _ _ _ => none
  | n + 1 => f_Model_dream_23 (f_Model_dream_23_l n)
def f_Model_dream_19 (h : am_H) (x1 : Int32) (y0 : Int64) : Option (Int64 × am_H) :=
  f_Model_dream_23_l am_fu h x1 y0 0
def f_Model_dream_14 (h : am_H) (x1 : Int32) : Option (Int64 × am_H) :=
  (f_Model_fromTee h 1).bind fun p => f_Model_dream_19 p.2 x1 p.1
def f_Model_dream_10 (h : am_H) : Option (Int64 × am_H) :=
  some ((-9223372036854775808), h)
def f_Model_dream_7 (h : am_H) (x1 : Int32) (y0 : Bool) : Option (Int64 × am_H) :=
  if y0 = true then f_Model_dream_14 h x1 else f_Model_dream_10 h
def f_Model_dream (h : am_H) (x1 : Int32) : Option (Int64 × am_H) :=
  f_Model_dream_7 h x1 (f_Model_within x1.toInt64 0 1)
def f_Model_bytesIs_40 (h : am_H) : Option (Int32) :=
  some (-12)
def f_Model_bytesIs_36 (h : am_H) : Option (Int32) :=
  some 1
def f_Model_bytesIs_25 (h : am_H) (x1 : Int32) : Option (Int32) :=
  if am_ok x1 6 = true then (if (h.1 16 x1.toNatClampNeg) = 50 then f_Model_bytesIs_36 h else f_Model_bytesIs_40 h) else none
def f_Model_bytesIs_20 (h : am_H) : Option (Int32) :=
  some (-11)
def f_Model_bytesIs_11 (h : am_H) (x1 : Int32) : Option (Int32) :=
  if am_ok x1 6 = true then (if 0 ≤ (h.1 16 x1.toNatClampNeg) then f_Model_bytesIs_25 h x1 else f_Model_bytesIs_20 h) else none
def f_Model_bytesIs_7 (h : am_H) : Option (Int32) :=
  some (-1)
def f_Model_bytesIs_4 (h : am_H) (x1 : Int32) (y0 : Bool) : Option (Int32) :=
  if y0 = true then f_Model_bytesIs_11 h x1 else f_Model_bytesIs_7 h
def f_Model_bytesIs (h : am_H) (x1 : Int32) : Option (Int32) :=
  f_Model_bytesIs_4 h x1 (f_Model_isShelf x1)
def f_Model_isThree_82 (h : am_H) : Option (Bool) :=
  some false
def f_Model_isThree_78 (h : am_H) : Option (Bool) :=
  some true
def f_Model_isThree_75 (h : am_H) (y0 : Bool) : Option (Bool) :=
  if y0 = true then f_Model_isThree_82 h else f_Model_isThree_78 h
def f_Model_isThree_64 (h : am_H) (x3 : Int32) : Option (Bool) :=
  if am_ok x3 360 = true then ((f_Model_isGreen h ((h.2 18 x3.toNatClampNeg).toInt32)).bind fun p => f_Model_isThree_75 h p) else none
def f_Model_isThree_61 (h : am_H) (x3 : Int32) (y0 : Bool) : Option (Bool) :=
  if y0 = true then f_Model_isThree_64 h x3 else f_Model_isThree_82 h
def f_Model_isThree_50 (h : am_H) (x3 : Int32) : Option (Bool) :=
  if am_ok (x3 + 2) 360 = true then (f_Model_isThree_61 h x3 (f_Model_isCell (h.2 18 (x3 + 2).toNatClampNeg))) else none
def f_Model_isThree_47 (h : am_H) (x3 : Int32) (y0 : Bool) : Option (Bool) :=
  if y0 = true then f_Model_isThree_50 h x3 else f_Model_isThree_82 h
def f_Model_isThree_35 (h : am_H) (x3 : Int32) : Option (Bool) :=
  if am_ok (x3 + 1) 360 = true then (f_Model_isThree_47 h x3 (f_Model_isClub h (h.2 18 (x3 + 1).toNatClampNeg))) else none
def f_Model_isThree_32 (h : am_H) (x3 : Int32) (y0 : Bool) : Option (Bool) :=
  if y0 = true then f_Model_isThree_35 h x3 else f_Model_isThree_82 h
def f_Model_isThree_23 (h : am_H) (x3 : Int32) : Option (Bool) :=
  if am_ok x3 360 = true then (f_Model_isThree_32 h x3 (f_Model_isCell (h.2 18 x3.toNatClampNeg))) else none
def f_Model_isThree (h : am_H) (x1 : Int32) (x2 : Int32) : Option (Bool) :=
  if am_ok x1 6 = true then (if (h.1 17 x1.toNatClampNeg) ≤ ((3 * x2) + 2) then f_Model_isThree_82 h else f_Model_isThree_23 h ((60 * x1) + (3 * x2))) else none
def f_Model_itemOf (h : am_H) (x1 : Int32) (x2 : Int32) (x3 : Int32) : Option (Int32) :=
  if am_ok (((60 * x1) + (3 * x2)) + x3) 360 = true then (some ((h.2 18 (((60 * x1) + (3 * x2)) + x3).toNatClampNeg).toInt32)) else none
def f_Model_waysOf_34 (h : am_H) (y0 : Int32) : Option (Int32) :=
  some y0
def f_Model_waysOf_31 (h : am_H) (y4 : Int32) (y3 : Int32) (y2 : Int32) (y1 : Int32) : Option (Int32) :=
  (f_Model_waysTo h y1 y2 y3 y4).bind fun p => f_Model_waysOf_34 h p
def f_Model_waysOf_22 (h : am_H) (x1 : Int32) (x2 : Int32) (y5 : Int32) (y4 : Int32) (y2 : Int32) (y1 : Int32) : Option (Int32) :=
  if am_ok (y4 + y5) 54 = true then ((f_Model_itemOf h x1 x2 2).bind fun p => f_Model_waysOf_31 h p (h.1 1 (y4 + y5).toNatClampNeg) y2 y1) else none
def f_Model_waysOf_8 (h : am_H) (x1 : Int32) (x2 : Int32) (x3 : Int32) (y1 : Int32) : Option (Int32) :=
  (f_Model_itemOf h x1 x2 1).bind fun p => f_Model_waysOf_22 h x1 x2 p 37 x3 y1
def f_Model_waysOf (h : am_H) (x1 : Int32) (x2 : Int32) (x3 : Int32) : Option (Int32) :=
  (f_Model_itemOf h x1 x2 0).bind fun p => f_Model_waysOf_8 h x1 x2 x3 p
def f_Model_judge_69 (h : am_H) : Option (Int32) :=
  some (-2)
def f_Model_judge_61 (h : am_H) (x2 : Int32) : Option (Int32) :=
  some x2
def f_Model_judge_63 (k16 : Int32 → Int32 → Option (Int32)) (h : am_H) (x1 : Int32) (x2 : Int32) : Option (Int32) :=
  k16 x1 (x2 + 1)
def f_Model_judge_58 (k16 : Int32 → Int32 → Option (Int32)) (h : am_H) (x1 : Int32) (x2 : Int32) (y0 : Int32) : Option (Int32) :=
  if y0 = 0 then f_Model_judge_61 h x2 else f_Model_judge_63 k16 h x1 x2
def f_Model_judge_53 (k16 : Int32 → Int32 → Option (Int32)) (h : am_H) (x1 : Int32) (x2 : Int32) (y5 : Int32) (y4 : Int32) (y2 : Int32) (y1 : Int32) : Option (Int32) :=
  if am_ok (y4 + y5) 54 = true then ((f_Model_waysOf h y1 y2 (h.1 1 (y4 + y5).toNatClampNeg)).bind fun p => f_Model_judge_58 k16 h x1 x2 p) else none
def f_Model_judge_37 (k16 : Int32 → Int32 → Option (Int32)) (h : am_H) (x1 : Int32) (x2 : Int32) : Option (Int32) :=
  (f_Model_itemOf h x1 x2 1).bind fun p => f_Model_judge_53 k16 h x1 x2 p 31 x2 x1
def f_Model_judge_34 (k16 : Int32 → Int32 → Option (Int32)) (h : am_H) (x1 : Int32) (x2 : Int32) (y0 : Bool) : Option (Int32) :=
  if y0 = true then f_Model_judge_37 k16 h x1 x2 else f_Model_judge_61 h x2
def f_Model_judge_28 (k16 : Int32 → Int32 → Option (Int32)) (h : am_H) (x1 : Int32) (x2 : Int32) : Option (Int32) :=
  (f_Model_isThree h x1 x2).bind fun p => f_Model_judge_34 k16 h x1 x2 p
def f_Model_judge_16 (k16 : Int32 → Int32 → Option (Int32)) (h : am_H) (x1 : Int32) (x2 : Int32) : Option (Int32) :=
  if am_ok x1 6 = true then (if (h.1 17 x1.toNatClampNeg) ≤ (3 * x2) then f_Model_judge_69 h else f_Model_judge_28 k16 h x1 x2) else none
def f_Model_judge_16_l (h : am_H) : Nat → Int32 → Int32 → Option (Int32)
  | 0 => fun _ _ => none
  | n + 1 => f_Model_judge_16 (f_Model_judge_16_l h n) h
def f_Model_judge_14 (h : am_H) (x1 : Int32) : Option (Int32) :=
  f_Model_judge_16_l h am_fu x1 0
def f_Model_judge_13 (h : am_H) (y0 : Int32) : Option (Int32) :=
  some y0
def f_Model_judge_8 (h : am_H) (x1 : Int32) : Option (Int32) :=
  (f_Model_bytesIs h x1).bind fun p => f_Model_judge_13 h p
def f_Model_judge_5 (h : am_H) (x1 : Int32) (y0 : Int32) : Option (Int32) :=
  if 0 ≤ y0 then f_Model_judge_14 h x1 else f_Model_judge_8 h x1
def f_Model_judge (h : am_H) (x1 : Int32) : Option (Int32) :=
  (f_Model_bytesIs h x1).bind fun p => f_Model_judge_5 h x1 p
def f_Model_truly_18 (h : am_H) : Option (Int32) :=
  some (-1)
def f_Model_truly_173 (h : am_H) (x3 : Int32) : Option (Int32) :=
  some x3
def f_Model_truly_167 (k43 : Int32 → Int32 → Int32 → Int64 → Int32 → Option (Int32)) (h : am_H) (x1 : Int32) (x2 : Int32) (x3 : Int32) (x4 : Int64) (x6 : Int32) : Option (Int32) :=
  k43 x1 x2 x3 x4 (x6 + 1)
def f_Model_truly_160 (k43 : Int32 → Int32 → Int32 → Int64 → Int32 → Option (Int32)) (h : am_H) (x1 : Int32) (x2 : Int32) (x6 : Int32) (x7 : Int64) : Option (Int32) :=
  f_Model_truly_167 k43 h x1 x2 x6 x7 x6
def f_Model_truly_152 (k43 : Int32 → Int32 → Int32 → Int64 → Int32 → Option (Int32)) (h : am_H) (x1 : Int32) (x2 : Int32) (x3 : Int32) (x4 : Int64) (x6 : Int32) (x7 : Int64) : Option (Int32) :=
  if x7 ≤ x4 then f_Model_truly_167 k43 h x1 x2 x3 x4 x6 else f_Model_truly_160 k43 h x1 x2 x6 x7
def f_Model_truly_147 (k43 : Int32 → Int32 → Int32 → Int64 → Int32 → Option (Int32)) (h : am_H) (x1 : Int32) (x2 : Int32) (x3 : Int32) (x4 : Int64) (x6 : Int32) (x7 : Int64) (x9 : Int32) : Option (Int32) :=
  if x9 = 0 then f_Model_truly_167 k43 h x1 x2 x3 x4 x6 else f_Model_truly_152 k43 h x1 x2 x3 x4 x6 x7
def f_Model_truly_141 (k43 : Int32 → Int32 → Int32 → Int64 → Int32 → Option (Int32)) (k59 : Int32 → Int32 → Int32 → Int64 → Int32 → Int64 → Int32 → Int32 → Option (Int32)) (h : am_H) (x1 : Int32) (x2 : Int32) (x3 : Int32) (x4 : Int64) (x6 : Int32) (x7 : Int64) (x9 : Int32) (x10 : Int32) : Option (Int32) :=
  k59 x1 x2 x3 x4 x6 x7 x9 (x10 + 1)
def f_Model_truly_138 (k43 : Int32 → Int32 → Int32 → Int64 → Int32 → Option (Int32)) (k59 : Int32 → Int32 → Int32 → Int64 → Int32 → Int64 → Int32 → Int32 → Option (Int32)) (h : am_H) (x1 : Int32) (x2 : Int32) (x3 : Int32) (x4 : Int64) (x6 : Int32) (x9 : Int32) (x10 : Int32) (y1 : Int64) (y0 : Int64) : Option (Int32) :=
  f_Model_truly_141 k43 k59 h x1 x2 x3 x4 x6 (y0 * y1) x9 x10
def f_Model_truly_137 (k43 : Int32 → Int32 → Int32 → Int64 → Int32 → Option (Int32)) (k59 : Int32 → Int32 → Int32 → Int64 → Int32 → Int64 → Int32 → Int32 → Option (Int32)) (h : am_H) (x1 : Int32) (x2 : Int32) (x3 : Int32) (x4 : Int64) (x6 : Int32) (x9 : Int32) (x10 : Int32) (y0 : Int64) : Option (Int32) :=
  f_Model_truly_138 k43 k59 h x1 x2 x3 x4 x6 x9 x10 0 y0
def f_Model_truly_133 (k43 : Int32 → Int32 → Int32 → Int64 → Int32 → Option (Int32)) (k59 : Int32 → Int32 → Int32 → Int64 → Int32 → Int64 → Int32 → Int32 → Option (Int32)) (h : am_H) (x1 : Int32) (x2 : Int32) (x3 : Int32) (x4 : Int64) (x6 : Int32) (x9 : Int32) (x10 : Int32) (y1 : Int32) (y0 : Int64) : Option (Int32) :=
  f_Model_truly_138 k43 k59 h x1 x2 x3 x4 x6 x9 x10 y1.toInt64 y0
def f_Model_truly_124 (k43 : Int32 → Int32 → Int32 → Int64 → Int32 → Option (Int32)) (k59 : Int32 → Int32 → Int32 → Int64 → Int32 → Int64 → Int32 → Int32 → Option (Int32)) (h : am_H) (x1 : Int32) (x2 : Int32) (x3 : Int32) (x4 : Int64) (x6 : Int32) (x9 : Int32) (x10 : Int32) (y0 : Int64) : Option (Int32) :=
  (f_Model_waysOf h x1 x10 x6).bind fun p => f_Model_truly_133 k43 k59 h x1 x2 x3 x4 x6 x9 x10 p y0
def f_Model_truly_121 (k43 : Int32 → Int32 → Int32 → Int64 → Int32 → Option (Int32)) (k59 : Int32 → Int32 → Int32 → Int64 → Int32 → Int64 → Int32 → Int32 → Option (Int32)) (h : am_H) (x1 : Int32) (x2 : Int32) (x3 : Int32) (x4 : Int64) (x6 : Int32) (x9 : Int32) (x10 : Int32) (y1 : Bool) (y0 : Int64) : Option (Int32) :=
  if y1 = true then f_Model_truly_124 k43 k59 h x1 x2 x3 x4 x6 x9 x10 y0 else f_Model_truly_137 k43 k59 h x1 x2 x3 x4 x6 x9 x10 y0
def f_Model_truly_109 (k43 : Int32 → Int32 → Int32 → Int64 → Int32 → Option (Int32)) (k59 : Int32 → Int32 → Int32 → Int64 → Int32 → Int64 → Int32 → Int32 → Option (Int32)) (h : am_H) (x1 : Int32) (x2 : Int32) (x3 : Int32) (x4 : Int64) (x6 : Int32) (x7 : Int64) (x10 : Int32) : Option (Int32) :=
  (f_Model_isThree h x1 x10).bind fun p => f_Model_truly_121 k43 k59 h x1 x2 x3 x4 x6 1 x10 p x7
def f_Model_truly_87 (k43 : Int32 → Int32 → Int32 → Int64 → Int32 → Option (Int32)) (k59 : Int32 → Int32 → Int32 → Int64 → Int32 → Int64 → Int32 → Int32 → Option (Int32)) (h : am_H) (x1 : Int32) (x2 : Int32) (x3 : Int32) (x4 : Int64) (x6 : Int32) (x7 : Int64) (x9 : Int32) (x10 : Int32) : Option (Int32) :=
  if am_ok (((60 * x1) + (3 * x10)) + 1) 360 = true then (if (h.2 18 (((60 * x1) + (3 * x10)) + 1).toNatClampNeg) = x2.toInt64 then f_Model_truly_109 k43 k59 h x1 x2 x3 x4 x6 x7 x10 else f_Model_truly_141 k43 k59 h x1 x2 x3 x4 x6 x7 x9 x10) else none
def f_Model_truly_72 (k43 : Int32 → Int32 → Int32 → Int64 → Int32 → Option (Int32)) (k59 : Int32 → Int32 → Int32 → Int64 → Int32 → Int64 → Int32 → Int32 → Option (Int32)) (h : am_H) (x1 : Int32) (x2 : Int32) (x3 : Int32) (x4 : Int64) (x6 : Int32) (x7 : Int64) (x9 : Int32) (x10 : Int32) : Option (Int32) :=
  if am_ok x1 6 = true then (if (h.1 17 x1.toNatClampNeg) ≤ ((3 * x10) + 2) then f_Model_truly_141 k43 k59 h x1 x2 x3 x4 x6 x7 x9 x10 else f_Model_truly_87 k43 k59 h x1 x2 x3 x4 x6 x7 x9 x10) else none
def f_Model_truly_59 (k43 : Int32 → Int32 → Int32 → Int64 → Int32 → Option (Int32)) (k59 : Int32 → Int32 → Int32 → Int64 → Int32 → Int64 → Int32 → Int32 → Option (Int32)) (h : am_H) (x1 : Int32) (x2 : Int32) (x3 : Int32) (x4 : Int64) (x6 : Int32) (x7 : Int64) (x9 : Int32) (x10 : Int32) : Option (Int32) :=
  if am_ok x1 6 = true then (if (h.1 17 x1.toNatClampNeg) ≤ (3 * x10) then f_Model_truly_147 k43 h x1 x2 x3 x4 x6 x7 x9 else f_Model_truly_72 k43 k59 h x1 x2 x3 x4 x6 x7 x9 x10) else none
def f_Model_truly_59_l (k43 : Int32 → Int32 → Int32 → Int64 → Int32 → Option (Int32)) (h : am_H) : Nat → Int32 → Int32 → Int32 → Int64 → Int32 → Int64 → Int32 → Int32 → Option (Int32)
  | 0 => fun _ _ _ _ _ _ _ _ => none
  | n + 1 => f_Model_truly_59 k43 (f_Model_truly_59_l k43 h n) h
def f_Model_truly_50 (k43 : Int32 → Int32 → Int32 → Int64 → Int32 → Option (Int32)) (h : am_H) (x1 : Int32) (x2 : Int32) (x3 : Int32) (x4 : Int64) (x6 : Int32) : Option (Int32) :=
  f_Model_truly_59_l k43 h am_fu x1 x2 x3 x4 x6 1 0 0
def f_Model_truly_43 (k43 : Int32 → Int32 → Int32 → Int64 → Int32 → Option (Int32)) (h : am_H) (x1 : Int32) (x2 : Int32) (x3 : Int32) (x4 : Int64) (x6 : Int32) : Option (Int32) :=
  if 30 < x6 then f_Model_truly_173 h x3 else f_Model_truly_50 k43 h x1 x2 x3 x4 x6
def f_Model_truly_43_l (h : am_H) : Nat → Int32 → Int32 → Int32 → Int64 → Int32 → Option (Int32)
  | 0 => fun _ _ _ _ _ => none
  | n + 1 => f_Model_truly_43 (f_Model_truly_43_l h n) h
def f_Model_truly_34 (h : am_H) (x1 : Int32) (x2 : Int32) : Option (Int32) :=
  f_Model_truly_43_l h am_fu x1 x2 (-2) 0 0
def f_Model_truly_33 (h : am_H) (y0 : Int32) : Option (Int32) :=
  some y0
def f_Model_truly_28 (h : am_H) (x1 : Int32) : Option (Int32) :=
  (f_Model_bytesIs h x1).bind fun p => f_Model_truly_33 h p
def f_Model_truly_25 (h : am_H) (x1 : Int32) (x2 : Int32) (y0 : Int32) : Option (Int32) :=
  if 0 ≤ y0 then f_Model_truly_34 h x1 x2 else f_Model_truly_28 h x1
def f_Model_truly_20 (h : am_H) (x1 : Int32) (x2 : Int32) : Option (Int32) :=
  (f_Model_bytesIs h x1).bind fun p => f_Model_truly_25 h x1 x2 p
def f_Model_truly_15 (h : am_H) (x1 : Int32) (x2 : Int32) (y0 : Bool) : Option (Int32) :=
  if y0 = true then f_Model_truly_20 h x1 x2 else f_Model_truly_18 h
def f_Model_truly_9 (h : am_H) (x1 : Int32) (x2 : Int32) : Option (Int32) :=
  f_Model_truly_15 h x1 x2 (f_Model_isClub h x2.toInt64)
def f_Model_truly_5 (h : am_H) (x1 : Int32) (x2 : Int32) (y0 : Int32) : Option (Int32) :=
  if y0 = (-1) then f_Model_truly_18 h else f_Model_truly_9 h x1 x2
def f_Model_truly (h : am_H) (x1 : Int32) (x2 : Int32) : Option (Int32) :=
  (f_Model_bytesIs h x1).bind fun p => f_Model_truly_5 h x1 x2 p
def f_Model_guessed_142 (h : am_H) (x2 : Int32) : Option (Int32 × am_H) :=
  some (x2, h)
def f_Model_guessed_134 (k18 : am_H → Int32 → Int32 → Int32 → Option (Int32 × am_H)) (h : am_H) (x1 : Int32) (x3 : Int32) (y1 : Int32) (y0 : Int32) : Option (Int32 × am_H) :=
  k18 h x1 (y0 + y1) (x3 + 1)
def f_Model_guessed_133 (k18 : am_H → Int32 → Int32 → Int32 → Option (Int32 × am_H)) (h : am_H) (x1 : Int32) (x3 : Int32) (y0 : Int32) : Option (Int32 × am_H) :=
  f_Model_guessed_134 k18 h x1 x3 0 y0
def f_Model_guessed_129 (k18 : am_H → Int32 → Int32 → Int32 → Option (Int32 × am_H)) (h : am_H) (x1 : Int32) (x3 : Int32) (y0 : Int32) : Option (Int32 × am_H) :=
  f_Model_guessed_134 k18 h x1 x3 1 y0
def f_Model_guessed_109 (k18 : am_H → Int32 → Int32 → Int32 → Option (Int32 × am_H)) (h : am_H) (x1 : Int32) (x3 : Int32) (y1 : Int32) (y0 : Int32) : Option (Int32 × am_H) :=
  if am_ok (((60 * x1) + (3 * x3)) + 1) 360 = true then (if y1.toInt64 = (h.2 18 (((60 * x1) + (3 * x3)) + 1).toNatClampNeg) then f_Model_guessed_129 k18 h x1 x3 y0 else f_Model_guessed_133 k18 h x1 x3 y0) else none
def f_Model_guessed_105 (k18 : am_H → Int32 → Int32 → Int32 → Option (Int32 × am_H)) (h : am_H) (x1 : Int32) (x3 : Int32) (y2 : Int32) (y0 : Int32) : Option (Int32 × am_H) :=
  (f_Model_takenFrom h y2 0).bind fun p => f_Model_guessed_109 k18 p.2 x1 x3 p.1 y0
def f_Model_guessed_97 (k18 : am_H → Int32 → Int32 → Int32 → Option (Int32 × am_H)) (h : am_H) (x1 : Int32) (x3 : Int32) (y0 : Int32) : Option (Int32 × am_H) :=
  (f_Model_itemOf h x1 x3 0).bind fun p => f_Model_guessed_105 k18 h x1 x3 p y0
def f_Model_guessed_89 (k18 : am_H → Int32 → Int32 → Int32 → Option (Int32 × am_H)) (h : am_H) (x1 : Int32) (x2 : Int32) (x3 : Int32) (y0 : Int32) : Option (Int32 × am_H) :=
  if y0 = 0 then f_Model_guessed_133 k18 h x1 x3 x2 else f_Model_guessed_97 k18 h x1 x3 x2
def f_Model_guessed_88 (k18 : am_H → Int32 → Int32 → Int32 → Option (Int32 × am_H)) (h : am_H) (x1 : Int32) (x2 : Int32) (x3 : Int32) : Option (Int32 × am_H) :=
  f_Model_guessed_89 k18 h x1 x2 x3 0
def f_Model_guessed_84 (k18 : am_H → Int32 → Int32 → Int32 → Option (Int32 × am_H)) (h : am_H) (x1 : Int32) (x2 : Int32) (x3 : Int32) : Option (Int32 × am_H) :=
  f_Model_guessed_89 k18 h x1 x2 x3 1
def f_Model_guessed_77 (k18 : am_H → Int32 → Int32 → Int32 → Option (Int32 × am_H)) (h : am_H) (x1 : Int32) (x2 : Int32) (x3 : Int32) : Option (Int32 × am_H) :=
  if (h.1 0 6) ≤ 0 then f_Model_guessed_88 k18 h x1 x2 x3 else f_Model_guessed_84 k18 h x1 x2 x3
def f_Model_guessed_74 (k18 : am_H → Int32 → Int32 → Int32 → Option (Int32 × am_H)) (h : am_H) (x1 : Int32) (x2 : Int32) (x3 : Int32) (y0 : Bool) : Option (Int32 × am_H) :=
  if y0 = true then f_Model_guessed_88 k18 h x1 x2 x3 else f_Model_guessed_77 k18 h x1 x2 x3
def f_Model_guessed_71 (k18 : am_H → Int32 → Int32 → Int32 → Option (Int32 × am_H)) (h : am_H) (x1 : Int32) (x2 : Int32) (x3 : Int32) (y1 : Int32) : Option (Int32 × am_H) :=
  (f_Model_isGreen h y1).bind fun p => f_Model_guessed_74 k18 h x1 x2 x3 p
def f_Model_guessed_63 (k18 : am_H → Int32 → Int32 → Int32 → Option (Int32 × am_H)) (h : am_H) (x1 : Int32) (x2 : Int32) (x3 : Int32) : Option (Int32 × am_H) :=
  (f_Model_itemOf h x1 x3 0).bind fun p => f_Model_guessed_71 k18 h x1 x2 x3 p
def f_Model_guessed_60 (k18 : am_H → Int32 → Int32 → Int32 → Option (Int32 × am_H)) (h : am_H) (x1 : Int32) (x2 : Int32) (x3 : Int32) (y0 : Bool) : Option (Int32 × am_H) :=
  if y0 = true then f_Model_guessed_63 k18 h x1 x2 x3 else f_Model_guessed_88 k18 h x1 x2 x3
def f_Model_guessed_44 (k18 : am_H → Int32 → Int32 → Int32 → Option (Int32 × am_H)) (h : am_H) (x1 : Int32) (x2 : Int32) (x3 : Int32) : Option (Int32 × am_H) :=
  if am_ok ((60 * x1) + (3 * x3)) 360 = true then (f_Model_guessed_60 k18 h x1 x2 x3 (f_Model_isCell (h.2 18 ((60 * x1) + (3 * x3)).toNatClampNeg))) else none
def f_Model_guessed_30 (k18 : am_H → Int32 → Int32 → Int32 → Option (Int32 × am_H)) (h : am_H) (x1 : Int32) (x2 : Int32) (x3 : Int32) : Option (Int32 × am_H) :=
  if am_ok x1 6 = true then (if (h.1 17 x1.toNatClampNeg) ≤ ((3 * x3) + 2) then f_Model_guessed_88 k18 h x1 x2 x3 else f_Model_guessed_44 k18 h x1 x2 x3) else none
def f_Model_guessed_18 (k18 : am_H → Int32 → Int32 → Int32 → Option (Int32 × am_H)) (h : am_H) (x1 : Int32) (x2 : Int32) (x3 : Int32) : Option (Int32 × am_H) :=
  if am_ok x1 6 = true then (if (h.1 17 x1.toNatClampNeg) ≤ (3 * x3) then f_Model_guessed_142 h x2 else f_Model_guessed_30 k18 h x1 x2 x3) else none
def f_Model_guessed_18_l  : Nat → am_H → Int32 → Int32 → Int32 → Option (Int32 × am_H)
  | 0 => fun _ _ _ _ => none
  | n + 1 => f_Model_guessed_18 (f_Model_guessed_18_l n)
def f_Model_guessed_14 (h : am_H) (x1 : Int32) : Option (Int32 × am_H) :=
  f_Model_guessed_18_l am_fu h x1 0 0
def f_Model_guessed_13 (h : am_H) (y0 : Int32) : Option (Int32 × am_H) :=
  some (y0, h)
def f_Model_guessed_8 (h : am_H) (x1 : Int32) : Option (Int32 × am_H) :=
  (f_Model_bytesIs h x1).bind fun p => f_Model_guessed_13 h p
def f_Model_guessed_5 (h : am_H) (x1 : Int32) (y0 : Int32) : Option (Int32 × am_H) :=
  if 0 ≤ y0 then f_Model_guessed_14 h x1 else f_Model_guessed_8 h x1
def f_Model_guessed (h : am_H) (x1 : Int32) : Option (Int32 × am_H) :=
  (f_Model_bytesIs h x1).bind fun p => f_Model_guessed_5 h x1 p
def f_Model_draws (h : am_H) (x1 : Int32) : Option (Int32 × am_H) :=
  if ¬ x1 = 0 then (some ((((((am_pI h 0 21 (((h.1 0 21) * 1103515245) + 12345)).1 0 21).toUInt32 >>> (Int32.toUInt32 8 &&& Int32.toUInt32 31)).toInt32) - ((((am_pI h 0 21 (((h.1 0 21) * 1103515245) + 12345)).1 0 21).toUInt32 >>> (Int32.toUInt32 8 &&& Int32.toUInt32 31)).toInt32) / x1 * x1), am_pI h 0 21 (((h.1 0 21) * 1103515245) + 12345))) else none
def f_Model_drawnDown_35 (h : am_H) (y0 : Int32) : Option (Int32 × am_H) :=
  some (y0, h)
def f_Model_drawnDown_30 (h : am_H) (x3 : Int32) (y3 : Int32) (y2 : Int32) (y1 : Int32) : Option (Int32 × am_H) :=
  (f_Model_downOf h y1 y2 (y3 - x3)).bind fun p => f_Model_drawnDown_35 h p
def f_Model_drawnDown (h : am_H) (x1 : Int32) (x2 : Int32) : Option (Int32 × am_H) :=
  if am_ok (37 + x2) 54 = true then (if am_ok (31 + x2) 54 = true then ((f_Model_draws h ((2 * (h.1 1 (37 + x2).toNatClampNeg)) + 1)).bind fun p => f_Model_drawnDown_30 p.2 (h.1 1 (37 + x2).toNatClampNeg) p.1 (h.1 1 (31 + x2).toNatClampNeg) x1) else none) else none
def f_Model_drawnPutts_27 (h : am_H) : Option (Int32 × am_H) :=
  some (1, h)
def f_Model_drawnPutts_31 (h : am_H) : Option (Int32 × am_H) :=
  some (2, h)
def f_Model_drawnPutts_17 (h : am_H) (y0 : Int32) : Option (Int32 × am_H) :=
  if (h.1 1 (51 : Int32).toNatClampNeg) ≤ y0 then f_Model_drawnPutts_31 h else f_Model_drawnPutts_27 h
def f_Model_drawnPutts_11 (h : am_H) : Option (Int32 × am_H) :=
  (f_Model_draws h 12).bind fun p => f_Model_drawnPutts_17 p.2 p.1
def f_Model_drawnPutts (h : am_H) (x1 : Int32) : Option (Int32 × am_H) :=
  if x1 = (h.1 1 (49 : Int32).toNatClampNeg) then f_Model_drawnPutts_27 h else f_Model_drawnPutts_11 h
def f_Model_drawn_37 (h : am_H) : Option (Int32 × am_H) :=
  some ((-1), h)
def f_Model_drawn_221 (h : am_H) (x5 : Int32) : Option (Int32 × am_H) :=
  some (x5, h)
def f_Model_drawn_216 (h : am_H) (x4 : Int32) : Option (Int32 × am_H) :=
  some (x4, h)
def f_Model_drawn_212 (h : am_H) (x3 : Int32) (x4 : Int32) (x5 : Int32) : Option (Int32 × am_H) :=
  if x3 = 0 then f_Model_drawn_216 h x4 else f_Model_drawn_221 h x5
def f_Model_drawn_203 (k71 : am_H → Int32 → Int32 → Int32 → Int32 → Int32 → Option (Int32 × am_H)) (h : am_H) (x2 : Int32) (x3 : Int32) (x5 : Int32) (x6 : Int32) (y1 : Int32) (y0 : Int32) : Option (Int32 × am_H) :=
  k71 h x2 x3 (y0 + y1) x5 (x6 + 1)
def f_Model_drawn_202 (k71 : am_H → Int32 → Int32 → Int32 → Int32 → Int32 → Option (Int32 × am_H)) (h : am_H) (x2 : Int32) (x3 : Int32) (x5 : Int32) (x6 : Int32) (y0 : Int32) : Option (Int32 × am_H) :=
  f_Model_drawn_203 k71 h x2 x3 x5 x6 5 y0
def f_Model_drawn_199 (k71 : am_H → Int32 → Int32 → Int32 → Int32 → Int32 → Option (Int32 × am_H)) (h : am_H) (x2 : Int32) (x3 : Int32) (x5 : Int32) (x6 : Int32) (y1 : Int32) (y0 : Int32) : Option (Int32 × am_H) :=
  f_Model_drawn_203 k71 h x2 x3 x5 x6 y1 y0
def f_Model_drawn_193 (k71 : am_H → Int32 → Int32 → Int32 → Int32 → Int32 → Option (Int32 × am_H)) (h : am_H) (x2 : Int32) (x3 : Int32) (x5 : Int32) (x6 : Int32) (x7 : Int32) (y0 : Int32) : Option (Int32 × am_H) :=
  (f_Model_drawnPutts h x7).bind fun p => f_Model_drawn_199 k71 p.2 x2 x3 x5 x6 p.1 y0
def f_Model_drawn_190 (k71 : am_H → Int32 → Int32 → Int32 → Int32 → Int32 → Option (Int32 × am_H)) (h : am_H) (x2 : Int32) (x3 : Int32) (x5 : Int32) (x6 : Int32) (x7 : Int32) (y1 : Bool) (y0 : Int32) : Option (Int32 × am_H) :=
  if y1 = true then f_Model_drawn_193 k71 h x2 x3 x5 x6 x7 y0 else f_Model_drawn_202 k71 h x2 x3 x5 x6 y0
def f_Model_drawn_182 (k71 : am_H → Int32 → Int32 → Int32 → Int32 → Int32 → Option (Int32 × am_H)) (h : am_H) (x2 : Int32) (x3 : Int32) (x4 : Int32) (x5 : Int32) (x6 : Int32) (x7 : Int32) : Option (Int32 × am_H) :=
  (f_Model_isGreen h x7).bind fun p => f_Model_drawn_190 k71 h x2 x3 x5 x6 x7 p x4
def f_Model_drawn_174 (k71 : am_H → Int32 → Int32 → Int32 → Int32 → Int32 → Option (Int32 × am_H)) (k86 : am_H → Int32 → Int32 → Int32 → Int32 → Int32 → Int32 → Int32 → Option (Int32 × am_H)) (h : am_H) (x2 : Int32) (x3 : Int32) (x4 : Int32) (x5 : Int32) (x6 : Int32) (x8 : Int32) (y0 : Int32) : Option (Int32 × am_H) :=
  k86 h x2 x3 x4 x5 x6 y0 (x8 + 1)
def f_Model_drawn_172 (k71 : am_H → Int32 → Int32 → Int32 → Int32 → Int32 → Option (Int32 × am_H)) (k86 : am_H → Int32 → Int32 → Int32 → Int32 → Int32 → Int32 → Int32 → Option (Int32 × am_H)) (h : am_H) (x2 : Int32) (x3 : Int32) (x4 : Int32) (x5 : Int32) (x6 : Int32) (x8 : Int32) (x9 : Int32) : Option (Int32 × am_H) :=
  f_Model_drawn_174 k71 k86 h x2 x3 x4 x5 x6 x8 x9
def f_Model_drawn_167 (k71 : am_H → Int32 → Int32 → Int32 → Int32 → Int32 → Option (Int32 × am_H)) (k86 : am_H → Int32 → Int32 → Int32 → Int32 → Int32 → Int32 → Int32 → Option (Int32 × am_H)) (h : am_H) (x2 : Int32) (x3 : Int32) (x4 : Int32) (x5 : Int32) (x6 : Int32) (x7 : Int32) (x8 : Int32) : Option (Int32 × am_H) :=
  f_Model_drawn_174 k71 k86 h x2 x3 x4 x5 x6 x8 x7
def f_Model_drawn_164 (k71 : am_H → Int32 → Int32 → Int32 → Int32 → Int32 → Option (Int32 × am_H)) (k86 : am_H → Int32 → Int32 → Int32 → Int32 → Int32 → Int32 → Int32 → Option (Int32 × am_H)) (h : am_H) (x2 : Int32) (x3 : Int32) (x4 : Int32) (x5 : Int32) (x6 : Int32) (x7 : Int32) (x8 : Int32) (x9 : Int32) (y0 : Bool) : Option (Int32 × am_H) :=
  if y0 = true then f_Model_drawn_167 k71 k86 h x2 x3 x4 x5 x6 x7 x8 else f_Model_drawn_172 k71 k86 h x2 x3 x4 x5 x6 x8 x9
def f_Model_drawn_155 (k71 : am_H → Int32 → Int32 → Int32 → Int32 → Int32 → Option (Int32 × am_H)) (k86 : am_H → Int32 → Int32 → Int32 → Int32 → Int32 → Int32 → Int32 → Option (Int32 × am_H)) (h : am_H) (x2 : Int32) (x3 : Int32) (x4 : Int32) (x6 : Int32) (x7 : Int32) (x8 : Int32) (x9 : Int32) (y1 : Int32) (y0 : Int32) : Option (Int32 × am_H) :=
  (f_Model_isWater h x9).bind fun p => f_Model_drawn_164 k71 k86 h x2 x3 x4 (y0 + y1) x6 x7 x8 x9 p
def f_Model_drawn_154 (k71 : am_H → Int32 → Int32 → Int32 → Int32 → Int32 → Option (Int32 × am_H)) (k86 : am_H → Int32 → Int32 → Int32 → Int32 → Int32 → Int32 → Int32 → Option (Int32 × am_H)) (h : am_H) (x2 : Int32) (x3 : Int32) (x4 : Int32) (x6 : Int32) (x7 : Int32) (x8 : Int32) (x9 : Int32) (y0 : Int32) : Option (Int32 × am_H) :=
  f_Model_drawn_155 k71 k86 h x2 x3 x4 x6 x7 x8 x9 0 y0
def f_Model_drawn_150 (k71 : am_H → Int32 → Int32 → Int32 → Int32 → Int32 → Option (Int32 × am_H)) (k86 : am_H → Int32 → Int32 → Int32 → Int32 → Int32 → Int32 → Int32 → Option (Int32 × am_H)) (h : am_H) (x2 : Int32) (x3 : Int32) (x4 : Int32) (x6 : Int32) (x7 : Int32) (x8 : Int32) (x9 : Int32) (y0 : Int32) : Option (Int32 × am_H) :=
  f_Model_drawn_155 k71 k86 h x2 x3 x4 x6 x7 x8 x9 1 y0
def f_Model_drawn_147 (k71 : am_H → Int32 → Int32 → Int32 → Int32 → Int32 → Option (Int32 × am_H)) (k86 : am_H → Int32 → Int32 → Int32 → Int32 → Int32 → Int32 → Int32 → Option (Int32 × am_H)) (h : am_H) (x2 : Int32) (x3 : Int32) (x4 : Int32) (x6 : Int32) (x7 : Int32) (x8 : Int32) (x9 : Int32) (y1 : Bool) (y0 : Int32) : Option (Int32 × am_H) :=
  if y1 = true then f_Model_drawn_150 k71 k86 h x2 x3 x4 x6 x7 x8 x9 y0 else f_Model_drawn_154 k71 k86 h x2 x3 x4 x6 x7 x8 x9 y0
def f_Model_drawn_136 (k71 : am_H → Int32 → Int32 → Int32 → Int32 → Int32 → Option (Int32 × am_H)) (k86 : am_H → Int32 → Int32 → Int32 → Int32 → Int32 → Int32 → Int32 → Option (Int32 × am_H)) (h : am_H) (x2 : Int32) (x3 : Int32) (x5 : Int32) (x6 : Int32) (x7 : Int32) (x8 : Int32) (x9 : Int32) (y1 : Int32) (y0 : Int32) : Option (Int32 × am_H) :=
  (f_Model_isWater h x9).bind fun p => f_Model_drawn_147 k71 k86 h x2 x3 (y0 + y1) x6 x7 x8 x9 p x5
def f_Model_drawn_135 (k71 : am_H → Int32 → Int32 → Int32 → Int32 → Int32 → Option (Int32 × am_H)) (k86 : am_H → Int32 → Int32 → Int32 → Int32 → Int32 → Int32 → Int32 → Option (Int32 × am_H)) (h : am_H) (x2 : Int32) (x3 : Int32) (x5 : Int32) (x6 : Int32) (x7 : Int32) (x8 : Int32) (x9 : Int32) (y0 : Int32) : Option (Int32 × am_H) :=
  f_Model_drawn_136 k71 k86 h x2 x3 x5 x6 x7 x8 x9 1 y0
def f_Model_drawn_131 (k71 : am_H → Int32 → Int32 → Int32 → Int32 → Int32 → Option (Int32 × am_H)) (k86 : am_H → Int32 → Int32 → Int32 → Int32 → Int32 → Int32 → Int32 → Option (Int32 × am_H)) (h : am_H) (x2 : Int32) (x3 : Int32) (x5 : Int32) (x6 : Int32) (x7 : Int32) (x8 : Int32) (x9 : Int32) (y0 : Int32) : Option (Int32 × am_H) :=
  f_Model_drawn_136 k71 k86 h x2 x3 x5 x6 x7 x8 x9 2 y0
def f_Model_drawn_128 (k71 : am_H → Int32 → Int32 → Int32 → Int32 → Int32 → Option (Int32 × am_H)) (k86 : am_H → Int32 → Int32 → Int32 → Int32 → Int32 → Int32 → Int32 → Option (Int32 × am_H)) (h : am_H) (x2 : Int32) (x3 : Int32) (x5 : Int32) (x6 : Int32) (x7 : Int32) (x8 : Int32) (x9 : Int32) (y1 : Bool) (y0 : Int32) : Option (Int32 × am_H) :=
  if y1 = true then f_Model_drawn_131 k71 k86 h x2 x3 x5 x6 x7 x8 x9 y0 else f_Model_drawn_135 k71 k86 h x2 x3 x5 x6 x7 x8 x9 y0
def f_Model_drawn_118 (k71 : am_H → Int32 → Int32 → Int32 → Int32 → Int32 → Option (Int32 × am_H)) (k86 : am_H → Int32 → Int32 → Int32 → Int32 → Int32 → Int32 → Int32 → Option (Int32 × am_H)) (h : am_H) (x2 : Int32) (x3 : Int32) (x4 : Int32) (x5 : Int32) (x6 : Int32) (x7 : Int32) (x8 : Int32) (y0 : Int32) : Option (Int32 × am_H) :=
  (f_Model_isWater h y0).bind fun p => f_Model_drawn_128 k71 k86 h x2 x3 x5 x6 x7 x8 y0 p x4
def f_Model_drawn_102 (k71 : am_H → Int32 → Int32 → Int32 → Int32 → Int32 → Option (Int32 × am_H)) (k86 : am_H → Int32 → Int32 → Int32 → Int32 → Int32 → Int32 → Int32 → Option (Int32 × am_H)) (h : am_H) (x2 : Int32) (x3 : Int32) (x4 : Int32) (x5 : Int32) (x6 : Int32) (x7 : Int32) (x8 : Int32) : Option (Int32 × am_H) :=
  if am_ok (93 + x7) 155 = true then ((f_Model_drawnDown h x7 (h.1 9 (93 + x7).toNatClampNeg)).bind fun p => f_Model_drawn_118 k71 k86 p.2 x2 x3 x4 x5 x6 x7 x8 p.1) else none
def f_Model_drawn_99 (k71 : am_H → Int32 → Int32 → Int32 → Int32 → Int32 → Option (Int32 × am_H)) (k86 : am_H → Int32 → Int32 → Int32 → Int32 → Int32 → Int32 → Int32 → Option (Int32 × am_H)) (h : am_H) (x2 : Int32) (x3 : Int32) (x4 : Int32) (x5 : Int32) (x6 : Int32) (x7 : Int32) (x8 : Int32) (y0 : Bool) : Option (Int32 × am_H) :=
  if y0 = true then f_Model_drawn_182 k71 h x2 x3 x4 x5 x6 x7 else f_Model_drawn_102 k71 k86 h x2 x3 x4 x5 x6 x7 x8
def f_Model_drawn_93 (k71 : am_H → Int32 → Int32 → Int32 → Int32 → Int32 → Option (Int32 × am_H)) (k86 : am_H → Int32 → Int32 → Int32 → Int32 → Int32 → Int32 → Int32 → Option (Int32 × am_H)) (h : am_H) (x2 : Int32) (x3 : Int32) (x4 : Int32) (x5 : Int32) (x6 : Int32) (x7 : Int32) (x8 : Int32) : Option (Int32 × am_H) :=
  (f_Model_isGreen h x7).bind fun p => f_Model_drawn_99 k71 k86 h x2 x3 x4 x5 x6 x7 x8 p
def f_Model_drawn_86 (k71 : am_H → Int32 → Int32 → Int32 → Int32 → Int32 → Option (Int32 × am_H)) (k86 : am_H → Int32 → Int32 → Int32 → Int32 → Int32 → Int32 → Int32 → Option (Int32 × am_H)) (h : am_H) (x2 : Int32) (x3 : Int32) (x4 : Int32) (x5 : Int32) (x6 : Int32) (x7 : Int32) (x8 : Int32) : Option (Int32 × am_H) :=
  if 12 ≤ x8 then f_Model_drawn_182 k71 h x2 x3 x4 x5 x6 x7 else f_Model_drawn_93 k71 k86 h x2 x3 x4 x5 x6 x7 x8
def f_Model_drawn_86_l (k71 : am_H → Int32 → Int32 → Int32 → Int32 → Int32 → Option (Int32 × am_H)) : Nat → am_H → Int32 → Int32 → Int32 → Int32 → Int32 → Int32 → Int32 → Option (Int32 × am_H)
  | 0 => fun _ _ _ _ _ _ _ _ => none
  | n + 1 => f_Model_drawn_86 k71 (f_Model_drawn_86_l k71 n)
def f_Model_drawn_80 (k71 : am_H → Int32 → Int32 → Int32 → Int32 → Int32 → Option (Int32 × am_H)) (h : am_H) (x2 : Int32) (x3 : Int32) (x4 : Int32) (x5 : Int32) (x6 : Int32) : Option (Int32 × am_H) :=
  f_Model_drawn_86_l k71 am_fu h x2 x3 x4 x5 x6 0 0
def f_Model_drawn_71 (k71 : am_H → Int32 → Int32 → Int32 → Int32 → Int32 → Option (Int32 × am_H)) (h : am_H) (x2 : Int32) (x3 : Int32) (x4 : Int32) (x5 : Int32) (x6 : Int32) : Option (Int32 × am_H) :=
  if (x2 / 10) ≤ x6 then f_Model_drawn_212 h x3 x4 x5 else f_Model_drawn_80 k71 h x2 x3 x4 x5 x6
def f_Model_drawn_71_l  : Nat → am_H → Int32 → Int32 → Int32 → Int32 → Int32 → Option (Int32 × am_H)
  | 0 => fun _ _ _ _ _ _ => none
  | n + 1 => f_Model_drawn_71 (f_Model_drawn_71_l n)
def f_Model_drawn_57 (h : am_H) (x1 : Int32) (x2 : Int32) (x3 : Int32) : Option (Int32 × am_H) :=
  f_Model_drawn_71_l am_fu (am_pI h 0 21 x1) x2 x3 0 0 0
def f_Model_drawn_49 (h : am_H) (x1 : Int32) (x2 : Int32) (x3 : Int32) : Option (Int32 × am_H) :=
  (f_Model_fills h (x2 - x2 / 10 * 10)).bind fun p => f_Model_drawn_57 p x1 x2 x3
def f_Model_drawn_46 (h : am_H) : Option (Int32 × am_H) :=
  some ((-5), h)
def f_Model_drawn_39 (h : am_H) (x1 : Int32) (x2 : Int32) (x3 : Int32) : Option (Int32 × am_H) :=
  if (h.1 0 6) = 0 then f_Model_drawn_46 h else f_Model_drawn_49 h x1 x2 x3
def f_Model_drawn_34 (h : am_H) (x1 : Int32) (x2 : Int32) (x3 : Int32) (y0 : Bool) : Option (Int32 × am_H) :=
  if y0 = true then f_Model_drawn_39 h x1 x2 x3 else f_Model_drawn_37 h
def f_Model_drawn_27 (h : am_H) (x1 : Int32) (x2 : Int32) (x3 : Int32) : Option (Int32 × am_H) :=
  f_Model_drawn_34 h x1 x2 x3 (f_Model_within x3.toInt64 0 1)
def f_Model_drawn_19 (h : am_H) (x1 : Int32) (x2 : Int32) (x3 : Int32) : Option (Int32 × am_H) :=
  if 1 < (x2 - x2 / 10 * 10) then f_Model_drawn_37 h else f_Model_drawn_27 h x1 x2 x3
def f_Model_drawn_16 (h : am_H) (x1 : Int32) (x2 : Int32) (x3 : Int32) (y0 : Bool) : Option (Int32 × am_H) :=
  if y0 = true then f_Model_drawn_19 h x1 x2 x3 else f_Model_drawn_37 h
def f_Model_drawn_4 (h : am_H) (x1 : Int32) (x2 : Int32) (x3 : Int32) : Option (Int32 × am_H) :=
  f_Model_drawn_16 h x1 x2 x3 (f_Model_within ((x2 / 10).toInt64) 1 20)
def f_Model_drawn (h : am_H) (x1 : Int32) (x2 : Int32) (x3 : Int32) : Option (Int32 × am_H) :=
  if x2 < 0 then f_Model_drawn_37 h else f_Model_drawn_4 h x1 x2 x3
def f_Model_hit_101 (h : am_H) (y1 : Int32) : Option (Int32 × am_H) :=
  some (((am_pI h 0 22 y1).1 0 22), am_pI h 0 22 y1)
def f_Model_hit_100 (h : am_H) (x3 : Int32) : Option (Int32 × am_H) :=
  f_Model_hit_101 h x3
def f_Model_hit_93 (h : am_H) : Option (Int32 × am_H) :=
  f_Model_hit_101 h (h.1 0 22)
def f_Model_hit_90 (h : am_H) (x3 : Int32) (y1 : Bool) : Option (Int32 × am_H) :=
  if y1 = true then f_Model_hit_93 h else f_Model_hit_100 h x3
def f_Model_hit_82 (h : am_H) (x3 : Int32) (y3 : Int32) (y2 : Int32) (y1 : Int32) : Option (Int32 × am_H) :=
  if am_ok y1 5 = true then ((f_Model_isWater (am_pI h 12 y1.toNatClampNeg (y2 + y3)) x3).bind fun p => f_Model_hit_90 (am_pI h 12 y1.toNatClampNeg (y2 + y3)) x3 p) else none
def f_Model_hit_81 (h : am_H) (x3 : Int32) (y2 : Int32) (y1 : Int32) : Option (Int32 × am_H) :=
  f_Model_hit_82 h x3 0 y2 y1
def f_Model_hit_77 (h : am_H) (x3 : Int32) (y2 : Int32) (y1 : Int32) : Option (Int32 × am_H) :=
  f_Model_hit_82 h x3 1 y2 y1
def f_Model_hit_74 (h : am_H) (x3 : Int32) (y3 : Bool) (y2 : Int32) (y1 : Int32) : Option (Int32 × am_H) :=
  if y3 = true then f_Model_hit_77 h x3 y2 y1 else f_Model_hit_81 h x3 y2 y1
def f_Model_hit_60 (h : am_H) (x3 : Int32) (y3 : Int32) (y2 : Int32) (y1 : Int32) : Option (Int32 × am_H) :=
  if am_ok y1 5 = true then ((f_Model_isWater (am_pI h 12 y1.toNatClampNeg (y2 + y3)) x3).bind fun p => f_Model_hit_74 (am_pI h 12 y1.toNatClampNeg (y2 + y3)) x3 p ((am_pI h 12 y1.toNatClampNeg (y2 + y3)).1 12 (3 : Int32).toNatClampNeg) 3) else none
def f_Model_hit_59 (h : am_H) (x3 : Int32) (y2 : Int32) (y1 : Int32) : Option (Int32 × am_H) :=
  f_Model_hit_60 h x3 1 y2 y1
def f_Model_hit_55 (h : am_H) (x3 : Int32) (y2 : Int32) (y1 : Int32) : Option (Int32 × am_H) :=
  f_Model_hit_60 h x3 2 y2 y1
def f_Model_hit_52 (h : am_H) (x3 : Int32) (y3 : Bool) (y2 : Int32) (y1 : Int32) : Option (Int32 × am_H) :=
  if y3 = true then f_Model_hit_55 h x3 y2 y1 else f_Model_hit_59 h x3 y2 y1
def f_Model_hit_39 (h : am_H) (y0 : Int32) : Option (Int32 × am_H) :=
  (f_Model_isWater h y0).bind fun p => f_Model_hit_52 h y0 p (h.1 12 (0 : Int32).toNatClampNeg) 0
def f_Model_hit_25 (h : am_H) (x1 : Int32) (x2 : Int32) : Option (Int32 × am_H) :=
  (f_Model_drawnDown (am_pI h 0 21 x2) ((am_pI h 0 21 x2).1 0 22) x1).bind fun p => f_Model_hit_39 p.2 p.1
def f_Model_hit_22 (h : am_H) : Option (Int32 × am_H) :=
  some ((-5), h)
def f_Model_hit_19 (h : am_H) (x1 : Int32) (x2 : Int32) (y0 : Bool) : Option (Int32 × am_H) :=
  if y0 = true then f_Model_hit_22 h else f_Model_hit_25 h x1 x2
def f_Model_hit_11 (h : am_H) (x1 : Int32) (x2 : Int32) : Option (Int32 × am_H) :=
  (f_Model_isGreen h (h.1 0 22)).bind fun p => f_Model_hit_19 h x1 x2 p
def f_Model_hit_9 (h : am_H) : Option (Int32 × am_H) :=
  some ((-1), h)
def f_Model_hit_6 (h : am_H) (x1 : Int32) (x2 : Int32) (y0 : Bool) : Option (Int32 × am_H) :=
  if y0 = true then f_Model_hit_11 h x1 x2 else f_Model_hit_9 h
def f_Model_hit (h : am_H) (x1 : Int32) (x2 : Int32) : Option (Int32 × am_H) :=
  f_Model_hit_6 h x1 x2 (f_Model_isClub h x1.toInt64)
def f_Model_putt_98 (h : am_H) (x2 : Int32) (y2 : Int32) (y1 : Int32) : Option (Int32 × am_H) :=
  if am_ok y1 5 = true then (some (x2, am_pI (am_pI h 12 y1.toNatClampNeg y2) 0 22 0)) else none
def f_Model_putt_88 (h : am_H) (x2 : Int32) (x3 : Int32) (y1 : Int32) : Option (Int32 × am_H) :=
  f_Model_putt_98 h x2 x3 y1
def f_Model_putt_92 (h : am_H) (x2 : Int32) (y1 : Int32) : Option (Int32 × am_H) :=
  f_Model_putt_98 h x2 (h.1 12 (4 : Int32).toNatClampNeg) y1
def f_Model_putt_78 (h : am_H) (x2 : Int32) (x3 : Int32) (y1 : Int32) : Option (Int32 × am_H) :=
  if (h.1 12 (4 : Int32).toNatClampNeg) ≤ x3 then f_Model_putt_92 h x2 y1 else f_Model_putt_88 h x2 x3 y1
def f_Model_putt_27 (h : am_H) (y0 : Int32) : Option (Int32 × am_H) :=
  if ((am_pI (am_pI (am_pI h 12 (0 : Int32).toNatClampNeg 0) 12 (1 : Int32).toNatClampNeg (((am_pI h 12 (0 : Int32).toNatClampNeg 0).1 12 (1 : Int32).toNatClampNeg) + 1)) 12 (2 : Int32).toNatClampNeg (((am_pI (am_pI h 12 (0 : Int32).toNatClampNeg 0) 12 (1 : Int32).toNatClampNeg (((am_pI h 12 (0 : Int32).toNatClampNeg 0).1 12 (1 : Int32).toNatClampNeg) + 1)).1 12 (2 : Int32).toNatClampNeg) + ((h.1 12 (0 : Int32).toNatClampNeg) + y0))).1 12 (4 : Int32).toNatClampNeg) = 0 then f_Model_putt_88 (am_pI (am_pI (am_pI h 12 (0 : Int32).toNatClampNeg 0) 12 (1 : Int32).toNatClampNeg (((am_pI h 12 (0 : Int32).toNatClampNeg 0).1 12 (1 : Int32).toNatClampNeg) + 1)) 12 (2 : Int32).toNatClampNeg (((am_pI (am_pI h 12 (0 : Int32).toNatClampNeg 0) 12 (1 : Int32).toNatClampNeg (((am_pI h 12 (0 : Int32).toNatClampNeg 0).1 12 (1 : Int32).toNatClampNeg) + 1)).1 12 (2 : Int32).toNatClampNeg) + ((h.1 12 (0 : Int32).toNatClampNeg) + y0))) y0 ((h.1 12 (0 : Int32).toNatClampNeg) + y0) 4 else f_Model_putt_78 (am_pI (am_pI (am_pI h 12 (0 : Int32).toNatClampNeg 0) 12 (1 : Int32).toNatClampNeg (((am_pI h 12 (0 : Int32).toNatClampNeg 0).1 12 (1 : Int32).toNatClampNeg) + 1)) 12 (2 : Int32).toNatClampNeg (((am_pI (am_pI h 12 (0 : Int32).toNatClampNeg 0) 12 (1 : Int32).toNatClampNeg (((am_pI h 12 (0 : Int32).toNatClampNeg 0).1 12 (1 : Int32).toNatClampNeg) + 1)).1 12 (2 : Int32).toNatClampNeg) + ((h.1 12 (0 : Int32).toNatClampNeg) + y0))) y0 ((h.1 12 (0 : Int32).toNatClampNeg) + y0) 4
def f_Model_putt_14 (h : am_H) (x1 : Int32) : Option (Int32 × am_H) :=
  (f_Model_drawnPutts (am_pI h 0 21 x1) ((am_pI h 0 21 x1).1 0 22)).bind fun p => f_Model_putt_27 p.2 p.1
def f_Model_putt_11 (h : am_H) : Option (Int32 × am_H) :=
  some ((-5), h)
def f_Model_putt_8 (h : am_H) (x1 : Int32) (y0 : Bool) : Option (Int32 × am_H) :=
  if y0 = true then f_Model_putt_14 h x1 else f_Model_putt_11 h
def f_Model_putt (h : am_H) (x1 : Int32) : Option (Int32 × am_H) :=
  (f_Model_isGreen h (h.1 0 22)).bind fun p => f_Model_putt_8 h x1 p
def f_Model_led_21 (h : am_H) : Option (Int32) :=
  some (-1)
def f_Model_led_12 (h : am_H) (x1 : Int32) : Option (Int32) :=
  if am_ok x1 5 = true then (some (h.1 12 x1.toNatClampNeg)) else none
def f_Model_led_9 (h : am_H) (x1 : Int32) (y0 : Bool) : Option (Int32) :=
  if y0 = true then f_Model_led_12 h x1 else f_Model_led_21 h
def f_Model_led (h : am_H) (x1 : Int32) : Option (Int32) :=
  f_Model_led_9 h x1 (f_Model_within x1.toInt64 0 4)
def f_Model_image_40 (h : am_H) : Option (Int32 × am_H) :=
  some ((h.1 0 22), h)
def f_Model_image_22 (k17 : am_H → Int32 → Option (Int32 × am_H)) (h : am_H) (x1 : Int32) : Option (Int32 × am_H) :=
  if am_ok x1 5 = true then (if am_ok x1 6 = true then (k17 (am_pI h 13 x1.toNatClampNeg (h.1 12 x1.toNatClampNeg)) (x1 + 1)) else none) else none
def f_Model_image_17 (k17 : am_H → Int32 → Option (Int32 × am_H)) (h : am_H) (x1 : Int32) : Option (Int32 × am_H) :=
  if 5 ≤ x1 then f_Model_image_40 h else f_Model_image_22 k17 h x1
def f_Model_image_17_l  : Nat → am_H → Int32 → Option (Int32 × am_H)
  | 0 => fun _ _ => none
  | n + 1 => f_Model_image_17 (f_Model_image_17_l n)
def f_Model_image (h : am_H) : Option (Int32 × am_H) :=
  f_Model_image_17_l am_fu (am_pI (am_pI h 0 24 1) 13 (5 : Int32).toNatClampNeg ((am_pI h 0 24 1).1 0 22)) 0
def f_Model_back_45 (h : am_H) : Option (Int32 × am_H) :=
  some ((h.1 0 22), h)
def f_Model_back_27 (k22 : am_H → Int32 → Option (Int32 × am_H)) (h : am_H) (x1 : Int32) : Option (Int32 × am_H) :=
  if am_ok x1 6 = true then (if am_ok x1 5 = true then (k22 (am_pI h 12 x1.toNatClampNeg (h.1 13 x1.toNatClampNeg)) (x1 + 1)) else none) else none
def f_Model_back_22 (k22 : am_H → Int32 → Option (Int32 × am_H)) (h : am_H) (x1 : Int32) : Option (Int32 × am_H) :=
  if 5 ≤ x1 then f_Model_back_45 h else f_Model_back_27 k22 h x1
def f_Model_back_22_l  : Nat → am_H → Int32 → Option (Int32 × am_H)
  | 0 => fun _ _ => none
  | n + 1 => f_Model_back_22 (f_Model_back_22_l n)
def f_Model_back_10 (h : am_H) : Option (Int32 × am_H) :=
  f_Model_back_22_l am_fu (am_pI h 0 22 (h.1 13 (5 : Int32).toNatClampNeg)) 0
def f_Model_back_7 (h : am_H) : Option (Int32 × am_H) :=
  some ((-5), h)
def f_Model_back (h : am_H) : Option (Int32 × am_H) :=
  if (h.1 0 24) = 0 then f_Model_back_7 h else f_Model_back_10 h
def f_Model_cellsOf_52 (h : am_H) (x2 : Int32) : Option (Int32) :=
  some x2
def f_Model_cellsOf_44 (k4 : Int32 → Int32 → Int32 → Option (Int32)) (h : am_H) (x1 : Int32) (x3 : Int32) (y1 : Int32) (y0 : Int32) : Option (Int32) :=
  k4 x1 (y0 + y1) (x3 + 1)
def f_Model_cellsOf_43 (k4 : Int32 → Int32 → Int32 → Option (Int32)) (h : am_H) (x1 : Int32) (x3 : Int32) (y0 : Int32) : Option (Int32) :=
  f_Model_cellsOf_44 k4 h x1 x3 0 y0
def f_Model_cellsOf_39 (k4 : Int32 → Int32 → Int32 → Option (Int32)) (h : am_H) (x1 : Int32) (x3 : Int32) (y0 : Int32) : Option (Int32) :=
  f_Model_cellsOf_44 k4 h x1 x3 1 y0
def f_Model_cellsOf_36 (k4 : Int32 → Int32 → Int32 → Option (Int32)) (h : am_H) (x1 : Int32) (x3 : Int32) (y1 : Bool) (y0 : Int32) : Option (Int32) :=
  if y1 = true then f_Model_cellsOf_39 k4 h x1 x3 y0 else f_Model_cellsOf_43 k4 h x1 x3 y0
def f_Model_cellsOf_31 (k4 : Int32 → Int32 → Int32 → Option (Int32)) (h : am_H) (x1 : Int32) (x3 : Int32) (y0 : Int32) : Option (Int32) :=
  (f_Model_isWater h x3).bind fun p => f_Model_cellsOf_36 k4 h x1 x3 p y0
def f_Model_cellsOf_27 (k4 : Int32 → Int32 → Int32 → Option (Int32)) (h : am_H) (x1 : Int32) (x3 : Int32) (y0 : Int32) : Option (Int32) :=
  f_Model_cellsOf_44 k4 h x1 x3 0 y0
def f_Model_cellsOf_23 (k4 : Int32 → Int32 → Int32 → Option (Int32)) (h : am_H) (x1 : Int32) (x3 : Int32) (y0 : Int32) : Option (Int32) :=
  f_Model_cellsOf_44 k4 h x1 x3 1 y0
def f_Model_cellsOf_20 (k4 : Int32 → Int32 → Int32 → Option (Int32)) (h : am_H) (x1 : Int32) (x3 : Int32) (y1 : Bool) (y0 : Int32) : Option (Int32) :=
  if y1 = true then f_Model_cellsOf_23 k4 h x1 x3 y0 else f_Model_cellsOf_27 k4 h x1 x3 y0
def f_Model_cellsOf_15 (k4 : Int32 → Int32 → Int32 → Option (Int32)) (h : am_H) (x1 : Int32) (x3 : Int32) (y0 : Int32) : Option (Int32) :=
  (f_Model_isGreen h x3).bind fun p => f_Model_cellsOf_20 k4 h x1 x3 p y0
def f_Model_cellsOf_10 (k4 : Int32 → Int32 → Int32 → Option (Int32)) (h : am_H) (x1 : Int32) (x2 : Int32) (x3 : Int32) : Option (Int32) :=
  if x1 = 0 then f_Model_cellsOf_31 k4 h x1 x3 x2 else f_Model_cellsOf_15 k4 h x1 x3 x2
def f_Model_cellsOf_4 (k4 : Int32 → Int32 → Int32 → Option (Int32)) (h : am_H) (x1 : Int32) (x2 : Int32) (x3 : Int32) : Option (Int32) :=
  if 31 ≤ x3 then f_Model_cellsOf_52 h x2 else f_Model_cellsOf_10 k4 h x1 x2 x3
def f_Model_cellsOf_4_l (h : am_H) : Nat → Int32 → Int32 → Int32 → Option (Int32)
  | 0 => fun _ _ _ => none
  | n + 1 => f_Model_cellsOf_4 (f_Model_cellsOf_4_l h n) h
def f_Model_cellsOf (h : am_H) (x1 : Int32) : Option (Int32) :=
  f_Model_cellsOf_4_l h am_fu x1 0 0
def f_Model_isBody_13 (h : am_H) (y0 : Bool) : Bool :=
  y0
def f_Model_isBody (h : am_H) (x1 : Int32) : Bool :=
  f_Model_isBody_13 h (f_Model_within x1.toInt64 0 (((h.1 0 26) - 1).toInt64))
def f_Model_kindOf (h : am_H) (x1 : Int32) : Option (Int32) :=
  if am_ok x1 50 = true then (some (h.1 14 x1.toNatClampNeg)) else none
def f_Model_body_26 (h : am_H) (x1 : Int32) : Option (Int32 × am_H) :=
  if am_ok (h.1 0 26) 50 = true then (some ((((am_pI (am_pI h 14 (h.1 0 26).toNatClampNeg x1) 0 26 (((am_pI h 14 (h.1 0 26).toNatClampNeg x1).1 0 26) + 1)).1 0 26) - 1), am_pI (am_pI h 14 (h.1 0 26).toNatClampNeg x1) 0 26 (((am_pI h 14 (h.1 0 26).toNatClampNeg x1).1 0 26) + 1))) else none
def f_Model_body_23 (h : am_H) : Option (Int32 × am_H) :=
  some ((-3), h)
def f_Model_body_14 (h : am_H) (x1 : Int32) : Option (Int32 × am_H) :=
  if (h.1 0 26) = 50 then f_Model_body_23 h else f_Model_body_26 h x1
def f_Model_body_12 (h : am_H) : Option (Int32 × am_H) :=
  some ((-1), h)
def f_Model_body_9 (h : am_H) (x1 : Int32) (y0 : Bool) : Option (Int32 × am_H) :=
  if y0 = true then f_Model_body_14 h x1 else f_Model_body_12 h
def f_Model_body (h : am_H) (x1 : Int32) : Option (Int32 × am_H) :=
  f_Model_body_9 h x1 (f_Model_within x1.toInt64 0 7)
def f_Model_above_37  : Int32 :=
  0
def f_Model_above_33  : Int32 :=
  4
def f_Model_above_27 (x0 : Int32) : Int32 :=
  if x0 = 7 then f_Model_above_33 else f_Model_above_37
def f_Model_above_23  : Int32 :=
  3
def f_Model_above_18 (x0 : Int32) : Int32 :=
  if x0 = 5 then f_Model_above_23 else f_Model_above_27 x0
def f_Model_above_14  : Int32 :=
  1
def f_Model_above_9 (x0 : Int32) : Int32 :=
  if x0 = 4 then f_Model_above_14 else f_Model_above_18 x0
def f_Model_above_5  : Int32 :=
  2
def f_Model_above (x0 : Int32) : Int32 :=
  if x0 = 3 then f_Model_above_5 else f_Model_above_9 x0
def f_Model_begins_19 (h : am_H) : Option (am_H) :=
  some (am_pI h 0 29 ((h.1 0 29) + 1))
def f_Model_begins_9 (h : am_H) (x1 : Int32) : Option (am_H) :=
  if am_ok (h.1 0 29) 24 = true then (f_Model_begins_19 (am_pI h 15 (h.1 0 29).toNatClampNeg x1)) else none
def f_Model_begins (h : am_H) (x1 : Int32) : Option (am_H) :=
  if 24 ≤ (h.1 0 29) then f_Model_begins_19 h else f_Model_begins_9 h x1
abbrev rc_Model_saysAs : Type := (am_H → Int32 → Int32 → Option (Int32 × am_H))
def f_Model_saysAs_28 (rc : rc_Model_saysAs) (h : am_H) (y0 : Int32) : Option (Int32 × am_H) :=
  some ((y0 + 3), h)
def f_Model_saysAs_22 (rc : rc_Model_saysAs) (h : am_H) (x2 : Int32) : Option (Int32 × am_H) :=
  (rc h 0 x2).bind fun p => f_Model_saysAs_28 rc p.2 p.1
def f_Model_saysAs_16 (rc : rc_Model_saysAs) (h : am_H) (x2 : Int32) : Option (Int32 × am_H) :=
  (f_Model_begins h 20).bind fun p => f_Model_saysAs_22 rc p x2
def f_Model_saysAs_57 (rc : rc_Model_saysAs) (h : am_H) (x2 : Int32) : Option (Int32 × am_H) :=
  some ((x2 + (h.1 0 31)), h)
def f_Model_saysAs_52 (rc : rc_Model_saysAs) (h : am_H) (x2 : Int32) : Option (Int32 × am_H) :=
  (f_Model_begins h 1).bind fun p => f_Model_saysAs_57 rc p x2
def f_Model_saysAs_49 (rc : rc_Model_saysAs) (h : am_H) (y0 : Int32) : Option (Int32 × am_H) :=
  some ((y0 * 2), h)
def f_Model_saysAs_43 (rc : rc_Model_saysAs) (h : am_H) (x2 : Int32) : Option (Int32 × am_H) :=
  (rc h 0 x2).bind fun p => f_Model_saysAs_49 rc p.2 p.1
def f_Model_saysAs_37 (rc : rc_Model_saysAs) (h : am_H) (x2 : Int32) : Option (Int32 × am_H) :=
  (f_Model_begins h 70).bind fun p => f_Model_saysAs_43 rc p x2
def f_Model_saysAs_31 (rc : rc_Model_saysAs) (h : am_H) (x1 : Int32) (x2 : Int32) : Option (Int32 × am_H) :=
  if x1 = 6 then f_Model_saysAs_37 rc h x2 else f_Model_saysAs_52 rc h x2
def f_Model_saysAs_10 (rc : rc_Model_saysAs) (h : am_H) (x1 : Int32) (x2 : Int32) : Option (Int32 × am_H) :=
  if x1 = 7 then f_Model_saysAs_16 rc h x2 else f_Model_saysAs_31 rc h x1 x2
def f_Model_saysAs_5 (rc : rc_Model_saysAs) (h : am_H) (x1 : Int32) (x2 : Int32) : Option (Int32 × am_H) :=
  if x1 = 4 then f_Model_saysAs_16 rc h x2 else f_Model_saysAs_10 rc h x1 x2
def f_Model_saysAs_0 (rc : rc_Model_saysAs) (h : am_H) (x1 : Int32) (x2 : Int32) : Option (Int32 × am_H) :=
  if x1 = 1 then f_Model_saysAs_16 rc h x2 else f_Model_saysAs_5 rc h x1 x2
def g_Model_saysAs : Nat → rc_Model_saysAs
  | 0 => (fun _ _ _ => none)
  | n + 1 => f_Model_saysAs_0 (g_Model_saysAs n)
def f_Model_saysAs : am_H → Int32 → Int32 → Option (Int32 × am_H) := (g_Model_saysAs 64)
abbrev rc_Model_liesAs : Type := (am_H → Int32 → Int32 → Option (Int32 × am_H))
def f_Model_liesAs_22 (rc : rc_Model_liesAs) (h : am_H) (y0 : Int32) : Option (Int32 × am_H) :=
  some ((y0 * 3), h)
def f_Model_liesAs_16 (rc : rc_Model_liesAs) (h : am_H) (x2 : Int32) : Option (Int32 × am_H) :=
  (rc h 2 x2).bind fun p => f_Model_liesAs_22 rc p.2 p.1
def f_Model_liesAs_10 (rc : rc_Model_liesAs) (h : am_H) (x2 : Int32) : Option (Int32 × am_H) :=
  (f_Model_begins h 40).bind fun p => f_Model_liesAs_16 rc p x2
def f_Model_liesAs_59 (rc : rc_Model_liesAs) (h : am_H) (y1 : Int32) (y0 : Int32) : Option (Int32 × am_H) :=
  some ((y0 - y1), h)
def f_Model_liesAs_48 (rc : rc_Model_liesAs) (h : am_H) (y0 : Int32) : Option (Int32 × am_H) :=
  (f_Model_saysAs h (h.1 0 30) 2).bind fun p => f_Model_liesAs_59 rc p.2 p.1 y0
def f_Model_liesAs_42 (rc : rc_Model_liesAs) (h : am_H) (x2 : Int32) : Option (Int32 × am_H) :=
  (rc h 1 x2).bind fun p => f_Model_liesAs_48 rc p.2 p.1
def f_Model_liesAs_36 (rc : rc_Model_liesAs) (h : am_H) (x2 : Int32) : Option (Int32 × am_H) :=
  (f_Model_begins h 50).bind fun p => f_Model_liesAs_42 rc p x2
def f_Model_liesAs_67 (rc : rc_Model_liesAs) (h : am_H) (x2 : Int32) : Option (Int32 × am_H) :=
  some ((x2 ^^^ (h.1 0 31)), h)
def f_Model_liesAs_61 (rc : rc_Model_liesAs) (h : am_H) (x2 : Int32) : Option (Int32 × am_H) :=
  (f_Model_begins h 11).bind fun p => f_Model_liesAs_67 rc p x2
def f_Model_liesAs_30 (rc : rc_Model_liesAs) (h : am_H) (x1 : Int32) (x2 : Int32) : Option (Int32 × am_H) :=
  if x1 = 7 then f_Model_liesAs_36 rc h x2 else f_Model_liesAs_61 rc h x2
def f_Model_liesAs_25 (rc : rc_Model_liesAs) (h : am_H) (x1 : Int32) (x2 : Int32) : Option (Int32 × am_H) :=
  if x1 = 4 then f_Model_liesAs_36 rc h x2 else f_Model_liesAs_30 rc h x1 x2
def f_Model_liesAs_5 (rc : rc_Model_liesAs) (h : am_H) (x1 : Int32) (x2 : Int32) : Option (Int32 × am_H) :=
  if x1 = 5 then f_Model_liesAs_10 rc h x2 else f_Model_liesAs_25 rc h x1 x2
def f_Model_liesAs_0 (rc : rc_Model_liesAs) (h : am_H) (x1 : Int32) (x2 : Int32) : Option (Int32 × am_H) :=
  if x1 = 3 then f_Model_liesAs_10 rc h x2 else f_Model_liesAs_5 rc h x1 x2
def g_Model_liesAs : Nat → rc_Model_liesAs
  | 0 => (fun _ _ _ => none)
  | n + 1 => f_Model_liesAs_0 (g_Model_liesAs n)
def f_Model_liesAs : am_H → Int32 → Int32 → Option (Int32 × am_H) := (g_Model_liesAs 64)
abbrev rc_Model_hitsAs : Type := (am_H → Int32 → Int32 → Option (Int32 × am_H))
def f_Model_hitsAs_24 (rc : rc_Model_hitsAs) (h : am_H) (y0 : Int32) : Option (Int32 × am_H) :=
  some (y0, h)
def f_Model_hitsAs_16 (rc : rc_Model_hitsAs) (h : am_H) (x2 : Int32) : Option (Int32 × am_H) :=
  (rc h 2 (x2 + 1)).bind fun p => f_Model_hitsAs_24 rc p.2 p.1
def f_Model_hitsAs_10 (rc : rc_Model_hitsAs) (h : am_H) (x2 : Int32) : Option (Int32 × am_H) :=
  (f_Model_begins h 41).bind fun p => f_Model_hitsAs_16 rc p x2
def f_Model_hitsAs_90 (rc : rc_Model_hitsAs) (h : am_H) (y0 : Int32) : Option (Int32 × am_H) :=
  some ((y0 * 2), h)
def f_Model_hitsAs_81 (rc : rc_Model_hitsAs) (h : am_H) (x2 : Int32) : Option (Int32 × am_H) :=
  (f_Model_saysAs h (h.1 0 30) x2).bind fun p => f_Model_hitsAs_90 rc p.2 p.1
def f_Model_hitsAs_75 (rc : rc_Model_hitsAs) (h : am_H) (x2 : Int32) : Option (Int32 × am_H) :=
  (f_Model_begins h 10).bind fun p => f_Model_hitsAs_81 rc p x2
def f_Model_hitsAs_73 (rc : rc_Model_hitsAs) (h : am_H) (y1 : Int32) (y0 : Int32) : Option (Int32 × am_H) :=
  some ((y0 + y1), h)
def f_Model_hitsAs_62 (rc : rc_Model_hitsAs) (h : am_H) (y0 : Int32) : Option (Int32 × am_H) :=
  (f_Model_liesAs h (h.1 0 30) 2).bind fun p => f_Model_hitsAs_73 rc p.2 p.1 y0
def f_Model_hitsAs_56 (rc : rc_Model_hitsAs) (h : am_H) (x2 : Int32) : Option (Int32 × am_H) :=
  (rc h 4 x2).bind fun p => f_Model_hitsAs_62 rc p.2 p.1
def f_Model_hitsAs_50 (rc : rc_Model_hitsAs) (h : am_H) (x2 : Int32) : Option (Int32 × am_H) :=
  (f_Model_begins h 80).bind fun p => f_Model_hitsAs_56 rc p x2
def f_Model_hitsAs_44 (rc : rc_Model_hitsAs) (h : am_H) (x1 : Int32) (x2 : Int32) : Option (Int32 × am_H) :=
  if x1 = 7 then f_Model_hitsAs_50 rc h x2 else f_Model_hitsAs_75 rc h x2
def f_Model_hitsAs_42 (rc : rc_Model_hitsAs) (h : am_H) (y0 : Int32) : Option (Int32 × am_H) :=
  some ((-y0), h)
def f_Model_hitsAs_36 (rc : rc_Model_hitsAs) (h : am_H) (x2 : Int32) : Option (Int32 × am_H) :=
  (rc h 0 x2).bind fun p => f_Model_hitsAs_42 rc p.2 p.1
def f_Model_hitsAs_30 (rc : rc_Model_hitsAs) (h : am_H) (x2 : Int32) : Option (Int32 × am_H) :=
  (f_Model_begins h 30).bind fun p => f_Model_hitsAs_36 rc p x2
def f_Model_hitsAs_25 (rc : rc_Model_hitsAs) (h : am_H) (x1 : Int32) (x2 : Int32) : Option (Int32 × am_H) :=
  if x1 = 2 then f_Model_hitsAs_30 rc h x2 else f_Model_hitsAs_44 rc h x1 x2
def f_Model_hitsAs_5 (rc : rc_Model_hitsAs) (h : am_H) (x1 : Int32) (x2 : Int32) : Option (Int32 × am_H) :=
  if x1 = 5 then f_Model_hitsAs_10 rc h x2 else f_Model_hitsAs_25 rc h x1 x2
def f_Model_hitsAs_0 (rc : rc_Model_hitsAs) (h : am_H) (x1 : Int32) (x2 : Int32) : Option (Int32 × am_H) :=
  if x1 = 3 then f_Model_hitsAs_10 rc h x2 else f_Model_hitsAs_5 rc h x1 x2
def g_Model_hitsAs : Nat → rc_Model_hitsAs
  | 0 => (fun _ _ _ => none)
  | n + 1 => f_Model_hitsAs_0 (g_Model_hitsAs n)
def f_Model_hitsAs : am_H → Int32 → Int32 → Option (Int32 × am_H) := (g_Model_hitsAs 64)
abbrev rc_Model_tellsAs : Type := (am_H → Int32 → Int32 → Option (Int32 × am_H))
def f_Model_tellsAs_66 (rc : rc_Model_tellsAs) (h : am_H) (y1 : Int32) (y0 : Int32) : Option (Int32 × am_H) :=
  some ((y0 - y1), h)
def f_Model_tellsAs_55 (rc : rc_Model_tellsAs) (h : am_H) (y0 : Int32) : Option (Int32 × am_H) :=
  (f_Model_liesAs h (h.1 0 30) 1).bind fun p => f_Model_tellsAs_66 rc p.2 p.1 y0
def f_Model_tellsAs_46 (rc : rc_Model_tellsAs) (h : am_H) (x2 : Int32) : Option (Int32 × am_H) :=
  (f_Model_hitsAs h (h.1 0 30) x2).bind fun p => f_Model_tellsAs_55 rc p.2 p.1
def f_Model_tellsAs_41 (rc : rc_Model_tellsAs) (h : am_H) (x2 : Int32) : Option (Int32 × am_H) :=
  (f_Model_begins h 2).bind fun p => f_Model_tellsAs_46 rc p x2
def f_Model_tellsAs_38 (rc : rc_Model_tellsAs) (h : am_H) (y0 : Int32) : Option (Int32 × am_H) :=
  some ((y0 - 1), h)
def f_Model_tellsAs_32 (rc : rc_Model_tellsAs) (h : am_H) (x2 : Int32) : Option (Int32 × am_H) :=
  (rc h 4 x2).bind fun p => f_Model_tellsAs_38 rc p.2 p.1
def f_Model_tellsAs_26 (rc : rc_Model_tellsAs) (h : am_H) (x2 : Int32) : Option (Int32 × am_H) :=
  (f_Model_begins h 81).bind fun p => f_Model_tellsAs_32 rc p x2
def f_Model_tellsAs_20 (rc : rc_Model_tellsAs) (h : am_H) (x1 : Int32) (x2 : Int32) : Option (Int32 × am_H) :=
  if x1 = 7 then f_Model_tellsAs_26 rc h x2 else f_Model_tellsAs_41 rc h x2
def f_Model_tellsAs_17 (rc : rc_Model_tellsAs) (h : am_H) (y0 : Int32) : Option (Int32 × am_H) :=
  some ((y0 ^^^ 5), h)
def f_Model_tellsAs_11 (rc : rc_Model_tellsAs) (h : am_H) (x2 : Int32) : Option (Int32 × am_H) :=
  (rc h 3 x2).bind fun p => f_Model_tellsAs_17 rc p.2 p.1
def f_Model_tellsAs_5 (rc : rc_Model_tellsAs) (h : am_H) (x2 : Int32) : Option (Int32 × am_H) :=
  (f_Model_begins h 60).bind fun p => f_Model_tellsAs_11 rc p x2
def f_Model_tellsAs_0 (rc : rc_Model_tellsAs) (h : am_H) (x1 : Int32) (x2 : Int32) : Option (Int32 × am_H) :=
  if x1 = 5 then f_Model_tellsAs_5 rc h x2 else f_Model_tellsAs_20 rc h x1 x2
def g_Model_tellsAs : Nat → rc_Model_tellsAs
  | 0 => (fun _ _ _ => none)
  | n + 1 => f_Model_tellsAs_0 (g_Model_tellsAs n)
def f_Model_tellsAs : am_H → Int32 → Int32 → Option (Int32 × am_H) := (g_Model_tellsAs 64)
def f_Model_act_69 (h : am_H) (y0 : Int32) : Option (Int32 × am_H) :=
  some (y0, h)
def f_Model_act_60 (h : am_H) (x3 : Int32) : Option (Int32 × am_H) :=
  (f_Model_saysAs h (h.1 0 30) x3).bind fun p => f_Model_act_69 p.2 p.1
def f_Model_act_79 (h : am_H) (y0 : Int32) : Option (Int32 × am_H) :=
  some (y0, h)
def f_Model_act_70 (h : am_H) (x3 : Int32) : Option (Int32 × am_H) :=
  (f_Model_hitsAs h (h.1 0 30) x3).bind fun p => f_Model_act_79 p.2 p.1
def f_Model_act_89 (h : am_H) (y0 : Int32) : Option (Int32 × am_H) :=
  some (y0, h)
def f_Model_act_80 (h : am_H) (x3 : Int32) : Option (Int32 × am_H) :=
  (f_Model_liesAs h (h.1 0 30) x3).bind fun p => f_Model_act_89 p.2 p.1
def f_Model_act_99 (h : am_H) (y0 : Int32) : Option (Int32 × am_H) :=
  some (y0, h)
def f_Model_act_90 (h : am_H) (x3 : Int32) : Option (Int32 × am_H) :=
  (f_Model_tellsAs h (h.1 0 30) x3).bind fun p => f_Model_act_99 p.2 p.1
def f_Model_act_100 (h : am_H) : Option (Int32 × am_H) :=
  some (0, h)
def f_Model_act_15 (h : am_H) (x1 : Int32) (x2 : Int32) (x3 : Int32) : Option (Int32 × am_H) :=
  if am_ok x1 50 = true then (if x2 = 0 then f_Model_act_60 (am_pI (am_pI h 0 30 (h.1 14 x1.toNatClampNeg)) 0 31 x1) x3 else if x2 = 1 then f_Model_act_70 (am_pI (am_pI h 0 30 (h.1 14 x1.toNatClampNeg)) 0 31 x1) x3 else if x2 = 2 then f_Model_act_80 (am_pI (am_pI h 0 30 (h.1 14 x1.toNatClampNeg)) 0 31 x1) x3 else if x2 = 3 then f_Model_act_90 (am_pI (am_pI h 0 30 (h.1 14 x1.toNatClampNeg)) 0 31 x1) x3 else f_Model_act_100 (am_pI (am_pI h 0 30 (h.1 14 x1.toNatClampNeg)) 0 31 x1)) else none
def f_Model_act_13 (h : am_H) : Option (Int32 × am_H) :=
  some (0, h)
def f_Model_act_10 (h : am_H) (x1 : Int32) (x2 : Int32) (x3 : Int32) (y0 : Bool) : Option (Int32 × am_H) :=
  if y0 = true then f_Model_act_15 h x1 x2 x3 else f_Model_act_13 h
def f_Model_act (h : am_H) (x1 : Int32) (x2 : Int32) (x3 : Int32) : Option (Int32 × am_H) :=
  f_Model_act_10 (am_pI h 0 29 0) x1 x2 x3 (f_Model_isBody (am_pI h 0 29 0) x1)
def f_Model_trace_27 (h : am_H) : Option (Int32) :=
  some (-1)
def f_Model_trace_18 (h : am_H) (x1 : Int32) : Option (Int32) :=
  if am_ok x1 24 = true then (some (h.1 15 x1.toNatClampNeg)) else none
def f_Model_trace_12 (h : am_H) (x1 : Int32) : Option (Int32) :=
  if 24 ≤ x1 then f_Model_trace_27 h else f_Model_trace_18 h x1
def f_Model_trace_4 (h : am_H) (x1 : Int32) : Option (Int32) :=
  if (h.1 0 29) ≤ x1 then f_Model_trace_27 h else f_Model_trace_12 h x1
def f_Model_trace (h : am_H) (x1 : Int32) : Option (Int32) :=
  if x1 < 0 then f_Model_trace_27 h else f_Model_trace_4 h x1
def f_Model_keep_20 (h : am_H) : Option (Int32 × am_H) :=
  some ((-1), h)
def f_Model_keep_22 (h : am_H) (x1 : Int32) (x2 : Int32) : Option (Int32 × am_H) :=
  if am_ok x1 6 = true then (some (1, am_pI (am_pI h 16 x1.toNatClampNeg x2) 17 x1.toNatClampNeg 0)) else none
def f_Model_keep_17 (h : am_H) (x1 : Int32) (x2 : Int32) (y0 : Bool) : Option (Int32 × am_H) :=
  if y0 = true then f_Model_keep_22 h x1 x2 else f_Model_keep_20 h
def f_Model_keep_12 (h : am_H) (x1 : Int32) (x2 : Int32) : Option (Int32 × am_H) :=
  f_Model_keep_17 h x1 x2 (f_Model_isBody h x2)
def f_Model_keep_7 (h : am_H) (x1 : Int32) (x2 : Int32) : Option (Int32 × am_H) :=
  if x2 = (-1) then f_Model_keep_22 h x1 x2 else f_Model_keep_12 h x1 x2
def f_Model_keep_4 (h : am_H) (x1 : Int32) (x2 : Int32) (y0 : Bool) : Option (Int32 × am_H) :=
  if y0 = true then f_Model_keep_7 h x1 x2 else f_Model_keep_20 h
def f_Model_keep (h : am_H) (x1 : Int32) (x2 : Int32) : Option (Int32 × am_H) :=
  f_Model_keep_4 h x1 x2 (f_Model_isShelf x1)
def f_Model_row_25 (h : am_H) : Option (Int32 × am_H) :=
  some ((-1), h)
def f_Model_row_83 (h : am_H) : Option (Int32 × am_H) :=
  some (1, h)
def f_Model_row_69 (k57 : am_H → Int32 → Int32 → Option (Int32 × am_H)) (h : am_H) (x1 : Int32) (x4 : Int32) : Option (Int32 × am_H) :=
  if am_ok x4 360 = true then (k57 (am_pL h 18 x4.toNatClampNeg 0) x1 (x4 + 1)) else none
def f_Model_row_57 (k57 : am_H → Int32 → Int32 → Option (Int32 × am_H)) (h : am_H) (x1 : Int32) (x4 : Int32) : Option (Int32 × am_H) :=
  if ((60 * x1) + 60) ≤ x4 then f_Model_row_83 h else f_Model_row_69 k57 h x1 x4
def f_Model_row_57_l  : Nat → am_H → Int32 → Int32 → Option (Int32 × am_H)
  | 0 => fun _ _ _ => none
  | n + 1 => f_Model_row_57 (f_Model_row_57_l n)
def f_Model_row_34 (h : am_H) (x1 : Int32) (x2 : Int32) (x3 : Int32) : Option (Int32 × am_H) :=
  if am_ok x1 6 = true then (f_Model_row_57_l am_fu (am_pI (am_pI h 16 x1.toNatClampNeg (50 + x2)) 17 x1.toNatClampNeg x3) x1 (60 * x1)) else none
def f_Model_row_31 (h : am_H) : Option (Int32 × am_H) :=
  some ((-14), h)
def f_Model_row_27 (h : am_H) (x1 : Int32) (x2 : Int32) (x3 : Int32) : Option (Int32 × am_H) :=
  if 0 ≤ x3 then f_Model_row_34 h x1 x2 x3 else f_Model_row_31 h
def f_Model_row_19 (h : am_H) (x1 : Int32) (x2 : Int32) (x3 : Int32) : Option (Int32 × am_H) :=
  if x3 ≤ 60 then f_Model_row_27 h x1 x2 x3 else f_Model_row_25 h
def f_Model_row_16 (h : am_H) (x1 : Int32) (x2 : Int32) (x3 : Int32) (y0 : Bool) : Option (Int32 × am_H) :=
  if y0 = true then f_Model_row_19 h x1 x2 x3 else f_Model_row_25 h
def f_Model_row_7 (h : am_H) (x1 : Int32) (x2 : Int32) (x3 : Int32) : Option (Int32 × am_H) :=
  f_Model_row_16 h x1 x2 x3 (f_Model_within x2.toInt64 0 4)
def f_Model_row_4 (h : am_H) (x1 : Int32) (x2 : Int32) (x3 : Int32) (y0 : Bool) : Option (Int32 × am_H) :=
  if y0 = true then f_Model_row_7 h x1 x2 x3 else f_Model_row_25 h
def f_Model_row (h : am_H) (x1 : Int32) (x2 : Int32) (x3 : Int32) : Option (Int32 × am_H) :=
  f_Model_row_4 h x1 x2 x3 (f_Model_isShelf x1)
def f_Model_refusal_53 (h : am_H) : Option (Int32) :=
  some (-13)
def f_Model_refusal_49 (h : am_H) : Option (Int32) :=
  some 0
def f_Model_refusal_39 (h : am_H) (x1 : Int32) (x2 : Int32) : Option (Int32) :=
  if am_ok x1 6 = true then (if (h.1 17 x1.toNatClampNeg) ≤ x2 then f_Model_refusal_53 h else f_Model_refusal_49 h) else none
def f_Model_refusal_35 (h : am_H) (x1 : Int32) (x2 : Int32) : Option (Int32) :=
  if x2 < 0 then f_Model_refusal_53 h else f_Model_refusal_39 h x1 x2
def f_Model_refusal_32 (h : am_H) : Option (Int32) :=
  some (-12)
def f_Model_refusal_21 (h : am_H) (x1 : Int32) (x2 : Int32) : Option (Int32) :=
  if am_ok x1 6 = true then (if 50 ≤ (h.1 16 x1.toNatClampNeg) then f_Model_refusal_35 h x1 x2 else f_Model_refusal_32 h) else none
def f_Model_refusal_18 (h : am_H) : Option (Int32) :=
  some (-11)
def f_Model_refusal_9 (h : am_H) (x1 : Int32) (x2 : Int32) : Option (Int32) :=
  if am_ok x1 6 = true then (if 0 ≤ (h.1 16 x1.toNatClampNeg) then f_Model_refusal_21 h x1 x2 else f_Model_refusal_18 h) else none
def f_Model_refusal_7 (h : am_H) : Option (Int32) :=
  some (-1)
def f_Model_refusal_4 (h : am_H) (x1 : Int32) (x2 : Int32) (y0 : Bool) : Option (Int32) :=
  if y0 = true then f_Model_refusal_9 h x1 x2 else f_Model_refusal_7 h
def f_Model_refusal (h : am_H) (x1 : Int32) (x2 : Int32) : Option (Int32) :=
  f_Model_refusal_4 h x1 x2 (f_Model_isShelf x1)
def f_Model_asSort_53 (x1 : Int64) : Int64 :=
  x1
def f_Model_asSort_49  : Int64 :=
  0
def f_Model_asSort_45  : Int64 :=
  1
def f_Model_asSort_39 (x1 : Int64) : Int64 :=
  if x1 = 0 then f_Model_asSort_49 else f_Model_asSort_45
def f_Model_asSort_34 (x0 : Int32) (x1 : Int64) : Int64 :=
  if x0 = 4 then f_Model_asSort_39 x1 else f_Model_asSort_53 x1
def f_Model_asSort_28 (x1 : Int64) : Int64 :=
  x1.toInt32.toInt64
def f_Model_asSort_23 (x0 : Int32) (x1 : Int64) : Int64 :=
  if x0 = 2 then f_Model_asSort_28 x1 else f_Model_asSort_34 x0 x1
def f_Model_asSort_16 (x1 : Int64) : Int64 :=
  x1.toInt32.toInt16.toInt32.toInt64
def f_Model_asSort_11 (x0 : Int32) (x1 : Int64) : Int64 :=
  if x0 = 1 then f_Model_asSort_16 x1 else f_Model_asSort_23 x0 x1
def f_Model_asSort_4 (x1 : Int64) : Int64 :=
  x1.toInt32.toInt8.toInt32.toInt64
def f_Model_asSort (x0 : Int32) (x1 : Int64) : Int64 :=
  if x0 = 0 then f_Model_asSort_4 x1 else f_Model_asSort_11 x0 x1
def f_Model_put_46 (h : am_H) (x5 : Int32) : Option (Int32 × am_H) :=
  some (x5, h)
def f_Model_put_42 (h : am_H) : Option (Int32 × am_H) :=
  some (1, h)
def f_Model_put_37 (h : am_H) (x5 : Int32) : Option (Int32 × am_H) :=
  if x5 = 0 then f_Model_put_42 h else f_Model_put_46 h x5
def f_Model_put_36 (h : am_H) (x5 : Int32) (y2 : Int64) (y1 : Int32) : Option (Int32 × am_H) :=
  if am_ok y1 360 = true then (f_Model_put_37 (am_pL h 18 y1.toNatClampNeg y2) x5) else none
def f_Model_put_13 (h : am_H) (x1 : Int32) (x2 : Int32) (x3 : Int64) (x5 : Int32) : Option (Int32 × am_H) :=
  if am_ok x1 6 = true then (f_Model_put_36 h x5 (f_Model_asSort ((h.1 16 x1.toNatClampNeg) - 50) x3) ((60 * x1) + x2)) else none
def f_Model_put_6 (h : am_H) (x1 : Int32) (x2 : Int32) (x3 : Int64) (y0 : Int32) : Option (Int32 × am_H) :=
  if y0 = 0 then f_Model_put_13 h x1 x2 x3 y0 else f_Model_put_37 h y0
def f_Model_put (h : am_H) (x1 : Int32) (x2 : Int32) (x3 : Int64) : Option (Int32 × am_H) :=
  (f_Model_refusal h x1 x2).bind fun p => f_Model_put_6 h x1 x2 x3 p
def f_Model_element_15 (h : am_H) (x1 : Int32) (x2 : Int32) : Option (Int64) :=
  if am_ok ((60 * x1) + x2) 360 = true then (some (h.2 18 ((60 * x1) + x2).toNatClampNeg)) else none
def f_Model_element_9 (h : am_H) : Option (Int64) :=
  some (-9223372036854775808)
def f_Model_element_6 (h : am_H) (x1 : Int32) (x2 : Int32) (y0 : Int32) : Option (Int64) :=
  if y0 = 0 then f_Model_element_15 h x1 x2 else f_Model_element_9 h
def f_Model_element (h : am_H) (x1 : Int32) (x2 : Int32) : Option (Int64) :=
  (f_Model_refusal h x1 x2).bind fun p => f_Model_element_6 h x1 x2 p
def f_Model_shift_14 (h : am_H) : Option (Int32 × am_H) :=
  some ((-1), h)
def f_Model_shift_34 (h : am_H) : Option (Int32 × am_H) :=
  some ((-11), h)
def f_Model_shift_63 (h : am_H) : Option (Int32 × am_H) :=
  some ((-12), h)
def f_Model_shift_107 (h : am_H) : Option (Int32 × am_H) :=
  some ((-13), h)
def f_Model_shift_185 (h : am_H) (x5 : Int32) : Option (Int32 × am_H) :=
  some (x5, h)
def f_Model_shift_157 (k150 : am_H → Int32 → Int32 → Int32 → Int32 → Option (Int32 × am_H)) (h : am_H) (x3 : Int32) (x4 : Int32) (x5 : Int32) (x6 : Int32) : Option (Int32 × am_H) :=
  if am_ok x6 60 = true then (if am_ok (((60 * x3) + x4) + x6) 360 = true then (k150 (am_pL h 18 (((60 * x3) + x4) + x6).toNatClampNeg (h.2 19 x6.toNatClampNeg)) x3 x4 x5 (x6 + 1)) else none) else none
def f_Model_shift_150 (k150 : am_H → Int32 → Int32 → Int32 → Int32 → Option (Int32 × am_H)) (h : am_H) (x3 : Int32) (x4 : Int32) (x5 : Int32) (x6 : Int32) : Option (Int32 × am_H) :=
  if x5 ≤ x6 then f_Model_shift_185 h x5 else f_Model_shift_157 k150 h x3 x4 x5 x6
def f_Model_shift_150_l  : Nat → am_H → Int32 → Int32 → Int32 → Int32 → Option (Int32 × am_H)
  | 0 => fun _ _ _ _ _ => none
  | n + 1 => f_Model_shift_150 (f_Model_shift_150_l n)
def f_Model_shift_147 (h : am_H) (x3 : Int32) (x4 : Int32) (x5 : Int32) : Option (Int32 × am_H) :=
  f_Model_shift_150_l am_fu h x3 x4 x5 0
def f_Model_shift_120 (k113 : am_H → Int32 → Int32 → Int32 → Int32 → Int32 → Int32 → Option (Int32 × am_H)) (h : am_H) (x1 : Int32) (x2 : Int32) (x3 : Int32) (x4 : Int32) (x5 : Int32) (x6 : Int32) : Option (Int32 × am_H) :=
  if am_ok (((60 * x1) + x2) + x6) 360 = true then (if am_ok x6 60 = true then (k113 (am_pL h 19 x6.toNatClampNeg (h.2 18 (((60 * x1) + x2) + x6).toNatClampNeg)) x1 x2 x3 x4 x5 (x6 + 1)) else none) else none
def f_Model_shift_113 (k113 : am_H → Int32 → Int32 → Int32 → Int32 → Int32 → Int32 → Option (Int32 × am_H)) (h : am_H) (x1 : Int32) (x2 : Int32) (x3 : Int32) (x4 : Int32) (x5 : Int32) (x6 : Int32) : Option (Int32 × am_H) :=
  if x5 ≤ x6 then f_Model_shift_147 h x3 x4 x5 else f_Model_shift_120 k113 h x1 x2 x3 x4 x5 x6
def f_Model_shift_113_l  : Nat → am_H → Int32 → Int32 → Int32 → Int32 → Int32 → Int32 → Option (Int32 × am_H)
  | 0 => fun _ _ _ _ _ _ _ => none
  | n + 1 => f_Model_shift_113 (f_Model_shift_113_l n)
def f_Model_shift_110 (h : am_H) (x1 : Int32) (x2 : Int32) (x3 : Int32) (x4 : Int32) (x5 : Int32) : Option (Int32 × am_H) :=
  f_Model_shift_113_l am_fu h x1 x2 x3 x4 x5 0
def f_Model_shift_93 (h : am_H) (x1 : Int32) (x2 : Int32) (x3 : Int32) (x4 : Int32) (x5 : Int32) : Option (Int32 × am_H) :=
  if am_ok x3 6 = true then (if x4 ≤ ((h.1 17 x3.toNatClampNeg) - x5) then f_Model_shift_110 h x1 x2 x3 x4 x5 else f_Model_shift_107 h) else none
def f_Model_shift_80 (h : am_H) (x1 : Int32) (x2 : Int32) (x3 : Int32) (x4 : Int32) (x5 : Int32) : Option (Int32 × am_H) :=
  if am_ok x1 6 = true then (if ((h.1 17 x1.toNatClampNeg) - x5) < x2 then f_Model_shift_107 h else f_Model_shift_93 h x1 x2 x3 x4 x5) else none
def f_Model_shift_75 (h : am_H) (x1 : Int32) (x2 : Int32) (x3 : Int32) (x4 : Int32) (x5 : Int32) : Option (Int32 × am_H) :=
  if x4 < 0 then f_Model_shift_107 h else f_Model_shift_80 h x1 x2 x3 x4 x5
def f_Model_shift_71 (h : am_H) (x1 : Int32) (x2 : Int32) (x3 : Int32) (x4 : Int32) (x5 : Int32) : Option (Int32 × am_H) :=
  if x2 < 0 then f_Model_shift_107 h else f_Model_shift_75 h x1 x2 x3 x4 x5
def f_Model_shift_66 (h : am_H) (x1 : Int32) (x2 : Int32) (x3 : Int32) (x4 : Int32) (x5 : Int32) : Option (Int32 × am_H) :=
  if x5 < 0 then f_Model_shift_107 h else f_Model_shift_71 h x1 x2 x3 x4 x5
def f_Model_shift_48 (h : am_H) (x1 : Int32) (x2 : Int32) (x3 : Int32) (x4 : Int32) (x5 : Int32) : Option (Int32 × am_H) :=
  if am_ok x1 6 = true then (if am_ok x3 6 = true then (if (h.1 16 x1.toNatClampNeg) = (h.1 16 x3.toNatClampNeg) then f_Model_shift_66 h x1 x2 x3 x4 x5 else f_Model_shift_63 h) else none) else none
def f_Model_shift_37 (h : am_H) (x1 : Int32) (x2 : Int32) (x3 : Int32) (x4 : Int32) (x5 : Int32) : Option (Int32 × am_H) :=
  if am_ok x1 6 = true then (if (h.1 16 x1.toNatClampNeg) < 50 then f_Model_shift_63 h else f_Model_shift_48 h x1 x2 x3 x4 x5) else none
def f_Model_shift_25 (h : am_H) (x1 : Int32) (x2 : Int32) (x3 : Int32) (x4 : Int32) (x5 : Int32) : Option (Int32 × am_H) :=
  if am_ok x3 6 = true then (if 0 ≤ (h.1 16 x3.toNatClampNeg) then f_Model_shift_37 h x1 x2 x3 x4 x5 else f_Model_shift_34 h) else none
def f_Model_shift_16 (h : am_H) (x1 : Int32) (x2 : Int32) (x3 : Int32) (x4 : Int32) (x5 : Int32) : Option (Int32 × am_H) :=
  if am_ok x1 6 = true then (if (h.1 16 x1.toNatClampNeg) < 0 then f_Model_shift_34 h else f_Model_shift_25 h x1 x2 x3 x4 x5) else none
def f_Model_shift_11 (h : am_H) (x1 : Int32) (x2 : Int32) (x3 : Int32) (x4 : Int32) (x5 : Int32) (y0 : Bool) : Option (Int32 × am_H) :=
  if y0 = true then f_Model_shift_16 h x1 x2 x3 x4 x5 else f_Model_shift_14 h
def f_Model_shift_7 (h : am_H) (x1 : Int32) (x2 : Int32) (x3 : Int32) (x4 : Int32) (x5 : Int32) : Option (Int32 × am_H) :=
  f_Model_shift_11 h x1 x2 x3 x4 x5 (f_Model_isShelf x3)
def f_Model_shift_4 (h : am_H) (x1 : Int32) (x2 : Int32) (x3 : Int32) (x4 : Int32) (x5 : Int32) (y0 : Bool) : Option (Int32 × am_H) :=
  if y0 = true then f_Model_shift_7 h x1 x2 x3 x4 x5 else f_Model_shift_14 h
def f_Model_shift (h : am_H) (x1 : Int32) (x2 : Int32) (x3 : Int32) (x4 : Int32) (x5 : Int32) : Option (Int32 × am_H) :=
  f_Model_shift_4 h x1 x2 x3 x4 x5 (f_Model_isShelf x1)
def f_Model_taken_19 (h : am_H) : Option (Int32) :=
  some (-1)
def f_Model_taken_93 (h : am_H) : Option (Int32) :=
  some (-12)
def f_Model_taken_90 (h : am_H) (y0 : Int32) : Option (Int32) :=
  some y0
def f_Model_taken_80 (h : am_H) (x1 : Int32) : Option (Int32) :=
  if am_ok x1 6 = true then ((f_Model_kindOf h (h.1 16 x1.toNatClampNeg)).bind fun p => f_Model_taken_90 h p) else none
def f_Model_taken_75 (h : am_H) (x1 : Int32) (x2 : Int32) (x3 : Int32) : Option (Int32) :=
  if x3 = x2 then f_Model_taken_80 h x1 else f_Model_taken_93 h
def f_Model_taken_71 (k58 : Int32 → Int32 → Int32 → Option (Int32)) (h : am_H) (x1 : Int32) (x2 : Int32) (y0 : Int32) : Option (Int32) :=
  k58 x1 x2 y0
def f_Model_taken_67 (k58 : Int32 → Int32 → Int32 → Option (Int32)) (h : am_H) (x1 : Int32) (x2 : Int32) (x3 : Int32) : Option (Int32) :=
  f_Model_taken_71 k58 h x1 x2 (f_Model_above x3)
def f_Model_taken_63 (k58 : Int32 → Int32 → Int32 → Option (Int32)) (h : am_H) (x1 : Int32) (x2 : Int32) (x3 : Int32) : Option (Int32) :=
  if x3 ≤ 0 then f_Model_taken_75 h x1 x2 x3 else f_Model_taken_67 k58 h x1 x2 x3
def f_Model_taken_58 (k58 : Int32 → Int32 → Int32 → Option (Int32)) (h : am_H) (x1 : Int32) (x2 : Int32) (x3 : Int32) : Option (Int32) :=
  if x3 = x2 then f_Model_taken_75 h x1 x2 x3 else f_Model_taken_63 k58 h x1 x2 x3
def f_Model_taken_58_l (h : am_H) : Nat → Int32 → Int32 → Int32 → Option (Int32)
  | 0 => fun _ _ _ => none
  | n + 1 => f_Model_taken_58 (f_Model_taken_58_l h n) h
def f_Model_taken_57 (h : am_H) (x1 : Int32) (x2 : Int32) (y0 : Int32) : Option (Int32) :=
  f_Model_taken_58_l h am_fu x1 x2 y0
def f_Model_taken_47 (h : am_H) (x1 : Int32) (x2 : Int32) : Option (Int32) :=
  if am_ok x1 6 = true then ((f_Model_kindOf h (h.1 16 x1.toNatClampNeg)).bind fun p => f_Model_taken_57 h x1 x2 p) else none
def f_Model_taken_44 (h : am_H) : Option (Int32) :=
  some (-12)
def f_Model_taken_33 (h : am_H) (x1 : Int32) (x2 : Int32) : Option (Int32) :=
  if am_ok x1 6 = true then (if (h.1 16 x1.toNatClampNeg) < 50 then f_Model_taken_47 h x1 x2 else f_Model_taken_44 h) else none
def f_Model_taken_30 (h : am_H) : Option (Int32) :=
  some (-11)
def f_Model_taken_21 (h : am_H) (x1 : Int32) (x2 : Int32) : Option (Int32) :=
  if am_ok x1 6 = true then (if 0 ≤ (h.1 16 x1.toNatClampNeg) then f_Model_taken_33 h x1 x2 else f_Model_taken_30 h) else none
def f_Model_taken_16 (h : am_H) (x1 : Int32) (x2 : Int32) (y0 : Bool) : Option (Int32) :=
  if y0 = true then f_Model_taken_21 h x1 x2 else f_Model_taken_19 h
def f_Model_taken_7 (h : am_H) (x1 : Int32) (x2 : Int32) : Option (Int32) :=
  f_Model_taken_16 h x1 x2 (f_Model_within x2.toInt64 0 7)
def f_Model_taken_4 (h : am_H) (x1 : Int32) (x2 : Int32) (y0 : Bool) : Option (Int32) :=
  if y0 = true then f_Model_taken_7 h x1 x2 else f_Model_taken_19 h
def f_Model_taken (h : am_H) (x1 : Int32) (x2 : Int32) : Option (Int32) :=
  f_Model_taken_4 h x1 x2 (f_Model_isShelf x1)
def f_Model_count_44 (h : am_H) : Option (Int32) :=
  some (h.1 0 6)
def f_Model_count_54 (h : am_H) (y0 : Int32) : Option (Int32) :=
  some y0
def f_Model_count_49 (h : am_H) : Option (Int32) :=
  (f_Model_cellsOf h 1).bind fun p => f_Model_count_54 h p
def f_Model_count_60 (h : am_H) (y0 : Int32) : Option (Int32) :=
  some y0
def f_Model_count_55 (h : am_H) : Option (Int32) :=
  (f_Model_cellsOf h 0).bind fun p => f_Model_count_60 h p
def f_Model_count_61 (h : am_H) : Option (Int32) :=
  some (h.1 0 8)
def f_Model_count_66 (h : am_H) : Option (Int32) :=
  some (h.1 0 5)
def f_Model_count_71 (h : am_H) : Option (Int32) :=
  some (h.1 0 26)
def f_Model_count_76 (h : am_H) : Option (Int32) :=
  some (h.1 0 29)
def f_Model_count_81 (h : am_H) : Option (Int32) :=
  some (-1)
def f_Model_count (h : am_H) (x1 : Int32) : Option (Int32) :=
  if x1 = 0 then f_Model_count_44 h else if x1 = 1 then f_Model_count_49 h else if x1 = 2 then f_Model_count_55 h else if x1 = 3 then f_Model_count_61 h else if x1 = 4 then f_Model_count_66 h else if x1 = 5 then f_Model_count_71 h else if x1 = 6 then f_Model_count_76 h else f_Model_count_81 h
