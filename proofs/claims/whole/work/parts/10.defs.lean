abbrev RecT : Type := Nat → Mm → Int32 → Option (Mm × Int32)
def fX0_add (g : Mm) (a1 : Int32) (a2 : Int32) (a3 : Int32) : Option (Mm × Int32) :=
  if (g 24 0 0 0) < (40 : Int32) then (wGi (g 24 0 0 0) 40 (wLe (st g 25 0 0 (g 24 0 0 0).toNatClampNeg a1) fun g3 => wGi (g3 24 0 0 0) 40 (wLe (st g3 26 0 0 (g3 24 0 0 0).toNatClampNeg a2) fun g6 => wGi (g6 24 0 0 0) 40 (wLe (st g6 27 0 0 (g6 24 0 0 0).toNatClampNeg a3) fun g9 => wLe (st g9 24 0 0 0 ((g9 24 0 0 0) + (1 : Int32))) fun g11 => some (g11, g9 24 0 0 0))))) else (some (g, (-4 : Int32)))
def fX0_thought_b43 (g0 : Mm) (a1 : Int32) (a2 : Int32) (a3 : Int32) (x4 : Int32) : Option ((Int32) ⊕ (Int32)) :=
  wLe (x4 + (-1)) fun y8 => some (.inl y8)
def fX0_thought_B8 (g0 : Mm) (a1 : Int32) (a2 : Int32) (a3 : Int32) (x4 : Int32) : Option ((Int32) ⊕ (Int32)) :=
  if x4 < 0 then (wEx (some a3)) else (wGi x4 40 (if (g0 25 0 0 (x4).toNatClampNeg) = a1 then (wGi x4 40 (if a2 < (g0 27 0 0 (x4).toNatClampNeg) then (fX0_thought_b43 g0 a1 a2 a3 x4) else (wEx (wGi x4 40 (some (g0 26 0 0 (x4).toNatClampNeg)))))) else (fX0_thought_b43 g0 a1 a2 a3 x4)))
def fX0_thought_L8 (g0 : Mm) (a1 : Int32) (a2 : Int32) (a3 : Int32) (x4 : Int32) : Option (Int32) :=
  wLp (fun q => fX0_thought_B8 g0 a1 a2 a3 q) 1000 x4
def fX0_thought (g0 : Mm) (a1 : Int32) (a2 : Int32) (a3 : Int32) : Option (Int32) :=
  wLe ((g0 24 0 0 0) - (1 : Int32)) fun y1 => fX0_thought_L8 g0 a1 a2 a3 y1
def fX1_begin (g : Mm) (i : Nat) (v : Nat) (a1 : Int32) (a2 : Int32) (a3 : Int32) (a4 : Int32) : Option (Mm) :=
  wLe (st g 22 i v 0 a1) fun g1 => wLe (st g1 22 i v 1 a2) fun g3 => wLe (st g3 22 i v 2 a3) fun g5 => wLe (st g5 22 i v 3 a4) fun g7 => wLe (st g7 22 i v 5 (-1 : Int32)) fun g9 => some g9
def fX1_become (g : Mm) (i : Nat) (v : Nat) (i1 : Nat) (v1 : Nat) : Option (Mm) :=
  wLe (st g 22 i v 0 (g 22 i1 v1 0)) fun g1 => wLe (st g1 22 i v 1 (g1 22 i1 v1 1)) fun g3 => wLe (st g3 22 i v 2 (g3 22 i1 v1 2)) fun g5 => wLe (st g5 22 i v 3 (g5 22 i1 v1 3)) fun g7 => wLe (st g7 22 i v 4 (g7 22 i1 v1 4)) fun g9 => wLe (st g9 22 i v 5 (g9 22 i1 v1 5)) fun g11 => some g11
def fX1_told (g0 : Mm) (i : Nat) (v : Nat) (a1 : Int32) : Option (Int32) :=
  if a1 = 0 then (some (g0 22 i v 0)) else if a1 = 1 then (some (g0 22 i v 1)) else if a1 = 2 then (some (g0 22 i v 2)) else if a1 = 3 then (some (g0 22 i v 4)) else if a1 = 4 then (some (g0 22 i v 5)) else (some (-2 : Int32))
def fX2_keep (g : Mm) (a1 : Int32) (a2 : Int32) (a3 : Int32) (a4 : Int32) : Option (Mm) :=
  wLe (st g 23 0 0 0 a1) fun g1 => wLe (st g1 23 0 0 1 a2) fun g3 => wLe (st g3 23 0 0 2 a3) fun g5 => wLe (st g5 23 0 0 3 a4) fun g7 => some g7
def fX2_holds (g0 : Mm) (a1 : Int32) : Option (Int32) :=
  if a1 < 0 then (some (0 : Int32)) else (if (12 : Int32) ≤ a1 then (some (0 : Int32)) else (if (((g0 23 0 0 0) >>> (a1 &&& 31)) &&& (1 : Int32)) = (1 : Int32) then (some (1 : Int32)) else (some (0 : Int32))))
def fX2_wishOf (g0 : Mm) (a1 : Int32) : Option (Int32) :=
  if a1 = (g0 23 0 0 1) then (some (g0 23 0 0 2)) else (some (g0 23 0 0 3))
def fX3_isKind (g0 : Mm) (a0 : Int32) : Option (Int32) :=
  if a0 < 0 then (some (0 : Int32)) else (if (6 : Int32) ≤ a0 then (some (0 : Int32)) else (some (1 : Int32)))
def fX3_size (g0 : Mm) (a0 : Int32) : Option (Int32) :=
  wGi a0 6 (some (sV 3 (a0).toNatClampNeg))
def fX3_roll (g0 : Mm) (a0 : Int32) : Option (Int32) :=
  wGi a0 6 (some (sV 4 (a0).toNatClampNeg))
def fX3_lasts (g0 : Mm) (a0 : Int32) (a1 : Int32) : Option (Int32) :=
  wGi ((a0 * (8 : Int32)) + a1) 48 (some (sV 5 ((a0 * (8 : Int32)) + a1).toNatClampNeg))
def fX3_behind (g0 : Mm) (a0 : Int32) : Option (Int32) :=
  wGi a0 8 (some (sV 6 (a0).toNatClampNeg))
def fX3_truckFor (g0 : Mm) (a0 : Int32) : Option (Int32) :=
  wGi a0 8 (some (sV 7 (a0).toNatClampNeg))
def fX3_isA_B4 (g0 : Mm) (a0 : Int32) (a1 : Int32) (x2 : Int32) (x3 : Int32) : Option ((Int32 × Int32) ⊕ (Int32)) :=
  if (6 : Int32) ≤ x3 then (wEx (some (0 : Int32))) else (if x2 < 0 then (wEx (some (0 : Int32))) else (if x2 = a1 then (wEx (some (1 : Int32))) else (wGi x2 6 (wLe (sV 2 (x2).toNatClampNeg) fun y11 => wLe (x3 + 1) fun y13 => some (.inl (y11, y13))))))
def fX3_isA_L4 (g0 : Mm) (a0 : Int32) (a1 : Int32) (x2 : Int32) (x3 : Int32) : Option (Int32) :=
  wLp (fun q => fX3_isA_B4 g0 a0 a1 q.1 q.2) 1000 (x2, x3)
def fX3_isA (g0 : Mm) (a0 : Int32) (a1 : Int32) : Option (Int32) :=
  wLe (0 : Int32) fun y1 => fX3_isA_L4 g0 a0 a1 a0 y1
def fX3_wayToUnload (g0 : Mm) (a0 : Int32) : Option (Int32) :=
  wBd (fX3_lasts g0 a0 (0 : Int32)) fun y2 => wBd (fX3_lasts g0 a0 (1 : Int32)) fun y4 => some (y2 + y4)
def fX3_wayToLoad (g0 : Mm) (a0 : Int32) : Option (Int32) :=
  wBd (fX3_lasts g0 a0 (2 : Int32)) fun y2 => wBd (fX3_lasts g0 a0 (4 : Int32)) fun y4 => wLe (y2 + y4) fun y5 => wBd (fX3_wayToUnload g0 a0) fun y8 => wBd (fX3_lasts g0 a0 (3 : Int32)) fun y10 => wBd (fX3_lasts g0 a0 (5 : Int32)) fun y12 => some ((y8 + (if y10 < y5 then y5 else y10)) + y12)
def fX3_wayThrough_b18 (g0 : Mm) (a0 : Int32) (a1 : Int32) (z0 : Int32) (z1 : Int32) : Option (Int32) :=
  wBd (fX3_lasts g0 a0 (7 : Int32)) fun y5 => some ((z0 + z1) + y5)
def fX3_wayThrough (g0 : Mm) (a0 : Int32) (a1 : Int32) : Option (Int32) :=
  wBd (fX3_wayToLoad g0 a0) fun y2 => if a1 = 0 then (fX3_wayThrough_b18 g0 a0 a1 y2 (0 : Int32)) else (wBd (fX3_lasts g0 a0 (6 : Int32)) fun y7 => fX3_wayThrough_b18 g0 a0 a1 y2 y7)
def fX9_become (g : Mm) (i : Nat) (v : Nat) (i1 : Nat) (v1 : Nat) : Option (Mm) :=
  wLe (st g 19 i v 0 (g 19 i1 v1 0)) fun g1 => wLe (st g1 19 i v 1 (g1 19 i1 v1 1)) fun g3 => wLe (st g3 19 i v 2 (g3 19 i1 v1 2)) fun g5 => wLe (st g5 19 i v 3 (g5 19 i1 v1 3)) fun g7 => wLe (st g7 19 i v 4 (g7 19 i1 v1 4)) fun g9 => wLe (st g9 19 i v 5 (g9 19 i1 v1 5)) fun g11 => wLe (st g11 19 i v 6 (g11 19 i1 v1 6)) fun g13 => wLe (st g13 19 i v 7 (g13 19 i1 v1 7)) fun g15 => wLe (st g15 19 i v 8 (g15 19 i1 v1 8)) fun g17 => wLe (st g17 19 i v 9 (g17 19 i1 v1 9)) fun g19 => wLe (st g19 19 i v 10 (g19 19 i1 v1 10)) fun g21 => wLe (st g21 19 i v 11 (g21 19 i1 v1 11)) fun g23 => wLe (st g23 19 i v 12 (g23 19 i1 v1 12)) fun g25 => wGd (wCk (0 : Int32) (0 : Int32) (8 : Int32) 8 8) (wLe (wCp g25 20 i1 v1 20 i v (0 : Int32) (0 : Int32) (8 : Int32)) fun g27 => wGd (wCk (0 : Int32) (0 : Int32) (9 : Int32) 9 9) (wLe (wCp g27 21 i1 v1 21 i v (0 : Int32) (0 : Int32) (9 : Int32)) fun g30 => some g30))
def fX4_become_B160 (g : Mm) (i : Nat) (i1 : Nat) (x2 : Int32) : Option ((Mm × Int32) ⊕ (Mm)) :=
  if (g 9 i 0 3) ≤ x2 then (wEx (some g)) else (wGi x2 16 (wGi x2 16 (wBd (fX1_become g i ((x2).toNatClampNeg) i1 ((x2).toNatClampNeg)) fun g46 => wLe (x2 + 1) fun y47 => some (.inl (g46, y47)))))
def fX4_become_L160 (g : Mm) (i : Nat) (i1 : Nat) (x2 : Int32) : Option (Mm) :=
  wLp (fun q => fX4_become_B160 q.1 i i1 q.2) 1000 (g, x2)
def fX4_become_B129 (g : Mm) (i : Nat) (i1 : Nat) (x2 : Int32) : Option ((Mm × Int32) ⊕ (Mm)) :=
  if (g 9 i 0 2) ≤ x2 then (wEx (wLe (0 : Int32) fun y37 => fX4_become_L160 g i i1 y37)) else (wGi x2 12 (wGi x2 12 (wBd (fX9_become g i ((x2).toNatClampNeg) i1 ((x2).toNatClampNeg)) fun g53 => wLe (x2 + 1) fun y54 => some (.inl (g53, y54)))))
def fX4_become_L129 (g : Mm) (i : Nat) (i1 : Nat) (x2 : Int32) : Option (Mm) :=
  wLp (fun q => fX4_become_B129 q.1 i i1 q.2) 1000 (g, x2)
def fX4_become (g : Mm) (i : Nat) (i1 : Nat) : Option (Mm) :=
  wLe (st g 9 i 0 0 (g 9 i1 0 0)) fun g1 => wLe (st g1 9 i 0 1 (g1 9 i1 0 1)) fun g3 => wLe (st g3 9 i 0 2 (g3 9 i1 0 2)) fun g5 => wLe (st g5 9 i 0 3 (g5 9 i1 0 3)) fun g7 => wGr (g7 9 i1 0 4) fun n9 => wLe (st g7 9 i 0 4 (nI (n9 + 1))) fun g12 => wGd (wCk (0 : Int32) (0 : Int32) (9 : Int32) 9 9) (wLe (wCp g12 10 i1 0 10 i 0 (0 : Int32) (0 : Int32) (9 : Int32)) fun g14 => wGd (wCk (0 : Int32) (0 : Int32) (5 : Int32) 5 5) (wLe (wCp g14 11 i1 0 11 i 0 (0 : Int32) (0 : Int32) (5 : Int32)) fun g17 => wGd (wCk (0 : Int32) (0 : Int32) (6 : Int32) 6 6) (wLe (wCp g17 12 i1 0 12 i 0 (0 : Int32) (0 : Int32) (6 : Int32)) fun g20 => wGd (wCk (0 : Int32) (0 : Int32) (6 : Int32) 6 6) (wLe (wCp g20 13 i1 0 13 i 0 (0 : Int32) (0 : Int32) (6 : Int32)) fun g23 => wGd (wCk (0 : Int32) (0 : Int32) (2 : Int32) 2 2) (wLe (wCp g23 14 i1 0 14 i 0 (0 : Int32) (0 : Int32) (2 : Int32)) fun g26 => wGd (wCk (0 : Int32) (0 : Int32) (2 : Int32) 2 2) (wLe (wCp g26 15 i1 0 15 i 0 (0 : Int32) (0 : Int32) (2 : Int32)) fun g29 => wLe (0 : Int32) fun y32 => fX4_become_L129 g29 i i1 y32))))))
def fX4_maySet (g0 : Mm) (a0 : Int32) (a1 : Int32) : Option (Int32) :=
  if a0 < 0 then (some (0 : Int32)) else (if (9 : Int32) ≤ a0 then (some (0 : Int32)) else (wGi a0 9 (if a1 < (sV 0 (a0).toNatClampNeg) then (some (0 : Int32)) else (wGi a0 9 (if (sV 1 (a0).toNatClampNeg) < a1 then (some (0 : Int32)) else (some (1 : Int32)))))))
def fX4_hasVisit (g0 : Mm) (i : Nat) (a1 : Int32) : Option (Int32) :=
  if a1 < 0 then (some (0 : Int32)) else (if (g0 9 i 0 2) ≤ a1 then (some (0 : Int32)) else (some (1 : Int32)))
def fX4_hasFeed (g0 : Mm) (i : Nat) (a1 : Int32) : Option (Int32) :=
  if a1 < 0 then (some (0 : Int32)) else (if (g0 9 i 0 3) ≤ a1 then (some (0 : Int32)) else (some (1 : Int32)))
def fX4_hasStand (g0 : Mm) (i : Nat) (a1 : Int32) : Option (Int32) :=
  if a1 < 0 then (some (0 : Int32)) else (if (g0 9 i 0 1) ≤ a1 then (some (0 : Int32)) else (some (1 : Int32)))
def fX4_addStand (g : Mm) (i : Nat) (a1 : Int32) : Option (Mm × Int32) :=
  if (g 9 i 0 1) < (6 : Int32) then (wGi (g 9 i 0 1) 6 (wLe (st g 12 i 0 (g 9 i 0 1).toNatClampNeg a1) fun g3 => wGi (g3 9 i 0 1) 6 (wLe (st g3 13 i 0 (g3 9 i 0 1).toNatClampNeg (-1 : Int32)) fun g6 => wLe (st g6 9 i 0 1 ((g6 9 i 0 1) + (1 : Int32))) fun g8 => some (g8, g6 9 i 0 1)))) else (some (g, (-4 : Int32)))
def fX9_enter (g : Mm) (i : Nat) (v : Nat) (a1 : Int32) (a2 : Int32) : Option (Mm) :=
  wLe (st g 19 i v 6 a1) fun g1 => wLe (st g1 19 i v 7 a2) fun g3 => some g3
def fX9_begin (g : Mm) (i : Nat) (v : Nat) (a1 : Int32) (a2 : Int32) (a3 : Int32) (a4 : Int32) (a5 : Int32) : Option (Mm) :=
  wLe (st g 19 i v 0 a1) fun g1 => wLe (st g1 19 i v 1 a2) fun g3 => wLe (st g3 19 i v 2 a3) fun g5 => wLe (st g5 19 i v 3 a4) fun g7 => wLe (st g7 19 i v 5 (-1 : Int32)) fun g9 => wLe (st g9 19 i v 8 (-1 : Int32)) fun g11 => wLe (st g11 19 i v 12 (-1 : Int32)) fun g13 => wBd (fX9_enter g13 i v (0 : Int32) a5) fun g17 => some g17
def fX4_addVisit (g : Mm) (i : Nat) (a1 : Int32) (a2 : Int32) (a3 : Int32) (a4 : Int32) : Option (Mm × Int32) :=
  if (g 9 i 0 2) < (12 : Int32) then (wGi (g 9 i 0 2) 12 (wBd (fX9_begin g i ((g 9 i 0 2).toNatClampNeg) a1 a2 a3 a4 (g 9 i 0 0)) fun g5 => wLe (st g5 9 i 0 2 ((g5 9 i 0 2) + (1 : Int32))) fun g6 => some (g6, g5 9 i 0 2))) else (some (g, (-4 : Int32)))
def fX4_addFeed (g : Mm) (i : Nat) (a1 : Int32) (a2 : Int32) (a3 : Int32) (a4 : Int32) : Option (Mm × Int32) :=
  if (g 9 i 0 3) < (16 : Int32) then (wGi (g 9 i 0 3) 16 (wBd (fX1_begin g i ((g 9 i 0 3).toNatClampNeg) a1 a2 a3 a4) fun g5 => wLe (st g5 9 i 0 3 ((g5 9 i 0 3) + (1 : Int32))) fun g6 => some (g6, g5 9 i 0 3))) else (some (g, (-4 : Int32)))
def fX4_fits (g0 : Mm) (i : Nat) (a1 : Int32) (a2 : Int32) : Option (Int32) :=
  if a2 < 0 then (some (1 : Int32)) else (wGi a2 6 (wGi a1 12 (wBd (fX3_size g0 (g0 19 i ((a1).toNatClampNeg) 0)) fun y5 => if (g0 12 i 0 (a2).toNatClampNeg) < y5 then (some (0 : Int32)) else (some (1 : Int32)))))
def fX9_lateTicks_B4 (g0 : Mm) (i : Nat) (v : Nat) (x1 : Int32) (x2 : Int32) : Option ((Int32 × Int32) ⊕ (Int32)) :=
  if (9 : Int32) ≤ x2 then (wEx (some x1)) else (wGi x2 9 (wLe (x1 + (g0 21 i v (x2).toNatClampNeg)) fun y9 => wLe (x2 + 1) fun y11 => some (.inl (y9, y11))))
def fX9_lateTicks_L4 (g0 : Mm) (i : Nat) (v : Nat) (x1 : Int32) (x2 : Int32) : Option (Int32) :=
  wLp (fun q => fX9_lateTicks_B4 g0 i v q.1 q.2) 1000 (x1, x2)
def fX9_lateTicks (g0 : Mm) (i : Nat) (v : Nat) : Option (Int32) :=
  wLe (0 : Int32) fun y1 => wLe (0 : Int32) fun y3 => fX9_lateTicks_L4 g0 i v y1 y3
def fX4_lateInAll_B4 (g0 : Mm) (i : Nat) (x1 : Int32) (x2 : Int32) : Option ((Int32 × Int32) ⊕ (Int32)) :=
  if (g0 9 i 0 2) ≤ x2 then (wEx (some x1)) else (wGi x2 12 (wBd (fX9_lateTicks g0 i ((x2).toNatClampNeg)) fun y10 => wLe (x1 + y10) fun y11 => wLe (x2 + 1) fun y13 => some (.inl (y11, y13))))
def fX4_lateInAll_L4 (g0 : Mm) (i : Nat) (x1 : Int32) (x2 : Int32) : Option (Int32) :=
  wLp (fun q => fX4_lateInAll_B4 g0 i q.1 q.2) 1000 (x1, x2)
def fX4_lateInAll (g0 : Mm) (i : Nat) : Option (Int32) :=
  wLe (0 : Int32) fun y1 => wLe (0 : Int32) fun y3 => fX4_lateInAll_L4 g0 i y1 y3
def fX4_howMany_b28 (g0 : Mm) (i : Nat) (a1 : Int32) (x2 : Int32) (x3 : Int32) : Option ((Int32 × Int32) ⊕ (Int32)) :=
  wLe (x3 + 1) fun y10 => some (.inl (x2, y10))
def fX4_howMany_B4 (g0 : Mm) (i : Nat) (a1 : Int32) (x2 : Int32) (x3 : Int32) : Option ((Int32 × Int32) ⊕ (Int32)) :=
  if (g0 9 i 0 2) ≤ x3 then (wEx (some x2)) else (wGi x3 12 (if (g0 19 i ((x3).toNatClampNeg) 6) = a1 then (wLe (x2 + 1) fun y12 => fX4_howMany_b28 g0 i a1 y12 x3) else (fX4_howMany_b28 g0 i a1 x2 x3)))
def fX4_howMany_L4 (g0 : Mm) (i : Nat) (a1 : Int32) (x2 : Int32) (x3 : Int32) : Option (Int32) :=
  wLp (fun q => fX4_howMany_B4 g0 i a1 q.1 q.2) 1000 (x2, x3)
def fX4_howMany (g0 : Mm) (i : Nat) (a1 : Int32) : Option (Int32) :=
  wLe (0 : Int32) fun y1 => wLe (0 : Int32) fun y3 => fX4_howMany_L4 g0 i a1 y1 y3
def fX4_missedBags_b37 (g0 : Mm) (i : Nat) (x1 : Int32) (x2 : Int32) : Option ((Int32 × Int32) ⊕ (Int32)) :=
  wLe (x2 + 1) fun y10 => some (.inl (x1, y10))
def fX4_missedBags_B4 (g0 : Mm) (i : Nat) (x1 : Int32) (x2 : Int32) : Option ((Int32 × Int32) ⊕ (Int32)) :=
  if (g0 9 i 0 3) ≤ x2 then (wEx (some x1)) else (wGi x2 16 (if (g0 22 i ((x2).toNatClampNeg) 4) = (3 : Int32) then (wGi x2 16 (wLe (x1 + (g0 22 i ((x2).toNatClampNeg) 2)) fun y13 => fX4_missedBags_b37 g0 i y13 x2)) else (fX4_missedBags_b37 g0 i x1 x2)))
def fX4_missedBags_L4 (g0 : Mm) (i : Nat) (x1 : Int32) (x2 : Int32) : Option (Int32) :=
  wLp (fun q => fX4_missedBags_B4 g0 i q.1 q.2) 1000 (x1, x2)
def fX4_missedBags (g0 : Mm) (i : Nat) : Option (Int32) :=
  wLe (0 : Int32) fun y1 => wLe (0 : Int32) fun y3 => fX4_missedBags_L4 g0 i y1 y3
def fX4_outcome (g0 : Mm) (i : Nat) (a1 : Int32) : Option (Int32) :=
  if a1 = 0 then (wBd (fX4_lateInAll g0 i) fun y3 => some y3) else if a1 = 1 then (wBd (fX4_howMany g0 i (7 : Int32)) fun y6 => some y6) else if a1 = 2 then (wBd (fX4_howMany g0 i (8 : Int32)) fun y9 => some y9) else if a1 = 3 then (wBd (fX4_missedBags g0 i) fun y12 => some y12) else (wGi (7 : Int32) 9 (some (g0 10 i 0 ((7 : Int32)).toNatClampNeg)))
def fX9_comes (g0 : Mm) (i : Nat) (v : Nat) : Option (Int32) :=
  some ((g0 19 i v 1) + (g0 19 i v 4))
def fX4_move (g : Mm) (i : Nat) (i1 : Nat) (v1 : Nat) : Option (Mm) :=
  wLe ((g 9 i 0 0) - (g 19 i1 v1 7)) fun y1 => wLe (g 19 i1 v1 6) fun y3 => if y3 = 0 then (wBd (fX9_comes g i1 v1) fun y7 => if (g 9 i 0 0) < y7 then (some g) else (wBd (fX9_enter g i1 v1 (1 : Int32) (g 9 i 0 0)) fun g11 => some g11)) else if y3 = 1 then (if y1 < (60 : Int32) then (some g) else (wBd (fX9_enter g i1 v1 (8 : Int32) (g 9 i 0 0)) fun g16 => some g16)) else if y3 = 2 then (wBd (fX3_roll g (g 19 i1 v1 0)) fun y19 => if y1 < y19 then (some g) else (wBd (fX9_enter g i1 v1 (3 : Int32) (g 9 i 0 0)) fun g23 => some g23)) else if y3 = 3 then (if y1 < (4 : Int32) then (some g) else (wBd (fX9_enter g i1 v1 (4 : Int32) (g 9 i 0 0)) fun g28 => some g28)) else if y3 = 4 then (some g) else if y3 = 5 then (some g) else if y3 = 6 then (wBd (fX3_roll g (g 19 i1 v1 0)) fun y33 => if y1 < y33 then (some g) else (wBd (fX9_enter g i1 v1 (7 : Int32) (g 9 i 0 0)) fun g37 => some g37)) else (some g)
def fX9_isUnder (g0 : Mm) (i : Nat) (v : Nat) (a1 : Int32) : Option (Int32) :=
  if (((g0 19 i v 10) >>> (a1 &&& 31)) &&& (1 : Int32)) = (1 : Int32) then (some (1 : Int32)) else (some (0 : Int32))
def fX9_endAct (g : Mm) (i : Nat) (v : Nat) (a1 : Int32) : Option (Mm) :=
  wLe (st g 19 i v 10 ((g 19 i v 10) &&& (((1 : Int32) <<< (a1 &&& 31)) ^^^ (-1 : Int32)))) fun g1 => wLe (st g1 19 i v 9 ((g1 19 i v 9) ||| ((1 : Int32) <<< (a1 &&& 31)))) fun g3 => some g3
def fX4_sendCarts_b50 (g : Mm) (i : Nat) (a1 : Int32) (x2 : Int32) : Option ((Mm × Int32) ⊕ (Mm)) :=
  wLe (x2 + 1) fun y8 => some (.inl (g, y8))
def fX4_sendCarts_B2 (g : Mm) (i : Nat) (a1 : Int32) (x2 : Int32) : Option ((Mm × Int32) ⊕ (Mm)) :=
  if (g 9 i 0 3) ≤ x2 then (wEx (some g)) else (wGi x2 16 (if (g 22 i ((x2).toNatClampNeg) 0) = a1 then (if (g 22 i ((x2).toNatClampNeg) 4) = 0 then (wLe (st g 22 i ((x2).toNatClampNeg) 4 (1 : Int32)) fun g11 => wLe (st g11 22 i ((x2).toNatClampNeg) 5 ((g11 9 i 0 0) + (g11 22 i ((x2).toNatClampNeg) 3))) fun g13 => fX4_sendCarts_b50 g13 i a1 x2) else (fX4_sendCarts_b50 g i a1 x2)) else (fX4_sendCarts_b50 g i a1 x2)))
def fX4_sendCarts_L2 (g : Mm) (i : Nat) (a1 : Int32) (x2 : Int32) : Option (Mm) :=
  wLp (fun q => fX4_sendCarts_B2 q.1 i a1 q.2) 1000 (g, x2)
def fX4_sendCarts (g : Mm) (i : Nat) (a1 : Int32) : Option (Mm) :=
  wLe (0 : Int32) fun y1 => fX4_sendCarts_L2 g i a1 y1
def fX4_finish_b91 (g : Mm) (i : Nat) (a1 : Int32) (a2 : Int32) (x3v : Nat) : Option (Mm) :=
  wLe (st g 19 i x3v 8 (-1 : Int32)) fun g14 => wBd (fX9_enter g14 i x3v (5 : Int32) (g14 9 i 0 0)) fun g18 => some g18
def fX4_finish_b34 (g : Mm) (i : Nat) (a1 : Int32) (a2 : Int32) (x3v : Nat) : Option (Mm) :=
  if a2 = (1 : Int32) then (wBd (fX4_sendCarts g i a1) fun g26 => some g26) else (if a2 = (6 : Int32) then (wLe (st g 19 i x3v 12 (g 9 i 0 0)) fun g22 => some g22) else (if a2 = (7 : Int32) then (wBd (fX4_hasStand g i (g 19 i x3v 8)) fun y12 => if y12 = 0 then (fX4_finish_b91 g i a1 a2 x3v) else (wGi (g 19 i x3v 8) 6 (wLe (st g 13 i 0 (g 19 i x3v 8).toNatClampNeg (-1 : Int32)) fun g20 => fX4_finish_b91 g20 i a1 a2 x3v))) else (some g)))
def fX4_finish (g : Mm) (i : Nat) (a1 : Int32) (a2 : Int32) : Option (Mm) :=
  wGi a1 12 (wBd (fX9_endAct g i ((a1).toNatClampNeg) a2) fun g4 => wBd (fX3_truckFor g4 a2) fun y6 => if y6 < 0 then (fX4_finish_b34 g4 i a1 a2 ((a1).toNatClampNeg)) else (wGi y6 5 (wGi y6 5 (wLe (st g4 11 i 0 (y6).toNatClampNeg ((g4 11 i 0 (y6).toNatClampNeg) - (1 : Int32))) fun g29 => fX4_finish_b34 g29 i a1 a2 ((a1).toNatClampNeg)))))
def fX4_work_b56 (g : Mm) (i : Nat) (a1 : Int32) (x2v : Nat) (x3 : Int32) : Option ((Mm × Int32) ⊕ (Mm)) :=
  wLe (x3 + 1) fun y11 => some (.inl (g, y11))
def fX4_work_B17 (g : Mm) (i : Nat) (a1 : Int32) (x2v : Nat) (x3 : Int32) : Option ((Mm × Int32) ⊕ (Mm)) :=
  if (8 : Int32) ≤ x3 then (wEx (some g)) else (wBd (fX9_isUnder g i x2v x3) fun y9 => if y9 = 0 then (fX4_work_b56 g i a1 x2v x3) else (wGi x3 8 (wGi x3 8 (wLe (st g 20 i x2v (x3).toNatClampNeg ((g 20 i x2v (x3).toNatClampNeg) - (1 : Int32))) fun g15 => wGi x3 8 (if (g15 20 i x2v (x3).toNatClampNeg) = 0 then (wBd (fX4_finish g15 i a1 x3) fun g21 => fX4_work_b56 g21 i a1 x2v x3) else (fX4_work_b56 g15 i a1 x2v x3))))))
def fX4_work_L17 (g : Mm) (i : Nat) (a1 : Int32) (x2v : Nat) (x3 : Int32) : Option (Mm) :=
  wLp (fun q => fX4_work_B17 q.1 i a1 x2v q.2) 1000 (g, x3)
def fX4_work (g : Mm) (i : Nat) (a1 : Int32) : Option (Mm) :=
  wGi a1 12 (if (g 19 i ((a1).toNatClampNeg) 10) = 0 then (some g) else (wLe (0 : Int32) fun y3 => fX4_work_L17 g i a1 ((a1).toNatClampNeg) y3))
def fX9_isDone (g0 : Mm) (i : Nat) (v : Nat) (a1 : Int32) : Option (Int32) :=
  if (((g0 19 i v 9) >>> (a1 &&& 31)) &&& (1 : Int32)) = (1 : Int32) then (some (1 : Int32)) else (some (0 : Int32))
def fX4_carry_b48 (g : Mm) (i : Nat) (i1 : Nat) (v1 : Nat) (x2v : Nat) (z0 : Int32) : Option (Mm) :=
  if z0 = 0 then (if (g 19 i x2v 6) = (8 : Int32) then (wLe (st g 22 i1 v1 4 (3 : Int32)) fun g17 => some g17) else (if (g 22 i1 v1 4) = (1 : Int32) then (if (g 9 i 0 0) < (g 22 i1 v1 5) then (some g) else (wBd (fX9_isDone g i x2v (5 : Int32)) fun y11 => if y11 = 0 then (wLe (st g 22 i1 v1 4 (2 : Int32)) fun g13 => some g13) else (wLe (st g 22 i1 v1 4 (3 : Int32)) fun g15 => some g15))) else (some g))) else (wLe (st g 22 i1 v1 4 (3 : Int32)) fun g5 => some g5)
def fX4_carry_b47 (g : Mm) (i : Nat) (i1 : Nat) (v1 : Nat) (x2v : Nat) : Option (Mm) :=
  fX4_carry_b48 g i i1 v1 x2v (0 : Int32)
def fX4_carry (g : Mm) (i : Nat) (i1 : Nat) (v1 : Nat) : Option (Mm) :=
  if (g 22 i1 v1 4) < (2 : Int32) then (wGi (g 22 i1 v1 1) 12 (if (g 22 i1 v1 4) = 0 then (wGi (g 22 i1 v1 0) 12 (if (g 19 i ((g 22 i1 v1 0).toNatClampNeg) 6) = (8 : Int32) then (fX4_carry_b48 g i i1 v1 ((g 22 i1 v1 1).toNatClampNeg) (1 : Int32)) else (fX4_carry_b47 g i i1 v1 ((g 22 i1 v1 1).toNatClampNeg)))) else (fX4_carry_b47 g i i1 v1 ((g 22 i1 v1 1).toNatClampNeg)))) else (some g)
def fX9_mayBegin (g0 : Mm) (i : Nat) (v : Nat) (a1 : Int32) : Option (Int32) :=
  wBd (fX3_behind g0 a1) fun y2 => if (y2 &&& ((g0 19 i v 9) ^^^ (-1 : Int32))) = 0 then (some (1 : Int32)) else (some (0 : Int32))
def fX4_isNothing (g0 : Mm) (i : Nat) (i1 : Nat) (v1 : Nat) (a2 : Int32) : Option (Int32) :=
  wBd (fX3_lasts g0 (g0 19 i1 v1 0) a2) fun y2 => if y2 = 0 then (some (1 : Int32)) else (if a2 = (6 : Int32) then (wGi (6 : Int32) 9 (if (g0 10 i 0 ((6 : Int32)).toNatClampNeg) = 0 then (some (1 : Int32)) else (some (0 : Int32)))) else (some (0 : Int32)))
def fX4_openFeeds_b41 (g0 : Mm) (i : Nat) (a1 : Int32) (x2 : Int32) (x3 : Int32) : Option ((Int32 × Int32) ⊕ (Int32)) :=
  wLe (x3 + 1) fun y10 => some (.inl (x2, y10))
def fX4_openFeeds_B4 (g0 : Mm) (i : Nat) (a1 : Int32) (x2 : Int32) (x3 : Int32) : Option ((Int32 × Int32) ⊕ (Int32)) :=
  if (g0 9 i 0 3) ≤ x3 then (wEx (some x2)) else (wGi x3 16 (if (g0 22 i ((x3).toNatClampNeg) 1) = a1 then (wGi x3 16 (if (2 : Int32) ≤ (g0 22 i ((x3).toNatClampNeg) 4) then (fX4_openFeeds_b41 g0 i a1 x2 x3) else (wLe (x2 + 1) fun y14 => fX4_openFeeds_b41 g0 i a1 y14 x3))) else (fX4_openFeeds_b41 g0 i a1 x2 x3)))
def fX4_openFeeds_L4 (g0 : Mm) (i : Nat) (a1 : Int32) (x2 : Int32) (x3 : Int32) : Option (Int32) :=
  wLp (fun q => fX4_openFeeds_B4 g0 i a1 q.1 q.2) 1000 (x2, x3)
def fX4_openFeeds (g0 : Mm) (i : Nat) (a1 : Int32) : Option (Int32) :=
  wLe (0 : Int32) fun y1 => wLe (0 : Int32) fun y3 => fX4_openFeeds_L4 g0 i a1 y1 y3
def fX9_limit (g0 : Mm) (i : Nat) (v : Nat) : Option (Int32) :=
  some (((g0 19 i v 1) + (g0 19 i v 4)) + (g0 19 i v 3))
def fX4_learn_b25 (g : Mm) (i : Nat) (a1 : Int32) (a2 : Int32) (x3v : Nat) (z1 : Int32) (z2 : Int32) : Option (Mm) :=
  wGi z1 8 (wLe (st g 18 i 0 (z1).toNatClampNeg z2) fun g4 => wGi (1 : Int32) 8 (wLe (st g4 18 i 0 ((1 : Int32)).toNatClampNeg (if (0 : Int32) < ((g4 9 i 0 0) - (g4 19 i x3v 2)) then ((g4 9 i 0 0) - (g4 19 i x3v 2)) else (0 : Int32))) fun g7 => wGi (2 : Int32) 8 (wLe (st g7 18 i 0 ((2 : Int32)).toNatClampNeg (g7 19 i x3v 0)) fun g10 => wGi (3 : Int32) 8 (wLe (st g10 18 i 0 ((3 : Int32)).toNatClampNeg ((g10 9 i 0 0) - (g10 19 i x3v 7))) fun g13 => wGi (4 : Int32) 8 (wLe (st g13 18 i 0 ((4 : Int32)).toNatClampNeg a2) fun g16 => wGi (5 : Int32) 9 (wGi (5 : Int32) 8 (wLe (st g16 18 i 0 ((5 : Int32)).toNatClampNeg (g16 10 i 0 ((5 : Int32)).toNatClampNeg)) fun g20 => wBd (fX4_openFeeds g20 i a1) fun y23 => wGi (6 : Int32) 8 (wLe (st g20 18 i 0 ((6 : Int32)).toNatClampNeg y23) fun g25 => wBd (fX9_limit g25 i x3v) fun y28 => wGi (7 : Int32) 8 (wLe (st g25 18 i 0 ((7 : Int32)).toNatClampNeg (y28 - (g25 9 i 0 0))) fun g30 => some g30)))))))))
def fX4_learn (g : Mm) (i : Nat) (a1 : Int32) (a2 : Int32) : Option (Mm) :=
  wGi a1 12 (if (g 19 i ((a1).toNatClampNeg) 6) = (1 : Int32) then (fX4_learn_b25 g i a1 a2 ((a1).toNatClampNeg) (0 : Int32) (1 : Int32)) else (fX4_learn_b25 g i a1 a2 ((a1).toNatClampNeg) (0 : Int32) (0 : Int32)))
def fX6_joined (g0 : Mm) (a0 : Int32) (a1 : Int32) (a2 : Int32) : Option (Int32) :=
  if a0 = 10008 then (if a1 = 0 then (if a2 = 0 then (some (0 : Int32)) else (some (1 : Int32))) else (some (1 : Int32))) else if a0 = 10009 then (if a1 = 0 then (some (0 : Int32)) else (if a2 = 0 then (some (0 : Int32)) else (some (1 : Int32)))) else if a0 = 10010 then (some (a1 * a2)) else if a0 = 10011 then (if a2 ≤ a1 then (some (0 : Int32)) else (some (1 : Int32))) else if a0 = 10012 then (if a1 = a2 then (some (1 : Int32)) else (some (0 : Int32))) else if a0 = 10013 then (some (a1 + a2)) else if a0 = 10014 then (some (a1 - a2)) else (some (a1 * a2))
def fX6_says_b218 (g : Mm) (i : Nat) (a1 : Int32) (i2 : Nat) (x3 : Int32) (x4 : Int32) (x5 : Int32) : Option ((Mm × Int32 × Int32) ⊕ (Mm × Int32)) :=
  wLe (x5 + 1) fun y20 => some (.inl (g, x3, y20))
def fX6_says_b183 (g : Mm) (i : Nat) (a1 : Int32) (i2 : Nat) (x3 : Int32) (x4 : Int32) (x5 : Int32) (x6 : Int32) : Option ((Mm × Int32 × Int32) ⊕ (Mm × Int32)) :=
  if x3 ≤ (1 : Int32) then (fX6_says_b218 g i a1 i2 x3 x4 x5) else (wLe (x3 + (-1)) fun y22 => wGi (y22 - (1 : Int32)) 160 (wGi y22 160 (wBd (fX6_joined g x6 (g 8 i 0 (y22 - (1 : Int32)).toNatClampNeg) (g 8 i 0 (y22).toNatClampNeg)) fun y27 => wGi (y22 - (1 : Int32)) 160 (wLe (st g 8 i 0 (y22 - (1 : Int32)).toNatClampNeg y27) fun g29 => fX6_says_b218 g29 i a1 i2 y22 x4 x5))))
def fX6_says_b179 (g : Mm) (i : Nat) (a1 : Int32) (i2 : Nat) (x3 : Int32) (x4 : Int32) (x5 : Int32) (z1 : Int32) (z2 : Int32) : Option ((Mm × Int32 × Int32) ⊕ (Mm × Int32)) :=
  wGi z1 160 (wLe (st g 8 i 0 (z1).toNatClampNeg z2) fun g35 => fX6_says_b218 g35 i a1 i2 x3 x4 x5)
def fX6_says_b144 (g : Mm) (i : Nat) (a1 : Int32) (i2 : Nat) (x3 : Int32) (x4 : Int32) (x5 : Int32) (x6 : Int32) : Option ((Mm × Int32 × Int32) ⊕ (Mm × Int32)) :=
  if x6 = (10010 : Int32) then (if x3 ≤ 0 then (fX6_says_b183 g i a1 i2 x3 x4 x5 x6) else (wGi (x3 - (1 : Int32)) 160 (if (g 8 i 0 (x3 - (1 : Int32)).toNatClampNeg) = 0 then (fX6_says_b179 g i a1 i2 x3 x4 x5 (x3 - (1 : Int32)) (1 : Int32)) else (fX6_says_b179 g i a1 i2 x3 x4 x5 (x3 - (1 : Int32)) (0 : Int32))))) else (fX6_says_b183 g i a1 i2 x3 x4 x5 x6)
def fX6_says_b112 (g : Mm) (i : Nat) (a1 : Int32) (i2 : Nat) (x3 : Int32) (x4 : Int32) (x5 : Int32) (x6 : Int32) : Option ((Mm × Int32 × Int32) ⊕ (Mm × Int32)) :=
  if x6 = (10016 : Int32) then (if x3 ≤ 0 then (fX6_says_b144 g i a1 i2 x3 x4 x5 x6) else (wGi (x3 - (1 : Int32)) 160 (wGi (x3 - (1 : Int32)) 160 (wLe (st g 8 i 0 (x3 - (1 : Int32)).toNatClampNeg (-(g 8 i 0 (x3 - (1 : Int32)).toNatClampNeg))) fun g40 => fX6_says_b218 g40 i a1 i2 x3 x4 x5)))) else (fX6_says_b144 g i a1 i2 x3 x4 x5 x6)
def fX6_says_b75 (g : Mm) (i : Nat) (a1 : Int32) (i2 : Nat) (x3 : Int32) (x4 : Int32) (x5 : Int32) (x6 : Int32) : Option ((Mm × Int32 × Int32) ⊕ (Mm × Int32)) :=
  if (10008 : Int32) ≤ x6 then (fX6_says_b112 g i a1 i2 x3 x4 x5 x6) else (if (160 : Int32) ≤ x3 then (fX6_says_b112 g i a1 i2 x3 x4 x5 x6) else (wGi (x6 - (10000 : Int32)) 8 (wGi x3 160 (wLe (st g 8 i 0 (x3).toNatClampNeg (g 18 i2 0 (x6 - (10000 : Int32)).toNatClampNeg)) fun g45 => wLe (x3 + 1) fun y47 => fX6_says_b218 g45 i a1 i2 y47 x4 x5))))
def fX6_says_B28 (g : Mm) (i : Nat) (a1 : Int32) (i2 : Nat) (x3 : Int32) (x4 : Int32) (x5 : Int32) : Option ((Mm × Int32 × Int32) ⊕ (Mm × Int32)) :=
  if x4 ≤ x5 then (wEx (wGi (0 : Int32) 160 (some (g, g 8 i 0 ((0 : Int32)).toNatClampNeg)))) else (wGi x5 160 (wLe (g 6 i 0 (x5).toNatClampNeg) fun y13 => if (10000 : Int32) ≤ y13 then (fX6_says_b75 g i a1 i2 x3 x4 x5 y13) else (if (160 : Int32) ≤ x3 then (fX6_says_b75 g i a1 i2 x3 x4 x5 y13) else (wGi x3 160 (wLe (st g 8 i 0 (x3).toNatClampNeg y13) fun g51 => wLe (x3 + 1) fun y53 => fX6_says_b218 g51 i a1 i2 y53 x4 x5)))))
def fX6_says_L28 (g : Mm) (i : Nat) (a1 : Int32) (i2 : Nat) (x3 : Int32) (x4 : Int32) (x5 : Int32) : Option (Mm × Int32) :=
  wLp (fun q => fX6_says_B28 q.1 i a1 i2 q.2.1 x4 q.2.2) 1000 (g, x3, x5)
def fX6_says_b26 (g : Mm) (i : Nat) (a1 : Int32) (i2 : Nat) (x3 : Int32) (x4 : Int32) (z0 : Int32) : Option (Mm × Int32) :=
  fX6_says_L28 g i a1 i2 x3 x4 z0
def fX6_says (g : Mm) (i : Nat) (a1 : Int32) (i2 : Nat) : Option (Mm × Int32) :=
  wLe (0 : Int32) fun y1 => wGi a1 3 (wLe (g 7 i 0 (a1).toNatClampNeg) fun y4 => if a1 = 0 then (fX6_says_b26 g i a1 i2 y1 y4 (0 : Int32)) else (wGi (a1 - (1 : Int32)) 3 (fX6_says_b26 g i a1 i2 y1 y4 (g 7 i 0 (a1 - (1 : Int32)).toNatClampNeg))))
def fX4_waitsForBags (g : Mm) (i : Nat) (a1 : Int32) : Option (Mm × Int32) :=
  wBd (fX4_openFeeds g i a1) fun y2 => if y2 = 0 then (some (g, (0 : Int32))) else (wBd (fX4_learn g i a1 (-1 : Int32)) fun g6 => wGi a1 12 (wGr (g6 9 i 0 4) fun n8 => wB2 (fX6_says g6 n8 (2 : Int32) i) fun g13 y12 => wLe (((g6 19 i ((a1).toNatClampNeg) 2).toInt64) + ((if (0 : Int32) < y12 then y12 else (0 : Int32)).toInt64)) fun y14 => if 0 ≤ (lg_cmp ((g13 9 i 0 0).toInt64) y14) then (some (g13, (0 : Int32))) else (some (g13, (1 : Int32)))))
def fX4_hindrance_b80 (g : Mm) (i : Nat) (a1 : Int32) (a2 : Int32) (x3v : Nat) : Option (Mm × Int32) :=
  if a2 = (7 : Int32) then (wBd (fX9_limit g i x3v) fun y9 => if (g 9 i 0 0) ≤ y9 then (some (g, (-1 : Int32))) else (wGi (7 : Int32) 9 (if (g 10 i 0 ((7 : Int32)).toNatClampNeg) = 0 then (some (g, (7 : Int32))) else (some (g, (-1 : Int32)))))) else (some (g, (-1 : Int32)))
def fX4_hindrance_b50 (g : Mm) (i : Nat) (a1 : Int32) (a2 : Int32) (x3v : Nat) : Option (Mm × Int32) :=
  wBd (fX3_truckFor g a2) fun y5 => if y5 < 0 then (fX4_hindrance_b80 g i a1 a2 x3v) else (wGi y5 5 (wGi y5 9 (if (g 11 i 0 (y5).toNatClampNeg) < (g 10 i 0 (y5).toNatClampNeg) then (fX4_hindrance_b80 g i a1 a2 x3v) else (some (g, (3 : Int32))))))
def fX4_hindrance_b22 (g : Mm) (i : Nat) (a1 : Int32) (a2 : Int32) (x3v : Nat) : Option (Mm × Int32) :=
  if a2 = (7 : Int32) then (wBd (fX3_lasts g (g 19 i x3v 0) a2) fun y17 => if ((g 19 i x3v 2) - y17) ≤ (g 9 i 0 0) then (fX4_hindrance_b50 g i a1 a2 x3v) else (some (g, (2 : Int32)))) else (fX4_hindrance_b50 g i a1 a2 x3v)
def fX4_hindrance (g : Mm) (i : Nat) (a1 : Int32) (a2 : Int32) : Option (Mm × Int32) :=
  wGi a1 12 (if a2 = (5 : Int32) then (wB2 (fX4_waitsForBags g i a1) fun g21 y20 => if y20 = 0 then (fX4_hindrance_b22 g21 i a1 a2 ((a1).toNatClampNeg)) else (some (g21, (4 : Int32)))) else (fX4_hindrance_b22 g i a1 a2 ((a1).toNatClampNeg)))
def fX9_startAct (g : Mm) (i : Nat) (v : Nat) (a1 : Int32) : Option (Mm) :=
  wLe (st g 19 i v 10 ((g 19 i v 10) ||| ((1 : Int32) <<< (a1 &&& 31)))) fun g1 => wBd (fX3_lasts g1 (g1 19 i v 0) a1) fun y4 => wGi a1 8 (wLe (st g1 20 i v (a1).toNatClampNeg y4) fun g6 => some g6)
def fX4_startNow_b19 (g : Mm) (i : Nat) (i1 : Nat) (v1 : Nat) (a2 : Int32) : Option (Mm) :=
  if a2 = (7 : Int32) then (wBd (fX9_limit g i1 v1) fun y9 => if (g 9 i 0 0) ≤ y9 then (wBd (fX9_startAct g i1 v1 a2) fun g13 => some g13) else (wGi (7 : Int32) 9 (wGi (7 : Int32) 9 (wLe (st g 10 i 0 ((7 : Int32)).toNatClampNeg ((g 10 i 0 ((7 : Int32)).toNatClampNeg) - (1 : Int32))) fun g16 => wBd (fX9_startAct g16 i1 v1 a2) fun g20 => some g20)))) else (wBd (fX9_startAct g i1 v1 a2) fun g7 => some g7)
def fX4_startNow (g : Mm) (i : Nat) (i1 : Nat) (v1 : Nat) (a2 : Int32) : Option (Mm) :=
  wBd (fX3_truckFor g a2) fun y2 => if y2 < 0 then (fX4_startNow_b19 g i i1 v1 a2) else (wGi y2 5 (wGi y2 5 (wLe (st g 11 i 0 (y2).toNatClampNeg ((g 11 i 0 (y2).toNatClampNeg) + (1 : Int32))) fun g23 => fX4_startNow_b19 g23 i i1 v1 a2)))
def fX4_serve_b102 (g : Mm) (i : Nat) (a1 : Int32) (x2v : Nat) (x3 : Int32) : Option ((Mm × Int32) ⊕ (Mm)) :=
  wLe (x3 + 1) fun y12 => some (.inl (g, y12))
def fX4_serve_b89 (g : Mm) (i : Nat) (a1 : Int32) (x2v : Nat) (x3 : Int32) (x4 : Int32) : Option ((Mm × Int32) ⊕ (Mm)) :=
  if 0 ≤ (g 19 i x2v 11) then (fX4_serve_b102 g i a1 x2v x3) else (wLe (st g 19 i x2v 11 x4) fun g23 => fX4_serve_b102 g23 i a1 x2v x3)
def fX4_serve_B14 (g : Mm) (i : Nat) (a1 : Int32) (x2v : Nat) (x3 : Int32) : Option ((Mm × Int32) ⊕ (Mm)) :=
  if (8 : Int32) ≤ x3 then (wEx (some g)) else (wBd (fX9_isDone g i x2v x3) fun y10 => if y10 = 0 then (wBd (fX9_mayBegin g i x2v x3) fun y15 => if y15 = 0 then (fX4_serve_b102 g i a1 x2v x3) else (wLe (2 : Int32) fun y17 => wBd (fX9_isUnder g i x2v x3) fun y20 => if y20 = 0 then (wBd (fX4_isNothing g i i x2v x3) fun y26 => if y26 = 0 then (wB2 (fX4_hindrance g i a1 x3) fun g30 y29 => if 0 ≤ y29 then (fX4_serve_b89 g30 i a1 x2v x3 y29) else (wBd (fX4_startNow g30 i i x2v x3) fun g34 => wLe (2 : Int32) fun y35 => fX4_serve_b89 g34 i a1 x2v x3 y35)) else (wBd (fX9_endAct g i x2v x3) fun g39 => fX4_serve_b102 g39 i a1 x2v x3)) else (fX4_serve_b89 g i a1 x2v x3 y17))) else (fX4_serve_b102 g i a1 x2v x3))
def fX4_serve_L14 (g : Mm) (i : Nat) (a1 : Int32) (x2v : Nat) (x3 : Int32) : Option (Mm) :=
  wLp (fun q => fX4_serve_B14 q.1 i a1 x2v q.2) 1000 (g, x3)
def fX4_serve (g : Mm) (i : Nat) (a1 : Int32) : Option (Mm) :=
  wGi a1 12 (wLe (st g 19 i ((a1).toNatClampNeg) 11 (-1 : Int32)) fun g2 => wLe (0 : Int32) fun y4 => fX4_serve_L14 g2 i a1 ((a1).toNatClampNeg) y4)
def fX9_needsIce (g0 : Mm) (i : Nat) (v : Nat) (a1 : Int32) (a2 : Int32) : Option (Int32) :=
  if a1 = (1 : Int32) then (if (g0 19 i v 12) < 0 then (some (1 : Int32)) else (if (a2 - (g0 19 i v 12)) ≤ (40 : Int32) then (some (0 : Int32)) else (some (1 : Int32)))) else (some (0 : Int32))
def fX4_iceAgain (g : Mm) (i : Nat) (i1 : Nat) (v1 : Nat) : Option (Mm) :=
  if (g 19 i1 v1 6) = (5 : Int32) then (wBd (fX9_isUnder g i1 v1 (6 : Int32)) fun y3 => if y3 = 0 then (wGi (6 : Int32) 9 (wBd (fX9_needsIce g i1 v1 (g 10 i 0 ((6 : Int32)).toNatClampNeg) (g 9 i 0 0)) fun y7 => if y7 = 0 then (some g) else (wGi (4 : Int32) 5 (wGi (4 : Int32) 9 (if (g 10 i 0 ((4 : Int32)).toNatClampNeg) ≤ (g 11 i 0 ((4 : Int32)).toNatClampNeg) then (some g) else (wBd (fX4_startNow g i i1 v1 (6 : Int32)) fun g14 => some g14)))))) else (some g)) else (some g)
def fX4_standFor_b106 (g0 : Mm) (i : Nat) (i1 : Nat) (v1 : Nat) (x2 : Int32) (x3 : Int32) (x4 : Int32) : Option ((Int32 × Int32) ⊕ (Int32)) :=
  wLe (x4 + 1) fun y16 => some (.inl (x2, y16))
def fX4_standFor_b103 (g0 : Mm) (i : Nat) (i1 : Nat) (v1 : Nat) (x3 : Int32) (x4 : Int32) : Option ((Int32 × Int32) ⊕ (Int32)) :=
  fX4_standFor_b106 g0 i i1 v1 x4 x3 x4
def fX4_standFor_b76 (g0 : Mm) (i : Nat) (i1 : Nat) (v1 : Nat) (x2 : Int32) (x3 : Int32) (x4 : Int32) (z0 : Int32) : Option ((Int32 × Int32) ⊕ (Int32)) :=
  if z0 = 0 then (fX4_standFor_b106 g0 i i1 v1 x2 x3 x4) else (if x2 < 0 then (fX4_standFor_b103 g0 i i1 v1 x3 x4) else (wGi x4 6 (wGi x2 6 (if (g0 12 i 0 (x2).toNatClampNeg) ≤ (g0 12 i 0 (x4).toNatClampNeg) then (fX4_standFor_b106 g0 i i1 v1 x2 x3 x4) else (fX4_standFor_b103 g0 i i1 v1 x3 x4)))))
def fX4_standFor_b75 (g0 : Mm) (i : Nat) (i1 : Nat) (v1 : Nat) (x2 : Int32) (x3 : Int32) (x4 : Int32) : Option ((Int32 × Int32) ⊕ (Int32)) :=
  fX4_standFor_b76 g0 i i1 v1 x2 x3 x4 (0 : Int32)
def fX4_standFor_B41 (g0 : Mm) (i : Nat) (i1 : Nat) (v1 : Nat) (x2 : Int32) (x3 : Int32) (x4 : Int32) : Option ((Int32 × Int32) ⊕ (Int32)) :=
  if (g0 9 i 0 1) ≤ x4 then (wEx (some x2)) else (wGi x4 6 (if 0 ≤ (g0 13 i 0 (x4).toNatClampNeg) then (fX4_standFor_b75 g0 i i1 v1 x2 x3 x4) else (wGi x4 6 (if (g0 12 i 0 (x4).toNatClampNeg) < x3 then (fX4_standFor_b75 g0 i i1 v1 x2 x3 x4) else (fX4_standFor_b76 g0 i i1 v1 x2 x3 x4 (1 : Int32))))))
def fX4_standFor_L41 (g0 : Mm) (i : Nat) (i1 : Nat) (v1 : Nat) (x2 : Int32) (x3 : Int32) (x4 : Int32) : Option (Int32) :=
  wLp (fun q => fX4_standFor_B41 g0 i i1 v1 q.1 x3 q.2) 1000 (x2, x4)
def fX4_standFor_b28 (g0 : Mm) (i : Nat) (i1 : Nat) (v1 : Nat) : Option (Int32) :=
  wLe (-1 : Int32) fun y4 => wBd (fX3_size g0 (g0 19 i1 v1 0)) fun y7 => wLe (0 : Int32) fun y8 => fX4_standFor_L41 g0 i i1 v1 y4 y7 y8
def fX4_standFor (g0 : Mm) (i : Nat) (i1 : Nat) (v1 : Nat) : Option (Int32) :=
  wBd (fX4_hasStand g0 i (g0 19 i1 v1 5)) fun y2 => if y2 = 0 then (fX4_standFor_b28 g0 i i1 v1) else (wGi (g0 19 i1 v1 5) 6 (if 0 ≤ (g0 13 i 0 (g0 19 i1 v1 5).toNatClampNeg) then (fX4_standFor_b28 g0 i i1 v1) else (some (g0 19 i1 v1 5))))
def fX4_isReadyToLeave (g0 : Mm) (i : Nat) (i1 : Nat) (v1 : Nat) : Option (Int32) :=
  if (g0 19 i1 v1 6) = (5 : Int32) then (if ((g0 9 i 0 0) - (g0 19 i1 v1 7)) < (4 : Int32) then (some (0 : Int32)) else (wBd (fX9_isUnder g0 i1 v1 (6 : Int32)) fun y4 => if y4 = 0 then (wGi (6 : Int32) 9 (wBd (fX9_needsIce g0 i1 v1 (g0 10 i 0 ((6 : Int32)).toNatClampNeg) (g0 9 i 0 0)) fun y8 => if y8 = 0 then (some (1 : Int32)) else (some (0 : Int32)))) else (some (0 : Int32)))) else (some (0 : Int32))
def fX4_isReady_b36 (g : Mm) (i : Nat) (a1 : Int32) (a2 : Int32) (z0 : Int32) : Option (Mm × Int32) :=
  if z0 = 0 then (some (g, (0 : Int32))) else (wGi a2 2 (if 0 ≤ (g 15 i 0 (a2).toNatClampNeg) then (wGi a2 2 (wBd (fX4_learn g i a1 (g 15 i 0 (a2).toNatClampNeg)) fun g11 => wGi a2 2 (wGr (g11 9 i 0 4) fun n13 => wB2 (fX6_says g11 n13 (1 : Int32) i) fun g18 y17 => wLe (((g11 14 i 0 (a2).toNatClampNeg).toInt64) + ((if (0 : Int32) < y17 then y17 else (0 : Int32)).toInt64)) fun y19 => if (lg_cmp ((g18 9 i 0 0).toInt64) y19) < 0 then (some (g18, (0 : Int32))) else (some (g18, (1 : Int32)))))) else (some (g, (1 : Int32)))))
def fX4_isReady (g : Mm) (i : Nat) (a1 : Int32) (a2 : Int32) : Option (Mm × Int32) :=
  wGi a1 12 (if (g 19 i ((a1).toNatClampNeg) 6) = (1 : Int32) then (wBd (fX4_standFor g i i ((a1).toNatClampNeg)) fun y23 => if y23 < 0 then (fX4_isReady_b36 g i a1 a2 (0 : Int32)) else (fX4_isReady_b36 g i a1 a2 (1 : Int32))) else (wBd (fX4_isReadyToLeave g i i ((a1).toNatClampNeg)) fun y4 => fX4_isReady_b36 g i a1 a2 y4))
def fX4_bestFor_b83 (g : Mm) (i : Nat) (a1 : Int32) (x2 : Int32) (x3 : Int32) (x4 : Int32) : Option ((Mm × Int32 × Int32 × Int32) ⊕ (Mm × Int32)) :=
  wLe (x4 + 1) fun y16 => some (.inl (g, x2, x3, y16))
def fX4_bestFor_b77 (g : Mm) (i : Nat) (a1 : Int32) (x4 : Int32) (x5 : Int32) : Option ((Mm × Int32 × Int32 × Int32) ⊕ (Mm × Int32)) :=
  fX4_bestFor_b83 g i a1 x4 x5 x4
def fX4_bestFor_B22 (g : Mm) (i : Nat) (a1 : Int32) (x2 : Int32) (x3 : Int32) (x4 : Int32) : Option ((Mm × Int32 × Int32 × Int32) ⊕ (Mm × Int32)) :=
  if (g 9 i 0 2) ≤ x4 then (wEx (some (g, x2))) else (wB2 (fX4_isReady g i x4 a1) fun g14 y13 => if y13 = 0 then (fX4_bestFor_b83 g14 i a1 x2 x3 x4) else (wGi a1 2 (wBd (fX4_learn g14 i x4 (g14 15 i 0 (a1).toNatClampNeg)) fun g21 => wGr (g21 9 i 0 4) fun n22 => wB2 (fX6_says g21 n22 (0 : Int32) i) fun g27 y26 => if x2 < 0 then (fX4_bestFor_b77 g27 i a1 x4 y26) else (if y26 ≤ x3 then (fX4_bestFor_b83 g27 i a1 x2 x3 x4) else (fX4_bestFor_b77 g27 i a1 x4 y26)))))
def fX4_bestFor_L22 (g : Mm) (i : Nat) (a1 : Int32) (x2 : Int32) (x3 : Int32) (x4 : Int32) : Option (Mm × Int32) :=
  wLp (fun q => fX4_bestFor_B22 q.1 i a1 q.2.1 q.2.2.1 q.2.2.2) 1000 (g, x2, x3, x4)
def fX4_bestFor (g : Mm) (i : Nat) (a1 : Int32) : Option (Mm × Int32) :=
  wGi a1 2 (if (g 14 i 0 (a1).toNatClampNeg) ≤ (g 9 i 0 0) then (wLe (-1 : Int32) fun y3 => wLe (0 : Int32) fun y5 => wLe (0 : Int32) fun y7 => fX4_bestFor_L22 g i a1 y3 y5 y7) else (some (g, (-1 : Int32))))
def fX4_giveRunway_b76 (g : Mm) (i : Nat) (a1 : Int32) (a2 : Int32) (x3v : Nat) : Option (Mm) :=
  wBd (fX3_roll g (g 19 i x3v 0)) fun y10 => wGi a1 2 (wLe (st g 14 i 0 (a1).toNatClampNeg ((g 9 i 0 0) + y10)) fun g12 => wGi a1 2 (wLe (st g12 15 i 0 (a1).toNatClampNeg (g12 19 i x3v 0)) fun g15 => some g15))
def fX4_giveRunway_b54 (g : Mm) (i : Nat) (a1 : Int32) (a2 : Int32) (x3v : Nat) : Option (Mm) :=
  wBd (fX9_enter g i x3v (2 : Int32) (g 9 i 0 0)) fun g26 => fX4_giveRunway_b76 g26 i a1 a2 x3v
def fX4_giveRunway (g : Mm) (i : Nat) (a1 : Int32) (a2 : Int32) : Option (Mm) :=
  wBd (fX4_hasVisit g i a2) fun y2 => if y2 = 0 then (some g) else (wGi a2 12 (if (g 19 i ((a2).toNatClampNeg) 6) = (1 : Int32) then (wBd (fX4_standFor g i i ((a2).toNatClampNeg)) fun y18 => wLe (st g 19 i ((a2).toNatClampNeg) 8 y18) fun g19 => wBd (fX4_hasStand g19 i (g19 19 i ((a2).toNatClampNeg) 8)) fun y22 => if y22 = 0 then (fX4_giveRunway_b54 g19 i a1 a2 ((a2).toNatClampNeg)) else (wGi (g19 19 i ((a2).toNatClampNeg) 8) 6 (wLe (st g19 13 i 0 (g19 19 i ((a2).toNatClampNeg) 8).toNatClampNeg a2) fun g28 => fX4_giveRunway_b54 g28 i a1 a2 ((a2).toNatClampNeg)))) else (wBd (fX9_enter g i ((a2).toNatClampNeg) (6 : Int32) (g 9 i 0 0)) fun g8 => fX4_giveRunway_b76 g8 i a1 a2 ((a2).toNatClampNeg))))
def fX4_causeOfRunways (g0 : Mm) (i : Nat) : Option (Int32) :=
  wGi (5 : Int32) 9 (if (g0 10 i 0 ((5 : Int32)).toNatClampNeg) = (1 : Int32) then (wGi (8 : Int32) 9 (if (g0 10 i 0 ((8 : Int32)).toNatClampNeg) = (2 : Int32) then (some (6 : Int32)) else (some (5 : Int32)))) else (some (5 : Int32)))
def fX4_causeNow (g0 : Mm) (i : Nat) (i1 : Nat) (v1 : Nat) : Option (Int32) :=
  wLe (g0 19 i1 v1 6) fun y1 => if y1 = 1 then (wBd (fX4_standFor g0 i i1 v1) fun y5 => if 0 ≤ y5 then (wBd (fX4_causeOfRunways g0 i) fun y8 => some y8) else (some (1 : Int32))) else if y1 = 2 then (some (0 : Int32)) else if y1 = 3 then (some (0 : Int32)) else if y1 = 4 then (some (g0 19 i1 v1 11)) else if y1 = 5 then (wBd (fX9_isUnder g0 i1 v1 (6 : Int32)) fun y14 => if y14 = 0 then (wGi (6 : Int32) 9 (wBd (fX9_needsIce g0 i1 v1 (g0 10 i 0 ((6 : Int32)).toNatClampNeg) (g0 9 i 0 0)) fun y18 => if y18 = 0 then (if (4 : Int32) ≤ ((g0 9 i 0 0) - (g0 19 i1 v1 7)) then (wBd (fX4_causeOfRunways g0 i) fun y22 => some y22) else (some (2 : Int32))) else (some (8 : Int32)))) else (some (8 : Int32))) else (some (0 : Int32))
def fX4_blame (g : Mm) (i : Nat) (i1 : Nat) (v1 : Nat) : Option (Mm) :=
  if (5 : Int32) < (g 19 i1 v1 6) then (some g) else (if (g 19 i1 v1 2) ≤ (g 9 i 0 0) then (wBd (fX4_causeNow g i i1 v1) fun y4 => if y4 < 0 then (some g) else (wGi y4 9 (wGi y4 9 (wLe (st g 21 i1 v1 (y4).toNatClampNeg ((g 21 i1 v1 (y4).toNatClampNeg) + (1 : Int32))) fun g8 => some g8)))) else (some g))
def fX4_step_B180 (g : Mm) (i : Nat) (x2 : Int32) : Option ((Mm × Int32) ⊕ (Mm)) :=
  if (g 9 i 0 2) ≤ x2 then (wEx (wLe (st g 9 i 0 0 ((g 9 i 0 0) + (1 : Int32))) fun g39 => some g39)) else (wGi x2 12 (wBd (fX4_blame g i i ((x2).toNatClampNeg)) fun g44 => wLe (x2 + 1) fun y45 => some (.inl (g44, y45))))
def fX4_step_L180 (g : Mm) (i : Nat) (x2 : Int32) : Option (Mm) :=
  wLp (fun q => fX4_step_B180 q.1 i q.2) 1000 (g, x2)
def fX4_step_B157 (g : Mm) (i : Nat) (x1 : Int32) (x2 : Int32) : Option ((Mm × Int32) ⊕ (Mm)) :=
  if x1 ≤ x2 then (wEx (wLe (0 : Int32) fun y34 => fX4_step_L180 g i y34)) else (wB2 (fX4_bestFor g i x2) fun g49 y48 => wBd (fX4_giveRunway g49 i x2 y48) fun g52 => wLe (x2 + 1) fun y53 => some (.inl (g52, y53)))
def fX4_step_L157 (g : Mm) (i : Nat) (x1 : Int32) (x2 : Int32) : Option (Mm) :=
  wLp (fun q => fX4_step_B157 q.1 i x1 q.2) 1000 (g, x2)
def fX4_step_b154 (g : Mm) (i : Nat) (z0 : Int32) : Option (Mm) :=
  wLe (0 : Int32) fun y29 => fX4_step_L157 g i z0 y29
def fX4_step_B109 (g : Mm) (i : Nat) (x1 : Int32) : Option ((Mm × Int32) ⊕ (Mm)) :=
  if (g 9 i 0 2) ≤ x1 then (wEx (wGi (5 : Int32) 9 (if (g 10 i 0 ((5 : Int32)).toNatClampNeg) = (1 : Int32) then (fX4_step_b154 g i (1 : Int32)) else (wGi (8 : Int32) 9 (fX4_step_b154 g i (g 10 i 0 ((8 : Int32)).toNatClampNeg)))))) else (wGi x1 12 (wBd (fX4_iceAgain g i i ((x1).toNatClampNeg)) fun g58 => wLe (x1 + 1) fun y59 => some (.inl (g58, y59))))
def fX4_step_L109 (g : Mm) (i : Nat) (x1 : Int32) : Option (Mm) :=
  wLp (fun q => fX4_step_B109 q.1 i q.2) 1000 (g, x1)
def fX4_step_b101 (g : Mm) (i : Nat) (x1 : Int32) : Option ((Mm × Int32) ⊕ (Mm)) :=
  wLe (x1 + 1) fun y63 => some (.inl (g, y63))
def fX4_step_B75 (g : Mm) (i : Nat) (x1 : Int32) : Option ((Mm × Int32) ⊕ (Mm)) :=
  if (g 9 i 0 2) ≤ x1 then (wEx (wLe (0 : Int32) fun y21 => fX4_step_L109 g i y21)) else (wGi x1 12 (if (g 19 i ((x1).toNatClampNeg) 6) = (4 : Int32) then (wBd (fX4_serve g i x1) fun g67 => fX4_step_b101 g67 i x1) else (fX4_step_b101 g i x1)))
def fX4_step_L75 (g : Mm) (i : Nat) (x1 : Int32) : Option (Mm) :=
  wLp (fun q => fX4_step_B75 q.1 i q.2) 1000 (g, x1)
def fX4_step_B49 (g : Mm) (i : Nat) (x1 : Int32) : Option ((Mm × Int32) ⊕ (Mm)) :=
  if (g 9 i 0 3) ≤ x1 then (wEx (wLe (0 : Int32) fun y16 => fX4_step_L75 g i y16)) else (wGi x1 16 (wBd (fX4_carry g i i ((x1).toNatClampNeg)) fun g71 => wLe (x1 + 1) fun y72 => some (.inl (g71, y72))))
def fX4_step_L49 (g : Mm) (i : Nat) (x1 : Int32) : Option (Mm) :=
  wLp (fun q => fX4_step_B49 q.1 i q.2) 1000 (g, x1)
def fX4_step_B28 (g : Mm) (i : Nat) (x1 : Int32) : Option ((Mm × Int32) ⊕ (Mm)) :=
  if (g 9 i 0 2) ≤ x1 then (wEx (wLe (0 : Int32) fun y11 => fX4_step_L49 g i y11)) else (wBd (fX4_work g i x1) fun g76 => wLe (x1 + 1) fun y77 => some (.inl (g76, y77)))
def fX4_step_L28 (g : Mm) (i : Nat) (x1 : Int32) : Option (Mm) :=
  wLp (fun q => fX4_step_B28 q.1 i q.2) 1000 (g, x1)
def fX4_step_B2 (g : Mm) (i : Nat) (x1 : Int32) : Option ((Mm × Int32) ⊕ (Mm)) :=
  if (g 9 i 0 2) ≤ x1 then (wEx (wLe (0 : Int32) fun y6 => fX4_step_L28 g i y6)) else (wGi x1 12 (wBd (fX4_move g i i ((x1).toNatClampNeg)) fun g82 => wLe (x1 + 1) fun y83 => some (.inl (g82, y83))))
def fX4_step_L2 (g : Mm) (i : Nat) (x1 : Int32) : Option (Mm) :=
  wLp (fun q => fX4_step_B2 q.1 i q.2) 1000 (g, x1)
def fX4_step (g : Mm) (i : Nat) : Option (Mm) :=
  wLe (0 : Int32) fun y1 => fX4_step_L2 g i y1
def fX6_clear (g : Mm) (i : Nat) : Option (Mm) :=
  wLe (st g 5 i 0 3 (0 : Int32)) fun g1 => some g1
def fX5_isBlank (g0 : Mm) (a0 : Int32) : Option (Int32) :=
  if a0 = (32 : Int32) then (some (1 : Int32)) else (if a0 = (10 : Int32) then (some (1 : Int32)) else (some (0 : Int32)))
def fX5_isLetter (g0 : Mm) (a0 : Int32) : Option (Int32) :=
  if a0 < (97 : Int32) then (some (0 : Int32)) else (if (122 : Int32) < a0 then (some (0 : Int32)) else (some (1 : Int32)))
def fX100_isLatin1 (sq : Nat) : Option (Int32) :=
  if (1 : Int32) = 0 then (some (0 : Int32)) else (if (0 : Int32) = 0 then (some (1 : Int32)) else (some (0 : Int32)))
def fX102_checkIndex (a0 : Int32) (a1 : Int32) : Option (Int32) :=
  if a0 < 0 then none else (if a0 < a1 then (some a0) else none)
def fX100_checkIndex (a0 : Int32) (a1 : Int32) : Option (Unit) :=
  wBd (fX102_checkIndex a0 a1) fun y3 => some ()
def fX101_charAt (sq : Nat) (a1 : Int32) : Option (Int32) :=
  wBd (fX100_checkIndex a1 (nI (kN sq))) fun u2 => wGi a1 (kN sq) (wGd (vp_nar .char ((((kC sq (a1).toNatClampNeg) &&& (255 : Int32)).toUInt32 % 65536).toInt32) = ((((kC sq (a1).toNatClampNeg) &&& (255 : Int32)).toUInt32 % 65536).toInt32)) (some ((((kC sq (a1).toNatClampNeg) &&& (255 : Int32)).toUInt32 % 65536).toInt32)))
def fX100_charAt (sq : Nat) (a1 : Int32) : Option (Int32) :=
  wBd (fX100_isLatin1 sq) fun y2 => if y2 = 0 then none else (wBd (fX101_charAt sq a1) fun y5 => wGd (vp_nar .char y5 = y5) (some y5))
def fX5_wordOf_b81 (g0 : Mm) (a1 : Int32) (a2 : Int32) (x3 : Int32) (x4 : Int32) : Option ((Int32) ⊕ (Int32)) :=
  if x4 = 0 then (wLe (x3 + 1) fun y17 => some (.inl y17)) else (wEx (some x3))
def fX5_wordOf_b73 (g0 : Mm) (a1 : Int32) (a2 : Int32) (x3 : Int32) (x5 : Int32) (z0 : Int32) : Option ((Int32 × Int32) ⊕ ((Int32) ⊕ (Int32))) :=
  wLe (x5 + 1) fun y28 => some (.inl (z0, y28))
def fX5_wordOf_b50 (g0 : Mm) (a1 : Int32) (a2 : Int32) (x3 : Int32) (x5 : Int32) (z0 : Int32) : Option ((Int32 × Int32) ⊕ ((Int32) ⊕ (Int32))) :=
  wBd (fX100_charAt 2 ((x3 * (5 : Int32)) + x5)) fun y26 => if y26 = z0 then (fX5_wordOf_b73 g0 a1 a2 x3 x5 (1 : Int32)) else (fX5_wordOf_b73 g0 a1 a2 x3 x5 (0 : Int32))
def fX5_wordOf_B19 (g0 : Mm) (a1 : Int32) (a2 : Int32) (x3 : Int32) (x4 : Int32) (x5 : Int32) : Option ((Int32 × Int32) ⊕ ((Int32) ⊕ (Int32))) :=
  if (5 : Int32) ≤ x5 then (wEx (fX5_wordOf_b81 g0 a1 a2 x3 x4)) else (if x4 = 0 then (wEx (fX5_wordOf_b81 g0 a1 a2 x3 x4)) else (if a2 ≤ x5 then (fX5_wordOf_b50 g0 a1 a2 x3 x5 (32 : Int32)) else (wGi (a1 + x5) 160 (fX5_wordOf_b50 g0 a1 a2 x3 x5 (g0 4 0 0 (a1 + x5).toNatClampNeg)))))
def fX5_wordOf_L19 (g0 : Mm) (a1 : Int32) (a2 : Int32) (x3 : Int32) (x4 : Int32) (x5 : Int32) : Option ((Int32) ⊕ (Int32)) :=
  wLp (fun q => fX5_wordOf_B19 g0 a1 a2 x3 q.1 q.2) 1000 (x4, x5)
def fX5_wordOf_B2 (g0 : Mm) (a1 : Int32) (a2 : Int32) (x3 : Int32) : Option ((Int32) ⊕ (Int32)) :=
  if (14 : Int32) ≤ x3 then (wEx (some (-1 : Int32))) else (if (5 : Int32) ≤ a2 then (wEx (some (-1 : Int32))) else (wLe (1 : Int32) fun y9 => wLe (0 : Int32) fun y11 => fX5_wordOf_L19 g0 a1 a2 x3 y9 y11))
def fX5_wordOf_L2 (g0 : Mm) (a1 : Int32) (a2 : Int32) (x3 : Int32) : Option (Int32) :=
  wLp (fun q => fX5_wordOf_B2 g0 a1 a2 q) 1000 x3
def fX5_wordOf (g0 : Mm) (a1 : Int32) (a2 : Int32) : Option (Int32) :=
  wLe (0 : Int32) fun y1 => fX5_wordOf_L2 g0 a1 a2 y1
def fX5_readWord_b39 (g : Mm) : Option (Mm) :=
  wBd (fX5_wordOf g (g 3 0 0 4) ((g 3 0 0 2) - (g 3 0 0 4))) fun y5 => wLe (st g 3 0 0 5 y5) fun g6 => if 0 ≤ (g6 3 0 0 5) then (wLe (st g6 3 0 0 3 (259 : Int32)) fun g9 => some g9) else (wLe (st g6 3 0 0 3 (257 : Int32)) fun g11 => some g11)
def fX5_readWord_B0 (g : Mm) : Option ((Mm) ⊕ (Mm)) :=
  if (g 3 0 0 1) ≤ (g 3 0 0 2) then (wEx (fX5_readWord_b39 g)) else (wGi (g 3 0 0 2) 160 (wBd (fX5_isLetter g (g 4 0 0 (g 3 0 0 2).toNatClampNeg)) fun y15 => if y15 = 0 then (wEx (fX5_readWord_b39 g)) else (wLe (st g 3 0 0 2 ((g 3 0 0 2) + (1 : Int32))) fun g19 => some (.inl g19))))
def fX5_readWord_L0 (g : Mm) : Option (Mm) :=
  wLp (fun q => fX5_readWord_B0 q) 1000 g
def fX5_readWord (g : Mm) : Option (Mm) :=
  fX5_readWord_L0 g
def fX5_isDigit (g0 : Mm) (a0 : Int32) : Option (Int32) :=
  if a0 < (48 : Int32) then (some (0 : Int32)) else (if (57 : Int32) < a0 then (some (0 : Int32)) else (some (1 : Int32)))
def fX5_readNumber_b81 (g : Mm) : Option (Mm) :=
  if ((g 3 0 0 2) - (g 3 0 0 4)) ≤ (4 : Int32) then (wLe (st g 3 0 0 3 (258 : Int32)) fun g7 => some g7) else (wLe (st g 3 0 0 3 (257 : Int32)) fun g9 => some g9)
def fX5_readNumber_b68 (g : Mm) : Option ((Mm) ⊕ (Mm)) :=
  wLe (st g 3 0 0 2 ((g 3 0 0 2) + (1 : Int32))) fun g18 => some (.inl g18)
def fX5_readNumber_B5 (g : Mm) : Option ((Mm) ⊕ (Mm)) :=
  if (g 3 0 0 1) ≤ (g 3 0 0 2) then (wEx (fX5_readNumber_b81 g)) else (wGi (g 3 0 0 2) 160 (wBd (fX5_isDigit g (g 4 0 0 (g 3 0 0 2).toNatClampNeg)) fun y13 => if y13 = 0 then (wEx (fX5_readNumber_b81 g)) else (if (4 : Int32) ≤ ((g 3 0 0 2) - (g 3 0 0 4)) then (fX5_readNumber_b68 g) else (wGi (g 3 0 0 2) 160 (wLe (st g 3 0 0 5 ((((g 3 0 0 5) * (10 : Int32)) + (g 4 0 0 (g 3 0 0 2).toNatClampNeg)) - (48 : Int32))) fun g21 => fX5_readNumber_b68 g21)))))
def fX5_readNumber_L5 (g : Mm) : Option (Mm) :=
  wLp (fun q => fX5_readNumber_B5 q) 1000 g
def fX5_readNumber (g : Mm) : Option (Mm) :=
  wLe (st g 3 0 0 5 (0 : Int32)) fun g1 => fX5_readNumber_L5 g1
def fX100_coder (sq : Nat) : Option (Int32) :=
  if (1 : Int32) = 0 then (wGd (vp_nar .byte (1 : Int32) = (1 : Int32)) (some (1 : Int32))) else (wGd (vp_nar .byte (0 : Int32) = (0 : Int32)) (some (0 : Int32)))
def fX100_length (sq : Nat) : Option (Int32) :=
  wBd (fX100_coder sq) fun y2 => some ((nI (kN sq)) >>> (y2 &&& 31))
def fX101_canEncode (a0 : Int32) : Option (Int32) :=
  if a0 < 0 then (some (0 : Int32)) else (if (255 : Int32) < a0 then (some (0 : Int32)) else (some (1 : Int32)))
def fX101_indexOfChar_B7 (sq : Nat) (a1 : Int32) (a2 : Int32) (a3 : Int32) (x4 : Int32) (x5 : Int32) : Option ((Int32) ⊕ (Int32)) :=
  if a3 ≤ x5 then (wEx (some (-1 : Int32))) else (wGi x5 (kN sq) (if (kC sq (x5).toNatClampNeg) = x4 then (wEx (some x5)) else (wLe (x5 + 1) fun y8 => some (.inl y8))))
def fX101_indexOfChar_L7 (sq : Nat) (a1 : Int32) (a2 : Int32) (a3 : Int32) (x4 : Int32) (x5 : Int32) : Option (Int32) :=
  wLp (fun q => fX101_indexOfChar_B7 sq a1 a2 a3 x4 q) 1000 x5
def fX101_indexOfChar (sq : Nat) (a1 : Int32) (a2 : Int32) (a3 : Int32) : Option (Int32) :=
  wLe a1.toInt8.toInt32 fun y1 => fX101_indexOfChar_L7 sq a1 a2 a3 y1 a2
def fX101_indexOf (sq : Nat) (a1 : Int32) (a2 : Int32) (a3 : Int32) : Option (Int32) :=
  wBd (fX101_canEncode a1) fun y2 => if y2 = 0 then (some (-1 : Int32)) else (wLe (if a2 < (0 : Int32) then (0 : Int32) else a2) fun y4 => wLe (if (nI (kN sq)) < a3 then (nI (kN sq)) else a3) fun y6 => if y4 < y6 then (wBd (fX101_indexOfChar sq a1 y4 y6) fun y10 => some y10) else (some (-1 : Int32)))
def fX100_indexOf2 (sq : Nat) (a1 : Int32) (a2 : Int32) : Option (Int32) :=
  wBd (fX100_isLatin1 sq) fun y2 => if y2 = 0 then (wBd (fX100_length sq) fun y5 => none) else (wBd (fX100_length sq) fun y7 => wBd (fX101_indexOf sq a1 a2 y7) fun y9 => some y9)
def fX100_indexOf (sq : Nat) (a1 : Int32) : Option (Int32) :=
  wBd (fX100_indexOf2 sq a1 (0 : Int32)) fun y2 => some y2
def fX5_next_b146 (g : Mm) (z1 : Int32) : Option (Mm) :=
  wLe (st g 3 0 0 3 z1) fun g20 => wLe (st g20 3 0 0 2 ((g20 3 0 0 2) + (1 : Int32))) fun g22 => some g22
def fX5_next_b39 (g : Mm) : Option (Mm) :=
  wLe (st g 3 0 0 4 (g 3 0 0 2)) fun g4 => if (g4 3 0 0 2) < (g4 3 0 0 1) then (wGi (g4 3 0 0 2) 160 (wBd (fX5_isLetter g4 (g4 4 0 0 (g4 3 0 0 2).toNatClampNeg)) fun y9 => if y9 = 0 then (wGi (g4 3 0 0 2) 160 (wBd (fX5_isDigit g4 (g4 4 0 0 (g4 3 0 0 2).toNatClampNeg)) fun y13 => if y13 = 0 then (wGi (g4 3 0 0 2) 160 (wBd (fX100_indexOf 1 (((g4 4 0 0 (g4 3 0 0 2).toNatClampNeg).toUInt32 % 65536).toInt32)) fun y17 => if 0 ≤ y17 then (wGi (g4 3 0 0 2) 160 (fX5_next_b146 g4 (g4 4 0 0 (g4 3 0 0 2).toNatClampNeg))) else (fX5_next_b146 g4 (257 : Int32)))) else (wBd (fX5_readNumber g4) fun g26 => some g26))) else (wBd (fX5_readWord g4) fun g29 => some g29))) else (wLe (st g4 3 0 0 3 (256 : Int32)) fun g30 => some g30)
def fX5_next_B0 (g : Mm) : Option ((Mm) ⊕ (Mm)) :=
  if (g 3 0 0 1) ≤ (g 3 0 0 2) then (wEx (fX5_next_b39 g)) else (wGi (g 3 0 0 2) 160 (wBd (fX5_isBlank g (g 4 0 0 (g 3 0 0 2).toNatClampNeg)) fun y34 => if y34 = 0 then (wEx (fX5_next_b39 g)) else (wLe (st g 3 0 0 2 ((g 3 0 0 2) + (1 : Int32))) fun g38 => some (.inl g38))))
def fX5_next_L0 (g : Mm) : Option (Mm) :=
  wLp (fun q => fX5_next_B0 q) 1000 g
def fX5_next (g : Mm) : Option (Mm) :=
  fX5_next_L0 g
def fX5_isWord (g0 : Mm) (a1 : Int32) : Option (Int32) :=
  if (g0 3 0 0 3) = (259 : Int32) then (if (g0 3 0 0 5) = a1 then (some (1 : Int32)) else (some (0 : Int32))) else (some (0 : Int32))
def fX6_put (g : Mm) (i : Nat) (a1 : Int32) : Option (Mm) :=
  if (160 : Int32) ≤ (g 5 i 0 3) then (some g) else (wGi (g 5 i 0 3) 160 (wLe (st g 6 i 0 (g 5 i 0 3).toNatClampNeg a1) fun g3 => wLe (st g3 5 i 0 3 ((g3 5 i 0 3) + (1 : Int32))) fun g5 => some g5))
def fX5_enclosed (rec : RecT) (g : Mm) (a1 : Int32) : Option (Mm × Int32) :=
  wBd (fX5_next g) fun g3 => wB2 (rec 0 g3 a1) fun g6 y5 => if y5 = 0 then (some (g6, (0 : Int32))) else (if (g6 3 0 0 3) = (41 : Int32) then (wBd (fX5_next g6) fun g11 => some (g11, (1 : Int32))) else (some (g6, (0 : Int32))))
def fX5_negative (rec : RecT) (g : Mm) (a1 : Int32) : Option (Mm × Int32) :=
  wBd (fX5_next g) fun g3 => wB2 (rec 6 g3 a1) fun g6 y5 => if y5 = 0 then (some (g6, (0 : Int32))) else (wGr (g6 3 0 0 6) fun n8 => wBd (fX6_put g6 n8 (10016 : Int32)) fun g13 => some (g13, (1 : Int32)))
def fX5_one_b29 (rec : RecT) (g : Mm) (a1 : Int32) : Option (Mm × Int32) :=
  wGr (g 3 0 0 6) fun n2 => if (g 3 0 0 3) = (258 : Int32) then (wBd (fX6_put g n2 (g 3 0 0 5)) fun g14 => wBd (fX5_next g14) fun g17 => some (g17, (1 : Int32))) else (wBd (fX6_put g n2 (((10000 : Int32) + (g 3 0 0 5)) - (6 : Int32))) fun g8 => wBd (fX5_next g8) fun g11 => some (g11, (1 : Int32)))
def fX5_one_b88 (rec : RecT) (g : Mm) (a1 : Int32) : Option (Mm × Int32) :=
  if a1 < (5 : Int32) then (if (g 3 0 0 3) = (40 : Int32) then (wB2 (rec 7 g (a1 + (1 : Int32))) fun g28 y27 => wGb y27 (some (g28, y27))) else (wB2 (rec 8 g (a1 + (1 : Int32))) fun g24 y23 => wGb y23 (some (g24, y23)))) else (some (g, (0 : Int32)))
def fX5_one_b70 (rec : RecT) (g : Mm) (a1 : Int32) : Option (Mm × Int32) :=
  if (g 3 0 0 3) = (40 : Int32) then (fX5_one_b88 rec g a1) else (if (g 3 0 0 3) = (45 : Int32) then (fX5_one_b88 rec g a1) else (some (g, (0 : Int32))))
def fX5_one (rec : RecT) (g : Mm) (a1 : Int32) : Option (Mm × Int32) :=
  if (g 3 0 0 3) = (258 : Int32) then (fX5_one_b29 rec g a1) else (if (g 3 0 0 3) = (259 : Int32) then (if (g 3 0 0 5) < (6 : Int32) then (fX5_one_b70 rec g a1) else (fX5_one_b29 rec g a1)) else (fX5_one_b70 rec g a1))
def fX5_term_B12 (rec : RecT) (g : Mm) (a1 : Int32) (x2 : Int32) : Option ((Mm × Int32) ⊕ (Mm × Int32)) :=
  if (160 : Int32) ≤ x2 then (wEx (some (g, (1 : Int32)))) else (if (g 3 0 0 3) = (42 : Int32) then (wBd (fX5_next g) fun g15 => wB2 (rec 6 g15 a1) fun g18 y17 => if y17 = 0 then (wEx (some (g18, (0 : Int32)))) else (wGr (g18 3 0 0 6) fun n20 => wBd (fX6_put g18 n20 (10015 : Int32)) fun g25 => wLe (x2 + 1) fun y26 => some (.inl (g25, y26)))) else (wEx (some (g, (1 : Int32)))))
def fX5_term_L12 (rec : RecT) (g : Mm) (a1 : Int32) (x2 : Int32) : Option (Mm × Int32) :=
  wLp (fun q => fX5_term_B12 rec q.1 a1 q.2) 1000 (g, x2)
def fX5_term (rec : RecT) (g : Mm) (a1 : Int32) : Option (Mm × Int32) :=
  wB2 (rec 6 g a1) fun g3 y2 => if y2 = 0 then (some (g3, (0 : Int32))) else (wLe (0 : Int32) fun y5 => fX5_term_L12 rec g3 a1 y5)
def fX5_sum_b55 (rec : RecT) (g : Mm) (a1 : Int32) (x2 : Int32) (z0 : Int32) : Option ((Mm × Int32) ⊕ (Mm × Int32)) :=
  wBd (fX5_next g) fun g14 => wB2 (rec 5 g14 a1) fun g17 y16 => if y16 = 0 then (wEx (some (g17, (0 : Int32)))) else (wGr (g17 3 0 0 6) fun n19 => wBd (fX6_put g17 n19 z0) fun g24 => wLe (x2 + 1) fun y25 => some (.inl (g24, y25)))
def fX5_sum_b37 (rec : RecT) (g : Mm) (a1 : Int32) (x2 : Int32) : Option ((Mm × Int32) ⊕ (Mm × Int32)) :=
  if (g 3 0 0 3) = (43 : Int32) then (fX5_sum_b55 rec g a1 x2 (10013 : Int32)) else (fX5_sum_b55 rec g a1 x2 (10014 : Int32))
def fX5_sum_B12 (rec : RecT) (g : Mm) (a1 : Int32) (x2 : Int32) : Option ((Mm × Int32) ⊕ (Mm × Int32)) :=
  if (160 : Int32) ≤ x2 then (wEx (some (g, (1 : Int32)))) else (if (g 3 0 0 3) = (43 : Int32) then (fX5_sum_b37 rec g a1 x2) else (if (g 3 0 0 3) = (45 : Int32) then (fX5_sum_b37 rec g a1 x2) else (wEx (some (g, (1 : Int32))))))
def fX5_sum_L12 (rec : RecT) (g : Mm) (a1 : Int32) (x2 : Int32) : Option (Mm × Int32) :=
  wLp (fun q => fX5_sum_B12 rec q.1 a1 q.2) 1000 (g, x2)
def fX5_sum (rec : RecT) (g : Mm) (a1 : Int32) : Option (Mm × Int32) :=
  wB2 (rec 5 g a1) fun g3 y2 => if y2 = 0 then (some (g3, (0 : Int32))) else (wLe (0 : Int32) fun y5 => fX5_sum_L12 rec g3 a1 y5)
def fX5_compared_b48 (rec : RecT) (g : Mm) (a1 : Int32) (z0 : Int32) : Option (Mm × Int32) :=
  wBd (fX5_next g) fun g9 => wB2 (rec 4 g9 a1) fun g12 y11 => if y11 = 0 then (some (g12, (0 : Int32))) else (wGr (g12 3 0 0 6) fun n14 => wBd (fX6_put g12 n14 z0) fun g19 => some (g19, (1 : Int32)))
def fX5_compared_b30 (rec : RecT) (g : Mm) (a1 : Int32) : Option (Mm × Int32) :=
  if (g 3 0 0 3) = (60 : Int32) then (fX5_compared_b48 rec g a1 (10011 : Int32)) else (fX5_compared_b48 rec g a1 (10012 : Int32))
def fX5_compared (rec : RecT) (g : Mm) (a1 : Int32) : Option (Mm × Int32) :=
  wB2 (rec 4 g a1) fun g3 y2 => if y2 = 0 then (some (g3, (0 : Int32))) else (if (g3 3 0 0 3) = (60 : Int32) then (fX5_compared_b30 rec g3 a1) else (if (g3 3 0 0 3) = (61 : Int32) then (fX5_compared_b30 rec g3 a1) else (some (g3, (1 : Int32)))))
def fX5_negated (rec : RecT) (g : Mm) (a1 : Int32) : Option (Mm × Int32) :=
  wBd (fX5_isWord g (5 : Int32)) fun y2 => if y2 = 0 then (wB2 (rec 3 g a1) fun g20 y19 => wGb y19 (some (g20, y19))) else (if a1 < (5 : Int32) then (wBd (fX5_next g) fun g7 => wB2 (rec 2 g7 (a1 + (1 : Int32))) fun g10 y9 => if y9 = 0 then (some (g10, (0 : Int32))) else (wGr (g10 3 0 0 6) fun n12 => wBd (fX6_put g10 n12 (10010 : Int32)) fun g17 => some (g17, (1 : Int32)))) else (some (g, (0 : Int32))))
def fX5_both_B12 (rec : RecT) (g : Mm) (a1 : Int32) (x2 : Int32) : Option ((Mm × Int32) ⊕ (Mm × Int32)) :=
  if (160 : Int32) ≤ x2 then (wEx (some (g, (1 : Int32)))) else (wBd (fX5_isWord g (4 : Int32)) fun y11 => if y11 = 0 then (wEx (some (g, (1 : Int32)))) else (wBd (fX5_next g) fun g17 => wB2 (rec 2 g17 a1) fun g20 y19 => if y19 = 0 then (wEx (some (g20, (0 : Int32)))) else (wGr (g20 3 0 0 6) fun n22 => wBd (fX6_put g20 n22 (10009 : Int32)) fun g27 => wLe (x2 + 1) fun y28 => some (.inl (g27, y28)))))
def fX5_both_L12 (rec : RecT) (g : Mm) (a1 : Int32) (x2 : Int32) : Option (Mm × Int32) :=
  wLp (fun q => fX5_both_B12 rec q.1 a1 q.2) 1000 (g, x2)
def fX5_both (rec : RecT) (g : Mm) (a1 : Int32) : Option (Mm × Int32) :=
  wB2 (rec 2 g a1) fun g3 y2 => if y2 = 0 then (some (g3, (0 : Int32))) else (wLe (0 : Int32) fun y5 => fX5_both_L12 rec g3 a1 y5)
def fX5_either_B12 (rec : RecT) (g : Mm) (a1 : Int32) (x2 : Int32) : Option ((Mm × Int32) ⊕ (Mm × Int32)) :=
  if (160 : Int32) ≤ x2 then (wEx (some (g, (1 : Int32)))) else (wBd (fX5_isWord g (3 : Int32)) fun y11 => if y11 = 0 then (wEx (some (g, (1 : Int32)))) else (wBd (fX5_next g) fun g17 => wB2 (rec 1 g17 a1) fun g20 y19 => if y19 = 0 then (wEx (some (g20, (0 : Int32)))) else (wGr (g20 3 0 0 6) fun n22 => wBd (fX6_put g20 n22 (10008 : Int32)) fun g27 => wLe (x2 + 1) fun y28 => some (.inl (g27, y28)))))
def fX5_either_L12 (rec : RecT) (g : Mm) (a1 : Int32) (x2 : Int32) : Option (Mm × Int32) :=
  wLp (fun q => fX5_either_B12 rec q.1 a1 q.2) 1000 (g, x2)
def fX5_either (rec : RecT) (g : Mm) (a1 : Int32) : Option (Mm × Int32) :=
  wB2 (rec 1 g a1) fun g3 y2 => if y2 = 0 then (some (g3, (0 : Int32))) else (wLe (0 : Int32) fun y5 => fX5_either_L12 rec g3 a1 y5)
def grR : Nat → RecT
  | 0 => fun _ _ _ => none
  | n + 1 => fun q g a => match q with
    | 0 => fX5_either (grR n) g a
    | 1 => fX5_both (grR n) g a
    | 2 => fX5_negated (grR n) g a
    | 3 => fX5_compared (grR n) g a
    | 4 => fX5_sum (grR n) g a
    | 5 => fX5_term (grR n) g a
    | 6 => fX5_one (grR n) g a
    | 7 => fX5_enclosed (grR n) g a
    | 8 => fX5_negative (grR n) g a
    | _ => none
def fX6_endPart (g : Mm) (i : Nat) (a1 : Int32) : Option (Mm) :=
  wGi a1 3 (wLe (st g 7 i 0 (a1).toNatClampNeg (g 5 i 0 3)) fun g2 => some g2)
def fX5_read_B28 (g : Mm) (a1 : Int32) (i2 : Nat) (x3 : Int32) : Option ((Mm × Int32) ⊕ (Mm × Int32)) :=
  if (3 : Int32) ≤ x3 then (wEx (if (g 3 0 0 3) = (256 : Int32) then (some (g, (-1 : Int32))) else (some (g, g 3 0 0 4)))) else (wBd (fX5_isWord g x3) fun y23 => if y23 = 0 then (wEx (some (g, g 3 0 0 4))) else (wBd (fX5_next g) fun g27 => wB2 (grR 100 0 g27 (0 : Int32)) fun g30 y29 => if y29 = 0 then (wEx (some (g30, g30 3 0 0 4))) else (if (g30 3 0 0 3) = (59 : Int32) then (wBd (fX5_next g30) fun g37 => wGr (g37 3 0 0 6) fun n38 => wBd (fX6_endPart g37 n38 x3) fun g43 => wLe (x3 + 1) fun y44 => some (.inl (g43, y44))) else (wEx (some (g30, g30 3 0 0 4))))))
def fX5_read_L28 (g : Mm) (a1 : Int32) (i2 : Nat) (x3 : Int32) : Option (Mm × Int32) :=
  wLp (fun q => fX5_read_B28 q.1 a1 i2 q.2) 1000 (g, x3)
def fX5_read (g : Mm) (a1 : Int32) (i2 : Nat) : Option (Mm × Int32) :=
  wLe (st g 3 0 0 1 a1) fun g1 => wLe (st g1 3 0 0 2 (0 : Int32)) fun g3 => wLe (st g3 3 0 0 6 (nI (i2 + 1))) fun g5 => wGr (g5 3 0 0 6) fun n7 => wBd (fX6_clear g5 n7) fun g12 => wBd (fX5_next g12) fun g15 => wLe (0 : Int32) fun y16 => fX5_read_L28 g15 a1 i2 y16
def fX7_renew_B21 (g : Mm) (i : Nat) (a1 : Int32) (a2 : Int32) (x3 : Int32) : Option ((Mm × Int32) ⊕ (Mm)) :=
  if (40 : Int32) ≤ x3 then (wEx (some g)) else (wGi x3 40 (wLe (st g 30 i 0 (x3).toNatClampNeg (0 : Int32)) fun g12 => wLe (x3 + 1) fun y14 => some (.inl (g12, y14))))
def fX7_renew_L21 (g : Mm) (i : Nat) (a1 : Int32) (a2 : Int32) (x3 : Int32) : Option (Mm) :=
  wLp (fun q => fX7_renew_B21 q.1 i a1 a2 q.2) 1000 (g, x3)
def fX7_renew_b16 (g : Mm) (i : Nat) (a1 : Int32) (a2 : Int32) (z1 : Int32) : Option (Mm) :=
  wLe (st g 29 i 0 1 z1) fun g4 => wLe (0 : Int32) fun y6 => fX7_renew_L21 g4 i a1 a2 y6
def fX7_renew (g : Mm) (i : Nat) (a1 : Int32) (a2 : Int32) : Option (Mm) :=
  wLe (st g 29 i 0 0 a1) fun g1 => if a1 = (-1 : Int32) then (fX7_renew_b16 g1 i a1 a2 (0 : Int32)) else (fX7_renew_b16 g1 i a1 a2 a2)
def fX7_isMissing (g0 : Mm) (i : Nat) : Option (Int32) :=
  if (g0 29 i 0 0) = (-1 : Int32) then (some (1 : Int32)) else (some (0 : Int32))
def fX7_has (g0 : Mm) (i : Nat) (a1 : Int32) : Option (Int32) :=
  if a1 < 0 then (some (0 : Int32)) else (if (g0 29 i 0 1) ≤ a1 then (some (0 : Int32)) else (some (1 : Int32)))
def fX7_spans (g0 : Mm) (i : Nat) (a1 : Int32) (a2 : Int32) : Option (Int32) :=
  if a1 < 0 then (some (0 : Int32)) else (if a2 < 0 then (some (0 : Int32)) else (if (g0 29 i 0 1) < a2 then (some (0 : Int32)) else (if ((g0 29 i 0 1) - a2) < a1 then (some (0 : Int32)) else (some (1 : Int32)))))
def fX7_put (g : Mm) (i : Nat) (a1 : Int32) (a2 : Int32) : Option (Mm) :=
  if (g 29 i 0 0) = 0 then (wGi a1 40 (wLe (st g 30 i 0 (a1).toNatClampNeg a2.toInt8.toInt32) fun g10 => some g10)) else (if (g 29 i 0 0) = (1 : Int32) then (wGi a1 40 (wLe (st g 30 i 0 (a1).toNatClampNeg a2.toInt16.toInt32) fun g7 => some g7)) else (wGi a1 40 (wLe (st g 30 i 0 (a1).toNatClampNeg a2) fun g4 => some g4)))
def fX8_take (g : Mm) : Option (Mm × Int32) :=
  if (g 1 0 0 1) < (6 : Int32) then (wGi (g 1 0 0 1) 6 (wB2 (fX5_read g (g 1 0 0 0) ((g 1 0 0 1).toNatClampNeg)) fun g5 y4 => wLe (st g5 1 0 0 0 (0 : Int32)) fun g6 => if y4 < 0 then (wLe (st g6 1 0 0 1 ((g6 1 0 0 1) + (1 : Int32))) fun g9 => some (g9, g6 1 0 0 1)) else (some (g6, (-100 : Int32) - y4)))) else (some (g, (-4 : Int32)))
def fX8_rule (g0 : Mm) : Option (Nat) :=
  wGi (g0 1 0 0 2) 6 (some ((g0 1 0 0 2).toNatClampNeg))
def fX8_append_B20 (g : Mm) (a1 : Int64) (a3 : Int32) (x4 : Int32) : Option ((Mm × Int32) ⊕ (Mm × Int32)) :=
  if x4 < 0 then (wEx (some (g, g 1 0 0 0))) else (wGi (g 1 0 0 0) 160 (wLe (st g 4 0 0 (g 1 0 0 0).toNatClampNeg (((a1 >>> (((8 : Int32) * x4).toInt64 &&& 63)).toInt32) &&& (255 : Int32))) fun g8 => wLe (st g8 1 0 0 0 ((g8 1 0 0 0) + (1 : Int32))) fun g10 => wLe (x4 + (-1)) fun y12 => some (.inl (g10, y12))))
def fX8_append_L20 (g : Mm) (a1 : Int64) (a3 : Int32) (x4 : Int32) : Option (Mm × Int32) :=
  wLp (fun q => fX8_append_B20 q.1 a1 a3 q.2) 1000 (g, x4)
def fX8_append (g : Mm) (a1 : Int64) (a3 : Int32) : Option (Mm × Int32) :=
  if ((g 1 0 0 0) + a3) ≤ (160 : Int32) then (wLe (a3 - (1 : Int32)) fun y2 => fX8_append_L20 g a1 a3 y2) else (some (g, (-4 : Int32)))
def fX9_isAhead (g0 : Mm) (i : Nat) (v : Nat) : Option (Int32) :=
  if (g0 19 i v 6) = 0 then (some (1 : Int32)) else (if (g0 19 i v 6) = (1 : Int32) then (some (1 : Int32)) else (some (0 : Int32)))
def fX9_told (g0 : Mm) (i : Nat) (v : Nat) (a1 : Int32) : Option (Int32) :=
  if a1 = 0 then (some (g0 19 i v 0)) else if a1 = 1 then (some (g0 19 i v 6)) else if a1 = 2 then (some (g0 19 i v 7)) else if a1 = 3 then (some (g0 19 i v 8)) else if a1 = 4 then (wBd (fX9_comes g0 i v) fun y7 => some y7) else if a1 = 5 then (some (g0 19 i v 2)) else if a1 = 6 then (some (g0 19 i v 9)) else if a1 = 7 then (wBd (fX9_lateTicks g0 i v) fun y12 => some y12) else if a1 = 8 then (some (g0 19 i v 10)) else if a1 = 9 then (some (g0 19 i v 5)) else if a1 = 10 then (wBd (fX9_limit g0 i v) fun y17 => some y17) else (some (-2 : Int32))
def fX10_stand (g : Mm) (a1 : Int32) : Option (Mm × Int32) :=
  if a1 < (1 : Int32) then (some (g, (-2 : Int32))) else (if a1 ≤ (3 : Int32) then (wB2 (fX4_addStand g 0 a1) fun g5 y4 => some (g5, y4)) else (some (g, (-2 : Int32))))
def fX10_set_b32 (g : Mm) (a1 : Int32) (a2 : Int32) : Option (Mm × Int32) :=
  wGi a1 9 (wLe (g 10 0 0 (a1).toNatClampNeg) fun y6 => wGi a1 9 (wLe (st g 10 0 0 (a1).toNatClampNeg a2) fun g9 => some (g9, y6)))
def fX10_set (g : Mm) (a1 : Int32) (a2 : Int32) : Option (Mm × Int32) :=
  wBd (fX4_maySet g a1 a2) fun y2 => if y2 = 0 then (some (g, (-2 : Int32))) else (if (5 : Int32) ≤ a1 then (fX10_set_b32 g a1 a2) else (wGi a1 5 (if (g 11 0 0 (a1).toNatClampNeg) ≤ a2 then (fX10_set_b32 g a1 a2) else (some (g, (-3 : Int32))))))
def fX10_visit_b56 (g : Mm) (a1 : Int32) (a2 : Int32) (a3 : Int32) (a4 : Int32) (z0 : Int32) : Option (Mm × Int32) :=
  if z0 = 0 then (some (g, (-2 : Int32))) else (wB2 (fX4_addVisit g 0 a1 a2 a3 a4) fun g7 y6 => some (g7, y6))
def fX10_visit_b55 (g : Mm) (a1 : Int32) (a2 : Int32) (a3 : Int32) (a4 : Int32) : Option (Mm × Int32) :=
  fX10_visit_b56 g a1 a2 a3 a4 (0 : Int32)
def fX10_visit (g : Mm) (a1 : Int32) (a2 : Int32) (a3 : Int32) (a4 : Int32) : Option (Mm × Int32) :=
  wBd (fX3_isKind g a1) fun y2 => if y2 = 0 then (fX10_visit_b55 g a1 a2 a3 a4) else (if a2 < (g 9 0 0 0) then (fX10_visit_b55 g a1 a2 a3 a4) else (if (9999 : Int32) < a2 then (fX10_visit_b55 g a1 a2 a3 a4) else (if a3 ≤ a2 then (fX10_visit_b55 g a1 a2 a3 a4) else (if (9999 : Int32) < a3 then (fX10_visit_b55 g a1 a2 a3 a4) else (if a4 < (1 : Int32) then (fX10_visit_b55 g a1 a2 a3 a4) else (if (999 : Int32) < a4 then (fX10_visit_b55 g a1 a2 a3 a4) else (fX10_visit_b56 g a1 a2 a3 a4 (1 : Int32))))))))
def fX10_late (g : Mm) (a1 : Int32) (a2 : Int32) : Option (Mm × Int32) :=
  wBd (fX4_hasVisit g 0 a1) fun y2 => if y2 = 0 then (some (g, (-1 : Int32))) else (if a2 < 0 then (some (g, (-2 : Int32))) else (if a2 ≤ (999 : Int32) then (wGi a1 12 (if (g 19 0 ((a1).toNatClampNeg) 6) = 0 then (wLe (g 19 0 ((a1).toNatClampNeg) 4) fun y8 => wLe (st g 19 0 ((a1).toNatClampNeg) 4 a2) fun g10 => some (g10, y8)) else (some (g, (-3 : Int32))))) else (some (g, (-2 : Int32)))))
def fX10_wish_b29 (g : Mm) (a1 : Int32) (a2 : Int32) : Option (Mm × Int32) :=
  wBd (fX4_fits g 0 a1 a2) fun y6 => if y6 = 0 then (some (g, (-2 : Int32))) else (wGi a1 12 (wBd (fX9_isAhead g 0 ((a1).toNatClampNeg)) fun y10 => if y10 = 0 then (some (g, (-3 : Int32))) else (wLe (g 19 0 ((a1).toNatClampNeg) 5) fun y12 => wLe (st g 19 0 ((a1).toNatClampNeg) 5 a2) fun g14 => if 0 ≤ y12 then (some (g14, y12)) else (some (g14, (6 : Int32))))))
def fX10_wish (g : Mm) (a1 : Int32) (a2 : Int32) : Option (Mm × Int32) :=
  wBd (fX4_hasVisit g 0 a1) fun y2 => if y2 = 0 then (some (g, (-1 : Int32))) else (if a2 = (-1 : Int32) then (fX10_wish_b29 g a1 a2) else (wBd (fX4_hasStand g 0 a2) fun y18 => if y18 = 0 then (some (g, (-1 : Int32))) else (fX10_wish_b29 g a1 a2)))
def fX10_feed (g : Mm) (a1 : Int32) (a2 : Int32) (a3 : Int32) (a4 : Int32) : Option (Mm × Int32) :=
  wBd (fX4_hasVisit g 0 a1) fun y2 => if y2 = 0 then (some (g, (-1 : Int32))) else (wBd (fX4_hasVisit g 0 a2) fun y5 => if y5 = 0 then (some (g, (-1 : Int32))) else (if a1 = a2 then (some (g, (-2 : Int32))) else (if a3 < (1 : Int32) then (some (g, (-2 : Int32))) else (if (99 : Int32) < a3 then (some (g, (-2 : Int32))) else (if a4 < (1 : Int32) then (some (g, (-2 : Int32))) else (if a4 ≤ (99 : Int32) then (wGi a1 12 (if (g 19 0 ((a1).toNatClampNeg) 6) = 0 then (wGi a2 12 (if (g 19 0 ((a2).toNatClampNeg) 6) = 0 then (wB2 (fX4_addFeed g 0 a1 a2 a3 a4) fun g18 y17 => some (g18, y17)) else (some (g, (-3 : Int32))))) else (some (g, (-3 : Int32))))) else (some (g, (-2 : Int32)))))))))
def fX10_refusedAhead (g0 : Mm) (a1 : Int32) (a2 : Int32) : Option (Int32) :=
  if a1 < (1 : Int32) then (some (-2 : Int32)) else (if a1 ≤ a2 then (if ((g0 9 0 0 0) + a1) ≤ (9999 : Int32) then (some (0 : Int32)) else (some (-4 : Int32))) else (some (-2 : Int32)))
def fX10_run_B17 (g : Mm) (a1 : Int32) (x3 : Int32) : Option ((Mm × Int32) ⊕ (Mm × Int32)) :=
  if a1 ≤ x3 then (wEx (some (g, g 9 0 0 0))) else (wBd (fX4_step g 0) fun g11 => wLe (x3 + 1) fun y12 => some (.inl (g11, y12)))
def fX10_run_L17 (g : Mm) (a1 : Int32) (x3 : Int32) : Option (Mm × Int32) :=
  wLp (fun q => fX10_run_B17 q.1 a1 q.2) 1000 (g, x3)
def fX10_run (g : Mm) (a1 : Int32) : Option (Mm × Int32) :=
  wBd (fX10_refusedAhead g a1 (200 : Int32)) fun y2 => if y2 = 0 then (wLe (0 : Int32) fun y4 => fX10_run_L17 g a1 y4) else (some (g, y2))
def fX10_visitTold (g0 : Mm) (a1 : Int32) (a2 : Int32) : Option (Int32) :=
  wBd (fX4_hasVisit g0 0 a1) fun y2 => if y2 = 0 then (some (-1 : Int32)) else (wGi a1 12 (wBd (fX9_told g0 0 ((a1).toNatClampNeg) a2) fun y6 => some y6))
def fX10_cause (g0 : Mm) (a1 : Int32) (a2 : Int32) : Option (Int32) :=
  wBd (fX4_hasVisit g0 0 a1) fun y2 => if y2 = 0 then (some (-1 : Int32)) else (if a2 < 0 then (some (-2 : Int32)) else (if a2 < (9 : Int32) then (wGi a1 12 (wGi a2 9 (some (g0 21 0 ((a1).toNatClampNeg) (a2).toNatClampNeg)))) else (some (-2 : Int32))))
def fX10_feedTold (g0 : Mm) (a1 : Int32) (a2 : Int32) : Option (Int32) :=
  wBd (fX4_hasFeed g0 0 a1) fun y2 => if y2 = 0 then (some (-1 : Int32)) else (wGi a1 16 (wBd (fX1_told g0 0 ((a1).toNatClampNeg) a2) fun y6 => some y6))
def fX10_standTold (g0 : Mm) (a1 : Int32) (a2 : Int32) : Option (Int32) :=
  wBd (fX4_hasStand g0 0 a1) fun y2 => if y2 = 0 then (some (-3 : Int32)) else (if a2 = 0 then (wGi a1 6 (some (g0 12 0 0 (a1).toNatClampNeg))) else (if a2 = (1 : Int32) then (wGi a1 6 (some (g0 13 0 0 (a1).toNatClampNeg))) else (some (-2 : Int32))))
def fX10_runwayTold (g0 : Mm) (a1 : Int32) (a2 : Int32) : Option (Int32) :=
  if a1 < 0 then (some (-3 : Int32)) else (if a1 < (2 : Int32) then (if a2 = 0 then (wGi a1 2 (some (g0 14 0 0 (a1).toNatClampNeg))) else (if a2 = (1 : Int32) then (wGi a1 2 (some (g0 15 0 0 (a1).toNatClampNeg))) else (some (-2 : Int32)))) else (some (-3 : Int32)))
def fX10_ticks (g0 : Mm) (a1 : Int32) (a2 : Int32) : Option (Int32) :=
  wBd (fX3_isKind g0 a1) fun y2 => if y2 = 0 then (some (-2 : Int32)) else (if a2 < 0 then (some (-2 : Int32)) else (if a2 < (8 : Int32) then (wBd (fX3_lasts g0 a1 a2) fun y7 => some y7) else (some (-2 : Int32))))
def fX10_kindTold (g0 : Mm) (a1 : Int32) (a2 : Int32) : Option (Int32) :=
  wBd (fX3_isKind g0 a1) fun y2 => if y2 = 0 then (some (-2 : Int32)) else (if a2 = 0 then (wBd (fX3_size g0 a1) fun y9 => some y9) else (if a2 = (1 : Int32) then (wBd (fX3_roll g0 a1) fun y7 => some y7) else (some (-2 : Int32))))
def fX10_trucks (g0 : Mm) (a1 : Int32) (a2 : Int32) : Option (Int32) :=
  if a1 < 0 then (some (-3 : Int32)) else (if a1 < (5 : Int32) then (if a2 = 0 then (wGi a1 9 (some (g0 10 0 0 (a1).toNatClampNeg))) else (if a2 = (1 : Int32) then (wGi a1 5 (some (g0 11 0 0 (a1).toNatClampNeg))) else (some (-2 : Int32)))) else (some (-3 : Int32)))
def fX10_beside_B41 (g : Mm) (a1 : Int32) (a2 : Int32) (x4 : Int32) : Option ((Mm × Int32) ⊕ (Mm × Int32)) :=
  if a1 ≤ x4 then (wEx (wBd (fX4_outcome g 1 a2) fun y15 => some (g, y15))) else (wBd (fX4_step g 1) fun g18 => wLe (x4 + 1) fun y19 => some (.inl (g18, y19)))
def fX10_beside_L41 (g : Mm) (a1 : Int32) (a2 : Int32) (x4 : Int32) : Option (Mm × Int32) :=
  wLp (fun q => fX10_beside_B41 q.1 a1 a2 q.2) 1000 (g, x4)
def fX10_beside (g : Mm) (a1 : Int32) (a2 : Int32) : Option (Mm × Int32) :=
  if a2 < 0 then (some (g, (-2 : Int32))) else (if a2 < (5 : Int32) then (wBd (fX10_refusedAhead g a1 (200 : Int32)) fun y4 => if y4 = 0 then (wBd (fX4_become g 1 0) fun g8 => wLe (0 : Int32) fun y9 => fX10_beside_L41 g8 a1 a2 y9) else (some (g, y4))) else (some (g, (-2 : Int32))))
def fX103_bitCount (a0 : Int32) : Option (Int32) :=
  wLe (a0 - (((a0.toUInt32 >>> ((1 : Int32).toUInt32 &&& Int32.toUInt32 31)).toInt32) &&& (1431655765 : Int32))) fun y1 => wLe ((y1 &&& (858993459 : Int32)) + (((y1.toUInt32 >>> ((2 : Int32).toUInt32 &&& Int32.toUInt32 31)).toInt32) &&& (858993459 : Int32))) fun y3 => wLe ((y3 + ((y3.toUInt32 >>> ((4 : Int32).toUInt32 &&& Int32.toUInt32 31)).toInt32)) &&& (252645135 : Int32)) fun y5 => wLe (y5 + ((y5.toUInt32 >>> ((8 : Int32).toUInt32 &&& Int32.toUInt32 31)).toInt32)) fun y7 => wLe (y7 + ((y7.toUInt32 >>> ((16 : Int32).toUInt32 &&& Int32.toUInt32 31)).toInt32)) fun y9 => some (y9 &&& (63 : Int32))
def fX10_areAhead_b39 (g0 : Mm) (a1 : Int32) (x2 : Int32) : Option ((Int32) ⊕ (Int32)) :=
  wLe (x2 + 1) fun y7 => some (.inl y7)
def fX10_areAhead_B2 (g0 : Mm) (a1 : Int32) (x2 : Int32) : Option ((Int32) ⊕ (Int32)) :=
  if (g0 9 0 0 2) ≤ x2 then (wEx (some (1 : Int32))) else (if ((a1 >>> (x2 &&& 31)) &&& (1 : Int32)) = (1 : Int32) then (wGi x2 12 (wBd (fX9_isAhead g0 0 ((x2).toNatClampNeg)) fun y11 => if y11 = 0 then (wEx (some (0 : Int32))) else (fX10_areAhead_b39 g0 a1 x2))) else (fX10_areAhead_b39 g0 a1 x2))
def fX10_areAhead_L2 (g0 : Mm) (a1 : Int32) (x2 : Int32) : Option (Int32) :=
  wLp (fun q => fX10_areAhead_B2 g0 a1 q) 1000 x2
def fX10_areAhead (g0 : Mm) (a1 : Int32) : Option (Int32) :=
  wLe (0 : Int32) fun y1 => fX10_areAhead_L2 g0 a1 y1
def fX10_refusedPlan (g0 : Mm) (a1 : Int32) (a2 : Int32) : Option (Int32) :=
  if a1 = 0 then (some (-1 : Int32)) else (if ((a1.toUInt32 >>> ((g0 9 0 0 2).toUInt32 &&& Int32.toUInt32 31)).toInt32) = 0 then (wBd (fX10_refusedAhead g0 a2 (40 : Int32)) fun y4 => if y4 = (-2 : Int32) then (some (-2 : Int32)) else (wBd (fX103_bitCount a1) fun y7 => if y7 ≤ (2 : Int32) then (wBd (fX10_areAhead g0 a1) fun y10 => if y10 = 0 then (some (-3 : Int32)) else (some y4)) else (some (-2 : Int32)))) else (some (-1 : Int32)))
def fX10_lowest_B2 (g0 : Mm) (a1 : Int32) (x2 : Int32) : Option ((Int32) ⊕ (Int32)) :=
  if (g0 9 0 0 2) ≤ x2 then (wEx (some (-1 : Int32))) else (if ((a1 >>> (x2 &&& 31)) &&& (1 : Int32)) = (1 : Int32) then (wEx (some x2)) else (wLe (x2 + 1) fun y7 => some (.inl y7)))
def fX10_lowest_L2 (g0 : Mm) (a1 : Int32) (x2 : Int32) : Option (Int32) :=
  wLp (fun q => fX10_lowest_B2 g0 a1 q) 1000 x2
def fX10_lowest (g0 : Mm) (a1 : Int32) : Option (Int32) :=
  wLe (0 : Int32) fun y1 => fX10_lowest_L2 g0 a1 y1
def fX10_lateWith_B45 (g : Mm) (a1 : Int32) (a2 : Int32) (a3 : Int32) (a4 : Int32) (a5 : Int32) (x6 : Int32) : Option ((Mm × Int32) ⊕ (Mm × Int32)) :=
  if a5 ≤ x6 then (wEx (wBd (fX4_lateInAll g 1) fun y14 => some (g, y14))) else (wBd (fX4_step g 1) fun g17 => wLe (x6 + 1) fun y18 => some (.inl (g17, y18)))
def fX10_lateWith_L45 (g : Mm) (a1 : Int32) (a2 : Int32) (a3 : Int32) (a4 : Int32) (a5 : Int32) (x6 : Int32) : Option (Mm × Int32) :=
  wLp (fun q => fX10_lateWith_B45 q.1 a1 a2 a3 a4 a5 q.2) 1000 (g, x6)
def fX10_lateWith_b42 (g : Mm) (a1 : Int32) (a2 : Int32) (a3 : Int32) (a4 : Int32) (a5 : Int32) : Option (Mm × Int32) :=
  wLe (0 : Int32) fun y8 => fX10_lateWith_L45 g a1 a2 a3 a4 a5 y8
def fX10_lateWith (g : Mm) (a1 : Int32) (a2 : Int32) (a3 : Int32) (a4 : Int32) (a5 : Int32) : Option (Mm × Int32) :=
  wBd (fX4_become g 1 0) fun g3 => wGi a1 12 (wLe (st g3 19 1 ((a1).toNatClampNeg) 5 a2) fun g5 => if a3 < 0 then (fX10_lateWith_b42 g5 a1 a2 a3 a4 a5) else (wGi a3 12 (wLe (st g5 19 1 ((a3).toNatClampNeg) 5 a4) fun g21 => fX10_lateWith_b42 g21 a1 a2 a3 a4 a5)))
def fX10_plan_b161 (g : Mm) (a1 : Int32) (a2 : Int32) (x4 : Int32) (x5 : Int32) (x6 : Int32) (x7 : Int32) (x8 : Int32) (x9 : Int32) : Option ((Mm × Int32 × Int32) ⊕ ((Mm × Int32 × Int32) ⊕ (Mm × Int32))) :=
  wLe (x9 + 1) fun y26 => some (.inl (g, x7, y26))
def fX10_plan_b143 (g : Mm) (a1 : Int32) (a2 : Int32) (x4 : Int32) (x5 : Int32) (x6 : Int32) (x8 : Int32) (x9 : Int32) (x10 : Int32) : Option ((Mm × Int32 × Int32) ⊕ ((Mm × Int32 × Int32) ⊕ (Mm × Int32))) :=
  wBd (fX2_keep g a1 x4 x8 x9) fun g35 => fX10_plan_b161 g35 a1 a2 x4 x5 x6 x10 x8 x9
def fX10_plan_b116 (g : Mm) (a1 : Int32) (a2 : Int32) (x4 : Int32) (x5 : Int32) (x6 : Int32) (x7 : Int32) (x8 : Int32) (x9 : Int32) : Option ((Mm × Int32 × Int32) ⊕ ((Mm × Int32 × Int32) ⊕ (Mm × Int32))) :=
  wB2 (fX10_lateWith g x4 x8 x5 x9 a2) fun g31 y30 => if x7 < 0 then (fX10_plan_b143 g31 a1 a2 x4 x5 x6 x8 x9 y30) else (if x7 ≤ y30 then (fX10_plan_b161 g31 a1 a2 x4 x5 x6 x7 x8 x9) else (fX10_plan_b143 g31 a1 a2 x4 x5 x6 x8 x9 y30))
def fX10_plan_B73 (g : Mm) (a1 : Int32) (a2 : Int32) (x4 : Int32) (x5 : Int32) (x6 : Int32) (x7 : Int32) (x8 : Int32) (x9 : Int32) : Option ((Mm × Int32 × Int32) ⊕ ((Mm × Int32 × Int32) ⊕ (Mm × Int32))) :=
  if x6 ≤ x9 then (wEx (wLe (x8 + 1) fun y21 => some (.inl (g, x7, y21)))) else (wBd (fX4_fits g 0 x4 x8) fun y24 => if y24 = 0 then (fX10_plan_b161 g a1 a2 x4 x5 x6 x7 x8 x9) else (if x5 < 0 then (fX10_plan_b116 g a1 a2 x4 x5 x6 x7 x8 x9) else (wBd (fX4_fits g 0 x5 x9) fun y38 => if y38 = 0 then (fX10_plan_b161 g a1 a2 x4 x5 x6 x7 x8 x9) else (fX10_plan_b116 g a1 a2 x4 x5 x6 x7 x8 x9))))
def fX10_plan_L73 (g : Mm) (a1 : Int32) (a2 : Int32) (x4 : Int32) (x5 : Int32) (x6 : Int32) (x7 : Int32) (x8 : Int32) (x9 : Int32) : Option ((Mm × Int32 × Int32) ⊕ (Mm × Int32)) :=
  wLp (fun q => fX10_plan_B73 q.1 a1 a2 x4 x5 x6 q.2.1 x8 q.2.2) 1000 (g, x7, x9)
def fX10_plan_B58 (g : Mm) (a1 : Int32) (a2 : Int32) (x4 : Int32) (x5 : Int32) (x6 : Int32) (x7 : Int32) (x8 : Int32) : Option ((Mm × Int32 × Int32) ⊕ (Mm × Int32)) :=
  if (g 9 0 0 1) ≤ x8 then (wEx (some (g, x7))) else (wLe (-1 : Int32) fun y16 => fX10_plan_L73 g a1 a2 x4 x5 x6 x7 x8 y16)
def fX10_plan_L58 (g : Mm) (a1 : Int32) (a2 : Int32) (x4 : Int32) (x5 : Int32) (x6 : Int32) (x7 : Int32) (x8 : Int32) : Option (Mm × Int32) :=
  wLp (fun q => fX10_plan_B58 q.1 a1 a2 x4 x5 x6 q.2.1 q.2.2) 1000 (g, x7, x8)
def fX10_plan_b50 (g : Mm) (a1 : Int32) (a2 : Int32) (x4 : Int32) (x5 : Int32) (z0 : Int32) : Option (Mm × Int32) :=
  wLe (-1 : Int32) fun y9 => wLe (-1 : Int32) fun y11 => fX10_plan_L58 g a1 a2 x4 x5 z0 y9 y11
def fX10_plan (g : Mm) (a1 : Int32) (a2 : Int32) : Option (Mm × Int32) :=
  wBd (fX10_refusedPlan g a1 a2) fun y2 => if y2 = 0 then (wBd (fX10_lowest g a1) fun y5 => wBd (fX10_lowest g (a1 &&& (((1 : Int32) <<< (y5 &&& 31)) ^^^ (-1 : Int32)))) fun y7 => if 0 ≤ y7 then (fX10_plan_b50 g a1 a2 y5 y7 (g 9 0 0 1)) else (fX10_plan_b50 g a1 a2 y5 y7 (0 : Int32))) else (some (g, y2))
def fX10_planned (g0 : Mm) (a1 : Int32) : Option (Int32) :=
  wBd (fX2_holds g0 a1) fun y2 => if y2 = 0 then (some (-3 : Int32)) else (wBd (fX2_wishOf g0 a1) fun y5 => some y5)
def fX10_settle_b61 (g : Mm) (x1 : Int32) : Option ((Mm × Int32) ⊕ (Mm × Int32)) :=
  wLe (x1 + 1) fun y14 => some (.inl (g, y14))
def fX10_settle_B19 (g : Mm) (x1 : Int32) : Option ((Mm × Int32) ⊕ (Mm × Int32)) :=
  if (g 9 0 0 2) ≤ x1 then (wEx (wBd (fX103_bitCount (g 23 0 0 0)) fun y10 => some (g, y10))) else (wBd (fX2_holds g x1) fun y12 => if y12 = 0 then (fX10_settle_b61 g x1) else (wGi x1 12 (wBd (fX2_wishOf g x1) fun y18 => wLe (st g 19 0 ((x1).toNatClampNeg) 5 y18) fun g19 => fX10_settle_b61 g19 x1)))
def fX10_settle_L19 (g : Mm) (x1 : Int32) : Option (Mm × Int32) :=
  wLp (fun q => fX10_settle_B19 q.1 q.2) 1000 (g, x1)
def fX10_settle (g : Mm) : Option (Mm × Int32) :=
  wBd (fX10_areAhead g (g 23 0 0 0)) fun y2 => if y2 = 0 then (some (g, (-3 : Int32))) else (wLe (0 : Int32) fun y4 => fX10_settle_L19 g y4)
def fX10_estimate (g : Mm) (a1 : Int32) (a2 : Int32) : Option (Mm × Int32) :=
  wBd (fX4_hasVisit g 0 a1) fun y2 => if y2 = 0 then (some (g, (-1 : Int32))) else (if a2 < 0 then (some (g, (-2 : Int32))) else (if a2 ≤ (9999 : Int32) then (wB2 (fX0_add g a1 a2 (g 9 0 0 0)) fun g8 y7 => some (g8, y7)) else (some (g, (-2 : Int32)))))
def fX10_thereBy (g0 : Mm) (a1 : Int32) (a2 : Int32) : Option (Int32) :=
  wGi a1 12 (wBd (fX0_thought g0 a1 a2 (g0 19 0 ((a1).toNatClampNeg) 1)) fun y3 => wBd (fX3_roll g0 (g0 19 0 ((a1).toNatClampNeg) 0)) fun y5 => some ((y3 + y5) + (4 : Int32)))
def fX10_expects_b60 (g0 : Mm) (a1 : Int32) (a2 : Int32) (x3v : Nat) (z0 : Int32) : Option (Int32) :=
  wBd (fX10_thereBy g0 a1 a2) fun y10 => wBd (fX3_wayThrough g0 (g0 19 0 x3v 0) z0) fun y12 => some (if (g0 19 0 x3v 2) < (y10 + y12) then (y10 + y12) else (g0 19 0 x3v 2))
def fX10_expects (g0 : Mm) (a1 : Int32) (a2 : Int32) : Option (Int32) :=
  wBd (fX4_hasVisit g0 0 a1) fun y2 => if y2 = 0 then (some (-1 : Int32)) else (if a2 < 0 then (some (-2 : Int32)) else (if a2 ≤ (g0 9 0 0 0) then (wGi a1 12 (wGi (6 : Int32) 9 (if (g0 10 0 0 ((6 : Int32)).toNatClampNeg) = (1 : Int32) then (fX10_expects_b60 g0 a1 a2 ((a1).toNatClampNeg) (1 : Int32)) else (fX10_expects_b60 g0 a1 a2 ((a1).toNatClampNeg) (0 : Int32))))) else (some (-2 : Int32))))
def fX10_cartThereBy (g0 : Mm) (i1 : Nat) (v1 : Nat) (a2 : Int32) : Option (Int32) :=
  wBd (fX10_thereBy g0 (g0 22 i1 v1 0) a2) fun y2 => wGi (g0 22 i1 v1 0) 12 (wBd (fX3_wayToUnload g0 (g0 19 0 ((g0 22 i1 v1 0).toNatClampNeg) 0)) fun y5 => some ((y2 + y5) + (g0 22 i1 v1 3)))
def fX10_misses_b139 (g0 : Mm) (a1 : Int32) (a2 : Int32) (x5 : Int32) (x6 : Int32) (x7 : Int32) : Option ((Int32 × Int32) ⊕ (Int32)) :=
  wLe (x7 + 1) fun y26 => some (.inl (x6, y26))
def fX10_misses_B84 (g0 : Mm) (a1 : Int32) (a2 : Int32) (x5 : Int32) (x6 : Int32) (x7 : Int32) : Option ((Int32 × Int32) ⊕ (Int32)) :=
  if (g0 9 0 0 3) ≤ x7 then (wEx (some x6)) else (wGi x7 16 (if (g0 22 0 ((x7).toNatClampNeg) 1) = a1 then (wBd (fX10_cartThereBy g0 0 ((x7).toNatClampNeg) a2) fun y29 => if y29 ≤ x5 then (fX10_misses_b139 g0 a1 a2 x5 x6 x7) else (wLe (x6 + (g0 22 0 ((x7).toNatClampNeg) 2)) fun y31 => fX10_misses_b139 g0 a1 a2 x5 y31 x7)) else (fX10_misses_b139 g0 a1 a2 x5 x6 x7)))
def fX10_misses_L84 (g0 : Mm) (a1 : Int32) (a2 : Int32) (x5 : Int32) (x6 : Int32) (x7 : Int32) : Option (Int32) :=
  wLp (fun q => fX10_misses_B84 g0 a1 a2 x5 q.1 q.2) 1000 (x6, x7)
def fX10_misses (g0 : Mm) (a1 : Int32) (a2 : Int32) : Option (Int32) :=
  wBd (fX4_hasVisit g0 0 a1) fun y2 => if y2 = 0 then (some (-1 : Int32)) else (if a2 < 0 then (some (-2 : Int32)) else (if a2 ≤ (g0 9 0 0 0) then (wGi a1 12 (wBd (fX10_thereBy g0 a1 a2) fun y8 => wBd (fX3_wayToLoad g0 (g0 19 0 ((a1).toNatClampNeg) 0)) fun y10 => wLe (y8 + y10) fun y11 => wBd (fX3_lasts g0 (g0 19 0 ((a1).toNatClampNeg) 0) (7 : Int32)) fun y14 => wLe (if ((g0 19 0 ((a1).toNatClampNeg) 2) - y14) < y11 then y11 else ((g0 19 0 ((a1).toNatClampNeg) 2) - y14)) fun y15 => wLe (0 : Int32) fun y17 => wLe (0 : Int32) fun y19 => fX10_misses_L84 g0 a1 a2 y15 y17 y19)) else (some (-2 : Int32))))
def fX10_feedTape (g : Mm) (a1 : Int64) (a3 : Int32) : Option (Mm × Int32) :=
  if a3 < (1 : Int32) then (some (g, (-2 : Int32))) else (if a3 ≤ (8 : Int32) then (wB2 (fX8_append g a1 a3) fun g5 y4 => some (g5, y4)) else (some (g, (-2 : Int32))))
def fX10_text (g : Mm) : Option (Mm × Int32) :=
  wB2 (fX8_take g) fun g3 y2 => some (g3, y2)
def fX10_force (g : Mm) (a1 : Int32) : Option (Mm × Int32) :=
  if a1 < 0 then (some (g, (-2 : Int32))) else (if a1 < (g 1 0 0 1) then (wLe (g 1 0 0 2) fun y3 => wLe (st g 1 0 0 2 a1) fun g5 => wBd (fX8_rule g5) fun y8 => wGd (y8 < 6) (wLe (st g5 9 0 0 4 (nI (y8 + 1))) fun g10 => some (g10, y3))) else (some (g, (-2 : Int32))))
def fX10_tells (g : Mm) (a1 : Int32) (a2 : Int32) : Option (Mm × Int64) :=
  wBd (fX4_hasVisit g 0 a1) fun y2 => if y2 = 0 then (some (g, (-4611686018427387904 : Int64))) else (if a2 < 0 then (some (g, (-4611686018427387904 : Int64))) else (if a2 < (3 : Int32) then (wBd (fX4_learn g 0 a1 (-1 : Int32)) fun g8 => wGr (g8 9 0 0 4) fun n9 => wB2 (fX6_says g8 n9 a2 0) fun g14 y13 => some (g14, y13.toInt64)) else (some (g, (-4611686018427387904 : Int64)))))
def fX10_count (g0 : Mm) (a1 : Int32) : Option (Int32) :=
  if a1 = 0 then (some (g0 9 0 0 0)) else if a1 = 1 then (some (g0 9 0 0 2)) else if a1 = 2 then (some (g0 9 0 0 1)) else if a1 = 3 then (some (g0 9 0 0 3)) else if a1 = 4 then (some (g0 1 0 0 1)) else if a1 = 5 then (some (g0 1 0 0 2)) else if a1 = 6 then (some (g0 1 0 0 0)) else if a1 = 7 then (some (g0 24 0 0 0)) else if a1 = 8 then (wBd (fX4_lateInAll g0 0) fun y11 => some y11) else if a1 = 9 then (wBd (fX4_missedBags g0 0) fun y14 => some y14) else if a1 = 10 then (wGi (7 : Int32) 9 (some (g0 10 0 0 ((7 : Int32)).toNatClampNeg))) else if a1 = 11 then (wGi (5 : Int32) 9 (some (g0 10 0 0 ((5 : Int32)).toNatClampNeg))) else if a1 = 12 then (wGi (6 : Int32) 9 (some (g0 10 0 0 ((6 : Int32)).toNatClampNeg))) else if a1 = 13 then (wGi (8 : Int32) 9 (some (g0 10 0 0 ((8 : Int32)).toNatClampNeg))) else (some (-2 : Int32))
def fX10_sheet_b43 (g : Mm) (a1 : Int32) (a2 : Int32) (a3 : Int32) : Option (Mm × Int32) :=
  wGi a1 4 (wBd (fX7_renew g ((a1).toNatClampNeg) a2 a3) fun g9 => some (g9, (1 : Int32)))
def fX10_sheet (g : Mm) (a1 : Int32) (a2 : Int32) (a3 : Int32) : Option (Mm × Int32) :=
  if a1 < 0 then (some (g, (-2 : Int32))) else (if (4 : Int32) ≤ a1 then (some (g, (-2 : Int32))) else (if a2 < (-1 : Int32) then (some (g, (-2 : Int32))) else (if a2 < (3 : Int32) then (if a2 = (-1 : Int32) then (fX10_sheet_b43 g a1 a2 a3) else (if a3 ≤ (40 : Int32) then (if 0 ≤ a3 then (fX10_sheet_b43 g a1 a2 a3) else (some (g, (-14 : Int32)))) else (some (g, (-2 : Int32))))) else (some (g, (-2 : Int32))))))
def fX10_cell (g : Mm) (a1 : Int32) (a2 : Int32) (a3 : Int32) : Option (Mm × Int32) :=
  if a1 < 0 then (some (g, (-2 : Int32))) else (if a1 < (4 : Int32) then (wGi a1 4 (wBd (fX7_isMissing g ((a1).toNatClampNeg)) fun y5 => if y5 = 0 then (wBd (fX7_has g ((a1).toNatClampNeg) a2) fun y8 => if y8 = 0 then (some (g, (-12 : Int32))) else (wBd (fX7_put g ((a1).toNatClampNeg) a2 a3) fun g12 => some (g12, (1 : Int32)))) else (some (g, (-11 : Int32))))) else (some (g, (-2 : Int32))))
def fX10_copy (g : Mm) (a1 : Int32) (a2 : Int32) (a3 : Int32) (a4 : Int32) (a5 : Int32) : Option (Mm × Int32) :=
  if a1 < 0 then (some (g, (-2 : Int32))) else (if (4 : Int32) ≤ a1 then (some (g, (-2 : Int32))) else (if a3 < 0 then (some (g, (-2 : Int32))) else (if a3 < (4 : Int32) then (wGi a1 4 (wGi a3 4 (wBd (fX7_isMissing g ((a1).toNatClampNeg)) fun y8 => if y8 = 0 then (wBd (fX7_isMissing g ((a3).toNatClampNeg)) fun y11 => if y11 = 0 then (if (g 29 ((a1).toNatClampNeg) 0 0) = (g 29 ((a3).toNatClampNeg) 0 0) then (wBd (fX7_spans g ((a1).toNatClampNeg) a2 a5) fun y15 => if y15 = 0 then (some (g, (-12 : Int32))) else (wBd (fX7_spans g ((a3).toNatClampNeg) a4 a5) fun y18 => if y18 = 0 then (some (g, (-12 : Int32))) else (wGd (wCk a2 a4 a5 40 40) (wLe (wCp g 30 ((a1).toNatClampNeg) 0 30 ((a3).toNatClampNeg) 0 a2 a4 a5) fun g20 => some (g20, a5))))) else (some (g, (-13 : Int32)))) else (some (g, (-11 : Int32)))) else (some (g, (-11 : Int32)))))) else (some (g, (-2 : Int32))))))
def fX10_visitsOf_b102 (g : Mm) (i1 : Nat) (a2 : Int32) (a3 : Int32) (x4 : Int32) (x5 : Int32) : Option ((Mm × Int32 × Int32) ⊕ (Mm × Int32)) :=
  wLe (x5 + 1) fun y24 => some (.inl (g, x4, y24))
def fX10_visitsOf_B6 (g : Mm) (i1 : Nat) (a2 : Int32) (a3 : Int32) (x4 : Int32) (x5 : Int32) : Option ((Mm × Int32 × Int32) ⊕ (Mm × Int32)) :=
  if a3 ≤ x5 then (wEx (some (g, x4))) else (wLe (a2.toInt64 + (x5.toInt64 * (4 : Int64))) fun y8 => if (lg_cmp y8 (0 : Int64)) < 0 then (wEx (some (g, (-12 : Int32)))) else (if (lg_cmp (y8 + (4 : Int64)) ((g 29 i1 0 1).toInt64)) ≤ 0 then (wLe y8.toInt32 fun y14 => wGi y14 40 (wGi (y14 + (1 : Int32)) 40 (wGi (y14 + (2 : Int32)) 40 (wGi (y14 + (3 : Int32)) 40 (wB2 (fX10_visit g (g 30 i1 0 (y14).toNatClampNeg) (g 30 i1 0 (y14 + (1 : Int32)).toNatClampNeg) (g 30 i1 0 (y14 + (2 : Int32)).toNatClampNeg) (g 30 i1 0 (y14 + (3 : Int32)).toNatClampNeg)) fun g22 y21 => if y21 < 0 then (fX10_visitsOf_b102 g22 i1 a2 a3 x4 x5) else (wLe (x4 + 1) fun y26 => fX10_visitsOf_b102 g22 i1 a2 a3 y26 x5)))))) else (wEx (some (g, (-12 : Int32))))))
def fX10_visitsOf_L6 (g : Mm) (i1 : Nat) (a2 : Int32) (a3 : Int32) (x4 : Int32) (x5 : Int32) : Option (Mm × Int32) :=
  wLp (fun q => fX10_visitsOf_B6 q.1 i1 a2 a3 q.2.1 q.2.2) 1000 (g, x4, x5)
def fX10_visitsOf (g : Mm) (i1 : Nat) (a2 : Int32) (a3 : Int32) : Option (Mm × Int32) :=
  wLe (0 : Int32) fun y1 => wLe (0 : Int32) fun y3 => fX10_visitsOf_L6 g i1 a2 a3 y1 y3
def fX10_visits_b35 (g : Mm) (a1 : Int32) (a2 : Int32) (a3 : Int32) (a4 : Int32) (z0 : Int32) : Option (Mm × Int32) :=
  if z0 = 0 then (some (g, (-2 : Int32))) else (wGi a1 4 (wBd (fX7_isMissing g ((a1).toNatClampNeg)) fun y5 => if y5 = 0 then (if (g 29 ((a1).toNatClampNeg) 0 0) = a2 then (wB2 (fX10_visitsOf g ((a1).toNatClampNeg) a3 a4) fun g10 y9 => some (g10, y9)) else (some (g, (-13 : Int32)))) else (some (g, (-11 : Int32)))))
def fX10_visits_b34 (g : Mm) (a1 : Int32) (a2 : Int32) (a3 : Int32) (a4 : Int32) : Option (Mm × Int32) :=
  fX10_visits_b35 g a1 a2 a3 a4 (0 : Int32)
def fX10_visits (g : Mm) (a1 : Int32) (a2 : Int32) (a3 : Int32) (a4 : Int32) : Option (Mm × Int32) :=
  if a1 < 0 then (fX10_visits_b34 g a1 a2 a3 a4) else (if (4 : Int32) ≤ a1 then (fX10_visits_b34 g a1 a2 a3 a4) else (if a2 < 0 then (fX10_visits_b34 g a1 a2 a3 a4) else (if (3 : Int32) ≤ a2 then (fX10_visits_b34 g a1 a2 a3 a4) else (if a4 < 0 then (fX10_visits_b34 g a1 a2 a3 a4) else (if (10 : Int32) < a4 then (fX10_visits_b34 g a1 a2 a3 a4) else (fX10_visits_b35 g a1 a2 a3 a4 (1 : Int32)))))))
def fX10_taken (g0 : Mm) (a1 : Int32) (a2 : Int32) : Option (Int32) :=
  wBd (fX3_isKind g0 a2) fun y2 => if y2 = 0 then (some (-2 : Int32)) else (wBd (fX4_hasVisit g0 0 a1) fun y5 => if y5 = 0 then (some (-11 : Int32)) else (wGi a1 12 (wLe (g0 19 0 ((a1).toNatClampNeg) 0) fun y8 => wBd (fX3_isA g0 y8 a2) fun y11 => if y11 = 0 then (some (-13 : Int32)) else (wBd (fX3_size g0 y8) fun y14 => some y14))))
def fX11_in (g0 : Mm) (a0 : Int32) (a1 : Int32) (a2 : Int32) : Option (Int32) :=
  if a0 < a1 then (some (0 : Int32)) else (if a2 < a0 then (some (0 : Int32)) else (some (1 : Int32)))
def fX11_isVisit (g0 : Mm) (a1 : Int32) : Option (Int32) :=
  wBd (fX11_in g0 a1 (0 : Int32) ((g0 0 0 0 1) - (1 : Int32))) fun y2 => wGb y2 (some y2)
def fX11_isStand (g0 : Mm) (a1 : Int32) : Option (Int32) :=
  wBd (fX11_in g0 a1 (0 : Int32) ((g0 0 0 0 3) - (1 : Int32))) fun y2 => wGb y2 (some y2)
def fX11_of (g0 : Mm) (a1 : Int32) (a2 : Int32) : Option (Int32) :=
  wGi (((30 : Int32) * a1) + a2) 510 (some (g0 1 0 0 (((30 : Int32) * a1) + a2).toNatClampNeg))
def fX11_ticksOf (g0 : Mm) (a1 : Int32) (a2 : Int32) : Option (Int32) :=
  wBd (fX11_of g0 a1 (0 : Int32)) fun y2 => wGi (((8 : Int32) * y2) + a2) 48 (some (g0 13 0 0 (((8 : Int32) * y2) + a2).toNatClampNeg))
def fX11_come (g0 : Mm) (a1 : Int32) : Option (Int32) :=
  wBd (fX11_of g0 a1 (1 : Int32)) fun y2 => wBd (fX11_of g0 a1 (5 : Int32)) fun y4 => some (y2 + y4)
def fX11_limit (g0 : Mm) (a1 : Int32) : Option (Int32) :=
  wBd (fX11_come g0 a1) fun y2 => wBd (fX11_of g0 a1 (3 : Int32)) fun y4 => some (y2 + y4)
def fX11_isDone (g0 : Mm) (a1 : Int32) (a2 : Int32) : Option (Int32) :=
  wBd (fX11_of g0 a1 (9 : Int32)) fun y2 => if ((y2 >>> (a2 &&& 31)) &&& (1 : Int32)) = (1 : Int32) then (some (1 : Int32)) else (some (0 : Int32))
def fX11_stand (g : Mm) (a1 : Int32) : Option (Mm × Int32) :=
  wBd (fX11_in g a1 (1 : Int32) (3 : Int32)) fun y2 => if y2 = 0 then (some (g, (-2 : Int32))) else (if (g 0 0 0 3) = (6 : Int32) then (some (g, (-4 : Int32))) else (wGi ((490 : Int32) + (g 0 0 0 3)) 510 (wLe (st g 1 0 0 ((490 : Int32) + (g 0 0 0 3)).toNatClampNeg a1) fun g6 => wLe (st g6 0 0 0 3 ((g6 0 0 0 3) + (1 : Int32))) fun g8 => some (g8, (g8 0 0 0 3) - (1 : Int32)))))
def fX11_set_b146 (g : Mm) (a1 : Int32) (a2 : Int32) (z0 : Int32) : Option (Mm × Int32) :=
  wGi z0 510 (wLe (g 1 0 0 (z0).toNatClampNeg) fun y13 => wGi z0 510 (wLe (st g 1 0 0 (z0).toNatClampNeg a2) fun g16 => some (g16, y13)))
def fX11_set_b95 (g : Mm) (a1 : Int32) (a2 : Int32) : Option (Mm × Int32) :=
  if (4 : Int32) < a1 then (if a1 = (5 : Int32) then (fX11_set_b146 g a1 a2 (481 : Int32)) else (if a1 = (6 : Int32) then (fX11_set_b146 g a1 a2 (482 : Int32)) else (if a1 = (7 : Int32) then (fX11_set_b146 g a1 a2 (483 : Int32)) else (fX11_set_b146 g a1 a2 (484 : Int32))))) else (fX11_set_b146 g a1 a2 ((470 : Int32) + a1))
def fX11_set_b65 (g : Mm) (a1 : Int32) (a2 : Int32) (z0 : Int32) : Option (Mm × Int32) :=
  if z0 = 0 then (some (g, (-2 : Int32))) else (if (4 : Int32) < a1 then (fX11_set_b95 g a1 a2) else (wGi ((475 : Int32) + a1) 510 (if (g 1 0 0 ((475 : Int32) + a1).toNatClampNeg) ≤ a2 then (fX11_set_b95 g a1 a2) else (some (g, (-3 : Int32))))))
def fX11_set_b15 (g : Mm) (a1 : Int32) (a2 : Int32) : Option (Mm × Int32) :=
  wBd (fX11_in g a2 (0 : Int32) (9 : Int32)) fun y5 => fX11_set_b65 g a1 a2 y5
def fX11_set_b36 (g : Mm) (a1 : Int32) (a2 : Int32) : Option (Mm × Int32) :=
  wBd (fX11_in g a2 (0 : Int32) (1 : Int32)) fun y23 => fX11_set_b65 g a1 a2 y23
def fX11_set_b64 (g : Mm) (a1 : Int32) (a2 : Int32) : Option (Mm × Int32) :=
  fX11_set_b65 g a1 a2 (0 : Int32)
def fX11_set (g : Mm) (a1 : Int32) (a2 : Int32) : Option (Mm × Int32) :=
  wBd (fX11_in g a1 (0 : Int32) (4 : Int32)) fun y2 => if y2 = 0 then (if a1 = (7 : Int32) then (fX11_set_b15 g a1 a2) else (if a1 = (5 : Int32) then (fX11_set_b36 g a1 a2) else (if a1 = (6 : Int32) then (fX11_set_b36 g a1 a2) else (if a1 = (8 : Int32) then (wBd (fX11_in g a2 (1 : Int32) (2 : Int32)) fun y27 => if y27 = 0 then (fX11_set_b64 g a1 a2) else (fX11_set_b65 g a1 a2 (1 : Int32))) else (fX11_set_b64 g a1 a2))))) else (fX11_set_b15 g a1 a2)
def fX11_visit_B79 (g : Mm) (a1 : Int32) (a2 : Int32) (a3 : Int32) (a4 : Int32) (x5 : Int32) (x6 : Int32) : Option ((Mm × Int32) ⊕ (Mm × Int32)) :=
  if (30 : Int32) ≤ x6 then (wEx (wGi x5 510 (wLe (st g 1 0 0 (x5).toNatClampNeg a1) fun g23 => wGi (x5 + (1 : Int32)) 510 (wLe (st g23 1 0 0 (x5 + (1 : Int32)).toNatClampNeg a2) fun g26 => wGi (x5 + (2 : Int32)) 510 (wLe (st g26 1 0 0 (x5 + (2 : Int32)).toNatClampNeg a3) fun g29 => wGi (x5 + (3 : Int32)) 510 (wLe (st g29 1 0 0 (x5 + (3 : Int32)).toNatClampNeg a4) fun g32 => wGi (x5 + (4 : Int32)) 510 (wLe (st g32 1 0 0 (x5 + (4 : Int32)).toNatClampNeg (-1 : Int32)) fun g35 => wGi (480 : Int32) 510 (wGi (x5 + (7 : Int32)) 510 (wLe (st g35 1 0 0 (x5 + (7 : Int32)).toNatClampNeg (g35 1 0 0 ((480 : Int32)).toNatClampNeg)) fun g39 => wGi (x5 + (8 : Int32)) 510 (wLe (st g39 1 0 0 (x5 + (8 : Int32)).toNatClampNeg (-1 : Int32)) fun g42 => wGi (x5 + (10 : Int32)) 510 (wLe (st g42 1 0 0 (x5 + (10 : Int32)).toNatClampNeg (-1000 : Int32)) fun g45 => wLe (st g45 0 0 0 1 ((g45 0 0 0 1) + (1 : Int32))) fun g47 => some (g47, (g47 0 0 0 1) - (1 : Int32))))))))))))) else (wGi (x5 + x6) 510 (wLe (st g 1 0 0 (x5 + x6).toNatClampNeg (0 : Int32)) fun g50 => wLe (x6 + 1) fun y52 => some (.inl (g50, y52))))
def fX11_visit_L79 (g : Mm) (a1 : Int32) (a2 : Int32) (a3 : Int32) (a4 : Int32) (x5 : Int32) (x6 : Int32) : Option (Mm × Int32) :=
  wLp (fun q => fX11_visit_B79 q.1 a1 a2 a3 a4 x5 q.2) 1000 (g, x6)
def fX11_visit (g : Mm) (a1 : Int32) (a2 : Int32) (a3 : Int32) (a4 : Int32) : Option (Mm × Int32) :=
  wBd (fX11_in g a1 (0 : Int32) (5 : Int32)) fun y2 => if y2 = 0 then (some (g, (-2 : Int32))) else (wGi (480 : Int32) 510 (wBd (fX11_in g a2 (g 1 0 0 ((480 : Int32)).toNatClampNeg) (9999 : Int32)) fun y6 => if y6 = 0 then (some (g, (-2 : Int32))) else (wBd (fX11_in g a3 (a2 + (1 : Int32)) (9999 : Int32)) fun y9 => if y9 = 0 then (some (g, (-2 : Int32))) else (wBd (fX11_in g a4 (1 : Int32) (999 : Int32)) fun y12 => if y12 = 0 then (some (g, (-2 : Int32))) else (if (g 0 0 0 1) = (12 : Int32) then (some (g, (-4 : Int32))) else (wLe ((30 : Int32) * (g 0 0 0 1)) fun y15 => wLe (0 : Int32) fun y17 => fX11_visit_L79 g a1 a2 a3 a4 y15 y17))))))
def fX11_late (g : Mm) (a1 : Int32) (a2 : Int32) : Option (Mm × Int32) :=
  wBd (fX11_isVisit g a1) fun y2 => if y2 = 0 then (some (g, (-1 : Int32))) else (wBd (fX11_in g a2 (0 : Int32) (999 : Int32)) fun y5 => if y5 = 0 then (some (g, (-2 : Int32))) else (wBd (fX11_of g a1 (6 : Int32)) fun y8 => if y8 = 0 then (wBd (fX11_of g a1 (5 : Int32)) fun y11 => wGi (((30 : Int32) * a1) + (5 : Int32)) 510 (wLe (st g 1 0 0 (((30 : Int32) * a1) + (5 : Int32)).toNatClampNeg a2) fun g13 => some (g13, y11))) else (some (g, (-3 : Int32)))))
def fX11_isAhead (g0 : Mm) (a1 : Int32) : Option (Int32) :=
  wBd (fX11_of g0 a1 (6 : Int32)) fun y2 => if (1 : Int32) < y2 then (some (0 : Int32)) else (some (1 : Int32))
def fX11_wish_b55 (g : Mm) (a1 : Int32) (a2 : Int32) : Option (Mm × Int32) :=
  wBd (fX11_isAhead g a1) fun y7 => if y7 = 0 then (some (g, (-3 : Int32))) else (wBd (fX11_of g a1 (4 : Int32)) fun y10 => wGi (((30 : Int32) * a1) + (4 : Int32)) 510 (wLe (st g 1 0 0 (((30 : Int32) * a1) + (4 : Int32)).toNatClampNeg a2) fun g12 => if y10 = (-1 : Int32) then (some (g12, (6 : Int32))) else (some (g12, y10))))
def fX11_wish_b23 (g : Mm) (a1 : Int32) (a2 : Int32) : Option (Mm × Int32) :=
  if a2 = (-1 : Int32) then (fX11_wish_b55 g a1 a2) else (wGi ((490 : Int32) + a2) 510 (wBd (fX11_of g a1 (0 : Int32)) fun y17 => wGi y17 6 (if (g 14 0 0 (y17).toNatClampNeg) ≤ (g 1 0 0 ((490 : Int32) + a2).toNatClampNeg) then (fX11_wish_b55 g a1 a2) else (some (g, (-2 : Int32))))))
def fX11_wish (g : Mm) (a1 : Int32) (a2 : Int32) : Option (Mm × Int32) :=
  wBd (fX11_isVisit g a1) fun y2 => if y2 = 0 then (some (g, (-1 : Int32))) else (if a2 = (-1 : Int32) then (fX11_wish_b23 g a1 a2) else (wBd (fX11_isStand g a2) fun y21 => if y21 = 0 then (some (g, (-1 : Int32))) else (fX11_wish_b23 g a1 a2)))
def fX11_feed (g : Mm) (a1 : Int32) (a2 : Int32) (a3 : Int32) (a4 : Int32) : Option (Mm × Int32) :=
  wBd (fX11_isVisit g a1) fun y2 => if y2 = 0 then (some (g, (-1 : Int32))) else (wBd (fX11_isVisit g a2) fun y5 => if y5 = 0 then (some (g, (-1 : Int32))) else (if a1 = a2 then (some (g, (-2 : Int32))) else (wBd (fX11_in g a3 (1 : Int32) (99 : Int32)) fun y9 => if y9 = 0 then (some (g, (-2 : Int32))) else (wBd (fX11_in g a4 (1 : Int32) (99 : Int32)) fun y12 => if y12 = 0 then (some (g, (-2 : Int32))) else (wBd (fX11_of g a1 (6 : Int32)) fun y15 => if y15 = 0 then (wBd (fX11_of g a2 (6 : Int32)) fun y18 => if y18 = 0 then (if (g 0 0 0 2) = (16 : Int32) then (some (g, (-4 : Int32))) else (wLe ((360 : Int32) + ((6 : Int32) * (g 0 0 0 2))) fun y21 => wGi y21 510 (wLe (st g 1 0 0 (y21).toNatClampNeg a1) fun g24 => wGi (y21 + (1 : Int32)) 510 (wLe (st g24 1 0 0 (y21 + (1 : Int32)).toNatClampNeg a2) fun g27 => wGi (y21 + (2 : Int32)) 510 (wLe (st g27 1 0 0 (y21 + (2 : Int32)).toNatClampNeg a3) fun g30 => wGi (y21 + (3 : Int32)) 510 (wLe (st g30 1 0 0 (y21 + (3 : Int32)).toNatClampNeg a4) fun g33 => wGi (y21 + (4 : Int32)) 510 (wLe (st g33 1 0 0 (y21 + (4 : Int32)).toNatClampNeg (0 : Int32)) fun g36 => wGi (y21 + (5 : Int32)) 510 (wLe (st g36 1 0 0 (y21 + (5 : Int32)).toNatClampNeg (-1 : Int32)) fun g39 => wLe (st g39 0 0 0 2 ((g39 0 0 0 2) + (1 : Int32))) fun g41 => some (g41, (g41 0 0 0 2) - (1 : Int32)))))))))) else (some (g, (-3 : Int32)))) else (some (g, (-3 : Int32))))))))
def fX11_feedTape_B33 (g : Mm) (a1 : Int64) (a3 : Int32) (x4 : Int32) : Option ((Mm × Int32) ⊕ (Mm × Int32)) :=
  if x4 < 0 then (wEx (some (g, g 0 0 0 11))) else (wGi (g 0 0 0 11) 160 (wLe (st g 6 0 0 (g 0 0 0 11).toNatClampNeg (((a1 >>> (((8 : Int32) * x4).toInt64 &&& 63)) &&& (255 : Int64)).toInt32)) fun g11 => wLe (st g11 0 0 0 11 ((g11 0 0 0 11) + (1 : Int32))) fun g13 => wLe (x4 + (-1)) fun y15 => some (.inl (g13, y15))))
def fX11_feedTape_L33 (g : Mm) (a1 : Int64) (a3 : Int32) (x4 : Int32) : Option (Mm × Int32) :=
  wLp (fun q => fX11_feedTape_B33 q.1 a1 a3 q.2) 1000 (g, x4)
def fX11_feedTape (g : Mm) (a1 : Int64) (a3 : Int32) : Option (Mm × Int32) :=
  wBd (fX11_in g a3 (1 : Int32) (8 : Int32)) fun y2 => if y2 = 0 then (some (g, (-2 : Int32))) else (if ((g 0 0 0 11) + a3) ≤ (160 : Int32) then (wLe (a3 - (1 : Int32)) fun y5 => fX11_feedTape_L33 g a1 a3 y5) else (some (g, (-4 : Int32))))
def fX11_letters_b76 (g : Mm) (x1 : Int64) (x3 : Int32) : Option (Mm × Int32) :=
  if x3 ≤ (4 : Int32) then (some (g, x1.toInt32)) else (some (g, (0 : Int32)))
def fX11_letters_b59 (g : Mm) (x3 : Int32) (z0 : Int64) : Option ((Mm × Int64 × Int32) ⊕ (Mm × Int32)) :=
  wLe (x3 + 1) fun y16 => wLe (st g 0 0 0 25 ((g 0 0 0 25) + (1 : Int32))) fun g18 => some (.inl (g18, z0, y16))
def fX11_letters_B4 (g : Mm) (x1 : Int64) (x3 : Int32) : Option ((Mm × Int64 × Int32) ⊕ (Mm × Int32)) :=
  if (g 0 0 0 11) ≤ (g 0 0 0 25) then (wEx (fX11_letters_b76 g x1 x3)) else (wGi (g 0 0 0 25) 160 (wBd (fX11_in g (g 6 0 0 (g 0 0 0 25).toNatClampNeg) (97 : Int32) (122 : Int32)) fun y11 => if y11 = 0 then (wEx (fX11_letters_b76 g x1 x3)) else (if (8 : Int32) ≤ x3 then (fX11_letters_b59 g x3 x1) else (wGi (g 0 0 0 25) 160 (fX11_letters_b59 g x3 ((x1 <<< ((8 : Int32).toInt64 &&& 63)) ||| ((g 6 0 0 (g 0 0 0 25).toNatClampNeg).toInt64)))))))
def fX11_letters_L4 (g : Mm) (x1 : Int64) (x3 : Int32) : Option (Mm × Int32) :=
  wLp (fun q => fX11_letters_B4 q.1 q.2.1 q.2.2) 1000 (g, x1, x3)
def fX11_letters (g : Mm) : Option (Mm × Int32) :=
  wLe (0 : Int64) fun y1 => wLe (0 : Int32) fun y3 => fX11_letters_L4 g y1 y3
def fX11_next_b363 (g : Mm) (z1 : Int32) : Option (Mm) :=
  wLe (st g 0 0 0 27 z1) fun g22 => wLe (st g22 0 0 0 25 ((g22 0 0 0 25) + (1 : Int32))) fun g24 => some g24
def fX11_next_b352 (g : Mm) (x1 : Int32) (z0 : Int32) : Option (Mm) :=
  if z0 = 0 then (fX11_next_b363 g (-1 : Int32)) else (fX11_next_b363 g x1)
def fX11_next_b347 (g : Mm) (x1 : Int32) : Option (Mm) :=
  fX11_next_b352 g x1 (1 : Int32)
def fX11_next_b282 (g : Mm) (x2 : Int32) : Option (Mm) :=
  if x2 ≤ (4 : Int32) then (wLe (st g 0 0 0 27 (1 : Int32)) fun g39 => some g39) else (wLe (st g 0 0 0 27 (-1 : Int32)) fun g41 => some g41)
def fX11_next_b263 (g : Mm) (x2 : Int32) (z1 : Int32) : Option ((Mm × Int32) ⊕ (Mm)) :=
  wLe (st g 0 0 0 28 z1) fun g50 => wLe (x2 + 1) fun y52 => wLe (st g50 0 0 0 25 ((g50 0 0 0 25) + (1 : Int32))) fun g54 => some (.inl (g54, y52))
def fX11_next_B203 (g : Mm) (x2 : Int32) : Option ((Mm × Int32) ⊕ (Mm)) :=
  if (g 0 0 0 11) ≤ (g 0 0 0 25) then (wEx (fX11_next_b282 g x2)) else (wGi (g 0 0 0 25) 160 (wBd (fX11_in g (g 6 0 0 (g 0 0 0 25).toNatClampNeg) (48 : Int32) (57 : Int32)) fun y45 => if y45 = 0 then (wEx (fX11_next_b282 g x2)) else (if (4 : Int32) ≤ x2 then (fX11_next_b263 g x2 (0 : Int32)) else (wGi (g 0 0 0 25) 160 (fX11_next_b263 g x2 ((((10 : Int32) * (g 0 0 0 28)) + (g 6 0 0 (g 0 0 0 25).toNatClampNeg)) - (48 : Int32)))))))
def fX11_next_L203 (g : Mm) (x2 : Int32) : Option (Mm) :=
  wLp (fun q => fX11_next_B203 q.1 q.2) 1000 (g, x2)
def fX11_next_b168 (g : Mm) (x3 : Int32) (z1 : Int32) : Option (Mm) :=
  wLe (st g 0 0 0 27 z1) fun g68 => if (3 : Int32) ≤ x3 then (wLe (st g68 0 0 0 28 (x3 - (3 : Int32))) fun g71 => some g71) else (wLe (st g68 0 0 0 28 x3) fun g73 => some g73)
def fX11_next_b132 (g : Mm) (x3 : Int32) : Option (Mm) :=
  if (3 : Int32) ≤ x3 then (if (11 : Int32) ≤ x3 then (if x3 = (14 : Int32) then (fX11_next_b168 g x3 (-1 : Int32)) else (fX11_next_b168 g x3 (((4 : Int32) + x3) - (11 : Int32)))) else (fX11_next_b168 g x3 (2 : Int32))) else (fX11_next_b168 g x3 (3 : Int32))
def fX11_next_B110 (g : Mm) (x2 : Int32) (x3 : Int32) : Option ((Mm × Int32) ⊕ (Mm)) :=
  if (14 : Int32) ≤ x3 then (wEx (fX11_next_b132 g x3)) else (wGi x3 14 (if (g 18 0 0 (x3).toNatClampNeg) = x2 then (wEx (fX11_next_b132 g x3)) else (wLe (x3 + 1) fun y79 => some (.inl (g, y79)))))
def fX11_next_L110 (g : Mm) (x2 : Int32) (x3 : Int32) : Option (Mm) :=
  wLp (fun q => fX11_next_B110 q.1 x2 q.2) 1000 (g, x3)
def fX11_next_b52 (g : Mm) : Option (Mm) :=
  wLe (st g 0 0 0 26 (g 0 0 0 25)) fun g4 => wLe (st g4 0 0 0 27 (0 : Int32)) fun g6 => wLe (st g6 0 0 0 28 (0 : Int32)) fun g8 => if (g8 0 0 0 25) = (g8 0 0 0 11) then (some g8) else (wGi (g8 0 0 0 25) 160 (wLe (g8 6 0 0 (g8 0 0 0 25).toNatClampNeg) fun y12 => wBd (fX11_in g8 y12 (97 : Int32) (122 : Int32)) fun y15 => if y15 = 0 then (wBd (fX11_in g8 y12 (48 : Int32) (57 : Int32)) fun y18 => if y18 = 0 then (if y12 = (40 : Int32) then (fX11_next_b347 g8 y12) else (if y12 = (41 : Int32) then (fX11_next_b347 g8 y12) else (if y12 = (59 : Int32) then (fX11_next_b347 g8 y12) else (if y12 = (43 : Int32) then (fX11_next_b347 g8 y12) else (if y12 = (45 : Int32) then (fX11_next_b347 g8 y12) else (if y12 = (42 : Int32) then (fX11_next_b347 g8 y12) else (if y12 = (60 : Int32) then (fX11_next_b347 g8 y12) else (if y12 = (61 : Int32) then (fX11_next_b347 g8 y12) else (fX11_next_b352 g8 y12 (0 : Int32)))))))))) else (wLe (0 : Int32) fun y33 => fX11_next_L203 g8 y33)) else (wB2 (fX11_letters g8) fun g59 y58 => wLe (0 : Int32) fun y60 => fX11_next_L110 g59 y58 y60)))
def fX11_next_b39 (g : Mm) : Option ((Mm) ⊕ (Mm)) :=
  wLe (st g 0 0 0 25 ((g 0 0 0 25) + (1 : Int32))) fun g83 => some (.inl g83)
def fX11_next_B0 (g : Mm) : Option ((Mm) ⊕ (Mm)) :=
  if (g 0 0 0 11) ≤ (g 0 0 0 25) then (wEx (fX11_next_b52 g)) else (wGi (g 0 0 0 25) 160 (if (g 6 0 0 (g 0 0 0 25).toNatClampNeg) = (32 : Int32) then (fX11_next_b39 g) else (wGi (g 0 0 0 25) 160 (if (g 6 0 0 (g 0 0 0 25).toNatClampNeg) = (10 : Int32) then (fX11_next_b39 g) else (wEx (fX11_next_b52 g))))))
def fX11_next_L0 (g : Mm) : Option (Mm) :=
  wLp (fun q => fX11_next_B0 q) 1000 g
def fX11_next (g : Mm) : Option (Mm) :=
  fX11_next_L0 g
def fX11_rank (g0 : Mm) (a0 : Int32) : Option (Int32) :=
  if a0 = 0 then (some (0 : Int32)) else (if a0 = (11 : Int32) then (some (1 : Int32)) else (if a0 = (12 : Int32) then (some (2 : Int32)) else (if a0 = (13 : Int32) then (some (3 : Int32)) else (if (15 : Int32) < a0 then (if (17 : Int32) < a0 then (if a0 = (18 : Int32) then (some (6 : Int32)) else (some (7 : Int32))) else (some (5 : Int32))) else (some (4 : Int32))))))
def fX11_puts (g : Mm) (a1 : Int32) : Option (Mm) :=
  wGi (((200 : Int32) * (g 0 0 0 12)) + (g 0 0 0 33)) 1200 (wLe (st g 7 0 0 (((200 : Int32) * (g 0 0 0 12)) + (g 0 0 0 33)).toNatClampNeg a1) fun g2 => wLe (st g2 0 0 0 33 ((g2 0 0 0 33) + (1 : Int32))) fun g4 => some g4)
def fX11_unwinds_b67 (g : Mm) (a1 : Int32) (x2 : Int32) (z1 : Int32) (z2 : Int32) : Option ((Mm) ⊕ (Mm)) :=
  wLe (st g 0 0 0 32 (z1 - z2)) fun g16 => wBd (fX11_puts g16 x2) fun g20 => some (.inl g20)
def fX11_unwinds_b62 (g : Mm) (a1 : Int32) (x2 : Int32) (z1 : Int32) : Option ((Mm) ⊕ (Mm)) :=
  fX11_unwinds_b67 g a1 x2 z1 (1 : Int32)
def fX11_unwinds_B0 (g : Mm) (a1 : Int32) : Option ((Mm) ⊕ (Mm)) :=
  if (g 0 0 0 31) ≤ 0 then (wEx (some g)) else (wGi ((g 0 0 0 31) - (1 : Int32)) 200 (wBd (fX11_rank g (g 19 0 0 ((g 0 0 0 31) - (1 : Int32)).toNatClampNeg)) fun y6 => if y6 < a1 then (wEx (some g)) else (wLe (st g 0 0 0 31 ((g 0 0 0 31) - (1 : Int32))) fun g10 => wGi (g10 0 0 0 31) 200 (wLe (g10 19 0 0 (g10 0 0 0 31).toNatClampNeg) fun y13 => if y13 = (13 : Int32) then (fX11_unwinds_b62 g10 a1 y13 (g10 0 0 0 32)) else (if y13 = (19 : Int32) then (fX11_unwinds_b62 g10 a1 y13 (g10 0 0 0 32)) else (fX11_unwinds_b67 g10 a1 y13 (g10 0 0 0 32) (0 : Int32)))))))
def fX11_unwinds_L0 (g : Mm) (a1 : Int32) : Option (Mm) :=
  wLp (fun q => fX11_unwinds_B0 q a1) 1000 g
def fX11_unwinds (g : Mm) (a1 : Int32) : Option (Mm) :=
  fX11_unwinds_L0 g a1
def fX11_holds (g : Mm) (a1 : Int32) : Option (Mm) :=
  wGi (g 0 0 0 31) 200 (wLe (st g 19 0 0 (g 0 0 0 31).toNatClampNeg a1) fun g2 => wLe (st g2 0 0 0 31 ((g2 0 0 0 31) + (1 : Int32))) fun g4 => some g4)
def fX11_opensOne (g : Mm) (a1 : Int32) : Option (Mm × Int32) :=
  if (g 0 0 0 32) = (5 : Int32) then (some (g, (0 : Int32))) else (wLe (st g 0 0 0 32 ((g 0 0 0 32) + (1 : Int32))) fun g2 => wBd (fX11_holds g2 a1) fun g6 => some (g6, (1 : Int32)))
def fX11_between_b17 (g : Mm) (a1 : Int32) (z1 : Int32) : Option (Mm × Int32) :=
  wBd (fX11_unwinds g z1) fun g8 => wBd (fX11_rank g8 a1) fun y10 => if y10 = (4 : Int32) then (if (g8 0 0 0 31) ≤ 0 then (wBd (fX11_holds g8 a1) fun g18 => some (g18, (1 : Int32))) else (wGi ((g8 0 0 0 31) - (1 : Int32)) 200 (wBd (fX11_rank g8 (g8 19 0 0 ((g8 0 0 0 31) - (1 : Int32)).toNatClampNeg)) fun y21 => if y21 = (4 : Int32) then (some (g8, (0 : Int32))) else (wBd (fX11_holds g8 a1) fun g25 => some (g25, (1 : Int32)))))) else (wBd (fX11_holds g8 a1) fun g14 => some (g14, (1 : Int32)))
def fX11_between (g : Mm) (a1 : Int32) : Option (Mm × Int32) :=
  wBd (fX11_rank g a1) fun y2 => if y2 = (4 : Int32) then (fX11_between_b17 g a1 (5 : Int32)) else (wBd (fX11_rank g a1) fun y5 => fX11_between_b17 g a1 y5)
def fX11_signOf (g0 : Mm) : Option (Int32) :=
  if (g0 0 0 0 27) = (4 : Int32) then (some (11 : Int32)) else (if (g0 0 0 0 27) = (5 : Int32) then (some (12 : Int32)) else (if (g0 0 0 0 27) = (60 : Int32) then (some (14 : Int32)) else (if (g0 0 0 0 27) = (61 : Int32) then (some (15 : Int32)) else (if (g0 0 0 0 27) = (43 : Int32) then (some (16 : Int32)) else (if (g0 0 0 0 27) = (45 : Int32) then (some (17 : Int32)) else (if (g0 0 0 0 27) = (42 : Int32) then (some (18 : Int32)) else (some (-1 : Int32))))))))
def fX11_eRead_b262 (g : Mm) (x1 : Int32) (z0 : Int32) : Option ((Mm × Int32 × Int32) ⊕ (Mm × Int32)) :=
  some (.inl (g, x1, z0))
def fX11_eRead_b61 (g : Mm) (x2 : Int32) (z1 : Int32) : Option ((Mm × Int32 × Int32) ⊕ (Mm × Int32)) :=
  wBd (fX11_puts g z1) fun g52 => wBd (fX11_unwinds g52 (7 : Int32)) fun g55 => wLe (0 : Int32) fun y56 => some (.inl (g55, y56, x2))
def fX11_eRead_b38 (g : Mm) (x2 : Int32) : Option ((Mm × Int32 × Int32) ⊕ (Mm × Int32)) :=
  if (g 0 0 0 27) = (1 : Int32) then (fX11_eRead_b61 g x2 ((100000 : Int32) + (g 0 0 0 28))) else (fX11_eRead_b61 g x2 (g 0 0 0 28))
def fX11_eRead_b99 (g : Mm) (x1 : Int32) : Option ((Mm × Int32 × Int32) ⊕ (Mm × Int32)) :=
  if (g 0 0 0 27) = (45 : Int32) then (wB2 (fX11_opensOne g (19 : Int32)) fun g74 y73 => if y73 = 0 then (wEx (some (g74, (0 : Int32)))) else (wLe (0 : Int32) fun y76 => some (.inl (g74, x1, y76)))) else (if (g 0 0 0 27) = (40 : Int32) then (wB2 (fX11_opensOne g (0 : Int32)) fun g66 y65 => if y65 = 0 then (wEx (some (g66, (0 : Int32)))) else (wLe (1 : Int32) fun y68 => some (.inl (g66, x1, y68)))) else (wEx (some (g, (0 : Int32)))))
def fX11_eRead_B14 (g : Mm) (x1 : Int32) (x2 : Int32) : Option ((Mm × Int32 × Int32) ⊕ (Mm × Int32)) :=
  wBd (fX11_next g) fun g11 => if x1 = 0 then (if (g11 0 0 0 27) = (59 : Int32) then (wEx (wBd (fX11_unwinds g11 (1 : Int32)) fun g46 => if (g46 0 0 0 31) = 0 then (some (g46, (1 : Int32))) else (some (g46, (0 : Int32))))) else (if (g11 0 0 0 27) = (41 : Int32) then (wBd (fX11_unwinds g11 (1 : Int32)) fun g31 => if (g31 0 0 0 31) = 0 then (wEx (some (g31, (0 : Int32)))) else (wLe (st g31 0 0 0 31 ((g31 0 0 0 31) - (1 : Int32))) fun g33 => wLe (st g33 0 0 0 32 ((g33 0 0 0 32) - (1 : Int32))) fun g35 => wBd (fX11_unwinds g35 (7 : Int32)) fun g39 => some (.inl (g39, x1, x2)))) else (wBd (fX11_signOf g11) fun y16 => if y16 = (-1 : Int32) then (wEx (some (g11, (0 : Int32)))) else (wB2 (fX11_between g11 y16) fun g22 y21 => if y21 = 0 then (wEx (some (g22, (0 : Int32)))) else (wLe (1 : Int32) fun y24 => if (12 : Int32) < y16 then (fX11_eRead_b262 g22 y24 (0 : Int32)) else (fX11_eRead_b262 g22 y24 (1 : Int32))))))) else (if (g11 0 0 0 27) = (1 : Int32) then (fX11_eRead_b38 g11 x2) else (if (g11 0 0 0 27) = (2 : Int32) then (fX11_eRead_b38 g11 x2) else (if (g11 0 0 0 27) = (6 : Int32) then (if x2 = 0 then (fX11_eRead_b99 g11 x1) else (wB2 (fX11_opensOne g11 (13 : Int32)) fun g83 y82 => if y82 = 0 then (wEx (some (g83, (0 : Int32)))) else (some (.inl (g83, x1, x2))))) else (fX11_eRead_b99 g11 x1))))
def fX11_eRead_L14 (g : Mm) (x1 : Int32) (x2 : Int32) : Option (Mm × Int32) :=
  wLp (fun q => fX11_eRead_B14 q.1 q.2.1 q.2.2) 1000 (g, x1, x2)
def fX11_eRead (g : Mm) : Option (Mm × Int32) :=
  wLe (st g 0 0 0 31 (0 : Int32)) fun g1 => wLe (st g1 0 0 0 32 (0 : Int32)) fun g3 => wLe (1 : Int32) fun y5 => wLe (1 : Int32) fun y7 => fX11_eRead_L14 g3 y5 y7
def fX11_text_b122 (g : Mm) (x1 : Int32) : Option (Mm × Int32) :=
  wGi (((4 : Int32) * (g 0 0 0 12)) + (3 : Int32)) 24 (wLe (st g 8 0 0 (((4 : Int32) * (g 0 0 0 12)) + (3 : Int32)).toNatClampNeg (g 0 0 0 33)) fun g15 => wLe (st g15 0 0 0 11 (0 : Int32)) fun g17 => if x1 = 0 then (some (g17, (-100 : Int32) - (g17 0 0 0 26))) else (wLe (st g17 0 0 0 12 ((g17 0 0 0 12) + (1 : Int32))) fun g20 => some (g20, (g20 0 0 0 12) - (1 : Int32))))
def fX11_text_b121 (g : Mm) (z0 : Int32) : Option (Mm × Int32) :=
  fX11_text_b122 g z0
def fX11_text_b101 (g : Mm) (x1 : Int32) : Option (Mm × Int32) :=
  if x1 = 0 then (fX11_text_b122 g x1) else (wBd (fX11_next g) fun g24 => if (g24 0 0 0 27) = 0 then (fX11_text_b121 g24 (1 : Int32)) else (fX11_text_b121 g24 (0 : Int32)))
def fX11_text_b94 (g : Mm) (x2 : Int32) (z0 : Int32) : Option ((Mm × Int32 × Int32) ⊕ (Mm × Int32)) :=
  wLe (x2 + 1) fun y37 => some (.inl (g, z0, y37))
def fX11_text_b93 (g : Mm) (x2 : Int32) : Option ((Mm × Int32 × Int32) ⊕ (Mm × Int32)) :=
  fX11_text_b94 g x2 (0 : Int32)
def fX11_text_b60 (g : Mm) (x2 : Int32) (z0 : Int32) : Option ((Mm × Int32 × Int32) ⊕ (Mm × Int32)) :=
  wGi (((4 : Int32) * (g 0 0 0 12)) + x2) 24 (wLe (st g 8 0 0 (((4 : Int32) * (g 0 0 0 12)) + x2).toNatClampNeg (g 0 0 0 33)) fun g34 => if z0 = 0 then (fX11_text_b93 g34 x2) else (wB2 (fX11_eRead g34) fun g41 y40 => if y40 = 0 then (fX11_text_b93 g41 x2) else (fX11_text_b94 g41 x2 (1 : Int32))))
def fX11_text_b59 (g : Mm) (x2 : Int32) : Option ((Mm × Int32 × Int32) ⊕ (Mm × Int32)) :=
  fX11_text_b60 g x2 (0 : Int32)
def fX11_text_B26 (g : Mm) (x1 : Int32) (x2 : Int32) : Option ((Mm × Int32 × Int32) ⊕ (Mm × Int32)) :=
  if (3 : Int32) ≤ x2 then (wEx (fX11_text_b101 g x1)) else (if x1 = 0 then (wEx (fX11_text_b101 g x1)) else (wBd (fX11_next g) fun g31 => if (g31 0 0 0 27) = (3 : Int32) then (if (g31 0 0 0 28) = x2 then (fX11_text_b60 g31 x2 (1 : Int32)) else (fX11_text_b59 g31 x2)) else (fX11_text_b59 g31 x2)))
def fX11_text_L26 (g : Mm) (x1 : Int32) (x2 : Int32) : Option (Mm × Int32) :=
  wLp (fun q => fX11_text_B26 q.1 q.2.1 q.2.2) 1000 (g, x1, x2)
def fX11_text (g : Mm) : Option (Mm × Int32) :=
  if (g 0 0 0 12) = (6 : Int32) then (some (g, (-4 : Int32))) else (wLe (st g 0 0 0 25 (0 : Int32)) fun g2 => wLe (st g2 0 0 0 33 (0 : Int32)) fun g4 => wLe (1 : Int32) fun y6 => wLe (0 : Int32) fun y8 => fX11_text_L26 g4 y6 y8)
def fX11_force (g : Mm) (a1 : Int32) : Option (Mm × Int32) :=
  wBd (fX11_in g a1 (0 : Int32) ((g 0 0 0 12) - (1 : Int32))) fun y2 => if y2 = 0 then (some (g, (-2 : Int32))) else (wLe (g 0 0 0 13) fun y4 => wLe (st g 0 0 0 13 a1) fun g6 => some (g6, y4))
def fX11_bagsTo_b56 (g0 : Mm) (a1 : Int32) (x3 : Int32) (z0 : Int32) (z1 : Int32) : Option ((Int32 × Int32) ⊕ (Int32)) :=
  wLe (z0 + z1) fun y10 => wLe (x3 + 1) fun y12 => some (.inl (y10, y12))
def fX11_bagsTo_b55 (g0 : Mm) (a1 : Int32) (x3 : Int32) (z0 : Int32) : Option ((Int32 × Int32) ⊕ (Int32)) :=
  fX11_bagsTo_b56 g0 a1 x3 z0 (0 : Int32)
def fX11_bagsTo_B4 (g0 : Mm) (a1 : Int32) (x2 : Int32) (x3 : Int32) : Option ((Int32 × Int32) ⊕ (Int32)) :=
  if (g0 0 0 0 2) ≤ x3 then (wEx (some x2)) else (wGi (((360 : Int32) + ((6 : Int32) * x3)) + (1 : Int32)) 510 (if (g0 1 0 0 (((360 : Int32) + ((6 : Int32) * x3)) + (1 : Int32)).toNatClampNeg) = a1 then (wGi (((360 : Int32) + ((6 : Int32) * x3)) + (4 : Int32)) 510 (if (1 : Int32) < (g0 1 0 0 (((360 : Int32) + ((6 : Int32) * x3)) + (4 : Int32)).toNatClampNeg) then (fX11_bagsTo_b55 g0 a1 x3 x2) else (fX11_bagsTo_b56 g0 a1 x3 x2 (1 : Int32)))) else (fX11_bagsTo_b55 g0 a1 x3 x2)))
def fX11_bagsTo_L4 (g0 : Mm) (a1 : Int32) (x2 : Int32) (x3 : Int32) : Option (Int32) :=
  wLp (fun q => fX11_bagsTo_B4 g0 a1 q.1 q.2) 1000 (x2, x3)
def fX11_bagsTo (g0 : Mm) (a1 : Int32) : Option (Int32) :=
  wLe (0 : Int32) fun y1 => wLe (0 : Int32) fun y3 => fX11_bagsTo_L4 g0 a1 y1 y3
def fX11_named (g0 : Mm) (a1 : Int32) (a2 : Int32) (a3 : Int32) : Option (Int32) :=
  if a1 = 0 then (wBd (fX11_of g0 a2 (6 : Int32)) fun y3 => if y3 = (1 : Int32) then (some (1 : Int32)) else (some (0 : Int32))) else if a1 = 1 then (wGi (480 : Int32) 510 (wBd (fX11_of g0 a2 (2 : Int32)) fun y8 => if (g0 1 0 0 ((480 : Int32)).toNatClampNeg) ≤ y8 then (some (0 : Int32)) else (wGi (480 : Int32) 510 (wBd (fX11_of g0 a2 (2 : Int32)) fun y12 => some ((g0 1 0 0 ((480 : Int32)).toNatClampNeg) - y12))))) else if a1 = 2 then (wBd (fX11_of g0 a2 (0 : Int32)) fun y15 => some y15) else if a1 = 3 then (wGi (480 : Int32) 510 (wBd (fX11_of g0 a2 (7 : Int32)) fun y19 => some ((g0 1 0 0 ((480 : Int32)).toNatClampNeg) - y19))) else if a1 = 4 then (some a3) else if a1 = 5 then (wGi (481 : Int32) 510 (some (g0 1 0 0 ((481 : Int32)).toNatClampNeg))) else if a1 = 6 then (wBd (fX11_bagsTo g0 a2) fun y25 => some y25) else (wBd (fX11_limit g0 a2) fun y27 => wGi (480 : Int32) 510 (some (y27 - (g0 1 0 0 ((480 : Int32)).toNatClampNeg))))
def fX11_two (g0 : Mm) (a0 : Int32) (a1 : Int32) (a2 : Int32) : Option (Int32) :=
  if a0 = 11 then (if a1 = 0 then (if a2 = 0 then (some (0 : Int32)) else (some (1 : Int32))) else (some (1 : Int32))) else if a0 = 12 then (if a1 = 0 then (some (0 : Int32)) else (if a2 = 0 then (some (0 : Int32)) else (some (1 : Int32)))) else if a0 = 13 then (some (a1 * a2)) else if a0 = 14 then (if a2 ≤ a1 then (some (0 : Int32)) else (some (1 : Int32))) else if a0 = 15 then (if a1 = a2 then (some (1 : Int32)) else (some (0 : Int32))) else if a0 = 16 then (some (a1 + a2)) else if a0 = 17 then (some (a1 - a2)) else (some (a1 * a2))
def fX11_worth_b204 (g : Mm) (a1 : Int32) (a2 : Int32) (a3 : Int32) (x4 : Int32) (x5 : Int32) : Option ((Mm × Int32 × Int32) ⊕ (Mm × Int32)) :=
  wLe (x5 + 1) fun y21 => some (.inl (g, x4, y21))
def fX11_worth_b99 (g : Mm) (a1 : Int32) (a2 : Int32) (a3 : Int32) (x4 : Int32) (x5 : Int32) (z1 : Int32) (z2 : Int32) : Option ((Mm × Int32 × Int32) ⊕ (Mm × Int32)) :=
  wGi z1 200 (wLe (st g 20 0 0 (z1).toNatClampNeg z2) fun g17 => wLe (x4 + 1) fun y19 => fX11_worth_b204 g17 a1 a2 a3 y19 x5)
def fX11_worth_b70 (g : Mm) (a1 : Int32) (a2 : Int32) (a3 : Int32) (x4 : Int32) (x5 : Int32) (x6 : Int32) : Option ((Mm × Int32 × Int32) ⊕ (Mm × Int32)) :=
  if (7 : Int32) < x6 then (fX11_worth_b99 g a1 a2 a3 x4 x5 x4 (x6 - (100000 : Int32))) else (wBd (fX11_named g x6 a2 a3) fun y24 => fX11_worth_b99 g a1 a2 a3 x4 x5 x4 y24)
def fX11_worth_b138 (g : Mm) (a1 : Int32) (a2 : Int32) (a3 : Int32) (x4 : Int32) (x5 : Int32) (z1 : Int32) (z2 : Int32) : Option ((Mm × Int32 × Int32) ⊕ (Mm × Int32)) :=
  wGi z1 200 (wLe (st g 20 0 0 (z1).toNatClampNeg z2) fun g44 => fX11_worth_b204 g44 a1 a2 a3 x4 x5)
def fX11_worth_B18 (g : Mm) (a1 : Int32) (a2 : Int32) (a3 : Int32) (x4 : Int32) (x5 : Int32) : Option ((Mm × Int32 × Int32) ⊕ (Mm × Int32)) :=
  wGi ((((4 : Int32) * (g 0 0 0 13)) + a1) + (1 : Int32)) 24 (if (g 8 0 0 ((((4 : Int32) * (g 0 0 0 13)) + a1) + (1 : Int32)).toNatClampNeg) ≤ x5 then (wEx (wGi (0 : Int32) 200 (some (g, g 20 0 0 ((0 : Int32)).toNatClampNeg)))) else (wGi (((200 : Int32) * (g 0 0 0 13)) + x5) 1200 (wLe (g 7 0 0 (((200 : Int32) * (g 0 0 0 13)) + x5).toNatClampNeg) fun y12 => if (100000 : Int32) ≤ y12 then (fX11_worth_b70 g a1 a2 a3 x4 x5 y12) else (if (7 : Int32) < y12 then (if y12 = (13 : Int32) then (wGi (x4 - (1 : Int32)) 200 (if (g 20 0 0 (x4 - (1 : Int32)).toNatClampNeg) = 0 then (fX11_worth_b138 g a1 a2 a3 x4 x5 (x4 - (1 : Int32)) (1 : Int32)) else (fX11_worth_b138 g a1 a2 a3 x4 x5 (x4 - (1 : Int32)) (0 : Int32)))) else (if y12 = (19 : Int32) then (wGi (x4 - (1 : Int32)) 200 (wGi (x4 - (1 : Int32)) 200 (wLe (st g 20 0 0 (x4 - (1 : Int32)).toNatClampNeg (-(g 20 0 0 (x4 - (1 : Int32)).toNatClampNeg))) fun g39 => fX11_worth_b204 g39 a1 a2 a3 x4 x5))) else (wLe (x4 + (-1)) fun y28 => wGi (y28 - (1 : Int32)) 200 (wGi y28 200 (wBd (fX11_two g y12 (g 20 0 0 (y28 - (1 : Int32)).toNatClampNeg) (g 20 0 0 (y28).toNatClampNeg)) fun y33 => wGi (y28 - (1 : Int32)) 200 (wLe (st g 20 0 0 (y28 - (1 : Int32)).toNatClampNeg y33) fun g35 => fX11_worth_b204 g35 a1 a2 a3 y28 x5)))))) else (fX11_worth_b70 g a1 a2 a3 x4 x5 y12)))))
def fX11_worth_L18 (g : Mm) (a1 : Int32) (a2 : Int32) (a3 : Int32) (x4 : Int32) (x5 : Int32) : Option (Mm × Int32) :=
  wLp (fun q => fX11_worth_B18 q.1 a1 a2 a3 q.2.1 q.2.2) 1000 (g, x4, x5)
def fX11_worth (g : Mm) (a1 : Int32) (a2 : Int32) (a3 : Int32) : Option (Mm × Int32) :=
  wLe (0 : Int32) fun y1 => wGi (((4 : Int32) * (g 0 0 0 13)) + a1) 24 (wLe (g 8 0 0 (((4 : Int32) * (g 0 0 0 13)) + a1).toNatClampNeg) fun y4 => fX11_worth_L18 g a1 a2 a3 y1 y4)
def fX11_atLeast0 (g : Mm) (a1 : Int32) (a2 : Int32) (a3 : Int32) : Option (Mm × Int32) :=
  wB2 (fX11_worth g a1 a2 a3) fun g3 y2 => if 0 ≤ y2 then (some (g3, y2)) else (some (g3, (0 : Int32)))
def fX11_tells (g : Mm) (a1 : Int32) (a2 : Int32) : Option (Mm × Int64) :=
  wBd (fX11_isVisit g a1) fun y2 => if y2 = 0 then (some (g, (-4611686018427387904 : Int64))) else (wBd (fX11_in g a2 (0 : Int32) (2 : Int32)) fun y5 => if y5 = 0 then (some (g, (-4611686018427387904 : Int64))) else (wB2 (fX11_worth g a2 a1 (-1 : Int32)) fun g9 y8 => some (g9, y8.toInt64)))
def fX11_becomes (g : Mm) (a1 : Int32) (a2 : Int32) : Option (Mm) :=
  wGi (((30 : Int32) * a1) + (6 : Int32)) 510 (wLe (st g 1 0 0 (((30 : Int32) * a1) + (6 : Int32)).toNatClampNeg a2) fun g2 => wGi (480 : Int32) 510 (wGi (((30 : Int32) * a1) + (7 : Int32)) 510 (wLe (st g2 1 0 0 (((30 : Int32) * a1) + (7 : Int32)).toNatClampNeg (g2 1 0 0 ((480 : Int32)).toNatClampNeg)) fun g6 => some g6)))
def fX11_goesOn (g : Mm) (a1 : Int32) : Option (Mm) :=
  wGi (480 : Int32) 510 (wLe (g 1 0 0 ((480 : Int32)).toNatClampNeg) fun y2 => wBd (fX11_of g a1 (7 : Int32)) fun y5 => wLe (y2 - y5) fun y6 => wBd (fX11_of g a1 (0 : Int32)) fun y9 => wGi y9 6 (wLe (g 15 0 0 (y9).toNatClampNeg) fun y11 => wBd (fX11_of g a1 (6 : Int32)) fun y14 => if y14 = 0 then (wBd (fX11_come g a1) fun y17 => if y2 < y17 then (some g) else (wBd (fX11_becomes g a1 (1 : Int32)) fun g21 => some g21)) else if y14 = 1 then (if y6 < (60 : Int32) then (some g) else (wBd (fX11_becomes g a1 (8 : Int32)) fun g26 => some g26)) else if y14 = 2 then (if y6 < y11 then (some g) else (wBd (fX11_becomes g a1 (3 : Int32)) fun g31 => some g31)) else if y14 = 3 then (if y6 < (4 : Int32) then (some g) else (wBd (fX11_becomes g a1 (4 : Int32)) fun g36 => some g36)) else if y14 = 4 then (some g) else if y14 = 5 then (some g) else if y14 = 6 then (if y6 < y11 then (some g) else (wBd (fX11_becomes g a1 (7 : Int32)) fun g43 => some g43)) else (some g)))
def fX11_isDoneNow_b135 (g : Mm) (a1 : Int32) (a2 : Int32) (x4 : Int32) : Option ((Mm × Int32) ⊕ (Mm)) :=
  wLe (x4 + 6) fun y33 => some (.inl (g, y33))
def fX11_isDoneNow_B59 (g : Mm) (a1 : Int32) (a2 : Int32) (x4 : Int32) : Option ((Mm × Int32) ⊕ (Mm)) :=
  if ((360 : Int32) + ((6 : Int32) * (g 0 0 0 2))) ≤ x4 then (wEx (some g)) else (wGi x4 510 (if (g 1 0 0 (x4).toNatClampNeg) = a1 then (wGi (x4 + (4 : Int32)) 510 (if (g 1 0 0 (x4 + (4 : Int32)).toNatClampNeg) = 0 then (wGi (x4 + (4 : Int32)) 510 (wLe (st g 1 0 0 (x4 + (4 : Int32)).toNatClampNeg (1 : Int32)) fun g38 => wGi (480 : Int32) 510 (wGi (x4 + (3 : Int32)) 510 (wGi (x4 + (5 : Int32)) 510 (wLe (st g38 1 0 0 (x4 + (5 : Int32)).toNatClampNeg ((g38 1 0 0 ((480 : Int32)).toNatClampNeg) + (g38 1 0 0 (x4 + (3 : Int32)).toNatClampNeg))) fun g43 => fX11_isDoneNow_b135 g43 a1 a2 x4))))) else (fX11_isDoneNow_b135 g a1 a2 x4))) else (fX11_isDoneNow_b135 g a1 a2 x4)))
def fX11_isDoneNow_L59 (g : Mm) (a1 : Int32) (a2 : Int32) (x4 : Int32) : Option (Mm) :=
  wLp (fun q => fX11_isDoneNow_B59 q.1 a1 a2 q.2) 1000 (g, x4)
def fX11_isDoneNow_b49 (g : Mm) (a1 : Int32) (a2 : Int32) (x3 : Int32) : Option (Mm) :=
  if a2 = (1 : Int32) then (wLe (360 : Int32) fun y26 => fX11_isDoneNow_L59 g a1 a2 y26) else (if a2 = (6 : Int32) then (wGi (480 : Int32) 510 (wGi (x3 + (10 : Int32)) 510 (wLe (st g 1 0 0 (x3 + (10 : Int32)).toNatClampNeg (g 1 0 0 ((480 : Int32)).toNatClampNeg)) fun g24 => some g24))) else (if a2 = (7 : Int32) then (wGi (x3 + (8 : Int32)) 510 (wGi ((496 : Int32) + (g 1 0 0 (x3 + (8 : Int32)).toNatClampNeg)) 510 (wLe (st g 1 0 0 ((496 : Int32) + (g 1 0 0 (x3 + (8 : Int32)).toNatClampNeg)).toNatClampNeg (-1 : Int32)) fun g14 => wGi (x3 + (8 : Int32)) 510 (wLe (st g14 1 0 0 (x3 + (8 : Int32)).toNatClampNeg (-1 : Int32)) fun g17 => wBd (fX11_becomes g17 a1 (5 : Int32)) fun g21 => some g21)))) else (some g)))
def fX11_isDoneNow (g : Mm) (a1 : Int32) (a2 : Int32) : Option (Mm) :=
  wLe ((30 : Int32) * a1) fun y1 => wGi (y1 + (9 : Int32)) 510 (wGi (y1 + (9 : Int32)) 510 (wLe (st g 1 0 0 (y1 + (9 : Int32)).toNatClampNeg ((g 1 0 0 (y1 + (9 : Int32)).toNatClampNeg) ||| ((1 : Int32) <<< (a2 &&& 31)))) fun g5 => wGi a2 8 (if (g5 16 0 0 (a2).toNatClampNeg) = (-1 : Int32) then (fX11_isDoneNow_b49 g5 a1 a2 y1) else (wGi a2 8 (wGi ((475 : Int32) + (g5 16 0 0 (a2).toNatClampNeg)) 510 (wGi ((475 : Int32) + (g5 16 0 0 (a2).toNatClampNeg)) 510 (wLe (st g5 1 0 0 ((475 : Int32) + (g5 16 0 0 (a2).toNatClampNeg)).toNatClampNeg ((g5 1 0 0 ((475 : Int32) + (g5 16 0 0 (a2).toNatClampNeg)).toNatClampNeg) - (1 : Int32))) fun g48 => fX11_isDoneNow_b49 g48 a1 a2 y1)))))))
def fX11_works_b52 (g : Mm) (a1 : Int32) (x2 : Int32) : Option ((Mm × Int32) ⊕ (Mm)) :=
  wLe (x2 + 1) fun y10 => some (.inl (g, y10))
def fX11_works_B2 (g : Mm) (a1 : Int32) (x2 : Int32) : Option ((Mm × Int32) ⊕ (Mm)) :=
  if (8 : Int32) ≤ x2 then (wEx (some g)) else (wLe ((((30 : Int32) * a1) + (11 : Int32)) + x2) fun y6 => wGi y6 510 (if (g 1 0 0 (y6).toNatClampNeg) ≤ 0 then (fX11_works_b52 g a1 x2) else (wGi y6 510 (wGi y6 510 (wLe (st g 1 0 0 (y6).toNatClampNeg ((g 1 0 0 (y6).toNatClampNeg) - (1 : Int32))) fun g14 => wGi y6 510 (if (g14 1 0 0 (y6).toNatClampNeg) = 0 then (wBd (fX11_isDoneNow g14 a1 x2) fun g20 => fX11_works_b52 g20 a1 x2) else (fX11_works_b52 g14 a1 x2)))))))
def fX11_works_L2 (g : Mm) (a1 : Int32) (x2 : Int32) : Option (Mm) :=
  wLp (fun q => fX11_works_B2 q.1 a1 q.2) 1000 (g, x2)
def fX11_works (g : Mm) (a1 : Int32) : Option (Mm) :=
  wLe (0 : Int32) fun y1 => fX11_works_L2 g a1 y1
def fX11_feedGoes_b55 (g : Mm) (a1 : Int32) : Option (Mm) :=
  wGi (a1 + (4 : Int32)) 510 (wLe (st g 1 0 0 (a1 + (4 : Int32)).toNatClampNeg (3 : Int32)) fun g10 => some g10)
def fX11_feedGoes_b67 (g : Mm) (a1 : Int32) (x2 : Int32) : Option (Mm) :=
  if x2 = (1 : Int32) then (wGi (a1 + (5 : Int32)) 510 (wGi (480 : Int32) 510 (if (g 1 0 0 ((480 : Int32)).toNatClampNeg) < (g 1 0 0 (a1 + (5 : Int32)).toNatClampNeg) then (some g) else (wGi (a1 + (1 : Int32)) 510 (wBd (fX11_isDone g (g 1 0 0 (a1 + (1 : Int32)).toNatClampNeg) (5 : Int32)) fun y19 => if y19 = 0 then (wGi (a1 + (4 : Int32)) 510 (wLe (st g 1 0 0 (a1 + (4 : Int32)).toNatClampNeg (2 : Int32)) fun g22 => some g22)) else (wGi (a1 + (4 : Int32)) 510 (wLe (st g 1 0 0 (a1 + (4 : Int32)).toNatClampNeg (3 : Int32)) fun g25 => some g25))))))) else (some g)
def fX11_feedGoes (g : Mm) (a1 : Int32) : Option (Mm) :=
  wGi (a1 + (4 : Int32)) 510 (wLe (g 1 0 0 (a1 + (4 : Int32)).toNatClampNeg) fun y2 => if y2 ≤ (1 : Int32) then (wGi (a1 + (1 : Int32)) 510 (wBd (fX11_of g (g 1 0 0 (a1 + (1 : Int32)).toNatClampNeg) (6 : Int32)) fun y7 => if y7 = (8 : Int32) then (fX11_feedGoes_b55 g a1) else (if y2 = 0 then (wGi a1 510 (wBd (fX11_of g (g 1 0 0 (a1).toNatClampNeg) (6 : Int32)) fun y29 => if y29 = (8 : Int32) then (fX11_feedGoes_b55 g a1) else (fX11_feedGoes_b67 g a1 y2))) else (fX11_feedGoes_b67 g a1 y2)))) else (some g))
def fX11_isFree (g0 : Mm) (a1 : Int32) : Option (Int32) :=
  wGi ((475 : Int32) + a1) 510 (wGi ((470 : Int32) + a1) 510 (if (g0 1 0 0 ((470 : Int32) + a1).toNatClampNeg) ≤ (g0 1 0 0 ((475 : Int32) + a1).toNatClampNeg) then (some (0 : Int32)) else (some (1 : Int32))))
def fX11_hindrance_b97 (g : Mm) (a1 : Int32) (a2 : Int32) (x3 : Int32) : Option (Mm × Int32) :=
  if a2 = (7 : Int32) then (wBd (fX11_limit g a1) fun y10 => if x3 ≤ y10 then (some (g, (-1 : Int32))) else (wGi (483 : Int32) 510 (if (g 1 0 0 ((483 : Int32)).toNatClampNeg) = 0 then (some (g, (7 : Int32))) else (some (g, (-1 : Int32)))))) else (some (g, (-1 : Int32)))
def fX11_hindrance_b72 (g : Mm) (a1 : Int32) (a2 : Int32) (x3 : Int32) : Option (Mm × Int32) :=
  wGi a2 8 (if (g 16 0 0 (a2).toNatClampNeg) = (-1 : Int32) then (fX11_hindrance_b97 g a1 a2 x3) else (wGi a2 8 (wBd (fX11_isFree g (g 16 0 0 (a2).toNatClampNeg)) fun y16 => if y16 = 0 then (some (g, (3 : Int32))) else (fX11_hindrance_b97 g a1 a2 x3))))
def fX11_hindrance_b46 (g : Mm) (a1 : Int32) (a2 : Int32) (x3 : Int32) : Option (Mm × Int32) :=
  if a2 = (7 : Int32) then (wBd (fX11_of g a1 (2 : Int32)) fun y19 => wBd (fX11_ticksOf g a1 (7 : Int32)) fun y21 => if (y19 - y21) ≤ x3 then (fX11_hindrance_b72 g a1 a2 x3) else (some (g, (2 : Int32)))) else (fX11_hindrance_b72 g a1 a2 x3)
def fX11_hindrance (g : Mm) (a1 : Int32) (a2 : Int32) : Option (Mm × Int32) :=
  wGi (480 : Int32) 510 (wLe (g 1 0 0 ((480 : Int32)).toNatClampNeg) fun y2 => if a2 = (5 : Int32) then (wBd (fX11_bagsTo g a1) fun y24 => if y24 ≤ 0 then (fX11_hindrance_b46 g a1 a2 y2) else (wBd (fX11_of g a1 (2 : Int32)) fun y27 => wB2 (fX11_atLeast0 g (2 : Int32) a1 (-1 : Int32)) fun g30 y29 => if 0 ≤ (lg_cmp y2.toInt64 (y27.toInt64 + y29.toInt64)) then (fX11_hindrance_b46 g30 a1 a2 y2) else (some (g30, (4 : Int32))))) else (fX11_hindrance_b46 g a1 a2 y2))
def fX11_begins_b49 (g : Mm) (a1 : Int32) (a2 : Int32) : Option (Mm) :=
  if a2 = (7 : Int32) then (wGi (480 : Int32) 510 (wBd (fX11_limit g a1) fun y11 => if (g 1 0 0 ((480 : Int32)).toNatClampNeg) ≤ y11 then (some g) else (wGi (483 : Int32) 510 (wGi (483 : Int32) 510 (wLe (st g 1 0 0 ((483 : Int32)).toNatClampNeg ((g 1 0 0 ((483 : Int32)).toNatClampNeg) - (1 : Int32))) fun g15 => some g15))))) else (some g)
def fX11_begins (g : Mm) (a1 : Int32) (a2 : Int32) : Option (Mm) :=
  wBd (fX11_ticksOf g a1 a2) fun y2 => wGi ((((30 : Int32) * a1) + (11 : Int32)) + a2) 510 (wLe (st g 1 0 0 ((((30 : Int32) * a1) + (11 : Int32)) + a2).toNatClampNeg y2) fun g4 => wGi a2 8 (if (g4 16 0 0 (a2).toNatClampNeg) = (-1 : Int32) then (fX11_begins_b49 g4 a1 a2) else (wGi a2 8 (wGi ((475 : Int32) + (g4 16 0 0 (a2).toNatClampNeg)) 510 (wGi ((475 : Int32) + (g4 16 0 0 (a2).toNatClampNeg)) 510 (wLe (st g4 1 0 0 ((475 : Int32) + (g4 16 0 0 (a2).toNatClampNeg)).toNatClampNeg ((g4 1 0 0 ((475 : Int32) + (g4 16 0 0 (a2).toNatClampNeg)).toNatClampNeg) + (1 : Int32))) fun g20 => fX11_begins_b49 g20 a1 a2))))))
def fX11_serves_b202 (g : Mm) (a1 : Int32) (x2 : Int32) : Option ((Mm × Int32) ⊕ (Mm)) :=
  wLe (x2 + 1) fun y17 => some (.inl (g, y17))
def fX11_serves_b172 (g : Mm) (a1 : Int32) (x2 : Int32) (z1 : Int32) (z2 : Int32) : Option ((Mm × Int32) ⊕ (Mm)) :=
  wGi z1 12 (wLe (st g 21 0 0 (z1).toNatClampNeg z2) fun g32 => fX11_serves_b202 g32 a1 x2)
def fX11_serves_b136 (g : Mm) (a1 : Int32) (x2 : Int32) (x4 : Int32) : Option ((Mm × Int32) ⊕ (Mm)) :=
  wGi a1 12 (if (g 21 0 0 (a1).toNatClampNeg) = (-1 : Int32) then (if x4 = (-1 : Int32) then (fX11_serves_b172 g a1 x2 a1 (2 : Int32)) else (fX11_serves_b172 g a1 x2 a1 x4)) else (wGi a1 12 (fX11_serves_b172 g a1 x2 a1 (g 21 0 0 (a1).toNatClampNeg))))
def fX11_serves_b112 (g : Mm) (a1 : Int32) (x2 : Int32) (x3 : Int32) : Option ((Mm × Int32) ⊕ (Mm)) :=
  if x3 = 0 then (wBd (fX11_isDone g a1 x2) fun y15 => if y15 = 0 then (wGi a1 12 (if (g 21 0 0 (a1).toNatClampNeg) = (-1 : Int32) then (wGi a1 12 (wLe (st g 21 0 0 (a1).toNatClampNeg (2 : Int32)) fun g22 => fX11_serves_b202 g22 a1 x2)) else (fX11_serves_b202 g a1 x2))) else (fX11_serves_b202 g a1 x2)) else (wB2 (fX11_hindrance g a1 x2) fun g26 y25 => if y25 = (-1 : Int32) then (wBd (fX11_begins g26 a1 x2) fun g37 => fX11_serves_b136 g37 a1 x2 y25) else (fX11_serves_b136 g26 a1 x2 y25))
def fX11_serves_b91 (g : Mm) (a1 : Int32) (x2 : Int32) : Option ((Mm × Int32) ⊕ (Mm)) :=
  wGi (((30 : Int32) * a1) + (9 : Int32)) 510 (wGi (((30 : Int32) * a1) + (9 : Int32)) 510 (wLe (st g 1 0 0 (((30 : Int32) * a1) + (9 : Int32)).toNatClampNeg ((g 1 0 0 (((30 : Int32) * a1) + (9 : Int32)).toNatClampNeg) ||| ((1 : Int32) <<< (x2 &&& 31)))) fun g43 => fX11_serves_b202 g43 a1 x2))
def fX11_serves_b60 (g : Mm) (a1 : Int32) (x2 : Int32) (z0 : Int32) : Option ((Mm × Int32) ⊕ (Mm)) :=
  if z0 = 0 then (fX11_serves_b112 g a1 x2 z0) else (wBd (fX11_ticksOf g a1 x2) fun y39 => if y39 = 0 then (fX11_serves_b91 g a1 x2) else (if x2 = (6 : Int32) then (wGi (482 : Int32) 510 (if (g 1 0 0 ((482 : Int32)).toNatClampNeg) = 0 then (fX11_serves_b91 g a1 x2) else (fX11_serves_b112 g a1 x2 z0))) else (fX11_serves_b112 g a1 x2 z0)))
def fX11_serves_b59 (g : Mm) (a1 : Int32) (x2 : Int32) : Option ((Mm × Int32) ⊕ (Mm)) :=
  fX11_serves_b60 g a1 x2 (0 : Int32)
def fX11_serves_B9 (g : Mm) (a1 : Int32) (x2 : Int32) : Option ((Mm × Int32) ⊕ (Mm)) :=
  if (8 : Int32) ≤ x2 then (wEx (some g)) else (wBd (fX11_isDone g a1 x2) fun y10 => if y10 = 0 then (wBd (fX11_of g a1 ((11 : Int32) + x2)) fun y49 => if y49 = 0 then (wGi x2 8 (wBd (fX11_of g a1 (9 : Int32)) fun y53 => if ((g 17 0 0 (x2).toNatClampNeg) &&& (y53 ^^^ (-1 : Int32))) = 0 then (fX11_serves_b60 g a1 x2 (1 : Int32)) else (fX11_serves_b59 g a1 x2))) else (fX11_serves_b59 g a1 x2)) else (fX11_serves_b59 g a1 x2))
def fX11_serves_L9 (g : Mm) (a1 : Int32) (x2 : Int32) : Option (Mm) :=
  wLp (fun q => fX11_serves_B9 q.1 a1 q.2) 1000 (g, x2)
def fX11_serves (g : Mm) (a1 : Int32) : Option (Mm) :=
  wGi a1 12 (wLe (st g 21 0 0 (a1).toNatClampNeg (-1 : Int32)) fun g2 => wLe (0 : Int32) fun y4 => fX11_serves_L9 g2 a1 y4)
def fX11_needsIce (g0 : Mm) (a1 : Int32) : Option (Int32) :=
  wGi (482 : Int32) 510 (if (g0 1 0 0 ((482 : Int32)).toNatClampNeg) = (1 : Int32) then (wGi (480 : Int32) 510 (wBd (fX11_of g0 a1 (10 : Int32)) fun y5 => if ((g0 1 0 0 ((480 : Int32)).toNatClampNeg) - y5) ≤ (40 : Int32) then (some (0 : Int32)) else (some (1 : Int32)))) else (some (0 : Int32)))
def fX11_standFor_b129 (g0 : Mm) (a1 : Int32) (x4 : Int32) (z0 : Int32) : Option ((Int32 × Int32) ⊕ (Int32)) :=
  wLe (x4 + 1) fun y14 => some (.inl (z0, y14))
def fX11_standFor_b128 (g0 : Mm) (a1 : Int32) (x3 : Int32) (x4 : Int32) : Option ((Int32 × Int32) ⊕ (Int32)) :=
  fX11_standFor_b129 g0 a1 x4 x3
def fX11_standFor_b123 (g0 : Mm) (a1 : Int32) (x4 : Int32) : Option ((Int32 × Int32) ⊕ (Int32)) :=
  fX11_standFor_b129 g0 a1 x4 x4
def fX11_standFor_b87 (g0 : Mm) (a1 : Int32) (x3 : Int32) (x4 : Int32) (z0 : Int32) : Option ((Int32 × Int32) ⊕ (Int32)) :=
  if z0 = 0 then (fX11_standFor_b128 g0 a1 x3 x4) else (if x3 = (-1 : Int32) then (fX11_standFor_b123 g0 a1 x4) else (wGi ((490 : Int32) + x4) 510 (wGi ((490 : Int32) + x3) 510 (if (g0 1 0 0 ((490 : Int32) + x3).toNatClampNeg) ≤ (g0 1 0 0 ((490 : Int32) + x4).toNatClampNeg) then (fX11_standFor_b128 g0 a1 x3 x4) else (fX11_standFor_b123 g0 a1 x4)))))
def fX11_standFor_b86 (g0 : Mm) (a1 : Int32) (x3 : Int32) (x4 : Int32) : Option ((Int32 × Int32) ⊕ (Int32)) :=
  fX11_standFor_b87 g0 a1 x3 x4 (0 : Int32)
def fX11_standFor_B33 (g0 : Mm) (a1 : Int32) (x3 : Int32) (x4 : Int32) : Option ((Int32 × Int32) ⊕ (Int32)) :=
  if (g0 0 0 0 3) ≤ x4 then (wEx (some x3)) else (wGi ((496 : Int32) + x4) 510 (if (g0 1 0 0 ((496 : Int32) + x4).toNatClampNeg) = (-1 : Int32) then (wGi ((490 : Int32) + x4) 510 (wBd (fX11_of g0 a1 (0 : Int32)) fun y22 => wGi y22 6 (if (g0 1 0 0 ((490 : Int32) + x4).toNatClampNeg) < (g0 14 0 0 (y22).toNatClampNeg) then (fX11_standFor_b86 g0 a1 x3 x4) else (fX11_standFor_b87 g0 a1 x3 x4 (1 : Int32))))) else (fX11_standFor_b86 g0 a1 x3 x4)))
def fX11_standFor_L33 (g0 : Mm) (a1 : Int32) (x3 : Int32) (x4 : Int32) : Option (Int32) :=
  wLp (fun q => fX11_standFor_B33 g0 a1 q.1 q.2) 1000 (x3, x4)
def fX11_standFor_b28 (g0 : Mm) (a1 : Int32) : Option (Int32) :=
  wLe (-1 : Int32) fun y4 => wLe (0 : Int32) fun y6 => fX11_standFor_L33 g0 a1 y4 y6
def fX11_standFor (g0 : Mm) (a1 : Int32) : Option (Int32) :=
  wBd (fX11_of g0 a1 (4 : Int32)) fun y2 => if y2 = (-1 : Int32) then (fX11_standFor_b28 g0 a1) else (wGi ((496 : Int32) + y2) 510 (if (g0 1 0 0 ((496 : Int32) + y2).toNatClampNeg) = (-1 : Int32) then (some y2) else (fX11_standFor_b28 g0 a1)))
def fX11_isReady_b143 (g : Mm) (a1 : Int32) (a2 : Int32) (z0 : Int64) (z1 : Int64) : Option (Mm × Int32) :=
  wLe (z0 + z1) fun y17 => wGi (480 : Int32) 510 (if (lg_cmp ((g 1 0 0 ((480 : Int32)).toNatClampNeg).toInt64) y17) < 0 then (some (g, (0 : Int32))) else (some (g, (1 : Int32))))
def fX11_isReady_b93 (g : Mm) (a1 : Int32) (a2 : Int32) : Option (Mm × Int32) :=
  wGi ((460 : Int32) + a2) 510 (wLe ((g 1 0 0 ((460 : Int32) + a2).toNatClampNeg).toInt64) fun y9 => wGi ((462 : Int32) + a2) 510 (if (g 1 0 0 ((462 : Int32) + a2).toNatClampNeg) = (-1 : Int32) then (fX11_isReady_b143 g a1 a2 y9 (0 : Int64)) else (wGi ((462 : Int32) + a2) 510 (wB2 (fX11_atLeast0 g (1 : Int32) a1 (g 1 0 0 ((462 : Int32) + a2).toNatClampNeg)) fun g16 y15 => fX11_isReady_b143 g16 a1 a2 y9 y15.toInt64))))
def fX11_isReady_b80 (g : Mm) (a1 : Int32) (a2 : Int32) (x3 : Int32) (z0 : Int32) : Option (Mm × Int32) :=
  if x3 = 0 then (if z0 = 0 then (some (g, (0 : Int32))) else (fX11_isReady_b93 g a1 a2)) else (fX11_isReady_b93 g a1 a2)
def fX11_isReady_b79 (g : Mm) (a1 : Int32) (a2 : Int32) (x3 : Int32) : Option (Mm × Int32) :=
  fX11_isReady_b80 g a1 a2 x3 (0 : Int32)
def fX11_isReady_b25 (g : Mm) (a1 : Int32) (a2 : Int32) (z0 : Int32) : Option (Mm × Int32) :=
  wBd (fX11_of g a1 (6 : Int32)) fun y5 => if y5 = (5 : Int32) then (wGi (480 : Int32) 510 (wBd (fX11_of g a1 (7 : Int32)) fun y24 => if ((g 1 0 0 ((480 : Int32)).toNatClampNeg) - y24) < (4 : Int32) then (fX11_isReady_b79 g a1 a2 z0) else (wBd (fX11_of g a1 (17 : Int32)) fun y27 => if y27 = 0 then (wBd (fX11_needsIce g a1) fun y30 => if y30 = 0 then (fX11_isReady_b80 g a1 a2 z0 (1 : Int32)) else (fX11_isReady_b79 g a1 a2 z0)) else (fX11_isReady_b79 g a1 a2 z0)))) else (fX11_isReady_b79 g a1 a2 z0)
def fX11_isReady_b24 (g : Mm) (a1 : Int32) (a2 : Int32) : Option (Mm × Int32) :=
  fX11_isReady_b25 g a1 a2 (0 : Int32)
def fX11_isReady (g : Mm) (a1 : Int32) (a2 : Int32) : Option (Mm × Int32) :=
  wBd (fX11_of g a1 (6 : Int32)) fun y2 => if y2 = (1 : Int32) then (wBd (fX11_standFor g a1) fun y33 => if y33 = (-1 : Int32) then (fX11_isReady_b24 g a1 a2) else (fX11_isReady_b25 g a1 a2 (1 : Int32))) else (fX11_isReady_b24 g a1 a2)
def fX11_uses_b134 (g : Mm) (a1 : Int32) (x2 : Int32) : Option (Mm) :=
  wGi (480 : Int32) 510 (wBd (fX11_of g x2 (0 : Int32)) fun y19 => wGi y19 6 (wGi ((460 : Int32) + a1) 510 (wLe (st g 1 0 0 ((460 : Int32) + a1).toNatClampNeg ((g 1 0 0 ((480 : Int32)).toNatClampNeg) + (g 15 0 0 (y19).toNatClampNeg))) fun g22 => wBd (fX11_of g22 x2 (0 : Int32)) fun y25 => wGi ((462 : Int32) + a1) 510 (wLe (st g22 1 0 0 ((462 : Int32) + a1).toNatClampNeg y25) fun g27 => some g27))))
def fX11_uses_b62 (g : Mm) (a1 : Int32) (x2 : Int32) (x3 : Int32) (x4 : Int32) : Option ((Mm × Int32 × Int32 × Int32) ⊕ (Mm)) :=
  wLe (x4 + 1) fun y44 => some (.inl (g, x2, x3, y44))
def fX11_uses_b56 (g : Mm) (a1 : Int32) (x4 : Int32) (x5 : Int32) : Option ((Mm × Int32 × Int32 × Int32) ⊕ (Mm)) :=
  fX11_uses_b62 g a1 x4 x5 x4
def fX11_uses_B7 (g : Mm) (a1 : Int32) (x2 : Int32) (x3 : Int32) (x4 : Int32) : Option ((Mm × Int32 × Int32 × Int32) ⊕ (Mm)) :=
  if (g 0 0 0 1) ≤ x4 then (wEx (if x2 = (-1 : Int32) then (some g) else (wBd (fX11_of g x2 (6 : Int32)) fun y12 => if y12 = (1 : Int32) then (wBd (fX11_standFor g x2) fun y30 => wGi ((496 : Int32) + y30) 510 (wLe (st g 1 0 0 ((496 : Int32) + y30).toNatClampNeg x2) fun g32 => wGi (((30 : Int32) * x2) + (8 : Int32)) 510 (wLe (st g32 1 0 0 (((30 : Int32) * x2) + (8 : Int32)).toNatClampNeg y30) fun g35 => wBd (fX11_becomes g35 x2 (2 : Int32)) fun g39 => fX11_uses_b134 g39 a1 x2))) else (wBd (fX11_becomes g x2 (6 : Int32)) fun g16 => fX11_uses_b134 g16 a1 x2)))) else (wB2 (fX11_isReady g x4 a1) fun g42 y41 => if y41 = 0 then (fX11_uses_b62 g42 a1 x2 x3 x4) else (wGi ((462 : Int32) + a1) 510 (wB2 (fX11_worth g42 (0 : Int32) x4 (g42 1 0 0 ((462 : Int32) + a1).toNatClampNeg)) fun g49 y48 => if x2 = (-1 : Int32) then (fX11_uses_b56 g49 a1 x4 y48) else (if y48 ≤ x3 then (fX11_uses_b62 g49 a1 x2 x3 x4) else (fX11_uses_b56 g49 a1 x4 y48)))))
def fX11_uses_L7 (g : Mm) (a1 : Int32) (x2 : Int32) (x3 : Int32) (x4 : Int32) : Option (Mm) :=
  wLp (fun q => fX11_uses_B7 q.1 a1 q.2.1 q.2.2.1 q.2.2.2) 1000 (g, x2, x3, x4)
def fX11_uses (g : Mm) (a1 : Int32) : Option (Mm) :=
  wLe (-1 : Int32) fun y1 => wLe (0 : Int32) fun y3 => wLe (0 : Int32) fun y5 => fX11_uses_L7 g a1 y1 y3 y5
def fX11_causeOf_b30 (g0 : Mm) (a1 : Int32) (z0 : Int32) : Option (Int32) :=
  wBd (fX11_of g0 a1 (6 : Int32)) fun y4 => if y4 = 1 then (wBd (fX11_standFor g0 a1) fun y7 => if y7 = (-1 : Int32) then (some (1 : Int32)) else (some z0)) else if y4 = 2 then (some (0 : Int32)) else if y4 = 3 then (some (0 : Int32)) else if y4 = 4 then (wGi a1 12 (some (g0 21 0 0 (a1).toNatClampNeg))) else if y4 = 5 then (wBd (fX11_of g0 a1 (17 : Int32)) fun y15 => if 0 < y15 then (some (8 : Int32)) else (wBd (fX11_needsIce g0 a1) fun y18 => if y18 = 0 then (wGi (480 : Int32) 510 (wBd (fX11_of g0 a1 (7 : Int32)) fun y22 => if (4 : Int32) ≤ ((g0 1 0 0 ((480 : Int32)).toNatClampNeg) - y22) then (some z0) else (some (2 : Int32)))) else (some (8 : Int32)))) else (some (0 : Int32))
def fX11_causeOf_b29 (g0 : Mm) (a1 : Int32) : Option (Int32) :=
  fX11_causeOf_b30 g0 a1 (5 : Int32)
def fX11_causeOf (g0 : Mm) (a1 : Int32) : Option (Int32) :=
  wGi (481 : Int32) 510 (if (g0 1 0 0 ((481 : Int32)).toNatClampNeg) = (1 : Int32) then (wGi (484 : Int32) 510 (if (g0 1 0 0 ((484 : Int32)).toNatClampNeg) = (2 : Int32) then (fX11_causeOf_b30 g0 a1 (6 : Int32)) else (fX11_causeOf_b29 g0 a1))) else (fX11_causeOf_b29 g0 a1))
def fX11_ticks_b263 (g : Mm) (x1 : Int32) : Option ((Mm × Int32) ⊕ (Mm)) :=
  wLe (x1 + 1) fun y46 => some (.inl (g, y46))
def fX11_ticks_B205 (g : Mm) (x1 : Int32) : Option ((Mm × Int32) ⊕ (Mm)) :=
  if (g 0 0 0 1) ≤ x1 then (wEx (wGi (480 : Int32) 510 (wGi (480 : Int32) 510 (wLe (st g 1 0 0 ((480 : Int32)).toNatClampNeg ((g 1 0 0 ((480 : Int32)).toNatClampNeg) + (1 : Int32))) fun g41 => some g41)))) else (wBd (fX11_of g x1 (6 : Int32)) fun y44 => if (5 : Int32) < y44 then (fX11_ticks_b263 g x1) else (wGi (480 : Int32) 510 (wBd (fX11_of g x1 (2 : Int32)) fun y50 => if (g 1 0 0 ((480 : Int32)).toNatClampNeg) < y50 then (fX11_ticks_b263 g x1) else (wBd (fX11_causeOf g x1) fun y53 => wGi ((((30 : Int32) * x1) + (19 : Int32)) + y53) 510 (wGi ((((30 : Int32) * x1) + (19 : Int32)) + y53) 510 (wLe (st g 1 0 0 ((((30 : Int32) * x1) + (19 : Int32)) + y53).toNatClampNeg ((g 1 0 0 ((((30 : Int32) * x1) + (19 : Int32)) + y53).toNatClampNeg) + (1 : Int32))) fun g56 => fX11_ticks_b263 g56 x1))))))
def fX11_ticks_L205 (g : Mm) (x1 : Int32) : Option (Mm) :=
  wLp (fun q => fX11_ticks_B205 q.1 q.2) 1000 (g, x1)
def fX11_ticks_b189 (g : Mm) (x1 : Int32) (z0 : Int32) (z1 : Int32) : Option ((Mm × Int32) ⊕ (Mm)) :=
  if z1 ≤ z0 then (wEx (wLe (0 : Int32) fun y34 => fX11_ticks_L205 g y34)) else (wBd (fX11_uses g x1) fun g60 => wLe (x1 + 1) fun y61 => some (.inl (g60, y61)))
def fX11_ticks_B164 (g : Mm) (x1 : Int32) : Option ((Mm × Int32) ⊕ (Mm)) :=
  wGi (481 : Int32) 510 (if (g 1 0 0 ((481 : Int32)).toNatClampNeg) = (1 : Int32) then (fX11_ticks_b189 g x1 x1 (1 : Int32)) else (wGi (484 : Int32) 510 (fX11_ticks_b189 g x1 x1 (g 1 0 0 ((484 : Int32)).toNatClampNeg))))
def fX11_ticks_L164 (g : Mm) (x1 : Int32) : Option (Mm) :=
  wLp (fun q => fX11_ticks_B164 q.1 q.2) 1000 (g, x1)
def fX11_ticks_b156 (g : Mm) (x1 : Int32) : Option ((Mm × Int32) ⊕ (Mm)) :=
  wLe (x1 + 1) fun y66 => some (.inl (g, y66))
def fX11_ticks_B104 (g : Mm) (x1 : Int32) : Option ((Mm × Int32) ⊕ (Mm)) :=
  if (g 0 0 0 1) ≤ x1 then (wEx (wLe (0 : Int32) fun y26 => fX11_ticks_L164 g y26)) else (wBd (fX11_of g x1 (6 : Int32)) fun y64 => if y64 = (5 : Int32) then (wBd (fX11_needsIce g x1) fun y69 => if y69 = 0 then (fX11_ticks_b156 g x1) else (wBd (fX11_of g x1 (17 : Int32)) fun y72 => if y72 = 0 then (wBd (fX11_isFree g (4 : Int32)) fun y75 => if y75 = 0 then (fX11_ticks_b156 g x1) else (wBd (fX11_begins g x1 (6 : Int32)) fun g79 => fX11_ticks_b156 g79 x1)) else (fX11_ticks_b156 g x1))) else (fX11_ticks_b156 g x1))
def fX11_ticks_L104 (g : Mm) (x1 : Int32) : Option (Mm) :=
  wLp (fun q => fX11_ticks_B104 q.1 q.2) 1000 (g, x1)
def fX11_ticks_b96 (g : Mm) (x1 : Int32) : Option ((Mm × Int32) ⊕ (Mm)) :=
  wLe (x1 + 1) fun y83 => some (.inl (g, y83))
def fX11_ticks_B72 (g : Mm) (x1 : Int32) : Option ((Mm × Int32) ⊕ (Mm)) :=
  if (g 0 0 0 1) ≤ x1 then (wEx (wLe (0 : Int32) fun y21 => fX11_ticks_L104 g y21)) else (wBd (fX11_of g x1 (6 : Int32)) fun y81 => if y81 = (4 : Int32) then (wBd (fX11_serves g x1) fun g87 => fX11_ticks_b96 g87 x1) else (fX11_ticks_b96 g x1))
def fX11_ticks_L72 (g : Mm) (x1 : Int32) : Option (Mm) :=
  wLp (fun q => fX11_ticks_B72 q.1 q.2) 1000 (g, x1)
def fX11_ticks_B44 (g : Mm) (x1 : Int32) : Option ((Mm × Int32) ⊕ (Mm)) :=
  if (g 0 0 0 2) ≤ x1 then (wEx (wLe (0 : Int32) fun y16 => fX11_ticks_L72 g y16)) else (wBd (fX11_feedGoes g ((360 : Int32) + ((6 : Int32) * x1))) fun g90 => wLe (x1 + 1) fun y91 => some (.inl (g90, y91)))
def fX11_ticks_L44 (g : Mm) (x1 : Int32) : Option (Mm) :=
  wLp (fun q => fX11_ticks_B44 q.1 q.2) 1000 (g, x1)
def fX11_ticks_B23 (g : Mm) (x1 : Int32) : Option ((Mm × Int32) ⊕ (Mm)) :=
  if (g 0 0 0 1) ≤ x1 then (wEx (wLe (0 : Int32) fun y11 => fX11_ticks_L44 g y11)) else (wBd (fX11_works g x1) fun g95 => wLe (x1 + 1) fun y96 => some (.inl (g95, y96)))
def fX11_ticks_L23 (g : Mm) (x1 : Int32) : Option (Mm) :=
  wLp (fun q => fX11_ticks_B23 q.1 q.2) 1000 (g, x1)
def fX11_ticks_B2 (g : Mm) (x1 : Int32) : Option ((Mm × Int32) ⊕ (Mm)) :=
  if (g 0 0 0 1) ≤ x1 then (wEx (wLe (0 : Int32) fun y6 => fX11_ticks_L23 g y6)) else (wBd (fX11_goesOn g x1) fun g100 => wLe (x1 + 1) fun y101 => some (.inl (g100, y101)))
def fX11_ticks_L2 (g : Mm) (x1 : Int32) : Option (Mm) :=
  wLp (fun q => fX11_ticks_B2 q.1 q.2) 1000 (g, x1)
def fX11_ticks (g : Mm) : Option (Mm) :=
  wLe (0 : Int32) fun y1 => fX11_ticks_L2 g y1
def fX11_run_B35 (g : Mm) (a1 : Int32) (x2 : Int32) : Option ((Mm × Int32) ⊕ (Mm × Int32)) :=
  if a1 ≤ x2 then (wEx (wGi (480 : Int32) 510 (some (g, g 1 0 0 ((480 : Int32)).toNatClampNeg)))) else (wBd (fX11_ticks g) fun g14 => wLe (x2 + 1) fun y15 => some (.inl (g14, y15)))
def fX11_run_L35 (g : Mm) (a1 : Int32) (x2 : Int32) : Option (Mm × Int32) :=
  wLp (fun q => fX11_run_B35 q.1 a1 q.2) 1000 (g, x2)
def fX11_run (g : Mm) (a1 : Int32) : Option (Mm × Int32) :=
  wBd (fX11_in g a1 (1 : Int32) (200 : Int32)) fun y2 => if y2 = 0 then (some (g, (-2 : Int32))) else (wGi (480 : Int32) 510 (if ((g 1 0 0 ((480 : Int32)).toNatClampNeg) + a1) ≤ (9999 : Int32) then (wLe (0 : Int32) fun y6 => fX11_run_L35 g a1 y6) else (some (g, (-4 : Int32)))))
def fX11_lateOf_B4 (g0 : Mm) (a1 : Int32) (x2 : Int32) (x3 : Int32) : Option ((Int32 × Int32) ⊕ (Int32)) :=
  if (9 : Int32) ≤ x3 then (wEx (some x2)) else (wBd (fX11_of g0 a1 ((19 : Int32) + x3)) fun y9 => wLe (x2 + y9) fun y10 => wLe (x3 + 1) fun y12 => some (.inl (y10, y12)))
def fX11_lateOf_L4 (g0 : Mm) (a1 : Int32) (x2 : Int32) (x3 : Int32) : Option (Int32) :=
  wLp (fun q => fX11_lateOf_B4 g0 a1 q.1 q.2) 1000 (x2, x3)
def fX11_lateOf (g0 : Mm) (a1 : Int32) : Option (Int32) :=
  wLe (0 : Int32) fun y1 => wLe (0 : Int32) fun y3 => fX11_lateOf_L4 g0 a1 y1 y3
def fX11_lateOfAll_B4 (g0 : Mm) (x1 : Int32) (x2 : Int32) : Option ((Int32 × Int32) ⊕ (Int32)) :=
  if (g0 0 0 0 1) ≤ x2 then (wEx (some x1)) else (wBd (fX11_lateOf g0 x2) fun y9 => wLe (x1 + y9) fun y10 => wLe (x2 + 1) fun y12 => some (.inl (y10, y12)))
def fX11_lateOfAll_L4 (g0 : Mm) (x1 : Int32) (x2 : Int32) : Option (Int32) :=
  wLp (fun q => fX11_lateOfAll_B4 g0 q.1 q.2) 1000 (x1, x2)
def fX11_lateOfAll (g0 : Mm) : Option (Int32) :=
  wLe (0 : Int32) fun y1 => wLe (0 : Int32) fun y3 => fX11_lateOfAll_L4 g0 y1 y3
def fX11_missed_b46 (g0 : Mm) (x2 : Int32) (z0 : Int32) (z1 : Int32) : Option ((Int32 × Int32) ⊕ (Int32)) :=
  wLe (z0 + z1) fun y10 => wLe (x2 + 6) fun y12 => some (.inl (y10, y12))
def fX11_missed_B6 (g0 : Mm) (x1 : Int32) (x2 : Int32) : Option ((Int32 × Int32) ⊕ (Int32)) :=
  if ((360 : Int32) + ((6 : Int32) * (g0 0 0 0 2))) ≤ x2 then (wEx (some x1)) else (wGi (x2 + (4 : Int32)) 510 (if (g0 1 0 0 (x2 + (4 : Int32)).toNatClampNeg) = (3 : Int32) then (wGi (x2 + (2 : Int32)) 510 (fX11_missed_b46 g0 x2 x1 (g0 1 0 0 (x2 + (2 : Int32)).toNatClampNeg))) else (fX11_missed_b46 g0 x2 x1 (0 : Int32))))
def fX11_missed_L6 (g0 : Mm) (x1 : Int32) (x2 : Int32) : Option (Int32) :=
  wLp (fun q => fX11_missed_B6 g0 q.1 q.2) 1000 (x1, x2)
def fX11_missed (g0 : Mm) : Option (Int32) :=
  wLe (0 : Int32) fun y1 => wLe (360 : Int32) fun y3 => fX11_missed_L6 g0 y1 y3
def fX11_visitTold_b162 (g0 : Mm) (a1 : Int32) (a2 : Int32) (x4 : Int32) (z0 : Int32) (z1 : Int32) : Option ((Int32 × Int32) ⊕ (Int32)) :=
  wLe (z0 ||| z1) fun y39 => wLe (x4 + 1) fun y41 => some (.inl (y39, y41))
def fX11_visitTold_B133 (g0 : Mm) (a1 : Int32) (a2 : Int32) (x3 : Int32) (x4 : Int32) : Option ((Int32 × Int32) ⊕ (Int32)) :=
  if (8 : Int32) ≤ x4 then (wEx (some x3)) else (wBd (fX11_of g0 a1 ((11 : Int32) + x4)) fun y37 => if y37 ≤ 0 then (fX11_visitTold_b162 g0 a1 a2 x4 x3 (0 : Int32)) else (fX11_visitTold_b162 g0 a1 a2 x4 x3 ((1 : Int32) <<< (x4 &&& 31))))
def fX11_visitTold_L133 (g0 : Mm) (a1 : Int32) (a2 : Int32) (x3 : Int32) (x4 : Int32) : Option (Int32) :=
  wLp (fun q => fX11_visitTold_B133 g0 a1 a2 q.1 q.2) 1000 (x3, x4)
def fX11_visitTold (g0 : Mm) (a1 : Int32) (a2 : Int32) : Option (Int32) :=
  wBd (fX11_isVisit g0 a1) fun y2 => if y2 = 0 then (some (-1 : Int32)) else (wLe (0 : Int32) fun y4 => if a2 = 0 then (wBd (fX11_of g0 a1 (0 : Int32)) fun y8 => some y8) else if a2 = 1 then (wBd (fX11_of g0 a1 (6 : Int32)) fun y11 => some y11) else if a2 = 2 then (wBd (fX11_of g0 a1 (7 : Int32)) fun y14 => some y14) else if a2 = 3 then (wBd (fX11_of g0 a1 (8 : Int32)) fun y17 => some y17) else if a2 = 4 then (wBd (fX11_come g0 a1) fun y20 => some y20) else if a2 = 5 then (wBd (fX11_of g0 a1 (2 : Int32)) fun y23 => some y23) else if a2 = 6 then (wBd (fX11_of g0 a1 (9 : Int32)) fun y26 => some y26) else if a2 = 7 then (wBd (fX11_lateOf g0 a1) fun y29 => some y29) else if a2 = 8 then (wLe (0 : Int32) fun y31 => fX11_visitTold_L133 g0 a1 a2 y4 y31) else if a2 = 9 then (wBd (fX11_of g0 a1 (4 : Int32)) fun y45 => some y45) else if a2 = 10 then (wBd (fX11_limit g0 a1) fun y48 => some y48) else (some (-2 : Int32)))
def fX11_cause (g0 : Mm) (a1 : Int32) (a2 : Int32) : Option (Int32) :=
  wBd (fX11_isVisit g0 a1) fun y2 => if y2 = 0 then (some (-1 : Int32)) else (wBd (fX11_in g0 a2 (0 : Int32) (8 : Int32)) fun y5 => if y5 = 0 then (some (-2 : Int32)) else (wBd (fX11_of g0 a1 ((19 : Int32) + a2)) fun y8 => some y8))
def fX11_feedTold (g0 : Mm) (a1 : Int32) (a2 : Int32) : Option (Int32) :=
  wBd (fX11_in g0 a1 (0 : Int32) ((g0 0 0 0 2) - (1 : Int32))) fun y2 => if y2 = 0 then (some (-1 : Int32)) else (wLe ((360 : Int32) + ((6 : Int32) * a1)) fun y4 => if a2 = 0 then (wGi (y4 + a2) 510 (some (g0 1 0 0 (y4 + a2).toNatClampNeg))) else if a2 = 1 then (wGi (y4 + a2) 510 (some (g0 1 0 0 (y4 + a2).toNatClampNeg))) else if a2 = 2 then (wGi (y4 + a2) 510 (some (g0 1 0 0 (y4 + a2).toNatClampNeg))) else if a2 = 3 then (wGi (y4 + (4 : Int32)) 510 (some (g0 1 0 0 (y4 + (4 : Int32)).toNatClampNeg))) else if a2 = 4 then (wGi (y4 + (5 : Int32)) 510 (some (g0 1 0 0 (y4 + (5 : Int32)).toNatClampNeg))) else (some (-2 : Int32)))
def fX11_standTold (g0 : Mm) (a1 : Int32) (a2 : Int32) : Option (Int32) :=
  wBd (fX11_isStand g0 a1) fun y2 => if y2 = 0 then (some (-3 : Int32)) else (if a2 = 0 then (wGi ((490 : Int32) + a1) 510 (some (g0 1 0 0 ((490 : Int32) + a1).toNatClampNeg))) else (if a2 = (1 : Int32) then (wGi ((496 : Int32) + a1) 510 (some (g0 1 0 0 ((496 : Int32) + a1).toNatClampNeg))) else (some (-2 : Int32))))
def fX11_runwayTold (g0 : Mm) (a1 : Int32) (a2 : Int32) : Option (Int32) :=
  wBd (fX11_in g0 a1 (0 : Int32) (1 : Int32)) fun y2 => if y2 = 0 then (some (-3 : Int32)) else (if a2 = 0 then (wGi ((460 : Int32) + a1) 510 (some (g0 1 0 0 ((460 : Int32) + a1).toNatClampNeg))) else (if a2 = (1 : Int32) then (wGi ((462 : Int32) + a1) 510 (some (g0 1 0 0 ((462 : Int32) + a1).toNatClampNeg))) else (some (-2 : Int32))))
def fX11_ticks_ (g0 : Mm) (a1 : Int32) (a2 : Int32) : Option (Int32) :=
  wBd (fX11_in g0 a1 (0 : Int32) (5 : Int32)) fun y2 => if y2 = 0 then (some (-2 : Int32)) else (wBd (fX11_in g0 a2 (0 : Int32) (7 : Int32)) fun y5 => if y5 = 0 then (some (-2 : Int32)) else (wGi (((8 : Int32) * a1) + a2) 48 (some (g0 13 0 0 (((8 : Int32) * a1) + a2).toNatClampNeg))))
def fX11_kindTold (g0 : Mm) (a1 : Int32) (a2 : Int32) : Option (Int32) :=
  wBd (fX11_in g0 a1 (0 : Int32) (5 : Int32)) fun y2 => if y2 = 0 then (some (-2 : Int32)) else (wBd (fX11_in g0 a2 (0 : Int32) (1 : Int32)) fun y5 => if y5 = 0 then (some (-2 : Int32)) else (if a2 = 0 then (wGi a1 6 (some (g0 14 0 0 (a1).toNatClampNeg))) else (wGi a1 6 (some (g0 15 0 0 (a1).toNatClampNeg)))))
def fX11_trucks (g0 : Mm) (a1 : Int32) (a2 : Int32) : Option (Int32) :=
  wBd (fX11_in g0 a1 (0 : Int32) (4 : Int32)) fun y2 => if y2 = 0 then (some (-3 : Int32)) else (if a2 = 0 then (wGi ((470 : Int32) + a1) 510 (some (g0 1 0 0 ((470 : Int32) + a1).toNatClampNeg))) else (if a2 = (1 : Int32) then (wGi ((475 : Int32) + a1) 510 (some (g0 1 0 0 ((475 : Int32) + a1).toNatClampNeg))) else (some (-2 : Int32))))
def fX11_lays_b40 (g : Mm) (a1 : Int32) (x2 : Int32) : Option ((Mm × Int32) ⊕ (Mm)) :=
  wLe (x2 + 1) fun y11 => some (.inl (g, y11))
def fX11_lays_B2 (g : Mm) (a1 : Int32) (x2 : Int32) : Option ((Mm × Int32) ⊕ (Mm)) :=
  if (510 : Int32) ≤ x2 then (wEx (some g)) else (if a1 = 0 then (wGi x2 510 (wGi x2 510 (wLe (st g 22 0 0 (x2).toNatClampNeg (g 1 0 0 (x2).toNatClampNeg)) fun g9 => fX11_lays_b40 g9 a1 x2))) else (wGi x2 510 (wGi x2 510 (wLe (st g 1 0 0 (x2).toNatClampNeg (g 22 0 0 (x2).toNatClampNeg)) fun g15 => fX11_lays_b40 g15 a1 x2))))
def fX11_lays_L2 (g : Mm) (a1 : Int32) (x2 : Int32) : Option (Mm) :=
  wLp (fun q => fX11_lays_B2 q.1 a1 q.2) 1000 (g, x2)
def fX11_lays (g : Mm) (a1 : Int32) : Option (Mm) :=
  wLe (0 : Int32) fun y1 => fX11_lays_L2 g a1 y1
def fX11_outcome_b75 (g0 : Mm) (a1 : Int32) (x3 : Int32) (z0 : Int32) (z1 : Int32) : Option ((Int32 × Int32) ⊕ (Int32)) :=
  wLe (z0 + z1) fun y16 => wLe (x3 + 1) fun y18 => some (.inl (y16, y18))
def fX11_outcome_b67 (g0 : Mm) (a1 : Int32) (x3 : Int32) (z0 : Int32) (z1 : Int32) (z2 : Int32) : Option ((Int32 × Int32) ⊕ (Int32)) :=
  if z1 = z2 then (fX11_outcome_b75 g0 a1 x3 z0 (1 : Int32)) else (fX11_outcome_b75 g0 a1 x3 z0 (0 : Int32))
def fX11_outcome_B39 (g0 : Mm) (a1 : Int32) (x2 : Int32) (x3 : Int32) : Option ((Int32 × Int32) ⊕ (Int32)) :=
  if (g0 0 0 0 1) ≤ x3 then (wEx (some x2)) else (wBd (fX11_of g0 x3 (6 : Int32)) fun y13 => if a1 = (1 : Int32) then (fX11_outcome_b67 g0 a1 x3 x2 y13 (7 : Int32)) else (fX11_outcome_b67 g0 a1 x3 x2 y13 (8 : Int32)))
def fX11_outcome_L39 (g0 : Mm) (a1 : Int32) (x2 : Int32) (x3 : Int32) : Option (Int32) :=
  wLp (fun q => fX11_outcome_B39 g0 a1 q.1 q.2) 1000 (x2, x3)
def fX11_outcome (g0 : Mm) (a1 : Int32) : Option (Int32) :=
  wLe (0 : Int32) fun y1 => if a1 = 0 then (wBd (fX11_lateOfAll g0) fun y5 => some y5) else if a1 = 1 then (wLe (0 : Int32) fun y7 => fX11_outcome_L39 g0 a1 y1 y7) else if a1 = 2 then (wLe (0 : Int32) fun y21 => fX11_outcome_L39 g0 a1 y1 y21) else if a1 = 3 then (wBd (fX11_missed g0) fun y25 => some y25) else (wGi (483 : Int32) 510 (some (g0 1 0 0 ((483 : Int32)).toNatClampNeg)))
def fX11_beside_B49 (g : Mm) (a1 : Int32) (a2 : Int32) (x3 : Int32) : Option ((Mm × Int32) ⊕ (Mm × Int32)) :=
  if a1 ≤ x3 then (wEx (wBd (fX11_outcome g a2) fun y18 => wBd (fX11_lays g (1 : Int32)) fun g21 => some (g21, y18))) else (wBd (fX11_ticks g) fun g24 => wLe (x3 + 1) fun y25 => some (.inl (g24, y25)))
def fX11_beside_L49 (g : Mm) (a1 : Int32) (a2 : Int32) (x3 : Int32) : Option (Mm × Int32) :=
  wLp (fun q => fX11_beside_B49 q.1 a1 a2 q.2) 1000 (g, x3)
def fX11_beside (g : Mm) (a1 : Int32) (a2 : Int32) : Option (Mm × Int32) :=
  wBd (fX11_in g a1 (1 : Int32) (200 : Int32)) fun y2 => if y2 = 0 then (some (g, (-2 : Int32))) else (wBd (fX11_in g a2 (0 : Int32) (4 : Int32)) fun y5 => if y5 = 0 then (some (g, (-2 : Int32))) else (wGi (480 : Int32) 510 (if ((g 1 0 0 ((480 : Int32)).toNatClampNeg) + a1) ≤ (9999 : Int32) then (wBd (fX11_lays g (0 : Int32)) fun g11 => wLe (0 : Int32) fun y12 => fX11_beside_L49 g11 a1 a2 y12) else (some (g, (-4 : Int32))))))
def fX11_maySit (g0 : Mm) (a1 : Int32) (a2 : Int32) : Option (Int32) :=
  if a2 = (-1 : Int32) then (some (1 : Int32)) else (wGi ((490 : Int32) + a2) 510 (wBd (fX11_of g0 a1 (0 : Int32)) fun y4 => wGi y4 6 (if (g0 1 0 0 ((490 : Int32) + a2).toNatClampNeg) < (g0 14 0 0 (y4).toNatClampNeg) then (some (0 : Int32)) else (some (1 : Int32)))))
def fX11_plan_b315 (g : Mm) (a1 : Int32) (a2 : Int32) (x3 : Int32) (x4 : Int32) (x7 : Int32) (x8 : Int32) (x9 : Int32) (x10 : Int32) (x11 : Int32) : Option ((Mm × Int32 × Int32 × Int32 × Int32) ⊕ ((Mm × Int32 × Int32 × Int32 × Int32) ⊕ (Mm × Int32))) :=
  wLe (x11 + 1) fun y57 => some (.inl (g, x7, x8, x9, y57))
def fX11_plan_b303 (g : Mm) (a1 : Int32) (a2 : Int32) (x3 : Int32) (x4 : Int32) (x10 : Int32) (x11 : Int32) (x12 : Int32) : Option ((Mm × Int32 × Int32 × Int32 × Int32) ⊕ ((Mm × Int32 × Int32 × Int32 × Int32) ⊕ (Mm × Int32))) :=
  fX11_plan_b315 g a1 a2 x3 x4 x12 x10 x11 x10 x11
def fX11_plan_B263 (g : Mm) (a1 : Int32) (a2 : Int32) (x3 : Int32) (x4 : Int32) (x7 : Int32) (x8 : Int32) (x9 : Int32) (x10 : Int32) (x11 : Int32) (x12 : Int32) : Option ((Mm × Int32) ⊕ ((Mm × Int32 × Int32 × Int32 × Int32) ⊕ ((Mm × Int32 × Int32 × Int32 × Int32) ⊕ (Mm × Int32)))) :=
  if a2 ≤ x12 then (wEx (wBd (fX11_lateOfAll g) fun y70 => wBd (fX11_lays g (1 : Int32)) fun g73 => if x7 = (-1 : Int32) then (fX11_plan_b303 g73 a1 a2 x3 x4 x10 x11 y70) else (if x7 ≤ y70 then (fX11_plan_b315 g73 a1 a2 x3 x4 x7 x8 x9 x10 x11) else (fX11_plan_b303 g73 a1 a2 x3 x4 x10 x11 y70)))) else (wBd (fX11_ticks g) fun g78 => wLe (x12 + 1) fun y79 => some (.inl (g78, y79)))
def fX11_plan_L263 (g : Mm) (a1 : Int32) (a2 : Int32) (x3 : Int32) (x4 : Int32) (x7 : Int32) (x8 : Int32) (x9 : Int32) (x10 : Int32) (x11 : Int32) (x12 : Int32) : Option ((Mm × Int32 × Int32 × Int32 × Int32) ⊕ ((Mm × Int32 × Int32 × Int32 × Int32) ⊕ (Mm × Int32))) :=
  wLp (fun q => fX11_plan_B263 q.1 a1 a2 x3 x4 x7 x8 x9 x10 x11 q.2) 1000 (g, x12)
def fX11_plan_b260 (g : Mm) (a1 : Int32) (a2 : Int32) (x3 : Int32) (x4 : Int32) (x7 : Int32) (x8 : Int32) (x9 : Int32) (x10 : Int32) (x11 : Int32) : Option ((Mm × Int32 × Int32 × Int32 × Int32) ⊕ ((Mm × Int32 × Int32 × Int32 × Int32) ⊕ (Mm × Int32))) :=
  wLe (0 : Int32) fun y64 => fX11_plan_L263 g a1 a2 x3 x4 x7 x8 x9 x10 x11 y64
def fX11_plan_b227 (g : Mm) (a1 : Int32) (a2 : Int32) (x3 : Int32) (x4 : Int32) (x7 : Int32) (x8 : Int32) (x9 : Int32) (x10 : Int32) (x11 : Int32) : Option ((Mm × Int32 × Int32 × Int32 × Int32) ⊕ ((Mm × Int32 × Int32 × Int32 × Int32) ⊕ (Mm × Int32))) :=
  wGi (((30 : Int32) * x3) + (4 : Int32)) 510 (wLe (st g 1 0 0 (((30 : Int32) * x3) + (4 : Int32)).toNatClampNeg x10) fun g61 => if x4 = (-1 : Int32) then (fX11_plan_b260 g61 a1 a2 x3 x4 x7 x8 x9 x10 x11) else (wGi (((30 : Int32) * x4) + (4 : Int32)) 510 (wLe (st g61 1 0 0 (((30 : Int32) * x4) + (4 : Int32)).toNatClampNeg x11) fun g82 => fX11_plan_b260 g82 a1 a2 x3 x4 x7 x8 x9 x10 x11)))
def fX11_plan_b197 (g : Mm) (a1 : Int32) (a2 : Int32) (x3 : Int32) (x4 : Int32) (x7 : Int32) (x8 : Int32) (x9 : Int32) (x10 : Int32) (x11 : Int32) (z0 : Int32) (z1 : Int32) : Option ((Mm × Int32 × Int32 × Int32 × Int32) ⊕ ((Mm × Int32 × Int32 × Int32 × Int32) ⊕ (Mm × Int32))) :=
  if z1 ≤ z0 then (wEx (wLe (x10 + 1) fun y52 => some (.inl (g, x7, x8, x9, y52)))) else (wBd (fX11_maySit g x3 x10) fun y55 => if y55 = 0 then (fX11_plan_b315 g a1 a2 x3 x4 x7 x8 x9 x10 x11) else (if x4 = (-1 : Int32) then (fX11_plan_b227 g a1 a2 x3 x4 x7 x8 x9 x10 x11) else (wBd (fX11_maySit g x4 x11) fun y85 => if y85 = 0 then (fX11_plan_b315 g a1 a2 x3 x4 x7 x8 x9 x10 x11) else (fX11_plan_b227 g a1 a2 x3 x4 x7 x8 x9 x10 x11))))
def fX11_plan_B181 (g : Mm) (a1 : Int32) (a2 : Int32) (x3 : Int32) (x4 : Int32) (x7 : Int32) (x8 : Int32) (x9 : Int32) (x10 : Int32) (x11 : Int32) : Option ((Mm × Int32 × Int32 × Int32 × Int32) ⊕ ((Mm × Int32 × Int32 × Int32 × Int32) ⊕ (Mm × Int32))) :=
  if x4 = (-1 : Int32) then (fX11_plan_b197 g a1 a2 x3 x4 x7 x8 x9 x10 x11 x11 (0 : Int32)) else (fX11_plan_b197 g a1 a2 x3 x4 x7 x8 x9 x10 x11 x11 (g 0 0 0 3))
def fX11_plan_L181 (g : Mm) (a1 : Int32) (a2 : Int32) (x3 : Int32) (x4 : Int32) (x7 : Int32) (x8 : Int32) (x9 : Int32) (x10 : Int32) (x11 : Int32) : Option ((Mm × Int32 × Int32 × Int32 × Int32) ⊕ (Mm × Int32)) :=
  wLp (fun q => fX11_plan_B181 q.1 a1 a2 x3 x4 q.2.1 q.2.2.1 q.2.2.2.1 x10 q.2.2.2.2) 1000 (g, x7, x8, x9, x11)
def fX11_plan_B169 (g : Mm) (a1 : Int32) (a2 : Int32) (x3 : Int32) (x4 : Int32) (x7 : Int32) (x8 : Int32) (x9 : Int32) (x10 : Int32) : Option ((Mm × Int32 × Int32 × Int32 × Int32) ⊕ (Mm × Int32)) :=
  if (g 0 0 0 3) ≤ x10 then (wEx (wLe (st g 0 0 0 8 a1) fun g37 => wGi x3 12 (wLe (st g37 5 0 0 (x3).toNatClampNeg x8) fun g40 => if x4 = (-1 : Int32) then (some (g40, x7)) else (wGi x4 12 (wLe (st g40 5 0 0 (x4).toNatClampNeg x9) fun g44 => some (g44, x7)))))) else (wLe (-1 : Int32) fun y46 => fX11_plan_L181 g a1 a2 x3 x4 x7 x8 x9 x10 y46)
def fX11_plan_L169 (g : Mm) (a1 : Int32) (a2 : Int32) (x3 : Int32) (x4 : Int32) (x7 : Int32) (x8 : Int32) (x9 : Int32) (x10 : Int32) : Option (Mm × Int32) :=
  wLp (fun q => fX11_plan_B169 q.1 a1 a2 x3 x4 q.2.1 q.2.2.1 q.2.2.2.1 q.2.2.2.2) 1000 (g, x7, x8, x9, x10)
def fX11_plan_b100 (g : Mm) (a1 : Int32) (a2 : Int32) (x3 : Int32) (x4 : Int32) (x5 : Int32) (x6 : Int32) (x7 : Int32) : Option ((Mm × Int32 × Int32 × Int32 × Int32 × Int32) ⊕ (Mm × Int32)) :=
  wLe (x7 + 1) fun y88 => some (.inl (g, x3, x4, x5, x6, y88))
def fX11_plan_b98 (g : Mm) (a1 : Int32) (a2 : Int32) (x3 : Int32) (x4 : Int32) (x5 : Int32) (x7 : Int32) (z0 : Int32) : Option ((Mm × Int32 × Int32 × Int32 × Int32 × Int32) ⊕ (Mm × Int32)) :=
  fX11_plan_b100 g a1 a2 x3 x4 x5 z0 x7
def fX11_plan_b97 (g : Mm) (a1 : Int32) (a2 : Int32) (x3 : Int32) (x4 : Int32) (x5 : Int32) (x7 : Int32) : Option ((Mm × Int32 × Int32 × Int32 × Int32 × Int32) ⊕ (Mm × Int32)) :=
  fX11_plan_b98 g a1 a2 x3 x4 x5 x7 (0 : Int32)
def fX11_plan_b75 (g : Mm) (a1 : Int32) (a2 : Int32) (x4 : Int32) (x5 : Int32) (x6 : Int32) (x7 : Int32) (z0 : Int32) : Option ((Mm × Int32 × Int32 × Int32 × Int32 × Int32) ⊕ (Mm × Int32)) :=
  wLe (x5 + 1) fun y92 => if x6 = 0 then (fX11_plan_b97 g a1 a2 z0 x4 y92 x7) else (wBd (fX11_isAhead g x7) fun y96 => if y96 = 0 then (fX11_plan_b97 g a1 a2 z0 x4 y92 x7) else (fX11_plan_b98 g a1 a2 z0 x4 y92 x7 (1 : Int32)))
def fX11_plan_b62 (g : Mm) (a1 : Int32) (a2 : Int32) (x3 : Int32) (x5 : Int32) (x6 : Int32) (x7 : Int32) (z0 : Int32) : Option ((Mm × Int32 × Int32 × Int32 × Int32 × Int32) ⊕ (Mm × Int32)) :=
  if x5 = 0 then (fX11_plan_b75 g a1 a2 z0 x5 x6 x7 x7) else (fX11_plan_b75 g a1 a2 z0 x5 x6 x7 x3)
def fX11_plan_B30 (g : Mm) (a1 : Int32) (a2 : Int32) (x3 : Int32) (x4 : Int32) (x5 : Int32) (x6 : Int32) (x7 : Int32) : Option ((Mm × Int32 × Int32 × Int32 × Int32 × Int32) ⊕ (Mm × Int32)) :=
  if (g 0 0 0 1) ≤ x7 then (wEx (if (2 : Int32) < x5 then (some (g, (-2 : Int32))) else (wBd (fX11_in g a2 (1 : Int32) (40 : Int32)) fun y18 => if y18 = 0 then (some (g, (-2 : Int32))) else (if x6 = 0 then (some (g, (-3 : Int32))) else (wGi (480 : Int32) 510 (if ((g 1 0 0 ((480 : Int32)).toNatClampNeg) + a2) ≤ (9999 : Int32) then (wBd (fX11_lays g (0 : Int32)) fun g25 => wLe (-1 : Int32) fun y26 => wLe (-1 : Int32) fun y28 => wLe (-1 : Int32) fun y30 => wLe (-1 : Int32) fun y32 => fX11_plan_L169 g25 a1 a2 x3 x4 y26 y28 y30 y32) else (some (g, (-4 : Int32))))))))) else (if ((a1 >>> (x7 &&& 31)) &&& (1 : Int32)) = (1 : Int32) then (if x5 = (1 : Int32) then (fX11_plan_b62 g a1 a2 x3 x5 x6 x7 x7) else (fX11_plan_b62 g a1 a2 x3 x5 x6 x7 x4)) else (fX11_plan_b100 g a1 a2 x3 x4 x5 x6 x7))
def fX11_plan_L30 (g : Mm) (a1 : Int32) (a2 : Int32) (x3 : Int32) (x4 : Int32) (x5 : Int32) (x6 : Int32) (x7 : Int32) : Option (Mm × Int32) :=
  wLp (fun q => fX11_plan_B30 q.1 a1 a2 q.2.1 q.2.2.1 q.2.2.2.1 q.2.2.2.2.1 q.2.2.2.2.2) 1000 (g, x3, x4, x5, x6, x7)
def fX11_plan (g : Mm) (a1 : Int32) (a2 : Int32) : Option (Mm × Int32) :=
  if a1 ≤ 0 then (some (g, (-1 : Int32))) else (if a1 < ((1 : Int32) <<< ((g 0 0 0 1) &&& 31)) then (wLe (-1 : Int32) fun y3 => wLe (-1 : Int32) fun y5 => wLe (0 : Int32) fun y7 => wLe (1 : Int32) fun y9 => wLe (0 : Int32) fun y11 => fX11_plan_L30 g a1 a2 y3 y5 y7 y9 y11) else (some (g, (-1 : Int32))))
def fX11_planned (g0 : Mm) (a1 : Int32) : Option (Int32) :=
  wBd (fX11_in g0 a1 (0 : Int32) (11 : Int32)) fun y2 => if y2 = 0 then (some (-3 : Int32)) else (if (((g0 0 0 0 8) >>> (a1 &&& 31)) &&& (1 : Int32)) = (1 : Int32) then (wGi a1 12 (some (g0 5 0 0 (a1).toNatClampNeg))) else (some (-3 : Int32)))
def fX11_settle_b83 (g : Mm) (x1 : Int32) (x2 : Int32) : Option ((Mm × Int32) ⊕ (Mm × Int32)) :=
  wLe (x2 + 1) fun y14 => some (.inl (g, y14))
def fX11_settle_B46 (g : Mm) (x1 : Int32) (x2 : Int32) : Option ((Mm × Int32) ⊕ (Mm × Int32)) :=
  if (g 0 0 0 1) ≤ x2 then (wEx (some (g, x1))) else (if (((g 0 0 0 8) >>> (x2 &&& 31)) &&& (1 : Int32)) = (1 : Int32) then (wGi x2 12 (wGi (((30 : Int32) * x2) + (4 : Int32)) 510 (wLe (st g 1 0 0 (((30 : Int32) * x2) + (4 : Int32)).toNatClampNeg (g 5 0 0 (x2).toNatClampNeg)) fun g18 => fX11_settle_b83 g18 x1 x2))) else (fX11_settle_b83 g x1 x2))
def fX11_settle_L46 (g : Mm) (x1 : Int32) (x2 : Int32) : Option (Mm × Int32) :=
  wLp (fun q => fX11_settle_B46 q.1 x1 q.2) 1000 (g, x2)
def fX11_settle_b38 (g : Mm) (x1 : Int32) (x2 : Int32) : Option ((Mm × Int32 × Int32) ⊕ (Mm × Int32)) :=
  wLe (x2 + 1) fun y21 => some (.inl (g, x1, y21))
def fX11_settle_B4 (g : Mm) (x1 : Int32) (x2 : Int32) : Option ((Mm × Int32 × Int32) ⊕ (Mm × Int32)) :=
  if (g 0 0 0 1) ≤ x2 then (wEx (wLe (0 : Int32) fun y8 => fX11_settle_L46 g x1 y8)) else (if (((g 0 0 0 8) >>> (x2 &&& 31)) &&& (1 : Int32)) = (1 : Int32) then (wBd (fX11_isAhead g x2) fun y24 => if y24 = 0 then (wEx (some (g, (-3 : Int32)))) else (wLe (x1 + 1) fun y26 => fX11_settle_b38 g y26 x2)) else (fX11_settle_b38 g x1 x2))
def fX11_settle_L4 (g : Mm) (x1 : Int32) (x2 : Int32) : Option (Mm × Int32) :=
  wLp (fun q => fX11_settle_B4 q.1 q.2.1 q.2.2) 1000 (g, x1, x2)
def fX11_settle (g : Mm) : Option (Mm × Int32) :=
  wLe (0 : Int32) fun y1 => wLe (0 : Int32) fun y3 => fX11_settle_L4 g y1 y3
def fX11_estimate (g : Mm) (a1 : Int32) (a2 : Int32) : Option (Mm × Int32) :=
  wBd (fX11_isVisit g a1) fun y2 => if y2 = 0 then (some (g, (-1 : Int32))) else (wBd (fX11_in g a2 (0 : Int32) (9999 : Int32)) fun y5 => if y5 = 0 then (some (g, (-2 : Int32))) else (if (g 0 0 0 4) = (40 : Int32) then (some (g, (-4 : Int32))) else (wGi (g 0 0 0 4) 40 (wLe (st g 2 0 0 (g 0 0 0 4).toNatClampNeg a1) fun g9 => wGi (g9 0 0 0 4) 40 (wLe (st g9 3 0 0 (g9 0 0 0 4).toNatClampNeg a2) fun g12 => wGi (480 : Int32) 510 (wGi (g12 0 0 0 4) 40 (wLe (st g12 4 0 0 (g12 0 0 0 4).toNatClampNeg (g12 1 0 0 ((480 : Int32)).toNatClampNeg)) fun g16 => wLe (st g16 0 0 0 4 ((g16 0 0 0 4) + (1 : Int32))) fun g18 => some (g18, (g18 0 0 0 4) - (1 : Int32)))))))))
def fX11_there_b52 (g0 : Mm) (a1 : Int32) (a2 : Int32) (x4 : Int32) (z0 : Int32) : Option ((Int32 × Int32) ⊕ (Int32)) :=
  wLe (x4 + 1) fun y13 => some (.inl (z0, y13))
def fX11_there_b51 (g0 : Mm) (a1 : Int32) (a2 : Int32) (x3 : Int32) (x4 : Int32) : Option ((Int32 × Int32) ⊕ (Int32)) :=
  fX11_there_b52 g0 a1 a2 x4 x3
def fX11_there_B10 (g0 : Mm) (a1 : Int32) (a2 : Int32) (x3 : Int32) (x4 : Int32) : Option ((Int32 × Int32) ⊕ (Int32)) :=
  if (g0 0 0 0 4) ≤ x4 then (wEx (wBd (fX11_of g0 a1 (0 : Int32)) fun y9 => wGi y9 6 (some ((x3 + (g0 15 0 0 (y9).toNatClampNeg)) + (4 : Int32))))) else (wGi x4 40 (if (g0 2 0 0 (x4).toNatClampNeg) = a1 then (wGi x4 40 (if a2 < (g0 4 0 0 (x4).toNatClampNeg) then (fX11_there_b51 g0 a1 a2 x3 x4) else (wGi x4 40 (fX11_there_b52 g0 a1 a2 x4 (g0 3 0 0 (x4).toNatClampNeg))))) else (fX11_there_b51 g0 a1 a2 x3 x4)))
def fX11_there_L10 (g0 : Mm) (a1 : Int32) (a2 : Int32) (x3 : Int32) (x4 : Int32) : Option (Int32) :=
  wLp (fun q => fX11_there_B10 g0 a1 a2 q.1 q.2) 1000 (x3, x4)
def fX11_there (g0 : Mm) (a1 : Int32) (a2 : Int32) : Option (Int32) :=
  wBd (fX11_of g0 a1 (1 : Int32)) fun y2 => wLe (0 : Int32) fun y3 => fX11_there_L10 g0 a1 a2 y2 y3
def fX11_toUnload (g0 : Mm) (a1 : Int32) : Option (Int32) :=
  wBd (fX11_ticksOf g0 a1 (0 : Int32)) fun y2 => wBd (fX11_ticksOf g0 a1 (1 : Int32)) fun y4 => some (y2 + y4)
def fX11_toLoad_b36 (g0 : Mm) (a1 : Int32) (z0 : Int32) (z1 : Int32) : Option (Int32) :=
  wBd (fX11_ticksOf g0 a1 (5 : Int32)) fun y13 => some ((z0 + z1) + y13)
def fX11_toLoad (g0 : Mm) (a1 : Int32) : Option (Int32) :=
  wBd (fX11_ticksOf g0 a1 (2 : Int32)) fun y2 => wBd (fX11_ticksOf g0 a1 (4 : Int32)) fun y4 => wLe (y2 + y4) fun y5 => wBd (fX11_ticksOf g0 a1 (3 : Int32)) fun y8 => wBd (fX11_toUnload g0 a1) fun y10 => if y5 ≤ y8 then (fX11_toLoad_b36 g0 a1 y10 y8) else (fX11_toLoad_b36 g0 a1 y10 y5)
def fX11_expects_b64 (g0 : Mm) (a1 : Int32) (a2 : Int32) (z0 : Int32) (z1 : Int32) : Option (Int32) :=
  wBd (fX11_ticksOf g0 a1 (7 : Int32)) fun y15 => wLe ((z0 + z1) + y15) fun y16 => wBd (fX11_of g0 a1 (2 : Int32)) fun y19 => if y16 ≤ y19 then (wBd (fX11_of g0 a1 (2 : Int32)) fun y22 => some y22) else (some y16)
def fX11_expects (g0 : Mm) (a1 : Int32) (a2 : Int32) : Option (Int32) :=
  wBd (fX11_isVisit g0 a1) fun y2 => if y2 = 0 then (some (-1 : Int32)) else (wGi (480 : Int32) 510 (wBd (fX11_in g0 a2 (0 : Int32) (g0 1 0 0 ((480 : Int32)).toNatClampNeg)) fun y6 => if y6 = 0 then (some (-2 : Int32)) else (wBd (fX11_there g0 a1 a2) fun y9 => wBd (fX11_toLoad g0 a1) fun y11 => wGi (482 : Int32) 510 (if (g0 1 0 0 ((482 : Int32)).toNatClampNeg) = (1 : Int32) then (wBd (fX11_ticksOf g0 a1 (6 : Int32)) fun y24 => fX11_expects_b64 g0 a1 a2 (y9 + y11) y24) else (fX11_expects_b64 g0 a1 a2 (y9 + y11) (0 : Int32))))))
def fX11_misses_b167 (g0 : Mm) (a1 : Int32) (a2 : Int32) (x5 : Int32) (x7 : Int32) (z0 : Int32) (z1 : Int32) : Option ((Int32 × Int32) ⊕ (Int32)) :=
  wLe (z0 + z1) fun y39 => wLe (x7 + 6) fun y41 => some (.inl (y39, y41))
def fX11_misses_b166 (g0 : Mm) (a1 : Int32) (a2 : Int32) (x5 : Int32) (x7 : Int32) (z0 : Int32) : Option ((Int32 × Int32) ⊕ (Int32)) :=
  fX11_misses_b167 g0 a1 a2 x5 x7 z0 (0 : Int32)
def fX11_misses_B80 (g0 : Mm) (a1 : Int32) (a2 : Int32) (x5 : Int32) (x6 : Int32) (x7 : Int32) : Option ((Int32 × Int32) ⊕ (Int32)) :=
  if ((360 : Int32) + ((6 : Int32) * (g0 0 0 0 2))) ≤ x7 then (wEx (some x6)) else (wGi x7 510 (wBd (fX11_there g0 (g0 1 0 0 (x7).toNatClampNeg) a2) fun y30 => wGi x7 510 (wBd (fX11_toUnload g0 (g0 1 0 0 (x7).toNatClampNeg)) fun y33 => wGi (x7 + (3 : Int32)) 510 (wLe ((y30 + y33) + (g0 1 0 0 (x7 + (3 : Int32)).toNatClampNeg)) fun y35 => wGi (x7 + (1 : Int32)) 510 (if (g0 1 0 0 (x7 + (1 : Int32)).toNatClampNeg) = a1 then (if y35 ≤ x5 then (fX11_misses_b166 g0 a1 a2 x5 x7 x6) else (wGi (x7 + (2 : Int32)) 510 (fX11_misses_b167 g0 a1 a2 x5 x7 x6 (g0 1 0 0 (x7 + (2 : Int32)).toNatClampNeg)))) else (fX11_misses_b166 g0 a1 a2 x5 x7 x6))))))
def fX11_misses_L80 (g0 : Mm) (a1 : Int32) (a2 : Int32) (x5 : Int32) (x6 : Int32) (x7 : Int32) : Option (Int32) :=
  wLp (fun q => fX11_misses_B80 g0 a1 a2 x5 q.1 q.2) 1000 (x6, x7)
def fX11_misses_b70 (g0 : Mm) (a1 : Int32) (a2 : Int32) (z0 : Int32) : Option (Int32) :=
  wLe (0 : Int32) fun y21 => wLe (360 : Int32) fun y23 => fX11_misses_L80 g0 a1 a2 z0 y21 y23
def fX11_misses (g0 : Mm) (a1 : Int32) (a2 : Int32) : Option (Int32) :=
  wBd (fX11_isVisit g0 a1) fun y2 => if y2 = 0 then (some (-1 : Int32)) else (wGi (480 : Int32) 510 (wBd (fX11_in g0 a2 (0 : Int32) (g0 1 0 0 ((480 : Int32)).toNatClampNeg)) fun y6 => if y6 = 0 then (some (-2 : Int32)) else (wBd (fX11_there g0 a1 a2) fun y9 => wBd (fX11_toLoad g0 a1) fun y11 => wLe (y9 + y11) fun y12 => wBd (fX11_of g0 a1 (2 : Int32)) fun y15 => wBd (fX11_ticksOf g0 a1 (7 : Int32)) fun y17 => wLe (y15 - y17) fun y18 => if y18 ≤ y12 then (fX11_misses_b70 g0 a1 a2 y12) else (fX11_misses_b70 g0 a1 a2 y18))))
def fX11_count (g0 : Mm) (a1 : Int32) : Option (Int32) :=
  if a1 = 0 then (wGi (480 : Int32) 510 (some (g0 1 0 0 ((480 : Int32)).toNatClampNeg))) else if a1 = 1 then (some (g0 0 0 0 1)) else if a1 = 2 then (some (g0 0 0 0 3)) else if a1 = 3 then (some (g0 0 0 0 2)) else if a1 = 4 then (some (g0 0 0 0 12)) else if a1 = 5 then (some (g0 0 0 0 13)) else if a1 = 6 then (some (g0 0 0 0 11)) else if a1 = 7 then (some (g0 0 0 0 4)) else if a1 = 8 then (wBd (fX11_lateOfAll g0) fun y12 => some y12) else if a1 = 9 then (wBd (fX11_missed g0) fun y15 => some y15) else if a1 = 10 then (wGi (483 : Int32) 510 (some (g0 1 0 0 ((483 : Int32)).toNatClampNeg))) else if a1 = 11 then (wGi (481 : Int32) 510 (some (g0 1 0 0 ((481 : Int32)).toNatClampNeg))) else if a1 = 12 then (wGi (482 : Int32) 510 (some (g0 1 0 0 ((482 : Int32)).toNatClampNeg))) else if a1 = 13 then (wGi (484 : Int32) 510 (some (g0 1 0 0 ((484 : Int32)).toNatClampNeg))) else (some (-2 : Int32))
def fX11_sheet_B70 (g : Mm) (a1 : Int32) (a2 : Int32) (a3 : Int32) (x4 : Int32) : Option ((Mm × Int32) ⊕ (Mm × Int32)) :=
  if (40 : Int32) ≤ x4 then (wEx (some (g, (1 : Int32)))) else (wGi (((40 : Int32) * a1) + x4) 160 (wLe (st g 12 0 0 (((40 : Int32) * a1) + x4).toNatClampNeg (0 : Int32)) fun g22 => wLe (x4 + 1) fun y24 => some (.inl (g22, y24))))
def fX11_sheet_L70 (g : Mm) (a1 : Int32) (a2 : Int32) (a3 : Int32) (x4 : Int32) : Option (Mm × Int32) :=
  wLp (fun q => fX11_sheet_B70 q.1 a1 a2 a3 q.2) 1000 (g, x4)
def fX11_sheet_b66 (g : Mm) (a1 : Int32) (a2 : Int32) (a3 : Int32) (z1 : Int32) (z2 : Int32) : Option (Mm × Int32) :=
  wGi z1 4 (wLe (st g 11 0 0 (z1).toNatClampNeg z2) fun g14 => wLe (0 : Int32) fun y16 => fX11_sheet_L70 g14 a1 a2 a3 y16)
def fX11_sheet_b44 (g : Mm) (a1 : Int32) (a2 : Int32) (a3 : Int32) : Option (Mm × Int32) :=
  wGi a1 4 (wLe (st g 10 0 0 (a1).toNatClampNeg a2) fun g10 => if a2 = (-1 : Int32) then (fX11_sheet_b66 g10 a1 a2 a3 a1 (0 : Int32)) else (fX11_sheet_b66 g10 a1 a2 a3 a1 a3))
def fX11_sheet_b32 (g : Mm) (a1 : Int32) (a2 : Int32) (a3 : Int32) : Option (Mm × Int32) :=
  if a2 = (-1 : Int32) then (fX11_sheet_b44 g a1 a2 a3) else (if 0 ≤ a3 then (fX11_sheet_b44 g a1 a2 a3) else (some (g, (-14 : Int32))))
def fX11_sheet (g : Mm) (a1 : Int32) (a2 : Int32) (a3 : Int32) : Option (Mm × Int32) :=
  wBd (fX11_in g a1 (0 : Int32) (3 : Int32)) fun y2 => if y2 = 0 then (some (g, (-2 : Int32))) else (wBd (fX11_in g a2 (-1 : Int32) (2 : Int32)) fun y5 => if y5 = 0 then (some (g, (-2 : Int32))) else (if a2 = (-1 : Int32) then (fX11_sheet_b32 g a1 a2 a3) else (if a3 ≤ (40 : Int32) then (fX11_sheet_b32 g a1 a2 a3) else (some (g, (-2 : Int32))))))
def fX11_cell (g : Mm) (a1 : Int32) (a2 : Int32) (a3 : Int32) : Option (Mm × Int32) :=
  wBd (fX11_in g a1 (0 : Int32) (3 : Int32)) fun y2 => if y2 = 0 then (some (g, (-2 : Int32))) else (wGi a1 4 (if (g 10 0 0 (a1).toNatClampNeg) = (-1 : Int32) then (some (g, (-11 : Int32))) else (wGi a1 4 (wBd (fX11_in g a2 (0 : Int32) ((g 11 0 0 (a1).toNatClampNeg) - (1 : Int32))) fun y8 => if y8 = 0 then (some (g, (-12 : Int32))) else (wGi a1 4 (if (g 10 0 0 (a1).toNatClampNeg) = 0 then (wGi (((40 : Int32) * a1) + a2) 160 (wLe (st g 12 0 0 (((40 : Int32) * a1) + a2).toNatClampNeg a3.toInt8.toInt32) fun g21 => some (g21, (1 : Int32)))) else (wGi a1 4 (if (g 10 0 0 (a1).toNatClampNeg) = (1 : Int32) then (wGi (((40 : Int32) * a1) + a2) 160 (wLe (st g 12 0 0 (((40 : Int32) * a1) + a2).toNatClampNeg a3.toInt16.toInt32) fun g18 => some (g18, (1 : Int32)))) else (wGi (((40 : Int32) * a1) + a2) 160 (wLe (st g 12 0 0 (((40 : Int32) * a1) + a2).toNatClampNeg a3) fun g15 => some (g15, (1 : Int32))))))))))))
def fX11_copy_b173 (g : Mm) (a1 : Int32) (a2 : Int32) (a3 : Int32) (a4 : Int32) (a5 : Int32) (x6 : Int32) (x7 : Int32) (x8 : Int32) (z0 : Int32) : Option ((Mm × Int32) ⊕ (Mm × Int32)) :=
  wGi (x6 + z0) 160 (wGi (x7 + z0) 160 (wLe (st g 12 0 0 (x7 + z0).toNatClampNeg (g 12 0 0 (x6 + z0).toNatClampNeg)) fun g37 => wLe (x8 + 1) fun y39 => some (.inl (g37, y39))))
def fX11_copy_B147 (g : Mm) (a1 : Int32) (a2 : Int32) (a3 : Int32) (a4 : Int32) (a5 : Int32) (x6 : Int32) (x7 : Int32) (x8 : Int32) : Option ((Mm × Int32) ⊕ (Mm × Int32)) :=
  if a5 ≤ x8 then (wEx (some (g, a5))) else (if x7 ≤ x6 then (fX11_copy_b173 g a1 a2 a3 a4 a5 x6 x7 x8 x8) else (fX11_copy_b173 g a1 a2 a3 a4 a5 x6 x7 x8 ((a5 - (1 : Int32)) - x8)))
def fX11_copy_L147 (g : Mm) (a1 : Int32) (a2 : Int32) (a3 : Int32) (a4 : Int32) (a5 : Int32) (x6 : Int32) (x7 : Int32) (x8 : Int32) : Option (Mm × Int32) :=
  wLp (fun q => fX11_copy_B147 q.1 a1 a2 a3 a4 a5 x6 x7 q.2) 1000 (g, x8)
def fX11_copy (g : Mm) (a1 : Int32) (a2 : Int32) (a3 : Int32) (a4 : Int32) (a5 : Int32) : Option (Mm × Int32) :=
  wBd (fX11_in g a1 (0 : Int32) (3 : Int32)) fun y2 => if y2 = 0 then (some (g, (-2 : Int32))) else (wBd (fX11_in g a3 (0 : Int32) (3 : Int32)) fun y5 => if y5 = 0 then (some (g, (-2 : Int32))) else (wGi a1 4 (if (g 10 0 0 (a1).toNatClampNeg) = (-1 : Int32) then (some (g, (-11 : Int32))) else (wGi a3 4 (if (g 10 0 0 (a3).toNatClampNeg) = (-1 : Int32) then (some (g, (-11 : Int32))) else (wGi a1 4 (wGi a3 4 (if (g 10 0 0 (a1).toNatClampNeg) = (g 10 0 0 (a3).toNatClampNeg) then (if a5 < 0 then (some (g, (-12 : Int32))) else (if a2 < 0 then (some (g, (-12 : Int32))) else (if a4 < 0 then (some (g, (-12 : Int32))) else (wGi a1 4 (if (g 11 0 0 (a1).toNatClampNeg) < a2 then (some (g, (-12 : Int32))) else (wGi a3 4 (if (g 11 0 0 (a3).toNatClampNeg) < a4 then (some (g, (-12 : Int32))) else (wGi a1 4 (if ((g 11 0 0 (a1).toNatClampNeg) - a2) < a5 then (some (g, (-12 : Int32))) else (wGi a3 4 (if a5 ≤ ((g 11 0 0 (a3).toNatClampNeg) - a4) then (wLe (((40 : Int32) * a1) + a2) fun y25 => wLe (((40 : Int32) * a3) + a4) fun y27 => wLe (0 : Int32) fun y29 => fX11_copy_L147 g a1 a2 a3 a4 a5 y25 y27 y29) else (some (g, (-12 : Int32)))))))))))))) else (some (g, (-13 : Int32)))))))))))
def fX11_visits_b162 (g : Mm) (a1 : Int32) (a2 : Int32) (a3 : Int32) (a4 : Int32) (x6 : Int32) (z0 : Int32) (z1 : Int32) : Option ((Mm × Int32 × Int32) ⊕ (Mm × Int32)) :=
  wLe (z0 + z1) fun y41 => wLe (x6 + 1) fun y43 => some (.inl (g, y41, y43))
def fX11_visits_B64 (g : Mm) (a1 : Int32) (a2 : Int32) (a3 : Int32) (a4 : Int32) (x5 : Int32) (x6 : Int32) : Option ((Mm × Int32 × Int32) ⊕ (Mm × Int32)) :=
  if a4 ≤ x6 then (wEx (some (g, x5))) else (wLe (a3 + ((4 : Int32) * x6)) fun y21 => if a3 < 0 then (wEx (some (g, (-12 : Int32)))) else (if y21 < a3 then (wEx (some (g, (-12 : Int32)))) else (wGi a1 4 (if y21 ≤ ((g 11 0 0 (a1).toNatClampNeg) - (4 : Int32)) then (wLe (((40 : Int32) * a1) + y21) fun y31 => wGi y31 160 (wGi (y31 + (1 : Int32)) 160 (wGi (y31 + (2 : Int32)) 160 (wGi (y31 + (3 : Int32)) 160 (wB2 (fX11_visit g (g 12 0 0 (y31).toNatClampNeg) (g 12 0 0 (y31 + (1 : Int32)).toNatClampNeg) (g 12 0 0 (y31 + (2 : Int32)).toNatClampNeg) (g 12 0 0 (y31 + (3 : Int32)).toNatClampNeg)) fun g39 y38 => if y38 < 0 then (fX11_visits_b162 g39 a1 a2 a3 a4 x6 x5 (0 : Int32)) else (fX11_visits_b162 g39 a1 a2 a3 a4 x6 x5 (1 : Int32))))))) else (wEx (some (g, (-12 : Int32))))))))
def fX11_visits_L64 (g : Mm) (a1 : Int32) (a2 : Int32) (a3 : Int32) (a4 : Int32) (x5 : Int32) (x6 : Int32) : Option (Mm × Int32) :=
  wLp (fun q => fX11_visits_B64 q.1 a1 a2 a3 a4 q.2.1 q.2.2) 1000 (g, x5, x6)
def fX11_visits (g : Mm) (a1 : Int32) (a2 : Int32) (a3 : Int32) (a4 : Int32) : Option (Mm × Int32) :=
  wBd (fX11_in g a1 (0 : Int32) (3 : Int32)) fun y2 => if y2 = 0 then (some (g, (-2 : Int32))) else (wBd (fX11_in g a2 (0 : Int32) (2 : Int32)) fun y5 => if y5 = 0 then (some (g, (-2 : Int32))) else (wBd (fX11_in g a4 (0 : Int32) (10 : Int32)) fun y8 => if y8 = 0 then (some (g, (-2 : Int32))) else (wGi a1 4 (if (g 10 0 0 (a1).toNatClampNeg) = (-1 : Int32) then (some (g, (-11 : Int32))) else (wGi a1 4 (if (g 10 0 0 (a1).toNatClampNeg) = a2 then (wLe (0 : Int32) fun y14 => wLe (0 : Int32) fun y16 => fX11_visits_L64 g a1 a2 a3 a4 y14 y16) else (some (g, (-13 : Int32)))))))))
def fX11_isUnder_b34 (g0 : Mm) (a0 : Int32) (a1 : Int32) : Option (Int32) :=
  if a1 = (3 : Int32) then (if a0 = (5 : Int32) then (some (1 : Int32)) else (some (0 : Int32))) else (some (0 : Int32))
def fX11_isUnder_b24 (g0 : Mm) (a0 : Int32) (a1 : Int32) : Option (Int32) :=
  if a1 = (2 : Int32) then (if a0 = (4 : Int32) then (some (1 : Int32)) else (fX11_isUnder_b34 g0 a0 a1)) else (fX11_isUnder_b34 g0 a0 a1)
def fX11_isUnder (g0 : Mm) (a0 : Int32) (a1 : Int32) : Option (Int32) :=
  if a1 = 0 then (some (1 : Int32)) else (if a0 = a1 then (some (1 : Int32)) else (if a1 = (1 : Int32) then (if a0 = (3 : Int32) then (some (1 : Int32)) else (if a0 = (5 : Int32) then (some (1 : Int32)) else (fX11_isUnder_b24 g0 a0 a1))) else (fX11_isUnder_b24 g0 a0 a1)))
def fX11_taken (g0 : Mm) (a1 : Int32) (a2 : Int32) : Option (Int32) :=
  wBd (fX11_in g0 a2 (0 : Int32) (5 : Int32)) fun y2 => if y2 = 0 then (some (-2 : Int32)) else (wBd (fX11_isVisit g0 a1) fun y5 => if y5 = 0 then (some (-11 : Int32)) else (wBd (fX11_of g0 a1 (0 : Int32)) fun y8 => wBd (fX11_isUnder g0 y8 a2) fun y10 => if y10 = 0 then (some (-13 : Int32)) else (wBd (fX11_of g0 a1 (0 : Int32)) fun y13 => wGi y13 6 (some (g0 14 0 0 (y13).toNatClampNeg)))))
