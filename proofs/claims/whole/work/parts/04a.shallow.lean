def xX3_copyFrom_L2 (g : Nat) (w : Nat) (g2 : Nat) (w2 : Nat) : Nat → zV3 → Int32 → Option (Unit × zV3)
  | 0, _, _ => none
  | n + 1, V, a2 => (if (10 : Int32) ≤ a2 then put3 V g (23 + w) 0 (V g2 (23 + w2) 0) fun V2 => some ((), V2) else grd (inb a2 10) <| grd (inb a2 10) <| put3 V g (19 + w) a2.toNatClampNeg (V g2 (19 + w2) a2.toNatClampNeg) fun V5 => grd (inb a2 10) <| grd (inb a2 10) <| put3 V5 g (21 + w) a2.toNatClampNeg (V5 g2 (21 + w2) a2.toNatClampNeg) fun V8 => ltI (a2 + (1 : Int32)) fun y9 => xX3_copyFrom_L2 g w g2 w2 n V8 y9)
def xX3_copyFrom (g : Nat) (w : Nat) (g2 : Nat) (w2 : Nat) (V : zV3) : Option (Unit × zV3) :=
  xX3_copyFrom_L2 g w g2 w2 1000 V (0 : Int32)

def xX4_copyFrom (g : Nat) (i : Nat) (g2 : Nat) (n1 : Nat) (V : zV3) : Option (Unit × zV3) :=
  put3 V g 0 i (V g2 0 n1) fun V1 => grd (isb (V1 g2 1 n1)) <| put3 V1 g 1 i (V1 g2 1 n1) fun V3 => put3 V3 g 2 i (V3 g2 2 n1) fun V4 => grd (isb (V4 g2 3 n1)) <| put3 V4 g 3 i (V4 g2 3 n1) fun V6 => put3 V6 g 4 i (V6 g2 4 n1) fun V7 => put3 V7 g 5 i (V7 g2 5 n1) fun V8 => some ((), V8)

def xX5_copyFrom (g : Nat) (i : Nat) (g2 : Nat) (n1 : Nat) (V : zV3) : Option (Unit × zV3) :=
  put3 V g 6 i (V g2 6 n1) fun V1 => put3 V1 g 7 i (V1 g2 7 n1) fun V2 => put3 V2 g 8 i (V2 g2 8 n1) fun V3 => put3 V3 g 9 i (V3 g2 9 n1) fun V4 => put3 V4 g 10 i (V4 g2 10 n1) fun V5 => put3 V5 g 11 i (V5 g2 11 n1) fun V6 => put3 V6 g 12 i (V6 g2 12 n1) fun V7 => some ((), V7)

def xX1_copyFrom_L60 (g : Nat) (g2 : Nat) : Nat → zV3 → Int32 → Option (Unit × zV3)
  | 0, _, _ => none
  | n + 1, V, a2 => (if (3 : Int32) ≤ a2 then bnd (xX3_copyFrom g 0 g2 0 V) fun r2 V4 => bnd (xX3_copyFrom g 1 g2 1 V4) fun r5 V7 => put3 V7 g 13 0 (V7 g2 13 0) fun V8 => put3 V8 g 14 0 (V8 g2 14 0) fun V9 => put3 V9 g 15 0 (V9 g2 15 0) fun V10 => put3 V10 g 16 0 (V10 g2 16 0) fun V11 => some ((), V11) else grd (inb a2 3) <| grd (inb a2 3) <| put3 V g 17 a2.toNatClampNeg (V g2 17 a2.toNatClampNeg) fun V14 => ltI (a2 + (1 : Int32)) fun y15 => xX1_copyFrom_L60 g g2 n V14 y15)
def xX1_copyFrom_L31 (g : Nat) (g2 : Nat) : Nat → zV3 → Int32 → Option (Unit × zV3)
  | 0, _, _ => none
  | n + 1, V, a2 => (if (10 : Int32) ≤ a2 then xX1_copyFrom_L60 g g2 1000 V (0 : Int32) else grd (inb a2 10) <| grd (inb a2 10) <| bnd (xX5_copyFrom g a2.toNatClampNeg g2 a2.toNatClampNeg V) fun r4 V6 => ltI (a2 + (1 : Int32)) fun y7 => xX1_copyFrom_L31 g g2 n V6 y7)
def xX1_copyFrom_L2 (g : Nat) (g2 : Nat) : Nat → zV3 → Int32 → Option (Unit × zV3)
  | 0, _, _ => none
  | n + 1, V, a2 => (if (12 : Int32) ≤ a2 then xX1_copyFrom_L31 g g2 1000 V (0 : Int32) else grd (inb a2 12) <| grd (inb a2 12) <| bnd (xX4_copyFrom g a2.toNatClampNeg g2 a2.toNatClampNeg V) fun r4 V6 => ltI (a2 + (1 : Int32)) fun y7 => xX1_copyFrom_L2 g g2 n V6 y7)
def xX1_copyFrom (g : Nat) (g2 : Nat) (V : zV3) : Option (Unit × zV3) :=
  xX1_copyFrom_L2 g g2 1000 V (0 : Int32)

def xX1_lockerAt (h : zV2) (p1 : Int32) : Option (Option Nat × zV2) :=
  (if p1 < 0 then some (none, h) else (if (h 13 0) ≤ p1 then some (none, h) else (if (12 : Int32) ≤ p1 then some (none, h) else grd (inb p1 12) <| some (some p1.toNatClampNeg, h))))

def xX1_personAt (h : zV2) (p1 : Int32) : Option (Option Nat × zV2) :=
  (if p1 < 0 then some (none, h) else (if (h 14 0) ≤ p1 then some (none, h) else (if (10 : Int32) ≤ p1 then some (none, h) else grd (inb p1 10) <| some (some p1.toNatClampNeg, h))))

def xX1_lockerOfPerson (h : zV2) (p1 : Int32) : Option (Option Nat × zV2) :=
  bnd (xX1_personAt h p1) fun r1 h3 => (optm r1 (some (none, h3)) (fun q4 => grd (decide (q4 < 10)) (bnd (xX1_lockerAt h3 (h3 6 q4)) fun r5 h7 => (optm r5 (some (none, h7)) (fun q8 => grd (decide (q8 < 12)) (some (some q8, h7)))))))

def xX1_addLocker (h : zV2) (p1 : Int32) : Option (Int32 × zV2) :=
  (if p1 < 0 then some ((-1 : Int32), h) else (if p1 ≤ (2 : Int32) then (if (h 13 0) < (12 : Int32) then grd (inb (h 13 0) 12) <| put2 h 0 ((h 13 0).toNatClampNeg) p1 fun h5 => put2 h5 13 0 ((h5 13 0) + (1 : Int32)) fun h6 => some (((h6 13 0) - (1 : Int32)), h6) else some ((-3 : Int32), h)) else some ((-1 : Int32), h)))

def xX1_addPerson (h : zV2) : Option (Int32 × zV2) :=
  (if (h 14 0) < (10 : Int32) then put2 h 14 0 ((h 14 0) + (1 : Int32)) fun h2 => some (((h2 14 0) - (1 : Int32)), h2) else some ((-3 : Int32), h))

def xX1_beginLoan (n1 : Nat) (n2 : Nat) (h : zV2) : Option (Unit × zV2) :=
  put2 h 6 n1 (nI n2) fun h1 => grd (inb (0 : Int32) 3) <| put2 h1 7 n1 ((h1 15 0) + (h1 17 ((0 : Int32).toNatClampNeg))) fun h3 => put2 h3 8 n1 (0 : Int32) fun h4 => put2 h4 2 n2 (nI n1) fun h5 => put2 h5 5 n2 ((h5 5 n2) + (1 : Int32)) fun h6 => some ((), h6)

def xX3_firstFor_L2 (w : Nat) (p1 : Int32) : Nat → zV2 → Int32 → Option (Int32 × zV2)
  | 0, _, _ => none
  | n + 1, h, a2 => (if (h (23 + w) 0) ≤ a2 then some ((-1 : Int32), h) else (if (10 : Int32) ≤ a2 then some ((-1 : Int32), h) else grd (inb a2 10) <| (if (h (21 + w) a2.toNatClampNeg) = p1 then grd (inb a2 10) <| some ((h (19 + w) a2.toNatClampNeg), h) else grd (inb a2 10) <| (if (h (21 + w) a2.toNatClampNeg) = (3 : Int32) then grd (inb a2 10) <| some ((h (19 + w) a2.toNatClampNeg), h) else ltI (a2 + (1 : Int32)) fun y8 => xX3_firstFor_L2 w p1 n h y8))))
def xX3_firstFor (w : Nat) (h : zV2) (p1 : Int32) : Option (Int32 × zV2) :=
  xX3_firstFor_L2 w p1 1000 h (0 : Int32)

def xX3_remove_L4 (w : Nat) (p1 : Int32) : Nat → zV2 → Int32 → Int32 → Option (Unit × zV2)
  | 0, _, _, _ => none
  | n + 1, h, a2, a3 => (if (h (23 + w) 0) ≤ a3 then put2 h (23 + w) 0 a2 fun h2 => some ((), h2) else (if (10 : Int32) ≤ a3 then put2 h (23 + w) 0 a2 fun h4 => some ((), h4) else grd (inb a3 10) <| (if (h (19 + w) a3.toNatClampNeg) = p1 then ltI (a3 + (1 : Int32)) fun y7 => xX3_remove_L4 w p1 n h a2 y7 else grd (inb a3 10) <| grd (inb a2 10) <| put2 h (19 + w) a2.toNatClampNeg (h (19 + w) a3.toNatClampNeg) fun h10 => grd (inb a3 10) <| grd (inb a2 10) <| put2 h10 (21 + w) a2.toNatClampNeg (h10 (21 + w) a3.toNatClampNeg) fun h13 => ltI (a2 + (1 : Int32)) fun y14 => ltI (a3 + (1 : Int32)) fun y15 => xX3_remove_L4 w p1 n h13 y14 y15)))
def xX3_remove (w : Nat) (h : zV2) (p1 : Int32) : Option (Unit × zV2) :=
  xX3_remove_L4 w p1 1000 h (0 : Int32) (0 : Int32)

def xX4_isFree (i : Nat) (h : zV2) : Option (Int32 × zV2) :=
  (if (h 1 i) = 0 then some ((0 : Int32), h) else (if (h 2 i) = (-1 : Int32) then (if (h 4 i) = (-1 : Int32) then some ((1 : Int32), h) else some ((0 : Int32), h)) else some ((0 : Int32), h)))

def xX1_offer (n1 : Nat) (h : zV2) : Option (Unit × zV2) :=
  bnd (xX3_firstFor 0 h (h 0 n1)) fun r1 h3 => bnd (xX1_personAt h3 r1) fun r4 h6 => (optm r4 (some ((), h6)) (fun q7 => grd (decide (q7 < 10)) (bnd (xX4_isFree n1 h6) fun r8 h10 => (if r8 = 0 then some ((), h10) else bnd (xX3_remove 0 h10 (nI q7)) fun r12 h14 => bnd (xX1_beginLoan q7 n1 h14) fun r15 h17 => some ((), h17)))))

def xX1_standingOf_L4 (p1 : Int32) : Nat → zV2 → Int32 → Int32 → Option (Int32 × zV2)
  | 0, _, _, _ => none
  | n + 1, h, a2, a3 => (if (12 : Int32) ≤ a3 then some (a2, h) else grd (inb a3 12) <| (if (h 1 a3.toNatClampNeg) = 0 then ltI (a2 + (0 : Int32)) fun y4 => ltI (a3 + (1 : Int32)) fun y5 => xX1_standingOf_L4 p1 n h y4 y5 else grd (inb a3 12) <| (if (h 0 a3.toNatClampNeg) = p1 then ltI (a2 + (1 : Int32)) fun y10 => ltI (a3 + (1 : Int32)) fun y11 => xX1_standingOf_L4 p1 n h y10 y11 else ltI (a2 + (0 : Int32)) fun y8 => ltI (a3 + (1 : Int32)) fun y9 => xX1_standingOf_L4 p1 n h y8 y9)))
def xX1_standingOf (h : zV2) (p1 : Int32) : Option (Int32 × zV2) :=
  xX1_standingOf_L4 p1 1000 h (0 : Int32) (0 : Int32)

def xX1_putIntoRow (h : zV2) (p1 : Int32) (p2 : Int32) : Option (Int32 × zV2) :=
  bnd (xX1_lockerAt h p1) fun r1 h3 => (optm r1 (some ((-1 : Int32), h3)) (fun q4 => grd (decide (q4 < 12)) (if p2 < 0 then some ((-1 : Int32), h3) else (if p2 ≤ (2 : Int32) then (if (h3 1 q4) = 0 then (if (h3 0 q4) = p2 then bnd (xX1_standingOf h3 p2) fun r9 h11 => (if r9 < (4 : Int32) then put2 h11 1 q4 (1 : Int32) fun h13 => bnd (xX1_offer q4 h13) fun r14 h16 => some ((r9 + (1 : Int32)), h16) else some ((-3 : Int32), h11)) else some ((-2 : Int32), h3)) else some ((-2 : Int32), h3)) else some ((-1 : Int32), h3)))))

def xX1_lowestFree_L2 (p1 : Int32) : Nat → zV2 → Int32 → Option (Option Nat × zV2)
  | 0, _, _ => none
  | n + 1, h, a2 => (if (12 : Int32) ≤ a2 then some (none, h) else grd (inb a2 12) <| bnd (xX4_isFree a2.toNatClampNeg h) fun r3 h5 => (if r3 = 0 then ltI (a2 + (1 : Int32)) fun y7 => xX1_lowestFree_L2 p1 n h5 y7 else (if p1 = (3 : Int32) then some (some a2.toNatClampNeg, h5) else (if p1 = (h5 0 a2.toNatClampNeg) then some (some a2.toNatClampNeg, h5) else ltI (a2 + (1 : Int32)) fun y10 => xX1_lowestFree_L2 p1 n h5 y10))))
def xX1_lowestFree (h : zV2) (p1 : Int32) : Option (Option Nat × zV2) :=
  xX1_lowestFree_L2 p1 1000 h (0 : Int32)

def xX3_add (w : Nat) (h : zV2) (p1 : Int32) (p2 : Int32) : Option (Unit × zV2) :=
  (if (10 : Int32) ≤ (h (23 + w) 0) then some ((), h) else grd (inb (h (23 + w) 0) 10) <| put2 h (19 + w) ((h (23 + w) 0).toNatClampNeg) p1 fun h3 => grd (inb (h3 (23 + w) 0) 10) <| put2 h3 (21 + w) ((h3 (23 + w) 0).toNatClampNeg) p2 fun h5 => put2 h5 (23 + w) 0 ((h5 (23 + w) 0) + (1 : Int32)) fun h6 => some ((), h6))

def xX3_placeOf_L2 (w : Nat) (p1 : Int32) : Nat → zV2 → Int32 → Option (Int32 × zV2)
  | 0, _, _ => none
  | n + 1, h, a2 => (if (h (23 + w) 0) ≤ a2 then some ((-1 : Int32), h) else (if (10 : Int32) ≤ a2 then some ((-1 : Int32), h) else grd (inb a2 10) <| (if (h (19 + w) a2.toNatClampNeg) = p1 then some (a2, h) else ltI (a2 + (1 : Int32)) fun y5 => xX3_placeOf_L2 w p1 n h y5)))
def xX3_placeOf (w : Nat) (h : zV2) (p1 : Int32) : Option (Int32 × zV2) :=
  xX3_placeOf_L2 w p1 1000 h (0 : Int32)

def xX1_lendTo (h : zV2) (p1 : Int32) (p2 : Int32) : Option (Int32 × zV2) :=
  bnd (xX1_personAt h p1) fun r1 h3 => (optm r1 (some ((-1 : Int32), h3)) (fun q4 => grd (decide (q4 < 10)) (if p2 < 0 then some ((-1 : Int32), h3) else (if p2 ≤ (3 : Int32) then (if (h3 6 q4) = (-1 : Int32) then bnd (xX3_placeOf 0 h3 p1) fun r8 h10 => (if r8 = (-1 : Int32) then (if (h10 9 q4) ≤ (30 : Int32) then bnd (xX1_lowestFree h10 p2) fun r13 h15 => (optm r13 (bnd (xX3_add 0 h15 p1 p2) fun r17 h19 => some (((100 : Int32) + (h19 (23 + 0) 0)), h19)) (fun q16 => grd (decide (q16 < 12)) (bnd (xX1_beginLoan q4 q16 h15) fun r20 h22 => some ((nI q16), h22)))) else some ((-2 : Int32), h10)) else some ((-2 : Int32), h10)) else some ((-2 : Int32), h3)) else some ((-1 : Int32), h3)))))

def xX1_endLoan (n1 : Nat) (n2 : Nat) (h : zV2) : Option (Unit × zV2) :=
  put2 h 6 n1 (-1 : Int32) fun h1 => put2 h1 2 n2 (-1 : Int32) fun h2 => bnd (xX3_remove 1 h2 (nI n1)) fun r3 h5 => some ((), h5)

def xX5_overdueOn (i : Nat) (h : zV2) (p1 : Int32) : Option (Int32 × zV2) :=
  (if (h 6 i) = (-1 : Int32) then some ((0 : Int32), h) else (if (h 7 i) < p1 then some ((p1 - (h 7 i)), h) else some ((0 : Int32), h)))

def xX1_takeBack (h : zV2) (p1 : Int32) : Option (Int32 × zV2) :=
  bnd (xX1_personAt h p1) fun r1 h3 => (optm r1 (some ((-1 : Int32), h3)) (fun q4 => grd (decide (q4 < 10)) (bnd (xX3_placeOf 0 h3 p1) fun r5 h7 => (if r5 = (-1 : Int32) then bnd (xX1_lockerAt h7 (h7 6 q4)) fun r9 h11 => (optm r9 (some ((-2 : Int32), h11)) (fun q12 => grd (decide (q12 < 12)) (bnd (xX5_overdueOn q4 h11 (h11 15 0)) fun r13 h15 => bnd (xX1_endLoan q4 q12 h15) fun r16 h18 => bnd (xX1_offer q12 h18) fun r19 h21 => some (r13, h21)))) else bnd (xX3_remove 0 h7 p1) fun r22 h24 => some ((0 : Int32), h24)))))

def xX1_prolong (h : zV2) (p1 : Int32) : Option (Int32 × zV2) :=
  bnd (xX1_personAt h p1) fun r1 h3 => (optm r1 (some ((-1 : Int32), h3)) (fun q4 => grd (decide (q4 < 10)) (bnd (xX1_lockerAt h3 (h3 6 q4)) fun r5 h7 => (optm r5 (some ((-2 : Int32), h7)) (fun q8 => grd (decide (q8 < 12)) (bnd (xX5_overdueOn q4 h7 (h7 15 0)) fun r9 h11 => (if 0 < r9 then some ((-2 : Int32), h11) else bnd (xX3_firstFor 0 h11 (h11 0 q8)) fun r13 h15 => (if r13 = (-1 : Int32) then grd (inb (1 : Int32) 3) <| (if (h15 8 q4) < (h15 17 ((1 : Int32).toNatClampNeg)) then put2 h15 8 q4 ((h15 8 q4) + (1 : Int32)) fun h19 => grd (inb (0 : Int32) 3) <| put2 h19 7 q4 ((h19 7 q4) + (h19 17 ((0 : Int32).toNatClampNeg))) fun h21 => some ((h21 7 q4), h21) else some ((-3 : Int32), h15)) else some ((-2 : Int32), h15)))))))))

def xX1_changeLock (n1 : Nat) (n2 : Nat) (h : zV2) : Option (Unit × zV2) :=
  put2 h 9 n1 ((h 9 n1) + (20 : Int32)) fun h1 => bnd (xX1_endLoan n1 n2 h1) fun r2 h4 => put2 h4 3 n2 (1 : Int32) fun h5 => put2 h5 4 n2 ((h5 15 0) + (3 : Int32)) fun h6 => bnd (xX1_lowestFree h6 (h6 0 n2)) fun r7 h9 => (optm r7 (bnd (xX3_add 0 h9 (nI n1) (h9 0 n2)) fun r11 h13 => some ((), h13)) (fun q10 => grd (decide (q10 < 12)) (bnd (xX1_beginLoan n1 q10 h9) fun r14 h16 => some ((), h16))))

def xX1_loseKey (h : zV2) (p1 : Int32) : Option (Int32 × zV2) :=
  bnd (xX1_personAt h p1) fun r1 h3 => (optm r1 (some ((-1 : Int32), h3)) (fun q4 => grd (decide (q4 < 10)) (bnd (xX1_lockerAt h3 (h3 6 q4)) fun r5 h7 => (optm r5 (some ((-2 : Int32), h7)) (fun q8 => grd (decide (q8 < 12)) (put2 h7 11 q4 ((h7 11 q4) + (1 : Int32)) fun h9 => put2 h9 9 q4 ((h9 9 q4) + (5 : Int32)) fun h10 => (if (h10 3 q8) = 0 then bnd (xX1_changeLock q4 q8 h10) fun r12 h14 => some ((h14 9 q4), h14) else put2 h10 3 q8 (0 : Int32) fun h15 => some ((h15 9 q4), h15))))))))

def xX1_wishFor (h : zV2) (p1 : Int32) (p2 : Int32) : Option (Int32 × zV2) :=
  bnd (xX1_personAt h p1) fun r1 h3 => (optm r1 (some ((-1 : Int32), h3)) (fun q4 => grd (decide (q4 < 10)) (if p2 < 0 then some ((-1 : Int32), h3) else (if p2 ≤ (2 : Int32) then bnd (xX1_lockerAt h3 (h3 6 q4)) fun r7 h9 => (optm r7 (some ((-2 : Int32), h9)) (fun q10 => grd (decide (q10 < 12)) (if (h9 0 q10) = p2 then some ((-2 : Int32), h9) else bnd (xX3_remove 1 h9 p1) fun r12 h14 => bnd (xX3_add 1 h14 p1 p2) fun r15 h17 => some ((h17 (23 + 1) 0), h17)))) else some ((-1 : Int32), h3)))))

def xX3_sizeOf_L2 (w : Nat) (p1 : Int32) : Nat → zV2 → Int32 → Option (Int32 × zV2)
  | 0, _, _ => none
  | n + 1, h, a2 => (if (h (23 + w) 0) ≤ a2 then some ((-1 : Int32), h) else (if (10 : Int32) ≤ a2 then some ((-1 : Int32), h) else grd (inb a2 10) <| (if (h (19 + w) a2.toNatClampNeg) = p1 then grd (inb a2 10) <| some ((h (21 + w) a2.toNatClampNeg), h) else ltI (a2 + (1 : Int32)) fun y5 => xX3_sizeOf_L2 w p1 n h y5)))
def xX3_sizeOf (w : Nat) (h : zV2) (p1 : Int32) : Option (Int32 × zV2) :=
  xX3_sizeOf_L2 w p1 1000 h (0 : Int32)

def xX1_endWish (h : zV2) (p1 : Int32) : Option (Int32 × zV2) :=
  bnd (xX1_personAt h p1) fun r1 h3 => (optm r1 (some ((-1 : Int32), h3)) (fun q4 => grd (decide (q4 < 10)) (bnd (xX3_sizeOf 1 h3 p1) fun r5 h7 => (if r5 = (-1 : Int32) then some ((-2 : Int32), h7) else bnd (xX3_remove 1 h7 p1) fun r9 h11 => some (r5, h11)))))

def xX1_wants (n1 : Nat) (n2 : Nat) (h : zV2) : Option (Int32 × zV2) :=
  bnd (xX1_lockerAt h (h 6 n2)) fun r1 h3 => (optm r1 (some ((0 : Int32), h3)) (fun q4 => grd (decide (q4 < 12)) (bnd (xX3_sizeOf 1 h3 (nI n1)) fun r5 h7 => (if r5 = (h7 0 q4) then some ((1 : Int32), h7) else some ((0 : Int32), h7)))))

def xX1_findRing_L79 (K2 : zV2 → Int32 → Option (Int32 × zV2)) (K12 : zV2 → Int32 → Int32 → Option (Int32 × zV2)) : Nat → zV2 → Int32 → Int32 → Int32 → Option (Int32 × zV2)
  | 0, _, _, _, _ => none
  | n + 1, h, a1, a2, a3 => (if (10 : Int32) ≤ a3 then ltI (a2 + (1 : Int32)) fun y2 => K12 h a1 y2 else (if a3 = a2 then ltI (a3 + (1 : Int32)) fun y4 => xX1_findRing_L79 K2 K12 n h a1 a2 y4 else grd (inb a2 10) <| grd (inb a3 10) <| bnd (xX1_wants a2.toNatClampNeg a3.toNatClampNeg h) fun r7 h9 => (if r7 = 0 then ltI (a3 + (1 : Int32)) fun y11 => xX1_findRing_L79 K2 K12 n h9 a1 a2 y11 else grd (inb a3 10) <| grd (inb a1 10) <| bnd (xX1_wants a3.toNatClampNeg a1.toNatClampNeg h9) fun r14 h16 => (if r14 = 0 then ltI (a3 + (1 : Int32)) fun y18 => xX1_findRing_L79 K2 K12 n h16 a1 a2 y18 else grd (inb (2 : Int32) 3) <| put2 h16 18 ((2 : Int32).toNatClampNeg) a3 fun h20 => some ((3 : Int32), h20)))))
def xX1_findRing_L12 (K2 : zV2 → Int32 → Option (Int32 × zV2)) : Nat → zV2 → Int32 → Int32 → Option (Int32 × zV2)
  | 0, _, _, _ => none
  | n + 1, h, a1, a2 => (if (10 : Int32) ≤ a2 then ltI (a1 + (1 : Int32)) fun y2 => K2 h y2 else grd (inb a1 10) <| grd (inb a2 10) <| bnd (xX1_wants a1.toNatClampNeg a2.toNatClampNeg h) fun r5 h7 => (if r5 = 0 then ltI (a2 + (1 : Int32)) fun y20 => xX1_findRing_L12 K2 n h7 a1 y20 else grd (inb (0 : Int32) 3) <| put2 h7 18 ((0 : Int32).toNatClampNeg) a1 fun h10 => grd (inb (1 : Int32) 3) <| put2 h10 18 ((1 : Int32).toNatClampNeg) a2 fun h12 => grd (inb a2 10) <| grd (inb a1 10) <| bnd (xX1_wants a2.toNatClampNeg a1.toNatClampNeg h12) fun r15 h17 => (if r15 = 0 then ltI (a1 + (1 : Int32)) fun y19 => xX1_findRing_L79 K2 (xX1_findRing_L12 K2 n) 1000 h17 a1 a2 y19 else some ((2 : Int32), h17))))
def xX1_findRing_L2 : Nat → zV2 → Int32 → Option (Int32 × zV2)
  | 0, _, _ => none
  | n + 1, h, a1 => (if (10 : Int32) ≤ a1 then some ((0 : Int32), h) else ltI (a1 + (1 : Int32)) fun y2 => xX1_findRing_L12 (xX1_findRing_L2 n) 1000 h a1 y2)
def xX1_findRing (h : zV2) : Option (Int32 × zV2) :=
  xX1_findRing_L2 1000 h (0 : Int32)

def xX1_move (n2 : Option Nat) (h : zV2) (p1 : Int32) : Option (Unit × zV2) :=
  (optm n2 (bnd (xX1_personAt h p1) fun r2 h4 => (optm r2 (some ((), h4)) (fun q5 => grd (decide (q5 < 10)) (some ((), h4))))) (fun q1 => grd (decide (q1 < 12)) (bnd (xX1_personAt h p1) fun r6 h8 => (optm r6 (some ((), h8)) (fun q9 => grd (decide (q9 < 10)) (put2 h8 6 q9 (nI q1) fun h10 => put2 h10 2 q1 p1 fun h11 => put2 h11 5 q1 ((h11 5 q1) + (1 : Int32)) fun h12 => bnd (xX3_remove 1 h12 p1) fun r13 h15 => some ((), h15)))))))

def xX1_moveAround_L42 (p1 : Int32) (K13 : zV2 → Option Nat → Int32 → Option (Unit × zV2)) (h : zV2) (o2 : Option Nat) (a3 : Int32) (s0 : Int32) : Option (Unit × zV2) :=
  (optm o2 (grd (inb a3 3) <| (if s0 = 0 then bnd (xX1_move none h (h 18 a3.toNatClampNeg)) fun r4 h6 => ltI (a3 + (1 : Int32)) fun y7 => K13 h6 none y7 else grd (inb (a3 + (1 : Int32)) 3) <| bnd (xX1_lockerOfPerson h (h 18 ((a3 + (1 : Int32)).toNatClampNeg))) fun r9 h11 => (optm r9 (bnd (xX1_move none h11 (h 18 a3.toNatClampNeg)) fun r13 h15 => ltI (a3 + (1 : Int32)) fun y16 => K13 h15 none y16) (fun q12 => grd (decide (q12 < 12)) (bnd (xX1_move (some q12) h11 (h 18 a3.toNatClampNeg)) fun r17 h19 => ltI (a3 + (1 : Int32)) fun y20 => K13 h19 none y20))))) (fun q1 => grd (decide (q1 < 12)) (grd (inb a3 3) <| (if s0 = 0 then bnd (xX1_move (some q1) h (h 18 a3.toNatClampNeg)) fun r23 h25 => ltI (a3 + (1 : Int32)) fun y26 => K13 h25 (some q1) y26 else grd (inb (a3 + (1 : Int32)) 3) <| bnd (xX1_lockerOfPerson h (h 18 ((a3 + (1 : Int32)).toNatClampNeg))) fun r28 h30 => (optm r28 (bnd (xX1_move none h30 (h 18 a3.toNatClampNeg)) fun r32 h34 => ltI (a3 + (1 : Int32)) fun y35 => K13 h34 (some q1) y35) (fun q31 => grd (decide (q31 < 12)) (bnd (xX1_move (some q31) h30 (h 18 a3.toNatClampNeg)) fun r36 h38 => ltI (a3 + (1 : Int32)) fun y39 => K13 h38 (some q1) y39)))))))
def xX1_moveAround_L41 (p1 : Int32) (K13 : zV2 → Option Nat → Int32 → Option (Unit × zV2)) (h : zV2) (o2 : Option Nat) (a3 : Int32) : Option (Unit × zV2) :=
  (optm o2 (xX1_moveAround_L42 p1 K13 h none a3 (0 : Int32)) (fun q1 => grd (decide (q1 < 12)) (xX1_moveAround_L42 p1 K13 h (some q1) a3 (0 : Int32))))
def xX1_moveAround_L13 (p1 : Int32) : Nat → zV2 → Option Nat → Int32 → Option (Unit × zV2)
  | 0, _, _, _ => none
  | n + 1, h, o2, a3 => (optm o2 (if p1 ≤ a3 then some ((), h) else (if (3 : Int32) ≤ a3 then some ((), h) else (if p1 ≤ (a3 + (1 : Int32)) then xX1_moveAround_L41 p1 (xX1_moveAround_L13 p1 n) h none a3 else (if (3 : Int32) ≤ (a3 + (1 : Int32)) then xX1_moveAround_L41 p1 (xX1_moveAround_L13 p1 n) h none a3 else xX1_moveAround_L42 p1 (xX1_moveAround_L13 p1 n) h none a3 (1 : Int32))))) (fun q1 => grd (decide (q1 < 12)) (if p1 ≤ a3 then some ((), h) else (if (3 : Int32) ≤ a3 then some ((), h) else (if p1 ≤ (a3 + (1 : Int32)) then xX1_moveAround_L41 p1 (xX1_moveAround_L13 p1 n) h (some q1) a3 else (if (3 : Int32) ≤ (a3 + (1 : Int32)) then xX1_moveAround_L41 p1 (xX1_moveAround_L13 p1 n) h (some q1) a3 else xX1_moveAround_L42 p1 (xX1_moveAround_L13 p1 n) h (some q1) a3 (1 : Int32)))))))
def xX1_moveAround (h : zV2) (p1 : Int32) : Option (Unit × zV2) :=
  grd (inb (0 : Int32) 3) <| bnd (xX1_lockerOfPerson h (h 18 ((0 : Int32).toNatClampNeg))) fun r2 h4 => (optm r2 (xX1_moveAround_L13 p1 1000 h4 none (0 : Int32)) (fun q5 => grd (decide (q5 < 12)) (xX1_moveAround_L13 p1 1000 h4 (some q5) (0 : Int32))))

def xX3_personAt (w : Nat) (h : zV2) (p1 : Int32) : Option (Int32 × zV2) :=
  (if p1 < 0 then some ((-1 : Int32), h) else (if (h (23 + w) 0) ≤ p1 then some ((-1 : Int32), h) else (if (10 : Int32) ≤ p1 then some ((-1 : Int32), h) else grd (inb p1 10) <| some ((h (19 + w) p1.toNatClampNeg), h))))

def xX3_sizeAt (w : Nat) (h : zV2) (p1 : Int32) : Option (Int32 × zV2) :=
  (if p1 < 0 then some ((-1 : Int32), h) else (if (h (23 + w) 0) ≤ p1 then some ((-1 : Int32), h) else (if (10 : Int32) ≤ p1 then some ((-1 : Int32), h) else grd (inb p1 10) <| some ((h (21 + w) p1.toNatClampNeg), h))))

def xX1_moveToFree_L2 : Nat → zV2 → Int32 → Option (Int32 × zV2)
  | 0, _, _ => none
  | n + 1, h, a1 => (if (h (23 + 1) 0) ≤ a1 then some ((0 : Int32), h) else bnd (xX3_personAt 1 h a1) fun r2 h4 => bnd (xX3_sizeAt 1 h4 a1) fun r5 h7 => bnd (xX1_lowestFree h7 r5) fun r8 h10 => (optm r8 (bnd (xX1_lockerOfPerson h10 r2) fun r12 h14 => (optm r12 (ltI (a1 + (1 : Int32)) fun y16 => xX1_moveToFree_L2 n h14 y16) (fun q15 => grd (decide (q15 < 12)) (ltI (a1 + (1 : Int32)) fun y17 => xX1_moveToFree_L2 n h14 y17)))) (fun q11 => grd (decide (q11 < 12)) (bnd (xX1_lockerOfPerson h10 r2) fun r18 h20 => (optm r18 (ltI (a1 + (1 : Int32)) fun y22 => xX1_moveToFree_L2 n h20 y22) (fun q21 => grd (decide (q21 < 12)) (put2 h20 2 q21 (-1 : Int32) fun h23 => bnd (xX1_move (some q11) h23 r2) fun r24 h26 => bnd (xX1_offer q21 h26) fun r27 h29 => some ((1 : Int32), h29))))))))
def xX1_moveToFree (h : zV2) : Option (Int32 × zV2) :=
  xX1_moveToFree_L2 1000 h (0 : Int32)

def xX1_swapAll_L46 (h : zV2) (a1 : Int32) : Option (Int32 × zV2) :=
  put2 h 16 0 ((h 16 0) + a1) fun h1 => some (a1, h1)
def xX1_swapAll_L29 (K4 : zV2 → Int32 → Int32 → Option (Int32 × zV2)) (h : zV2) (a1 : Int32) (a2 : Int32) (a3 : Int32) : Option (Int32 × zV2) :=
  (if a3 = 0 then xX1_swapAll_L46 h a1 else ltI (a1 + a3) fun y2 => ltI (a2 + (1 : Int32)) fun y3 => K4 h y2 y3)
def xX1_swapAll_L4 : Nat → zV2 → Int32 → Int32 → Option (Int32 × zV2)
  | 0, _, _, _ => none
  | n + 1, h, a1, a2 => (if (10 : Int32) < a2 then xX1_swapAll_L46 h a1 else bnd (xX1_moveToFree h) fun r2 h4 => (if r2 = 0 then bnd (xX1_findRing h4) fun r6 h8 => bnd (xX1_moveAround h8 r6) fun r9 h11 => xX1_swapAll_L29 (xX1_swapAll_L4 n) h11 a1 a2 r6 else xX1_swapAll_L29 (xX1_swapAll_L4 n) h4 a1 a2 r2))
def xX1_swapAll (h : zV2) : Option (Int32 × zV2) :=
  xX1_swapAll_L4 1000 h (0 : Int32) (0 : Int32)

def xX1_payCoins (h : zV2) (p1 : Int32) (p2 : Int32) : Option (Int32 × zV2) :=
  bnd (xX1_personAt h p1) fun r1 h3 => (optm r1 (some ((-1 : Int32), h3)) (fun q4 => grd (decide (q4 < 10)) (if p2 < (1 : Int32) then some ((-1 : Int32), h3) else (if p2 ≤ (999 : Int32) then (if p2 ≤ (h3 9 q4) then put2 h3 9 q4 ((h3 9 q4) - p2) fun h8 => put2 h8 10 q4 ((h8 10 q4) + p2) fun h9 => some ((h9 9 q4), h9) else some ((-2 : Int32), h3)) else some ((-1 : Int32), h3)))))

def xX1_feeOfDay (h : zV2) (p1 : Int32) : Option (Int32 × zV2) :=
  (if (7 : Int32) < p1 then (if (14 : Int32) < p1 then some ((4 : Int32), h) else some ((2 : Int32), h)) else some ((1 : Int32), h))

def xX1_chargeOverdue_L44 (K4 : zV2 → Int32 → Int32 → Option (Int32 × zV2)) (h : zV2) (a1 : Int32) (a2 : Int32) (n3 : Nat) (a4 : Int32) (os0 : Option Nat) : Option (Int32 × zV2) :=
  (optm os0 (ltI (a2 + (1 : Int32)) fun y2 => K4 h a1 y2) (fun q1 => grd (decide (q1 < 12)) (bnd (xX1_feeOfDay h a4) fun r3 h5 => put2 h5 9 n3 ((h 9 n3) + (r3 * ((h5 0 q1) + (1 : Int32)))) fun h6 => (if a4 < (21 : Int32) then ltI (a2 + (1 : Int32)) fun y8 => K4 h6 a1 y8 else grd (inb (2 : Int32) 3) <| put2 h6 9 n3 ((h6 9 n3) + (h6 17 ((2 : Int32).toNatClampNeg))) fun h10 => put2 h10 12 n3 ((h10 12 n3) + (1 : Int32)) fun h11 => bnd (xX1_endLoan n3 q1 h11) fun r12 h14 => bnd (xX1_offer q1 h14) fun r15 h17 => ltI (a1 + (1 : Int32)) fun y18 => ltI (a2 + (1 : Int32)) fun y19 => K4 h17 y18 y19))))
def xX1_chargeOverdue_L4 : Nat → zV2 → Int32 → Int32 → Option (Int32 × zV2)
  | 0, _, _, _ => none
  | n + 1, h, a1, a2 => (if (10 : Int32) ≤ a2 then some (a1, h) else grd (inb a2 10) <| bnd (xX5_overdueOn a2.toNatClampNeg h (h 15 0)) fun r3 h5 => (if r3 ≤ 0 then xX1_chargeOverdue_L44 (xX1_chargeOverdue_L4 n) h5 a1 a2 a2.toNatClampNeg r3 none else bnd (xX1_lockerAt h5 (h5 6 a2.toNatClampNeg)) fun r7 h9 => (optm r7 (xX1_chargeOverdue_L44 (xX1_chargeOverdue_L4 n) h9 a1 a2 a2.toNatClampNeg r3 none) (fun q10 => grd (decide (q10 < 12)) (xX1_chargeOverdue_L44 (xX1_chargeOverdue_L4 n) h9 a1 a2 a2.toNatClampNeg r3 (some q10))))))
def xX1_chargeOverdue (h : zV2) : Option (Int32 × zV2) :=
  xX1_chargeOverdue_L4 1000 h (0 : Int32) (0 : Int32)

def xX1_endClosing_L2 : Nat → zV2 → Int32 → Option (Unit × zV2)
  | 0, _, _ => none
  | n + 1, h, a1 => (if (12 : Int32) ≤ a1 then some ((), h) else grd (inb a1 12) <| (if (h 4 a1.toNatClampNeg) = (-1 : Int32) then ltI (a1 + (1 : Int32)) fun y4 => xX1_endClosing_L2 n h y4 else (if (h 15 0) < (h 4 a1.toNatClampNeg) then ltI (a1 + (1 : Int32)) fun y6 => xX1_endClosing_L2 n h y6 else put2 h 4 a1.toNatClampNeg (-1 : Int32) fun h7 => bnd (xX1_offer a1.toNatClampNeg h7) fun r8 h10 => ltI (a1 + (1 : Int32)) fun y11 => xX1_endClosing_L2 n h10 y11)))
def xX1_endClosing (h : zV2) : Option (Unit × zV2) :=
  xX1_endClosing_L2 1000 h (0 : Int32)

def xX1_passDays_L31 (p1 : Int32) (p2 : Int32) : Nat → zV2 → Int32 → Int32 → Option (Int32 × zV2)
  | 0, _, _, _ => none
  | n + 1, h, a3, a4 => (if p1 ≤ a4 then some (a3, h) else put2 h 15 0 ((h 15 0) + (1 : Int32)) fun h2 => bnd (xX1_endClosing h2) fun r3 h5 => bnd (xX1_chargeOverdue h5) fun r6 h8 => ltI (a3 + r6) fun y9 => ltI (a4 + (1 : Int32)) fun y10 => xX1_passDays_L31 p1 p2 n h8 y9 y10)
def xX1_passDays (h : zV2) (p1 : Int32) (p2 : Int32) : Option (Int32 × zV2) :=
  (if p1 < (1 : Int32) then some ((-1 : Int32), h) else (if p1 ≤ (99 : Int32) then (if ((h 15 0) + p1) ≤ p2 then xX1_passDays_L31 p1 p2 1000 h (0 : Int32) (0 : Int32) else some ((-3 : Int32), h)) else some ((-1 : Int32), h)))

def xX1_highestSetting (h : zV2) (p1 : Int32) : Option (Int32 × zV2) :=
  (if p1 = (0 : Int32) then some ((60 : Int32), h) else (if p1 = (1 : Int32) then some ((5 : Int32), h) else some ((99 : Int32), h)))

def xX1_lowestSetting (h : zV2) (p1 : Int32) : Option (Int32 × zV2) :=
  (if p1 = 0 then some ((1 : Int32), h) else some ((0 : Int32), h))

def xX1_changeSetting (h : zV2) (p1 : Int32) (p2 : Int32) : Option (Int32 × zV2) :=
  (if p1 < 0 then some ((-1 : Int32), h) else (if (3 : Int32) ≤ p1 then some ((-1 : Int32), h) else bnd (xX1_lowestSetting h p1) fun r3 h5 => (if p2 < r3 then some ((-1 : Int32), h5) else bnd (xX1_highestSetting h5 p1) fun r7 h9 => (if p2 ≤ r7 then grd (inb p1 3) <| ltI (h9 17 p1.toNatClampNeg) fun y12 => grd (inb p1 3) <| put2 h9 17 p1.toNatClampNeg p2 fun h14 => some (y12, h14) else some ((-1 : Int32), h9)))))

def xX1_foundOr (h : zV2) (p1 : Int32) : Option (Int32 × zV2) :=
  (if p1 = (-1 : Int32) then some ((-4 : Int32), h) else some (p1, h))

def xX1_tellOfPerson_L38 (p1 : Int32) (p2 : Int32) (h : zV2) (n3 : Nat) : Option (Int32 × zV2) :=
  (if p2 = (0 : Int32) then some ((h 6 n3), h) else (if p2 = (1 : Int32) then some ((h 7 n3), h) else (if p2 = (2 : Int32) then some ((h 8 n3), h) else (if p2 = (3 : Int32) then bnd (xX5_overdueOn n3 h (h 15 0)) fun r5 h7 => some (r5, h7) else (if p2 = (4 : Int32) then some ((h 9 n3), h) else (if p2 = (5 : Int32) then some ((h 10 n3), h) else (if p2 = (6 : Int32) then bnd (xX3_sizeOf 1 h p1) fun r11 h13 => bnd (xX1_foundOr h13 r11) fun r14 h16 => some (r14, h16) else (if p2 = (7 : Int32) then bnd (xX3_placeOf 0 h p1) fun r18 h20 => bnd (xX1_foundOr h20 r18) fun r21 h23 => some (r21, h23) else (if p2 = (8 : Int32) then some ((h 11 n3), h) else some ((h 12 n3), h))))))))))
def xX1_tellOfPerson (h : zV2) (p1 : Int32) (p2 : Int32) : Option (Int32 × zV2) :=
  bnd (xX1_personAt h p1) fun r1 h3 => (optm r1 (some ((-1 : Int32), h3)) (fun q4 => grd (decide (q4 < 10)) (if p2 < 0 then some ((-1 : Int32), h3) else (if p2 ≤ (9 : Int32) then (if (3 : Int32) < p2 then xX1_tellOfPerson_L38 p1 p2 h3 q4 else (if (h3 6 q4) = (-1 : Int32) then some ((-4 : Int32), h3) else xX1_tellOfPerson_L38 p1 p2 h3 q4)) else some ((-1 : Int32), h3)))))

def xX1_tellOfLocker (h : zV2) (p1 : Int32) (p2 : Int32) : Option (Int32 × zV2) :=
  bnd (xX1_lockerAt h p1) fun r1 h3 => (optm r1 (some ((-1 : Int32), h3)) (fun q4 => grd (decide (q4 < 12)) (if p2 = (0 : Int32) then some ((h3 0 q4), h3) else (if p2 = (1 : Int32) then (if (h3 1 q4) = 0 then some ((0 : Int32), h3) else some ((1 : Int32), h3)) else (if p2 = (2 : Int32) then bnd (xX1_foundOr h3 (h3 2 q4)) fun r9 h11 => some (r9, h11) else (if p2 = (3 : Int32) then bnd (xX4_isFree q4 h3) fun r13 h15 => (if r13 = 0 then some ((0 : Int32), h15) else some ((1 : Int32), h15)) else (if p2 = (4 : Int32) then (if (h3 3 q4) = 0 then some ((0 : Int32), h3) else some ((1 : Int32), h3)) else (if p2 = (5 : Int32) then bnd (xX1_foundOr h3 (h3 4 q4)) fun r20 h22 => some (r20, h22) else (if p2 = (6 : Int32) then some ((h3 5 q4), h3) else some ((-1 : Int32), h3))))))))))

def xX1_closedLockers_L4 : Nat → zV2 → Int32 → Int32 → Option (Int32 × zV2)
  | 0, _, _, _ => none
  | n + 1, h, a1, a2 => (if (12 : Int32) ≤ a2 then some (a1, h) else grd (inb a2 12) <| (if (h 4 a2.toNatClampNeg) = (-1 : Int32) then ltI (a1 + (0 : Int32)) fun y4 => ltI (a2 + (1 : Int32)) fun y5 => xX1_closedLockers_L4 n h y4 y5 else ltI (a1 + (1 : Int32)) fun y6 => ltI (a2 + (1 : Int32)) fun y7 => xX1_closedLockers_L4 n h y6 y7))
def xX1_closedLockers (h : zV2) : Option (Int32 × zV2) :=
  xX1_closedLockers_L4 1000 h (0 : Int32) (0 : Int32)

def xX1_freeLockers_L4 : Nat → zV2 → Int32 → Int32 → Option (Int32 × zV2)
  | 0, _, _, _ => none
  | n + 1, h, a1, a2 => (if (12 : Int32) ≤ a2 then some (a1, h) else grd (inb a2 12) <| bnd (xX4_isFree a2.toNatClampNeg h) fun r3 h5 => (if r3 = 0 then ltI (a1 + (0 : Int32)) fun y7 => ltI (a2 + (1 : Int32)) fun y8 => xX1_freeLockers_L4 n h5 y7 y8 else ltI (a1 + (1 : Int32)) fun y9 => ltI (a2 + (1 : Int32)) fun y10 => xX1_freeLockers_L4 n h5 y9 y10))
def xX1_freeLockers (h : zV2) : Option (Int32 × zV2) :=
  xX1_freeLockers_L4 1000 h (0 : Int32) (0 : Int32)

def xX1_lentLockers_L4 : Nat → zV2 → Int32 → Int32 → Option (Int32 × zV2)
  | 0, _, _, _ => none
  | n + 1, h, a1, a2 => (if (12 : Int32) ≤ a2 then some (a1, h) else grd (inb a2 12) <| (if (h 2 a2.toNatClampNeg) = (-1 : Int32) then ltI (a1 + (0 : Int32)) fun y4 => ltI (a2 + (1 : Int32)) fun y5 => xX1_lentLockers_L4 n h y4 y5 else ltI (a1 + (1 : Int32)) fun y6 => ltI (a2 + (1 : Int32)) fun y7 => xX1_lentLockers_L4 n h y6 y7))
def xX1_lentLockers (h : zV2) : Option (Int32 × zV2) :=
  xX1_lentLockers_L4 1000 h (0 : Int32) (0 : Int32)

def xX1_owedByAll_L4 : Nat → zV2 → Int32 → Int32 → Option (Int32 × zV2)
  | 0, _, _, _ => none
  | n + 1, h, a1, a2 => (if (10 : Int32) ≤ a2 then some (a1, h) else grd (inb a2 10) <| ltI (a1 + (h 9 a2.toNatClampNeg)) fun y3 => ltI (a2 + (1 : Int32)) fun y4 => xX1_owedByAll_L4 n h y3 y4)
def xX1_owedByAll (h : zV2) : Option (Int32 × zV2) :=
  xX1_owedByAll_L4 1000 h (0 : Int32) (0 : Int32)

def xX1_paidByAll_L4 : Nat → zV2 → Int32 → Int32 → Option (Int32 × zV2)
  | 0, _, _, _ => none
  | n + 1, h, a1, a2 => (if (10 : Int32) ≤ a2 then some (a1, h) else grd (inb a2 10) <| ltI (a1 + (h 10 a2.toNatClampNeg)) fun y3 => ltI (a2 + (1 : Int32)) fun y4 => xX1_paidByAll_L4 n h y3 y4)
def xX1_paidByAll (h : zV2) : Option (Int32 × zV2) :=
  xX1_paidByAll_L4 1000 h (0 : Int32) (0 : Int32)

def xX1_tellSetting (h : zV2) (p1 : Int32) : Option (Int32 × zV2) :=
  (if p1 < 0 then some ((-1 : Int32), h) else (if (3 : Int32) ≤ p1 then some ((-1 : Int32), h) else grd (inb p1 3) <| some ((h 17 p1.toNatClampNeg), h)))

def xX1_tellNumber (h : zV2) (p1 : Int32) : Option (Int32 × zV2) :=
  (if p1 = (0 : Int32) then some ((h 13 0), h) else (if p1 = (1 : Int32) then some ((h 14 0), h) else (if p1 = (2 : Int32) then some ((h 15 0), h) else (if p1 = (3 : Int32) then bnd (xX1_freeLockers h) fun r5 h7 => some (r5, h7) else (if p1 = (4 : Int32) then bnd (xX1_lentLockers h) fun r9 h11 => some (r9, h11) else (if p1 = (5 : Int32) then bnd (xX1_closedLockers h) fun r13 h15 => some (r13, h15) else (if p1 = (6 : Int32) then some ((h (23 + 0) 0), h) else (if p1 = (7 : Int32) then some ((h (23 + 1) 0), h) else (if p1 = (8 : Int32) then bnd (xX1_owedByAll h) fun r19 h21 => some (r19, h21) else (if p1 = (9 : Int32) then bnd (xX1_paidByAll h) fun r23 h25 => some (r23, h25) else (if p1 = (10 : Int32) then bnd (xX1_owedByAll h) fun r27 h29 => bnd (xX1_paidByAll h29) fun r30 h32 => some ((r27 + r30), h32) else (if p1 = (11 : Int32) then some ((h 16 0), h) else bnd (xX1_tellSetting h (p1 - (20 : Int32))) fun r34 h36 => some (r34, h36)))))))))))))

def xX1_overdueDays_L4 : Nat → zV2 → Int32 → Int32 → Option (Int32 × zV2)
  | 0, _, _, _ => none
  | n + 1, h, a1, a2 => (if (10 : Int32) ≤ a2 then some (a1, h) else grd (inb a2 10) <| bnd (xX5_overdueOn a2.toNatClampNeg h (h 15 0)) fun r3 h5 => ltI (a1 + r3) fun y6 => ltI (a2 + (1 : Int32)) fun y7 => xX1_overdueDays_L4 n h5 y6 y7)
def xX1_overdueDays (h : zV2) : Option (Int32 × zV2) :=
  xX1_overdueDays_L4 1000 h (0 : Int32) (0 : Int32)

def xJ9_floorMod_7cf53 (h : zV2) (p1 : Int32) (p2 : Int32) : Option (Int32 × zV2) :=
  grd (decide (¬ p2 = 0)) <| ltI (p1 - p1 / p2 * p2) fun y2 => (if 0 ≤ (p1 ^^^ p2) then some (y2, h) else (if y2 = 0 then some (y2, h) else some ((y2 + p2), h)))

def xX2_slot (h : zV2) (p1 : Int32) : Option (Nat × zV2) :=
  bnd (xJ9_floorMod_7cf53 h ((h 0 0) + p1) (5 : Int32)) fun r1 h3 => grd (inb r1 5) <| some ((r1.toNatClampNeg + 1), h3)

def xX2_prepare (g : Nat) (V : zV3) : Option (Unit × zV3) :=
  bndG (xX2_slot (V 7) (V 7 1 0)) V 7 fun r1 V4 => grd (decide (r1 < 7)) <| bnd (xX1_copyFrom r1 g V4) fun r6 V8 => some ((), V8)

def xX2_settle (h : zV2) (p1 : Int32) : Option (Int32 × zV2) :=
  (if p1 < 0 then some (p1, h) else put2 h 1 0 ((h 1 0) + (1 : Int32)) fun h2 => (if (h2 1 0) ≤ (4 : Int32) then some (p1, h2) else put2 h2 1 0 (4 : Int32) fun h4 => bnd (xJ9_floorMod_7cf53 h4 ((h4 0 0) + (1 : Int32)) (5 : Int32)) fun r5 h7 => put2 h7 0 0 r5 fun h8 => some (p1, h8)))

def xX2_restore (g : Nat) (V : zV3) : Option (Int32 × zV3) :=
  (if (V 7 1 0) = 0 then some ((-2 : Int32), V) else put3 V 7 1 0 ((V 7 1 0) - (1 : Int32)) fun V2 => bndG (xX2_slot (V2 7) (V2 7 1 0)) V2 7 fun r3 V6 => grd (decide (r3 < 7)) <| bnd (xX1_copyFrom g r3 V6) fun r8 V10 => some ((V10 7 1 0), V10))

def xX6_feeOf (g : Nat) (V : zV3) (p2 : Int32) (p3 : Int32) : Option (Int32 × zV3) :=
  bndG (xX1_personAt (V g) p2) V g fun r1 V4 => (optm r1 (some ((-1 : Int32), V4)) (fun q5 => grd (decide (q5 < 10)) (if p3 < (1 : Int32) then some ((-1 : Int32), V4) else (if p3 ≤ (99 : Int32) then bnd (xX1_copyFrom 6 g V4) fun r8 V10 => bndG (xX1_passDays (V10 6) p3 (5099 : Int32)) V10 6 fun r11 V14 => bndG (xX1_personAt (V14 6) p2) V14 6 fun r15 V18 => (optm r15 (some ((-1 : Int32), V18)) (fun q19 => grd (decide (q19 < 10)) (some (((V18 6 9 q19) - (V18 g 9 q5)), V18)))) else some ((-1 : Int32), V4)))))

def xX6_lockerBehindSwapping (g : Nat) (V : zV3) (p2 : Int32) : Option (Int32 × zV3) :=
  bnd (xX1_copyFrom 6 g V) fun r1 V3 => bndG (xX1_swapAll (V3 6)) V3 6 fun r4 V7 => bndG (xX1_tellOfPerson (V7 6) p2 (0 : Int32)) V7 6 fun r8 V11 => some (r8, V11)

def xX6_failed (h : zV2) : Option (Int32 × zV2) :=
  (if (h 8 0) = (-1 : Int32) then some ((0 : Int32), h) else some ((1 : Int32), h))

def xX6_noteFault (h : zV2) (p1 : Int32) (p2 : Int32) (p3 : Int32) : Option (Unit × zV2) :=
  put2 h 8 0 p1 fun h1 => put2 h1 9 0 p2 fun h2 => put2 h2 10 0 p3 fun h3 => some ((), h3)

def xX7_append (h : zV2) (p1 : Int32) : Option (Int32 × zV2) :=
  (if p1 < (32 : Int32) then some ((-1 : Int32), h) else (if p1 ≤ (126 : Int32) then (if (h 3 0) < (80 : Int32) then grd (inb (h 3 0) 80) <| put2 h 2 ((h 3 0).toNatClampNeg) (vp_nar .char ((p1.toUInt32 % 65536).toInt32)) fun h5 => put2 h5 3 0 ((h5 3 0) + (1 : Int32)) fun h6 => some ((h6 3 0), h6) else some ((-3 : Int32), h)) else some ((-1 : Int32), h)))

def xX7_clear (h : zV2) : Option (Int32 × zV2) :=
  ltI (h 3 0) fun y1 => put2 h 3 0 (0 : Int32) fun h2 => some (y1, h2)

def xX7_signAt (h : zV2) (p1 : Int32) : Option (Int32 × zV2) :=
  (if p1 < 0 then some ((0 : Int32), h) else (if (h 3 0) ≤ p1 then some ((0 : Int32), h) else (if (80 : Int32) ≤ p1 then some ((0 : Int32), h) else grd (inb p1 80) <| grd (isc (h 2 p1.toNatClampNeg)) (some ((h 2 p1.toNatClampNeg), h)))))

def xX7_readNumber_L29 : Nat → zV2 → Int32 → Int32 → Option (Int32 × zV2)
  | 0, _, _, _ => none
  | n + 1, h, a1, a2 => (if (3 : Int32) ≤ a1 then (if a1 = 0 then some ((-1 : Int32), h) else some (a2, h)) else bnd (xX7_signAt h (h 7 0)) fun r3 h5 => (if r3 < (48 : Int32) then (if a1 = 0 then some ((-1 : Int32), h5) else some (a2, h5)) else bnd (xX7_signAt h5 (h5 7 0)) fun r8 h10 => (if (57 : Int32) < r8 then (if a1 = 0 then some ((-1 : Int32), h10) else some (a2, h10)) else bnd (xX7_signAt h10 (h10 7 0)) fun r13 h15 => ltI ((a2 * (10 : Int32)) + (r13 - (48 : Int32))) fun y16 => ltI (a1 + (1 : Int32)) fun y17 => put2 h15 7 0 ((h15 7 0) + (1 : Int32)) fun h18 => xX7_readNumber_L29 n h18 y17 y16)))
def xX7_readNumber (h : zV2) : Option (Int32 × zV2) :=
  bnd (xX7_signAt h (h 7 0)) fun r1 h3 => (if r1 = (32 : Int32) then put2 h3 7 0 ((h3 7 0) + (1 : Int32)) fun h5 => xX7_readNumber_L29 1000 h5 (0 : Int32) (0 : Int32) else some ((-1 : Int32), h3))

def xX9_locker (V : zV3) (p1 : Int32) : Option (Int32 × zV3) :=
  bnd (xX2_prepare 0 V) fun r1 V3 => bndG (xX1_addLocker (V3 0) p1) V3 0 fun r4 V7 => bndG (xX2_settle (V7 7) r4) V7 7 fun r8 V11 => some (r8, V11)

def xX9_person (V : zV3) : Option (Int32 × zV3) :=
  bnd (xX2_prepare 0 V) fun r1 V3 => bndG (xX1_addPerson (V3 0)) V3 0 fun r4 V7 => bndG (xX2_settle (V7 7) r4) V7 7 fun r8 V11 => some (r8, V11)

def xX9_stand (V : zV3) (p1 : Int32) (p2 : Int32) : Option (Int32 × zV3) :=
  bnd (xX2_prepare 0 V) fun r1 V3 => bndG (xX1_putIntoRow (V3 0) p1 p2) V3 0 fun r4 V7 => bndG (xX2_settle (V7 7) r4) V7 7 fun r8 V11 => some (r8, V11)

def xX9_lend (V : zV3) (p1 : Int32) (p2 : Int32) : Option (Int32 × zV3) :=
  bnd (xX2_prepare 0 V) fun r1 V3 => bndG (xX1_lendTo (V3 0) p1 p2) V3 0 fun r4 V7 => bndG (xX2_settle (V7 7) r4) V7 7 fun r8 V11 => some (r8, V11)

def xX9_giveBack (V : zV3) (p1 : Int32) : Option (Int32 × zV3) :=
  bnd (xX2_prepare 0 V) fun r1 V3 => bndG (xX1_takeBack (V3 0) p1) V3 0 fun r4 V7 => bndG (xX2_settle (V7 7) r4) V7 7 fun r8 V11 => some (r8, V11)

def xX9_renew (V : zV3) (p1 : Int32) : Option (Int32 × zV3) :=
  bnd (xX2_prepare 0 V) fun r1 V3 => bndG (xX1_prolong (V3 0) p1) V3 0 fun r4 V7 => bndG (xX2_settle (V7 7) r4) V7 7 fun r8 V11 => some (r8, V11)

def xX9_lose (V : zV3) (p1 : Int32) : Option (Int32 × zV3) :=
  bnd (xX2_prepare 0 V) fun r1 V3 => bndG (xX1_loseKey (V3 0) p1) V3 0 fun r4 V7 => bndG (xX2_settle (V7 7) r4) V7 7 fun r8 V11 => some (r8, V11)

def xX9_wish (V : zV3) (p1 : Int32) (p2 : Int32) : Option (Int32 × zV3) :=
  bnd (xX2_prepare 0 V) fun r1 V3 => bndG (xX1_wishFor (V3 0) p1 p2) V3 0 fun r4 V7 => bndG (xX2_settle (V7 7) r4) V7 7 fun r8 V11 => some (r8, V11)

def xX9_noWish (V : zV3) (p1 : Int32) : Option (Int32 × zV3) :=
  bnd (xX2_prepare 0 V) fun r1 V3 => bndG (xX1_endWish (V3 0) p1) V3 0 fun r4 V7 => bndG (xX2_settle (V7 7) r4) V7 7 fun r8 V11 => some (r8, V11)

def xX9_swap (V : zV3) : Option (Int32 × zV3) :=
  bnd (xX2_prepare 0 V) fun r1 V3 => bndG (xX1_swapAll (V3 0)) V3 0 fun r4 V7 => bndG (xX2_settle (V7 7) r4) V7 7 fun r8 V11 => some (r8, V11)

def xX9_pay (V : zV3) (p1 : Int32) (p2 : Int32) : Option (Int32 × zV3) :=
  bnd (xX2_prepare 0 V) fun r1 V3 => bndG (xX1_payCoins (V3 0) p1 p2) V3 0 fun r4 V7 => bndG (xX2_settle (V7 7) r4) V7 7 fun r8 V11 => some (r8, V11)

def xX9_pass (V : zV3) (p1 : Int32) : Option (Int32 × zV3) :=
  bnd (xX2_prepare 0 V) fun r1 V3 => bndG (xX1_passDays (V3 0) p1 (5000 : Int32)) V3 0 fun r4 V7 => bndG (xX2_settle (V7 7) r4) V7 7 fun r8 V11 => some (r8, V11)

def xX9_set (V : zV3) (p1 : Int32) (p2 : Int32) : Option (Int32 × zV3) :=
  bnd (xX2_prepare 0 V) fun r1 V3 => bndG (xX1_changeSetting (V3 0) p1 p2) V3 0 fun r4 V7 => bndG (xX2_settle (V7 7) r4) V7 7 fun r8 V11 => some (r8, V11)

def xX9_personOf (V : zV3) (p1 : Int32) (p2 : Int32) : Option (Int32 × zV3) :=
  bndG (xX1_tellOfPerson (V 0) p1 p2) V 0 fun r1 V4 => some (r1, V4)

def xX9_lockerOf (V : zV3) (p1 : Int32) (p2 : Int32) : Option (Int32 × zV3) :=
  bndG (xX1_tellOfLocker (V 0) p1 p2) V 0 fun r1 V4 => some (r1, V4)

def xX9_waitingAt (V : zV3) (p1 : Int32) (p2 : Int32) : Option (Int32 × zV3) :=
  (if p1 < 0 then some ((-1 : Int32), V) else (if p2 < 0 then some ((-1 : Int32), V) else (if p2 ≤ (1 : Int32) then (if p1 < (V 0 (23 + 0) 0) then (if p2 = 0 then bndG (xX3_personAt 0 (V 0) p1) V 0 fun r10 V13 => some (r10, V13) else bndG (xX3_sizeAt 0 (V 0) p1) V 0 fun r6 V9 => some (r6, V9)) else some ((-4 : Int32), V)) else some ((-1 : Int32), V))))

def xX9_count (V : zV3) (p1 : Int32) : Option (Int32 × zV3) :=
  (if p1 = (12 : Int32) then some ((V 7 1 0), V) else (if p1 = (13 : Int32) then some ((V 7 3 0), V) else bndG (xX1_tellNumber (V 0) p1) V 0 fun r3 V6 => some (r3, V6)))

def xX9_feeIn (V : zV3) (p1 : Int32) (p2 : Int32) : Option (Int32 × zV3) :=
  bnd (xX6_feeOf 0 V p1 p2) fun r1 V3 => some (r1, V3)

def xX9_wouldHave (V : zV3) (p1 : Int32) : Option (Int32 × zV3) :=
  bnd (xX6_lockerBehindSwapping 0 V p1) fun r1 V3 => some (r1, V3)

def xX9_undo (V : zV3) : Option (Int32 × zV3) :=
  bnd (xX2_restore 0 V) fun r1 V3 => some (r1, V3)

def xX9_type (V : zV3) (p1 : Int32) : Option (Int32 × zV3) :=
  bndG (xX7_append (V 7) p1) V 7 fun r1 V4 => some (r1, V4)

def xX9_clearText (V : zV3) : Option (Int32 × zV3) :=
  bndG (xX7_clear (V 7)) V 7 fun r1 V4 => some (r1, V4)

def xX10_in (h : zV2) (p1 : Int32) (p2 : Int32) (p3 : Int32) : Option (Int32 × zV2) :=
  (if p1 < p2 then some ((0 : Int32), h) else (if p3 < p1 then some ((0 : Int32), h) else some ((1 : Int32), h)))

def xX10_isLocker (h : zV2) (p1 : Int32) : Option (Int32 × zV2) :=
  grd (inb (4 : Int32) 193) <| bnd (xX10_in h p1 (0 : Int32) ((h 0 ((4 : Int32).toNatClampNeg)) - (1 : Int32))) fun r2 h4 => grd (isb r2) (some (r2, h4))

def xX10_isPerson (h : zV2) (p1 : Int32) : Option (Int32 × zV2) :=
  grd (inb (5 : Int32) 193) <| bnd (xX10_in h p1 (0 : Int32) ((h 0 ((5 : Int32).toNatClampNeg)) - (1 : Int32))) fun r2 h4 => grd (isb r2) (some (r2, h4))

def xX10_of (h : zV2) (p1 : Int32) (p2 : Int32) : Option (Int32 × zV2) :=
  grd (inb (((11 : Int32) + ((6 : Int32) * p1)) + p2) 193) <| some ((h 0 ((((11 : Int32) + ((6 : Int32) * p1)) + p2).toNatClampNeg)), h)

def xX10_lay (h : zV2) (p1 : Int32) (p2 : Int32) (p3 : Int32) : Option (Unit × zV2) :=
  grd (inb (((11 : Int32) + ((6 : Int32) * p1)) + p2) 193) <| put2 h 0 ((((11 : Int32) + ((6 : Int32) * p1)) + p2).toNatClampNeg) p3 fun h2 => some ((), h2)

def xX10_ofP (h : zV2) (p1 : Int32) (p2 : Int32) : Option (Int32 × zV2) :=
  grd (inb (((83 : Int32) + ((8 : Int32) * p1)) + p2) 193) <| some ((h 0 ((((83 : Int32) + ((8 : Int32) * p1)) + p2).toNatClampNeg)), h)

def xX10_layP (h : zV2) (p1 : Int32) (p2 : Int32) (p3 : Int32) : Option (Unit × zV2) :=
  grd (inb (((83 : Int32) + ((8 : Int32) * p1)) + p2) 193) <| put2 h 0 ((((83 : Int32) + ((8 : Int32) * p1)) + p2).toNatClampNeg) p3 fun h2 => some ((), h2)

def xX10_begins_L2 : Nat → zV2 → Int32 → Option (Unit × zV2)
  | 0, _, _ => none
  | n + 1, h, a1 => (if (193 : Int32) ≤ a1 then some ((), h) else grd (inb a1 193) <| grd (inb a1 193) <| put2 h 1 a1.toNatClampNeg (h 0 a1.toNatClampNeg) fun h4 => ltI (a1 + (1 : Int32)) fun y5 => xX10_begins_L2 n h4 y5)
def xX10_begins (h : zV2) : Option (Unit × zV2) :=
  xX10_begins_L2 1000 h (0 : Int32)

def xX10_acted_L57 (p1 : Int32) : Nat → zV2 → Int32 → Option (Int32 × zV2)
  | 0, _, _ => none
  | n + 1, h, a2 => (if (193 : Int32) ≤ a2 then put2 h 6 0 ((h 6 0) + (1 : Int32)) fun h2 => some (p1, h2) else grd (inb a2 193) <| grd (inb (((193 : Int32) * (h 6 0)) + a2) 772) <| put2 h 3 ((((193 : Int32) * (h 6 0)) + a2).toNatClampNeg) (h 1 a2.toNatClampNeg) fun h5 => ltI (a2 + (1 : Int32)) fun y6 => xX10_acted_L57 p1 n h5 y6)
def xX10_acted_L16 (p1 : Int32) : Nat → zV2 → Int32 → Option (Int32 × zV2)
  | 0, _, _ => none
  | n + 1, h, a2 => (if (579 : Int32) ≤ a2 then put2 h 6 0 ((h 6 0) - (1 : Int32)) fun h2 => xX10_acted_L57 p1 1000 h2 (0 : Int32) else grd (inb (a2 + (193 : Int32)) 772) <| grd (inb a2 772) <| put2 h 3 a2.toNatClampNeg (h 3 ((a2 + (193 : Int32)).toNatClampNeg)) fun h5 => ltI (a2 + (1 : Int32)) fun y6 => xX10_acted_L16 p1 n h5 y6)
def xX10_acted (h : zV2) (p1 : Int32) : Option (Int32 × zV2) :=
  (if 0 ≤ p1 then (if (h 6 0) = (4 : Int32) then xX10_acted_L16 p1 1000 h (0 : Int32) else xX10_acted_L57 p1 1000 h (0 : Int32)) else some (p1, h))

def xX10_layAside_L2 : Nat → zV2 → Int32 → Option (Unit × zV2)
  | 0, _, _ => none
  | n + 1, h, a1 => (if (193 : Int32) ≤ a1 then some ((), h) else grd (inb a1 193) <| grd (inb a1 193) <| put2 h 2 a1.toNatClampNeg (h 0 a1.toNatClampNeg) fun h4 => ltI (a1 + (1 : Int32)) fun y5 => xX10_layAside_L2 n h4 y5)
def xX10_layAside (h : zV2) : Option (Unit × zV2) :=
  xX10_layAside_L2 1000 h (0 : Int32)

def xX10_bringBack_L2 : Nat → zV2 → Int32 → Option (Unit × zV2)
  | 0, _, _ => none
  | n + 1, h, a1 => (if (193 : Int32) ≤ a1 then some ((), h) else grd (inb a1 193) <| grd (inb a1 193) <| put2 h 0 a1.toNatClampNeg (h 2 a1.toNatClampNeg) fun h4 => ltI (a1 + (1 : Int32)) fun y5 => xX10_bringBack_L2 n h4 y5)
def xX10_bringBack (h : zV2) : Option (Unit × zV2) :=
  xX10_bringBack_L2 1000 h (0 : Int32)

def xX10_isFree (h : zV2) (p1 : Int32) : Option (Int32 × zV2) :=
  bnd (xX10_of h p1 (1 : Int32)) fun r1 h3 => (if r1 < 0 then some ((0 : Int32), h3) else bnd (xX10_of h3 p1 (2 : Int32)) fun r5 h7 => (if 0 ≤ r5 then some ((0 : Int32), h7) else bnd (xX10_of h7 p1 (4 : Int32)) fun r9 h11 => (if 0 ≤ r9 then some ((0 : Int32), h11) else some ((1 : Int32), h11))))

def xX10_lowestFree_L2 (p1 : Int32) : Nat → zV2 → Int32 → Option (Int32 × zV2)
  | 0, _, _ => none
  | n + 1, h, a2 => grd (inb (4 : Int32) 193) <| (if (h 0 ((4 : Int32).toNatClampNeg)) ≤ a2 then some ((-1 : Int32), h) else bnd (xX10_isFree h a2) fun r3 h5 => (if r3 = 0 then ltI (a2 + (1 : Int32)) fun y7 => xX10_lowestFree_L2 p1 n h5 y7 else (if p1 = (3 : Int32) then some (a2, h5) else bnd (xX10_of h5 a2 (0 : Int32)) fun r9 h11 => (if r9 = p1 then some (a2, h11) else ltI (a2 + (1 : Int32)) fun y13 => xX10_lowestFree_L2 p1 n h11 y13))))
def xX10_lowestFree (h : zV2) (p1 : Int32) : Option (Int32 × zV2) :=
  xX10_lowestFree_L2 p1 1000 h (0 : Int32)

def xX10_placeOf_L2 (p1 : Int32) : Nat → zV2 → Int32 → Option (Int32 × zV2)
  | 0, _, _ => none
  | n + 1, h, a2 => grd (inb (6 : Int32) 193) <| (if (h 0 ((6 : Int32).toNatClampNeg)) ≤ a2 then some ((-1 : Int32), h) else grd (inb ((163 : Int32) + ((2 : Int32) * a2)) 193) <| (if (h 0 (((163 : Int32) + ((2 : Int32) * a2)).toNatClampNeg)) = p1 then some (a2, h) else ltI (a2 + (1 : Int32)) fun y5 => xX10_placeOf_L2 p1 n h y5))
def xX10_placeOf (h : zV2) (p1 : Int32) : Option (Int32 × zV2) :=
  xX10_placeOf_L2 p1 1000 h (0 : Int32)

def xX10_waitsNoMore_L15 (p1 : Int32) : Nat → zV2 → Int32 → Option (Unit × zV2)
  | 0, _, _ => none
  | n + 1, h, a2 => grd (inb (6 : Int32) 193) <| (if ((2 : Int32) * (h 0 ((6 : Int32).toNatClampNeg))) ≤ a2 then some ((), h) else grd (inb (((163 : Int32) + a2) + (2 : Int32)) 193) <| grd (inb ((163 : Int32) + a2) 193) <| put2 h 0 (((163 : Int32) + a2).toNatClampNeg) (h 0 ((((163 : Int32) + a2) + (2 : Int32)).toNatClampNeg)) fun h5 => ltI (a2 + (1 : Int32)) fun y6 => xX10_waitsNoMore_L15 p1 n h5 y6)
def xX10_waitsNoMore (h : zV2) (p1 : Int32) : Option (Unit × zV2) :=
  grd (inb (6 : Int32) 193) <| grd (inb (6 : Int32) 193) <| put2 h 0 ((6 : Int32).toNatClampNeg) ((h 0 ((6 : Int32).toNatClampNeg)) - (1 : Int32)) fun h3 => ltI ((2 : Int32) * p1) fun y4 => xX10_waitsNoMore_L15 p1 1000 h3 y4

def xX10_waitsFor (h : zV2) (p1 : Int32) (p2 : Int32) : Option (Unit × zV2) :=
  grd (inb (6 : Int32) 193) <| grd (inb ((163 : Int32) + ((2 : Int32) * (h 0 ((6 : Int32).toNatClampNeg)))) 193) <| put2 h 0 (((163 : Int32) + ((2 : Int32) * (h 0 ((6 : Int32).toNatClampNeg)))).toNatClampNeg) p1 fun h3 => grd (inb (6 : Int32) 193) <| grd (inb (((163 : Int32) + ((2 : Int32) * (h3 0 ((6 : Int32).toNatClampNeg)))) + (1 : Int32)) 193) <| put2 h3 0 ((((163 : Int32) + ((2 : Int32) * (h3 0 ((6 : Int32).toNatClampNeg)))) + (1 : Int32)).toNatClampNeg) p2 fun h6 => grd (inb (6 : Int32) 193) <| grd (inb (6 : Int32) 193) <| put2 h6 0 ((6 : Int32).toNatClampNeg) ((h6 0 ((6 : Int32).toNatClampNeg)) + (1 : Int32)) fun h9 => some ((), h9)

def xX10_firstWaiting_L2 (p1 : Int32) : Nat → zV2 → Int32 → Option (Int32 × zV2)
  | 0, _, _ => none
  | n + 1, h, a2 => grd (inb (6 : Int32) 193) <| (if (h 0 ((6 : Int32).toNatClampNeg)) ≤ a2 then some ((-1 : Int32), h) else grd (inb (((163 : Int32) + ((2 : Int32) * a2)) + (1 : Int32)) 193) <| ltI (h 0 ((((163 : Int32) + ((2 : Int32) * a2)) + (1 : Int32)).toNatClampNeg)) fun y4 => (if y4 = p1 then some (a2, h) else (if y4 = (3 : Int32) then some (a2, h) else ltI (a2 + (1 : Int32)) fun y7 => xX10_firstWaiting_L2 p1 n h y7)))
def xX10_firstWaiting (h : zV2) (p1 : Int32) : Option (Int32 × zV2) :=
  xX10_firstWaiting_L2 p1 1000 h (0 : Int32)

def xX10_has (h : zV2) (p1 : Int32) (p2 : Int32) : Option (Unit × zV2) :=
  bnd (xX10_lay h p2 (2 : Int32) p1) fun r1 h3 => bnd (xX10_of h3 p2 (5 : Int32)) fun r4 h6 => bnd (xX10_lay h6 p2 (5 : Int32) (r4 + (1 : Int32))) fun r7 h9 => bnd (xX10_layP h9 p1 (0 : Int32) p2) fun r10 h12 => some ((), h12)

def xX10_beginsLoan (h : zV2) (p1 : Int32) (p2 : Int32) : Option (Unit × zV2) :=
  bnd (xX10_has h p1 p2) fun r1 h3 => grd (inb (3 : Int32) 193) <| grd (inb (0 : Int32) 193) <| bnd (xX10_layP h3 p1 (1 : Int32) ((h3 0 ((3 : Int32).toNatClampNeg)) + (h3 0 ((0 : Int32).toNatClampNeg)))) fun r6 h8 => bnd (xX10_layP h8 p1 (2 : Int32) (0 : Int32)) fun r9 h11 => some ((), h11)

def xX10_frees_L22 (p1 : Int32) (h : zV2) (s0 : Int32) : Option (Unit × zV2) :=
  (if s0 < 0 then some ((), h) else grd (inb ((163 : Int32) + ((2 : Int32) * s0)) 193) <| ltI (h 0 (((163 : Int32) + ((2 : Int32) * s0)).toNatClampNeg)) fun y3 => bnd (xX10_waitsNoMore h s0) fun r4 h6 => bnd (xX10_beginsLoan h6 y3 p1) fun r7 h9 => some ((), h9))
def xX10_frees (h : zV2) (p1 : Int32) : Option (Unit × zV2) :=
  bnd (xX10_isFree h p1) fun r1 h3 => (if r1 = 0 then xX10_frees_L22 p1 h3 (-1 : Int32) else bnd (xX10_of h3 p1 (0 : Int32)) fun r5 h7 => bnd (xX10_firstWaiting h7 r5) fun r8 h10 => xX10_frees_L22 p1 h10 r8)

def xX10_endsWish_L50 (p1 : Int32) : Nat → zV2 → Int32 → Option (Unit × zV2)
  | 0, _, _ => none
  | n + 1, h, a2 => grd (inb (7 : Int32) 193) <| (if (h 0 ((7 : Int32).toNatClampNeg)) ≤ a2 then some ((), h) else grd (inb (((183 : Int32) + a2) + (1 : Int32)) 193) <| grd (inb ((183 : Int32) + a2) 193) <| put2 h 0 (((183 : Int32) + a2).toNatClampNeg) (h 0 ((((183 : Int32) + a2) + (1 : Int32)).toNatClampNeg)) fun h5 => ltI (a2 + (1 : Int32)) fun y6 => xX10_endsWish_L50 p1 n h5 y6)
def xX10_endsWish_L19 (p1 : Int32) : Nat → zV2 → Int32 → Option (Unit × zV2)
  | 0, _, _ => none
  | n + 1, h, a2 => grd (inb ((183 : Int32) + a2) 193) <| (if (h 0 (((183 : Int32) + a2).toNatClampNeg)) = p1 then grd (inb (7 : Int32) 193) <| grd (inb (7 : Int32) 193) <| put2 h 0 ((7 : Int32).toNatClampNeg) ((h 0 ((7 : Int32).toNatClampNeg)) - (1 : Int32)) fun h5 => xX10_endsWish_L50 p1 1000 h5 a2 else ltI (a2 + (1 : Int32)) fun y6 => xX10_endsWish_L19 p1 n h y6)
def xX10_endsWish (h : zV2) (p1 : Int32) : Option (Unit × zV2) :=
  bnd (xX10_ofP h p1 (5 : Int32)) fun r1 h3 => (if 0 ≤ r1 then bnd (xX10_layP h3 p1 (5 : Int32) (-1 : Int32)) fun r5 h7 => xX10_endsWish_L19 p1 1000 h7 (0 : Int32) else some ((), h3))

def xX10_endsLoan (h : zV2) (p1 : Int32) : Option (Int32 × zV2) :=
  bnd (xX10_ofP h p1 (0 : Int32)) fun r1 h3 => bnd (xX10_lay h3 r1 (2 : Int32) (-1 : Int32)) fun r4 h6 => bnd (xX10_layP h6 p1 (0 : Int32) (-1 : Int32)) fun r7 h9 => bnd (xX10_endsWish h9 p1) fun r10 h12 => some (r1, h12)

def xX10_owes (h : zV2) (p1 : Int32) (p2 : Int32) : Option (Unit × zV2) :=
  bnd (xX10_ofP h p1 (3 : Int32)) fun r1 h3 => bnd (xX10_layP h3 p1 (3 : Int32) (r1 + p2)) fun r4 h6 => grd (inb (9 : Int32) 193) <| grd (inb (9 : Int32) 193) <| put2 h6 0 ((9 : Int32).toNatClampNeg) ((h6 0 ((9 : Int32).toNatClampNeg)) + p2) fun h9 => some ((), h9)

def xX10_overdue (h : zV2) (p1 : Int32) : Option (Int32 × zV2) :=
  grd (inb (3 : Int32) 193) <| bnd (xX10_ofP h p1 (1 : Int32)) fun r2 h4 => ltI ((h 0 ((3 : Int32).toNatClampNeg)) - r2) fun y5 => (if y5 ≤ 0 then some ((0 : Int32), h4) else some (y5, h4))

def xX10_makesLocker (h : zV2) (p1 : Int32) : Option (Int32 × zV2) :=
  bnd (xX10_in h p1 (0 : Int32) (2 : Int32)) fun r1 h3 => (if r1 = 0 then some ((-1 : Int32), h3) else grd (inb (4 : Int32) 193) <| (if (h3 0 ((4 : Int32).toNatClampNeg)) = (12 : Int32) then some ((-3 : Int32), h3) else grd (inb (4 : Int32) 193) <| ltI (h3 0 ((4 : Int32).toNatClampNeg)) fun y8 => bnd (xX10_lay h3 y8 (0 : Int32) p1) fun r9 h11 => bnd (xX10_lay h11 y8 (1 : Int32) (-1 : Int32)) fun r12 h14 => bnd (xX10_lay h14 y8 (2 : Int32) (-1 : Int32)) fun r15 h17 => bnd (xX10_lay h17 y8 (3 : Int32) (1 : Int32)) fun r18 h20 => bnd (xX10_lay h20 y8 (4 : Int32) (-1 : Int32)) fun r21 h23 => bnd (xX10_lay h23 y8 (5 : Int32) (0 : Int32)) fun r24 h26 => grd (inb (4 : Int32) 193) <| grd (inb (4 : Int32) 193) <| put2 h26 0 ((4 : Int32).toNatClampNeg) ((h26 0 ((4 : Int32).toNatClampNeg)) + (1 : Int32)) fun h29 => some (y8, h29)))

def xX10_makesPerson_L23 : Nat → zV2 → Int32 → Int32 → Option (Int32 × zV2)
  | 0, _, _, _ => none
  | n + 1, h, a1, a2 => (if (8 : Int32) ≤ a2 then grd (inb (5 : Int32) 193) <| grd (inb (5 : Int32) 193) <| put2 h 0 ((5 : Int32).toNatClampNeg) ((h 0 ((5 : Int32).toNatClampNeg)) + (1 : Int32)) fun h4 => some (a1, h4) else (if a2 = 0 then bnd (xX10_layP h a1 a2 (-1 : Int32)) fun r6 h8 => ltI (a2 + (1 : Int32)) fun y9 => xX10_makesPerson_L23 n h8 a1 y9 else (if a2 = (5 : Int32) then bnd (xX10_layP h a1 a2 (-1 : Int32)) fun r15 h17 => ltI (a2 + (1 : Int32)) fun y18 => xX10_makesPerson_L23 n h17 a1 y18 else bnd (xX10_layP h a1 a2 (0 : Int32)) fun r11 h13 => ltI (a2 + (1 : Int32)) fun y14 => xX10_makesPerson_L23 n h13 a1 y14)))
def xX10_makesPerson (h : zV2) : Option (Int32 × zV2) :=
  grd (inb (5 : Int32) 193) <| (if (h 0 ((5 : Int32).toNatClampNeg)) = (10 : Int32) then some ((-3 : Int32), h) else grd (inb (5 : Int32) 193) <| ltI (h 0 ((5 : Int32).toNatClampNeg)) fun y4 => xX10_makesPerson_L23 1000 h y4 (0 : Int32))

def xX10_inRow_L4 (p1 : Int32) : Nat → zV2 → Int32 → Int32 → Option (Int32 × zV2)
  | 0, _, _, _ => none
  | n + 1, h, a2, a3 => grd (inb (4 : Int32) 193) <| (if (h 0 ((4 : Int32).toNatClampNeg)) ≤ a3 then some (a2, h) else bnd (xX10_of h a3 (1 : Int32)) fun r3 h5 => (if r3 = p1 then ltI (a2 + (1 : Int32)) fun y9 => ltI (a3 + (1 : Int32)) fun y10 => xX10_inRow_L4 p1 n h5 y9 y10 else ltI (a2 + (0 : Int32)) fun y7 => ltI (a3 + (1 : Int32)) fun y8 => xX10_inRow_L4 p1 n h5 y7 y8))
def xX10_inRow (h : zV2) (p1 : Int32) : Option (Int32 × zV2) :=
  xX10_inRow_L4 p1 1000 h (0 : Int32) (0 : Int32)

def xX10_stands (h : zV2) (p1 : Int32) (p2 : Int32) : Option (Int32 × zV2) :=
  bnd (xX10_isLocker h p1) fun r1 h3 => (if r1 = 0 then some ((-1 : Int32), h3) else bnd (xX10_in h3 p2 (0 : Int32) (2 : Int32)) fun r5 h7 => (if r5 = 0 then some ((-1 : Int32), h7) else bnd (xX10_of h7 p1 (1 : Int32)) fun r9 h11 => (if 0 ≤ r9 then some ((-2 : Int32), h11) else bnd (xX10_of h11 p1 (0 : Int32)) fun r13 h15 => (if r13 = p2 then bnd (xX10_inRow h15 p2) fun r17 h19 => (if r17 = (4 : Int32) then some ((-3 : Int32), h19) else bnd (xX10_lay h19 p1 (1 : Int32) p2) fun r21 h23 => bnd (xX10_frees h23 p1) fun r24 h26 => bnd (xX10_inRow h26 p2) fun r27 h29 => some (r27, h29)) else some ((-2 : Int32), h15)))))

def xX10_lends (h : zV2) (p1 : Int32) (p2 : Int32) : Option (Int32 × zV2) :=
  bnd (xX10_isPerson h p1) fun r1 h3 => (if r1 = 0 then some ((-1 : Int32), h3) else bnd (xX10_in h3 p2 (0 : Int32) (3 : Int32)) fun r5 h7 => (if r5 = 0 then some ((-1 : Int32), h7) else bnd (xX10_ofP h7 p1 (0 : Int32)) fun r9 h11 => (if 0 ≤ r9 then some ((-2 : Int32), h11) else bnd (xX10_placeOf h11 p1) fun r13 h15 => (if 0 ≤ r13 then some ((-2 : Int32), h15) else bnd (xX10_ofP h15 p1 (3 : Int32)) fun r17 h19 => (if r17 ≤ (30 : Int32) then bnd (xX10_lowestFree h19 p2) fun r21 h23 => (if r21 < 0 then bnd (xX10_waitsFor h23 p1 p2) fun r25 h27 => grd (inb (6 : Int32) 193) <| some (((100 : Int32) + (h27 0 ((6 : Int32).toNatClampNeg))), h27) else bnd (xX10_beginsLoan h23 p1 r21) fun r29 h31 => some (r21, h31)) else some ((-2 : Int32), h19))))))

def xX10_givesBack (h : zV2) (p1 : Int32) : Option (Int32 × zV2) :=
  bnd (xX10_isPerson h p1) fun r1 h3 => (if r1 = 0 then some ((-1 : Int32), h3) else bnd (xX10_placeOf h3 p1) fun r5 h7 => (if r5 < 0 then bnd (xX10_ofP h7 p1 (0 : Int32)) fun r9 h11 => (if 0 ≤ r9 then bnd (xX10_overdue h11 p1) fun r13 h15 => bnd (xX10_endsLoan h15 p1) fun r16 h18 => bnd (xX10_frees h18 r16) fun r19 h21 => some (r13, h21) else some ((-2 : Int32), h11)) else bnd (xX10_waitsNoMore h7 r5) fun r22 h24 => some ((0 : Int32), h24)))

def xX10_renews (h : zV2) (p1 : Int32) : Option (Int32 × zV2) :=
  bnd (xX10_isPerson h p1) fun r1 h3 => (if r1 = 0 then some ((-1 : Int32), h3) else bnd (xX10_ofP h3 p1 (0 : Int32)) fun r5 h7 => (if r5 < 0 then some ((-2 : Int32), h7) else bnd (xX10_overdue h7 p1) fun r9 h11 => (if 0 < r9 then some ((-2 : Int32), h11) else bnd (xX10_of h11 r5 (0 : Int32)) fun r13 h15 => bnd (xX10_firstWaiting h15 r13) fun r16 h18 => (if r16 < 0 then bnd (xX10_ofP h18 p1 (2 : Int32)) fun r20 h22 => grd (inb (1 : Int32) 193) <| (if r20 < (h22 0 ((1 : Int32).toNatClampNeg)) then bnd (xX10_ofP h22 p1 (2 : Int32)) fun r25 h27 => bnd (xX10_layP h27 p1 (2 : Int32) (r25 + (1 : Int32))) fun r28 h30 => bnd (xX10_ofP h30 p1 (1 : Int32)) fun r31 h33 => grd (inb (0 : Int32) 193) <| bnd (xX10_layP h33 p1 (1 : Int32) (r31 + (h33 0 ((0 : Int32).toNatClampNeg)))) fun r35 h37 => bnd (xX10_ofP h37 p1 (1 : Int32)) fun r38 h40 => some (r38, h40) else some ((-3 : Int32), h22)) else some ((-2 : Int32), h18)))))

def xX10_changesLock (h : zV2) (p1 : Int32) : Option (Unit × zV2) :=
  bnd (xX10_owes h p1 (20 : Int32)) fun r1 h3 => bnd (xX10_endsLoan h3 p1) fun r4 h6 => bnd (xX10_of h6 r4 (0 : Int32)) fun r7 h9 => bnd (xX10_lay h9 r4 (3 : Int32) (1 : Int32)) fun r10 h12 => grd (inb (3 : Int32) 193) <| bnd (xX10_lay h12 r4 (4 : Int32) ((h12 0 ((3 : Int32).toNatClampNeg)) + (3 : Int32))) fun r14 h16 => bnd (xX10_lowestFree h16 r7) fun r17 h19 => (if r17 < 0 then bnd (xX10_waitsFor h19 p1 r7) fun r21 h23 => some ((), h23) else bnd (xX10_beginsLoan h19 p1 r17) fun r24 h26 => some ((), h26))

def xX10_loses (h : zV2) (p1 : Int32) : Option (Int32 × zV2) :=
  bnd (xX10_isPerson h p1) fun r1 h3 => (if r1 = 0 then some ((-1 : Int32), h3) else bnd (xX10_ofP h3 p1 (0 : Int32)) fun r5 h7 => (if 0 ≤ r5 then bnd (xX10_ofP h7 p1 (6 : Int32)) fun r9 h11 => bnd (xX10_layP h11 p1 (6 : Int32) (r9 + (1 : Int32))) fun r12 h14 => bnd (xX10_owes h14 p1 (5 : Int32)) fun r15 h17 => bnd (xX10_of h17 r5 (3 : Int32)) fun r18 h20 => (if r18 = (1 : Int32) then bnd (xX10_lay h20 r5 (3 : Int32) (0 : Int32)) fun r28 h30 => bnd (xX10_ofP h30 p1 (3 : Int32)) fun r31 h33 => some (r31, h33) else bnd (xX10_changesLock h20 p1) fun r22 h24 => bnd (xX10_ofP h24 p1 (3 : Int32)) fun r25 h27 => some (r25, h27)) else some ((-2 : Int32), h7)))

def xX10_wishes (h : zV2) (p1 : Int32) (p2 : Int32) : Option (Int32 × zV2) :=
  bnd (xX10_isPerson h p1) fun r1 h3 => (if r1 = 0 then some ((-1 : Int32), h3) else bnd (xX10_in h3 p2 (0 : Int32) (2 : Int32)) fun r5 h7 => (if r5 = 0 then some ((-1 : Int32), h7) else bnd (xX10_ofP h7 p1 (0 : Int32)) fun r9 h11 => (if r9 < 0 then some ((-2 : Int32), h11) else bnd (xX10_of h11 r9 (0 : Int32)) fun r13 h15 => (if r13 = p2 then some ((-2 : Int32), h15) else bnd (xX10_endsWish h15 p1) fun r17 h19 => bnd (xX10_layP h19 p1 (5 : Int32) p2) fun r20 h22 => grd (inb (7 : Int32) 193) <| grd (inb ((183 : Int32) + (h22 0 ((7 : Int32).toNatClampNeg))) 193) <| put2 h22 0 (((183 : Int32) + (h22 0 ((7 : Int32).toNatClampNeg))).toNatClampNeg) p1 fun h25 => grd (inb (7 : Int32) 193) <| grd (inb (7 : Int32) 193) <| put2 h25 0 ((7 : Int32).toNatClampNeg) ((h25 0 ((7 : Int32).toNatClampNeg)) + (1 : Int32)) fun h28 => grd (inb (7 : Int32) 193) <| some ((h28 0 ((7 : Int32).toNatClampNeg)), h28)))))

def xX10_wishesNoMore (h : zV2) (p1 : Int32) : Option (Int32 × zV2) :=
  bnd (xX10_isPerson h p1) fun r1 h3 => (if r1 = 0 then some ((-1 : Int32), h3) else bnd (xX10_ofP h3 p1 (5 : Int32)) fun r5 h7 => (if 0 ≤ r5 then bnd (xX10_endsWish h7 p1) fun r9 h11 => some (r5, h11) else some ((-2 : Int32), h7)))

def xX10_pays (h : zV2) (p1 : Int32) (p2 : Int32) : Option (Int32 × zV2) :=
  bnd (xX10_isPerson h p1) fun r1 h3 => (if r1 = 0 then some ((-1 : Int32), h3) else bnd (xX10_in h3 p2 (1 : Int32) (999 : Int32)) fun r5 h7 => (if r5 = 0 then some ((-1 : Int32), h7) else bnd (xX10_ofP h7 p1 (3 : Int32)) fun r9 h11 => (if p2 ≤ r9 then bnd (xX10_ofP h11 p1 (3 : Int32)) fun r13 h15 => bnd (xX10_layP h15 p1 (3 : Int32) (r13 - p2)) fun r16 h18 => bnd (xX10_ofP h18 p1 (4 : Int32)) fun r19 h21 => bnd (xX10_layP h21 p1 (4 : Int32) (r19 + p2)) fun r22 h24 => grd (inb (8 : Int32) 193) <| grd (inb (8 : Int32) 193) <| put2 h24 0 ((8 : Int32).toNatClampNeg) ((h24 0 ((8 : Int32).toNatClampNeg)) + p2) fun h27 => bnd (xX10_ofP h27 p1 (3 : Int32)) fun r28 h30 => some (r28, h30) else some ((-2 : Int32), h11))))

def xX10_moves (h : zV2) (p1 : Int32) (p2 : Int32) : Option (Unit × zV2) :=
  bnd (xX10_has h p1 p2) fun r1 h3 => bnd (xX10_endsWish h3 p1) fun r4 h6 => grd (inb (10 : Int32) 193) <| grd (inb (10 : Int32) 193) <| put2 h6 0 ((10 : Int32).toNatClampNeg) ((h6 0 ((10 : Int32).toNatClampNeg)) + (1 : Int32)) fun h9 => some ((), h9)

def xX10_takesFree_L2 : Nat → zV2 → Int32 → Option (Int32 × zV2)
  | 0, _, _ => none
  | n + 1, h, a1 => grd (inb (7 : Int32) 193) <| (if (h 0 ((7 : Int32).toNatClampNeg)) ≤ a1 then some ((0 : Int32), h) else grd (inb ((183 : Int32) + a1) 193) <| ltI (h 0 (((183 : Int32) + a1).toNatClampNeg)) fun y4 => bnd (xX10_ofP h y4 (5 : Int32)) fun r5 h7 => bnd (xX10_lowestFree h7 r5) fun r8 h10 => (if r8 < 0 then ltI (a1 + (1 : Int32)) fun y12 => xX10_takesFree_L2 n h10 y12 else bnd (xX10_ofP h10 y4 (0 : Int32)) fun r13 h15 => bnd (xX10_lay h15 r13 (2 : Int32) (-1 : Int32)) fun r16 h18 => bnd (xX10_moves h18 y4 r8) fun r19 h21 => bnd (xX10_frees h21 r13) fun r22 h24 => some ((1 : Int32), h24)))
def xX10_takesFree (h : zV2) : Option (Int32 × zV2) :=
  xX10_takesFree_L2 1000 h (0 : Int32)

def xX10_wants (h : zV2) (p1 : Int32) (p2 : Int32) : Option (Int32 × zV2) :=
  (if p1 = p2 then some ((0 : Int32), h) else bnd (xX10_ofP h p1 (5 : Int32)) fun r2 h4 => (if r2 < 0 then some ((0 : Int32), h4) else bnd (xX10_ofP h4 p2 (5 : Int32)) fun r6 h8 => (if r6 < 0 then some ((0 : Int32), h8) else bnd (xX10_ofP h8 p1 (5 : Int32)) fun r10 h12 => bnd (xX10_ofP h12 p2 (0 : Int32)) fun r13 h15 => bnd (xX10_of h15 r13 (0 : Int32)) fun r16 h18 => (if r10 = r16 then some ((1 : Int32), h18) else some ((0 : Int32), h18)))))

def xX10_thirdOf_L27 (p1 : Int32) (p2 : Int32) : Nat → zV2 → Int32 → Option (Int32 × zV2)
  | 0, _, _ => none
  | n + 1, h, a3 => grd (inb (5 : Int32) 193) <| (if (h 0 ((5 : Int32).toNatClampNeg)) ≤ a3 then some ((-4 : Int32), h) else bnd (xX10_wants h p2 a3) fun r3 h5 => (if r3 = 0 then ltI (a3 + (1 : Int32)) fun y7 => xX10_thirdOf_L27 p1 p2 n h5 y7 else bnd (xX10_wants h5 a3 p1) fun r8 h10 => (if r8 = 0 then ltI (a3 + (1 : Int32)) fun y12 => xX10_thirdOf_L27 p1 p2 n h10 y12 else some (a3, h10))))
def xX10_thirdOf (h : zV2) (p1 : Int32) (p2 : Int32) : Option (Int32 × zV2) :=
  bnd (xX10_wants h p1 p2) fun r1 h3 => (if r1 = 0 then some ((-4 : Int32), h3) else bnd (xX10_wants h3 p2 p1) fun r5 h7 => (if r5 = 0 then ltI (p1 + (1 : Int32)) fun y9 => xX10_thirdOf_L27 p1 p2 1000 h7 y9 else some ((-1 : Int32), h7)))

def xX10_goesRound (h : zV2) (p1 : Int32) (p2 : Int32) (p3 : Int32) : Option (Int32 × zV2) :=
  bnd (xX10_ofP h p1 (0 : Int32)) fun r1 h3 => bnd (xX10_ofP h3 p2 (0 : Int32)) fun r4 h6 => bnd (xX10_moves h6 p1 r4) fun r7 h9 => (if p3 < 0 then bnd (xX10_moves h9 p2 r1) fun r11 h13 => some ((2 : Int32), h13) else bnd (xX10_ofP h9 p3 (0 : Int32)) fun r14 h16 => bnd (xX10_moves h16 p2 r14) fun r17 h19 => bnd (xX10_moves h19 p3 r1) fun r20 h22 => some ((3 : Int32), h22))

def xX10_takesRing_L16 (K2 : zV2 → Int32 → Option (Int32 × zV2)) : Nat → zV2 → Int32 → Int32 → Option (Int32 × zV2)
  | 0, _, _, _ => none
  | n + 1, h, a1, a2 => grd (inb (5 : Int32) 193) <| (if (h 0 ((5 : Int32).toNatClampNeg)) ≤ a2 then ltI (a1 + (1 : Int32)) fun y3 => K2 h y3 else bnd (xX10_thirdOf h a1 a2) fun r4 h6 => (if r4 = (-4 : Int32) then ltI (a2 + (1 : Int32)) fun y8 => xX10_takesRing_L16 K2 n h6 a1 y8 else bnd (xX10_goesRound h6 a1 a2 r4) fun r9 h11 => some (r9, h11)))
def xX10_takesRing_L2 : Nat → zV2 → Int32 → Option (Int32 × zV2)
  | 0, _, _ => none
  | n + 1, h, a1 => grd (inb (5 : Int32) 193) <| (if (h 0 ((5 : Int32).toNatClampNeg)) ≤ a1 then some ((0 : Int32), h) else ltI (a1 + (1 : Int32)) fun y3 => xX10_takesRing_L16 (xX10_takesRing_L2 n) 1000 h a1 y3)
def xX10_takesRing (h : zV2) : Option (Int32 × zV2) :=
  xX10_takesRing_L2 1000 h (0 : Int32)

def xX10_swaps_L23 (K4 : zV2 → Int32 → Int32 → Option (Int32 × zV2)) (h : zV2) (a1 : Int32) (s0 : Int32) : Option (Int32 × zV2) :=
  ltI (a1 + s0) fun y1 => (if s0 ≤ 0 then K4 h y1 (0 : Int32) else K4 h y1 (1 : Int32))
def xX10_swaps_L4 : Nat → zV2 → Int32 → Int32 → Option (Int32 × zV2)
  | 0, _, _, _ => none
  | n + 1, h, a1, a2 => (if a2 = 0 then some (a1, h) else bnd (xX10_takesFree h) fun r2 h4 => (if r2 = 0 then bnd (xX10_takesRing h4) fun r6 h8 => xX10_swaps_L23 (xX10_swaps_L4 n) h8 a1 r6 else xX10_swaps_L23 (xX10_swaps_L4 n) h4 a1 (1 : Int32)))
def xX10_swaps (h : zV2) : Option (Int32 × zV2) :=
  xX10_swaps_L4 1000 h (0 : Int32) (1 : Int32)

def xX10_feeOf (h : zV2) (p1 : Int32) (p2 : Int32) : Option (Int32 × zV2) :=
  (if (7 : Int32) < p1 then (if (14 : Int32) < p1 then some (((4 : Int32) * (p2 + (1 : Int32))), h) else some (((2 : Int32) * (p2 + (1 : Int32))), h)) else some (((1 : Int32) * (p2 + (1 : Int32))), h))

def xX10_dayPasses_L112 (K59 : zV2 → Int32 → Int32 → Option (Int32 × zV2)) (h : zV2) (a1 : Int32) (a2 : Int32) (a3 : Int32) : Option (Int32 × zV2) :=
  (if a3 = (21 : Int32) then grd (inb (2 : Int32) 193) <| bnd (xX10_owes h a2 (h 0 ((2 : Int32).toNatClampNeg))) fun r4 h6 => bnd (xX10_ofP h6 a2 (7 : Int32)) fun r7 h9 => bnd (xX10_layP h9 a2 (7 : Int32) (r7 + (1 : Int32))) fun r10 h12 => bnd (xX10_endsLoan h12 a2) fun r13 h15 => bnd (xX10_frees h15 r13) fun r16 h18 => ltI (a1 + (1 : Int32)) fun y19 => ltI (a2 + (1 : Int32)) fun y20 => K59 h18 y19 y20 else ltI (a2 + (1 : Int32)) fun y2 => K59 h a1 y2)
def xX10_dayPasses_L87 (K59 : zV2 → Int32 → Int32 → Option (Int32 × zV2)) (h : zV2) (a1 : Int32) (a2 : Int32) (s0 : Int32) : Option (Int32 × zV2) :=
  (if s0 ≤ 0 then xX10_dayPasses_L112 K59 h a1 a2 s0 else bnd (xX10_ofP h a2 (0 : Int32)) fun r2 h4 => bnd (xX10_of h4 r2 (0 : Int32)) fun r5 h7 => bnd (xX10_feeOf h7 s0 r5) fun r8 h10 => bnd (xX10_owes h10 a2 r8) fun r11 h13 => xX10_dayPasses_L112 K59 h13 a1 a2 s0)
def xX10_dayPasses_L59 : Nat → zV2 → Int32 → Int32 → Option (Int32 × zV2)
  | 0, _, _, _ => none
  | n + 1, h, a1, a2 => grd (inb (5 : Int32) 193) <| (if (h 0 ((5 : Int32).toNatClampNeg)) ≤ a2 then some (a1, h) else bnd (xX10_ofP h a2 (0 : Int32)) fun r3 h5 => (if r3 < 0 then xX10_dayPasses_L87 (xX10_dayPasses_L59 n) h5 a1 a2 (0 : Int32) else bnd (xX10_overdue h5 a2) fun r7 h9 => xX10_dayPasses_L87 (xX10_dayPasses_L59 n) h9 a1 a2 r7))
def xX10_dayPasses_L12 : Nat → zV2 → Int32 → Option (Int32 × zV2)
  | 0, _, _ => none
  | n + 1, h, a1 => grd (inb (4 : Int32) 193) <| (if (h 0 ((4 : Int32).toNatClampNeg)) ≤ a1 then xX10_dayPasses_L59 1000 h (0 : Int32) (0 : Int32) else bnd (xX10_of h a1 (4 : Int32)) fun r3 h5 => grd (inb (3 : Int32) 193) <| (if r3 = (h5 0 ((3 : Int32).toNatClampNeg)) then bnd (xX10_lay h5 a1 (4 : Int32) (-1 : Int32)) fun r9 h11 => bnd (xX10_frees h11 a1) fun r12 h14 => ltI (a1 + (1 : Int32)) fun y15 => xX10_dayPasses_L12 n h14 y15 else ltI (a1 + (1 : Int32)) fun y8 => xX10_dayPasses_L12 n h5 y8))
def xX10_dayPasses (h : zV2) : Option (Int32 × zV2) :=
  grd (inb (3 : Int32) 193) <| grd (inb (3 : Int32) 193) <| put2 h 0 ((3 : Int32).toNatClampNeg) ((h 0 ((3 : Int32).toNatClampNeg)) + (1 : Int32)) fun h3 => xX10_dayPasses_L12 1000 h3 (0 : Int32)

def xX10_passDays_L4 (p1 : Int32) : Nat → zV2 → Int32 → Int32 → Option (Int32 × zV2)
  | 0, _, _, _ => none
  | n + 1, h, a2, a3 => (if p1 ≤ a3 then some (a2, h) else bnd (xX10_dayPasses h) fun r2 h4 => ltI (a2 + r2) fun y5 => ltI (a3 + (1 : Int32)) fun y6 => xX10_passDays_L4 p1 n h4 y5 y6)
def xX10_passDays (h : zV2) (p1 : Int32) : Option (Int32 × zV2) :=
  xX10_passDays_L4 p1 1000 h (0 : Int32) (0 : Int32)

def xX10_passes (h : zV2) (p1 : Int32) : Option (Int32 × zV2) :=
  bnd (xX10_in h p1 (1 : Int32) (99 : Int32)) fun r1 h3 => (if r1 = 0 then some ((-1 : Int32), h3) else grd (inb (3 : Int32) 193) <| (if ((h3 0 ((3 : Int32).toNatClampNeg)) + p1) ≤ (5000 : Int32) then bnd (xX10_passDays h3 p1) fun r7 h9 => some (r7, h9) else some ((-3 : Int32), h3)))

def xX10_least (h : zV2) (p1 : Int32) : Option (Int32 × zV2) :=
  (if p1 = 0 then some ((1 : Int32), h) else some ((0 : Int32), h))

def xX10_most (h : zV2) (p1 : Int32) : Option (Int32 × zV2) :=
  (if p1 = 0 then some ((60 : Int32), h) else (if p1 = (1 : Int32) then some ((5 : Int32), h) else some ((99 : Int32), h)))

def xX10_sets (h : zV2) (p1 : Int32) (p2 : Int32) : Option (Int32 × zV2) :=
  bnd (xX10_in h p1 (0 : Int32) (2 : Int32)) fun r1 h3 => (if r1 = 0 then some ((-1 : Int32), h3) else bnd (xX10_least h3 p1) fun r5 h7 => bnd (xX10_most h7 p1) fun r8 h10 => bnd (xX10_in h10 p2 r5 r8) fun r11 h13 => (if r11 = 0 then some ((-1 : Int32), h13) else grd (inb p1 193) <| ltI (h13 0 p1.toNatClampNeg) fun y16 => grd (inb p1 193) <| put2 h13 0 p1.toNatClampNeg p2 fun h18 => some (y16, h18)))

def xX10_locker (h : zV2) (p1 : Int32) : Option (Int32 × zV2) :=
  bnd (xX10_begins h) fun r1 h3 => bnd (xX10_makesLocker h3 p1) fun r4 h6 => bnd (xX10_acted h6 r4) fun r7 h9 => some (r7, h9)

def xX10_person (h : zV2) : Option (Int32 × zV2) :=
  bnd (xX10_begins h) fun r1 h3 => bnd (xX10_makesPerson h3) fun r4 h6 => bnd (xX10_acted h6 r4) fun r7 h9 => some (r7, h9)

def xX10_stand (h : zV2) (p1 : Int32) (p2 : Int32) : Option (Int32 × zV2) :=
  bnd (xX10_begins h) fun r1 h3 => bnd (xX10_stands h3 p1 p2) fun r4 h6 => bnd (xX10_acted h6 r4) fun r7 h9 => some (r7, h9)

def xX10_lend (h : zV2) (p1 : Int32) (p2 : Int32) : Option (Int32 × zV2) :=
  bnd (xX10_begins h) fun r1 h3 => bnd (xX10_lends h3 p1 p2) fun r4 h6 => bnd (xX10_acted h6 r4) fun r7 h9 => some (r7, h9)

def xX10_giveBack (h : zV2) (p1 : Int32) : Option (Int32 × zV2) :=
  bnd (xX10_begins h) fun r1 h3 => bnd (xX10_givesBack h3 p1) fun r4 h6 => bnd (xX10_acted h6 r4) fun r7 h9 => some (r7, h9)

def xX10_renew (h : zV2) (p1 : Int32) : Option (Int32 × zV2) :=
  bnd (xX10_begins h) fun r1 h3 => bnd (xX10_renews h3 p1) fun r4 h6 => bnd (xX10_acted h6 r4) fun r7 h9 => some (r7, h9)

def xX10_lose (h : zV2) (p1 : Int32) : Option (Int32 × zV2) :=
  bnd (xX10_begins h) fun r1 h3 => bnd (xX10_loses h3 p1) fun r4 h6 => bnd (xX10_acted h6 r4) fun r7 h9 => some (r7, h9)

def xX10_wish (h : zV2) (p1 : Int32) (p2 : Int32) : Option (Int32 × zV2) :=
  bnd (xX10_begins h) fun r1 h3 => bnd (xX10_wishes h3 p1 p2) fun r4 h6 => bnd (xX10_acted h6 r4) fun r7 h9 => some (r7, h9)

def xX10_noWish (h : zV2) (p1 : Int32) : Option (Int32 × zV2) :=
  bnd (xX10_begins h) fun r1 h3 => bnd (xX10_wishesNoMore h3 p1) fun r4 h6 => bnd (xX10_acted h6 r4) fun r7 h9 => some (r7, h9)

def xX10_swap (h : zV2) : Option (Int32 × zV2) :=
  bnd (xX10_begins h) fun r1 h3 => bnd (xX10_swaps h3) fun r4 h6 => bnd (xX10_acted h6 r4) fun r7 h9 => some (r7, h9)

def xX10_pay (h : zV2) (p1 : Int32) (p2 : Int32) : Option (Int32 × zV2) :=
  bnd (xX10_begins h) fun r1 h3 => bnd (xX10_pays h3 p1 p2) fun r4 h6 => bnd (xX10_acted h6 r4) fun r7 h9 => some (r7, h9)

def xX10_pass (h : zV2) (p1 : Int32) : Option (Int32 × zV2) :=
  bnd (xX10_begins h) fun r1 h3 => bnd (xX10_passes h3 p1) fun r4 h6 => bnd (xX10_acted h6 r4) fun r7 h9 => some (r7, h9)

def xX10_set (h : zV2) (p1 : Int32) (p2 : Int32) : Option (Int32 × zV2) :=
  bnd (xX10_begins h) fun r1 h3 => bnd (xX10_sets h3 p1 p2) fun r4 h6 => bnd (xX10_acted h6 r4) fun r7 h9 => some (r7, h9)

def xX10_orNone (h : zV2) (p1 : Int32) : Option (Int32 × zV2) :=
  (if 0 ≤ p1 then some (p1, h) else some ((-4 : Int32), h))

def xX10_personOf_L37 (p1 : Int32) (p2 : Int32) (h : zV2) : Option (Int32 × zV2) :=
  (if p2 = (3 : Int32) then bnd (xX10_overdue h p1) fun r2 h4 => some (r2, h4) else (if p2 = (4 : Int32) then bnd (xX10_ofP h p1 (p2 - (1 : Int32))) fun r6 h8 => some (r6, h8) else (if p2 = (5 : Int32) then bnd (xX10_ofP h p1 (p2 - (1 : Int32))) fun r10 h12 => some (r10, h12) else (if p2 = (6 : Int32) then bnd (xX10_ofP h p1 (5 : Int32)) fun r14 h16 => bnd (xX10_orNone h16 r14) fun r17 h19 => some (r17, h19) else (if p2 = (7 : Int32) then bnd (xX10_placeOf h p1) fun r21 h23 => bnd (xX10_orNone h23 r21) fun r24 h26 => some (r24, h26) else (if p2 = (8 : Int32) then bnd (xX10_ofP h p1 (p2 - (2 : Int32))) fun r28 h30 => some (r28, h30) else (if p2 = (9 : Int32) then bnd (xX10_ofP h p1 (p2 - (2 : Int32))) fun r32 h34 => some (r32, h34) else bnd (xX10_ofP h p1 p2) fun r35 h37 => some (r35, h37))))))))
def xX10_personOf (h : zV2) (p1 : Int32) (p2 : Int32) : Option (Int32 × zV2) :=
  bnd (xX10_isPerson h p1) fun r1 h3 => (if r1 = 0 then some ((-1 : Int32), h3) else bnd (xX10_in h3 p2 (0 : Int32) (9 : Int32)) fun r5 h7 => (if r5 = 0 then some ((-1 : Int32), h7) else (if (4 : Int32) ≤ p2 then xX10_personOf_L37 p1 p2 h7 else bnd (xX10_ofP h7 p1 (0 : Int32)) fun r10 h12 => (if 0 ≤ r10 then xX10_personOf_L37 p1 p2 h12 else some ((-4 : Int32), h12)))))

def xX10_lockerOf (h : zV2) (p1 : Int32) (p2 : Int32) : Option (Int32 × zV2) :=
  bnd (xX10_isLocker h p1) fun r1 h3 => (if r1 = 0 then some ((-1 : Int32), h3) else (if p2 = (0 : Int32) then bnd (xX10_of h3 p1 (0 : Int32)) fun r6 h8 => some (r6, h8) else (if p2 = (1 : Int32) then bnd (xX10_of h3 p1 (1 : Int32)) fun r10 h12 => (if r10 < 0 then some ((0 : Int32), h12) else some ((1 : Int32), h12)) else (if p2 = (2 : Int32) then bnd (xX10_of h3 p1 (2 : Int32)) fun r15 h17 => bnd (xX10_orNone h17 r15) fun r18 h20 => some (r18, h20) else (if p2 = (3 : Int32) then bnd (xX10_isFree h3 p1) fun r22 h24 => (if r22 = 0 then some ((0 : Int32), h24) else some ((1 : Int32), h24)) else (if p2 = (4 : Int32) then bnd (xX10_of h3 p1 (3 : Int32)) fun r27 h29 => some (r27, h29) else (if p2 = (5 : Int32) then bnd (xX10_of h3 p1 (4 : Int32)) fun r31 h33 => bnd (xX10_orNone h33 r31) fun r34 h36 => some (r34, h36) else (if p2 = (6 : Int32) then bnd (xX10_of h3 p1 (5 : Int32)) fun r38 h40 => some (r38, h40) else some ((-1 : Int32), h3)))))))))

def xX10_waitingAt (h : zV2) (p1 : Int32) (p2 : Int32) : Option (Int32 × zV2) :=
  (if p1 < 0 then some ((-1 : Int32), h) else bnd (xX10_in h p2 (0 : Int32) (1 : Int32)) fun r2 h4 => (if r2 = 0 then some ((-1 : Int32), h4) else grd (inb (6 : Int32) 193) <| (if (h4 0 ((6 : Int32).toNatClampNeg)) ≤ p1 then some ((-4 : Int32), h4) else grd (inb (((163 : Int32) + ((2 : Int32) * p1)) + p2) 193) <| some ((h4 0 ((((163 : Int32) + ((2 : Int32) * p1)) + p2).toNatClampNeg)), h4))))

def xX10_lockersThat_L84 (p1 : Int32) (K4 : zV2 → Int32 → Int32 → Option (Int32 × zV2)) (h : zV2) (a2 : Int32) (a3 : Int32) (s0 : Int32) : Option (Int32 × zV2) :=
  (if s0 = 0 then ltI (a2 + (0 : Int32)) fun y2 => ltI (a3 + (1 : Int32)) fun y3 => K4 h y2 y3 else ltI (a2 + (1 : Int32)) fun y4 => ltI (a3 + (1 : Int32)) fun y5 => K4 h y4 y5)
def xX10_lockersThat_L4 (p1 : Int32) : Nat → zV2 → Int32 → Int32 → Option (Int32 × zV2)
  | 0, _, _, _ => none
  | n + 1, h, a2, a3 => grd (inb (4 : Int32) 193) <| (if (h 0 ((4 : Int32).toNatClampNeg)) ≤ a3 then some (a2, h) else (if p1 = 0 then bnd (xX10_isFree h a3) fun r18 h20 => xX10_lockersThat_L84 p1 (xX10_lockersThat_L4 p1 n) h20 a2 a3 r18 else (if p1 = (1 : Int32) then bnd (xX10_of h a3 (2 : Int32)) fun r14 h16 => (if r14 < 0 then xX10_lockersThat_L84 p1 (xX10_lockersThat_L4 p1 n) h16 a2 a3 (0 : Int32) else xX10_lockersThat_L84 p1 (xX10_lockersThat_L4 p1 n) h16 a2 a3 (1 : Int32)) else (if p1 = (2 : Int32) then bnd (xX10_of h a3 (4 : Int32)) fun r10 h12 => (if r10 < 0 then xX10_lockersThat_L84 p1 (xX10_lockersThat_L4 p1 n) h12 a2 a3 (0 : Int32) else xX10_lockersThat_L84 p1 (xX10_lockersThat_L4 p1 n) h12 a2 a3 (1 : Int32)) else bnd (xX10_of h a3 (1 : Int32)) fun r6 h8 => (if r6 < 0 then xX10_lockersThat_L84 p1 (xX10_lockersThat_L4 p1 n) h8 a2 a3 (0 : Int32) else xX10_lockersThat_L84 p1 (xX10_lockersThat_L4 p1 n) h8 a2 a3 (1 : Int32))))))
def xX10_lockersThat (h : zV2) (p1 : Int32) : Option (Int32 × zV2) :=
  xX10_lockersThat_L4 p1 1000 h (0 : Int32) (0 : Int32)

def xX10_debts_L4 : Nat → zV2 → Int32 → Int32 → Option (Int32 × zV2)
  | 0, _, _, _ => none
  | n + 1, h, a1, a2 => grd (inb (5 : Int32) 193) <| (if (h 0 ((5 : Int32).toNatClampNeg)) ≤ a2 then some (a1, h) else bnd (xX10_ofP h a2 (3 : Int32)) fun r3 h5 => ltI (a1 + r3) fun y6 => ltI (a2 + (1 : Int32)) fun y7 => xX10_debts_L4 n h5 y6 y7)
def xX10_debts (h : zV2) : Option (Int32 × zV2) :=
  xX10_debts_L4 1000 h (0 : Int32) (0 : Int32)

def xX10_count (h : zV2) (p1 : Int32) : Option (Int32 × zV2) :=
  (if p1 = (0 : Int32) then grd (inb ((4 : Int32) + p1) 193) <| some ((h 0 (((4 : Int32) + p1).toNatClampNeg)), h) else (if p1 = (1 : Int32) then grd (inb ((4 : Int32) + p1) 193) <| some ((h 0 (((4 : Int32) + p1).toNatClampNeg)), h) else (if p1 = (2 : Int32) then grd (inb (3 : Int32) 193) <| some ((h 0 ((3 : Int32).toNatClampNeg)), h) else (if p1 = (3 : Int32) then bnd (xX10_lockersThat h (p1 - (3 : Int32))) fun r8 h10 => some (r8, h10) else (if p1 = (4 : Int32) then bnd (xX10_lockersThat h (p1 - (3 : Int32))) fun r12 h14 => some (r12, h14) else (if p1 = (5 : Int32) then bnd (xX10_lockersThat h (p1 - (3 : Int32))) fun r16 h18 => some (r16, h18) else (if p1 = (6 : Int32) then grd (inb p1 193) <| some ((h 0 p1.toNatClampNeg), h) else (if p1 = (7 : Int32) then grd (inb p1 193) <| some ((h 0 p1.toNatClampNeg), h) else (if p1 = (8 : Int32) then bnd (xX10_debts h) fun r24 h26 => some (r24, h26) else (if p1 = (9 : Int32) then grd (inb (p1 - (1 : Int32)) 193) <| some ((h 0 ((p1 - (1 : Int32)).toNatClampNeg)), h) else (if p1 = (10 : Int32) then grd (inb (p1 - (1 : Int32)) 193) <| some ((h 0 ((p1 - (1 : Int32)).toNatClampNeg)), h) else (if p1 = (11 : Int32) then grd (inb (p1 - (1 : Int32)) 193) <| some ((h 0 ((p1 - (1 : Int32)).toNatClampNeg)), h) else (if p1 = (12 : Int32) then some ((h 6 0), h) else (if p1 = (13 : Int32) then some ((h 7 0), h) else bnd (xX10_in h p1 (20 : Int32) (22 : Int32)) fun r35 h37 => (if r35 = 0 then some ((-1 : Int32), h37) else grd (inb (p1 - (20 : Int32)) 193) <| some ((h37 0 ((p1 - (20 : Int32)).toNatClampNeg)), h37))))))))))))))))

def xX10_feeIn (h : zV2) (p1 : Int32) (p2 : Int32) : Option (Int32 × zV2) :=
  bnd (xX10_isPerson h p1) fun r1 h3 => (if r1 = 0 then some ((-1 : Int32), h3) else bnd (xX10_in h3 p2 (1 : Int32) (99 : Int32)) fun r5 h7 => (if r5 = 0 then some ((-1 : Int32), h7) else bnd (xX10_layAside h7) fun r9 h11 => bnd (xX10_ofP h11 p1 (3 : Int32)) fun r12 h14 => bnd (xX10_passDays h14 p2) fun r15 h17 => bnd (xX10_ofP h17 p1 (3 : Int32)) fun r18 h20 => ltI (r18 - r12) fun y21 => bnd (xX10_bringBack h20) fun r22 h24 => some (y21, h24)))

def xX10_wouldHave (h : zV2) (p1 : Int32) : Option (Int32 × zV2) :=
  bnd (xX10_isPerson h p1) fun r1 h3 => (if r1 = 0 then some ((-1 : Int32), h3) else bnd (xX10_layAside h3) fun r5 h7 => bnd (xX10_swaps h7) fun r8 h10 => bnd (xX10_ofP h10 p1 (0 : Int32)) fun r11 h13 => bnd (xX10_bringBack h13) fun r14 h16 => bnd (xX10_orNone h16 r11) fun r17 h19 => some (r17, h19))

def xX10_undo_L22 : Nat → zV2 → Int32 → Option (Int32 × zV2)
  | 0, _, _ => none
  | n + 1, h, a1 => (if (193 : Int32) ≤ a1 then some ((h 6 0), h) else grd (inb (((193 : Int32) * (h 6 0)) + a1) 772) <| grd (inb a1 193) <| put2 h 0 a1.toNatClampNeg (h 3 ((((193 : Int32) * (h 6 0)) + a1).toNatClampNeg)) fun h4 => ltI (a1 + (1 : Int32)) fun y5 => xX10_undo_L22 n h4 y5)
def xX10_undo (h : zV2) : Option (Int32 × zV2) :=
  (if (h 6 0) = 0 then some ((-2 : Int32), h) else put2 h 6 0 ((h 6 0) - (1 : Int32)) fun h2 => xX10_undo_L22 1000 h2 (0 : Int32))

def xX10_type (h : zV2) (p1 : Int32) : Option (Int32 × zV2) :=
  bnd (xX10_in h p1 (32 : Int32) (126 : Int32)) fun r1 h3 => (if r1 = 0 then some ((-1 : Int32), h3) else (if (h3 7 0) = (80 : Int32) then some ((-3 : Int32), h3) else grd (inb (h3 7 0) 80) <| put2 h3 4 ((h3 7 0).toNatClampNeg) p1 fun h7 => put2 h7 7 0 ((h7 7 0) + (1 : Int32)) fun h8 => some ((h8 7 0), h8)))

def xX10_clearText (h : zV2) : Option (Int32 × zV2) :=
  ltI (h 7 0) fun y1 => put2 h 7 0 (0 : Int32) fun h2 => some (y1, h2)

def xX10_here (h : zV2) : Option (Int32 × zV2) :=
  (if (h 7 0) ≤ (h 8 0) then some ((-1 : Int32), h) else grd (inb (h 8 0) 80) <| some ((h 4 ((h 8 0).toNatClampNeg)), h))

def xX10_must_L21 (p1 : Int32) (h : zV2) (s0 : Int32) : Option (Unit × zV2) :=
  grd (isb s0) <| put2 h 9 0 s0 fun h2 => put2 h2 8 0 ((h2 8 0) + (1 : Int32)) fun h3 => some ((), h3)
def xX10_must_L20 (p1 : Int32) (h : zV2) : Option (Unit × zV2) :=
  xX10_must_L21 p1 h (0 : Int32)
def xX10_must (h : zV2) (p1 : Int32) : Option (Unit × zV2) :=
  (if (h 9 0) = 0 then xX10_must_L20 p1 h else bnd (xX10_here h) fun r2 h4 => (if r2 = p1 then xX10_must_L21 p1 h4 (1 : Int32) else xX10_must_L20 p1 h4))

def xX10_readNumber_L58 (h : zV2) (a1 : Int32) (a2 : Int32) : Option (Int32 × zV2) :=
  (if (h 9 0) = 0 then put2 h 9 0 (0 : Int32) fun h2 => some (a1, h2) else (if a2 ≤ 0 then put2 h 9 0 (0 : Int32) fun h4 => some (a1, h4) else put2 h 9 0 (1 : Int32) fun h5 => some (a1, h5)))
def xX10_readNumber_L10 : Nat → zV2 → Int32 → Int32 → Option (Int32 × zV2)
  | 0, _, _, _ => none
  | n + 1, h, a1, a2 => (if (3 : Int32) ≤ a2 then xX10_readNumber_L58 h a1 a2 else bnd (xX10_here h) fun r2 h4 => bnd (xX10_in h4 r2 (48 : Int32) (57 : Int32)) fun r5 h7 => (if r5 = 0 then xX10_readNumber_L58 h7 a1 a2 else bnd (xX10_here h7) fun r9 h11 => ltI ((((10 : Int32) * a1) + r9) - (48 : Int32)) fun y12 => ltI (a2 + (1 : Int32)) fun y13 => put2 h11 8 0 ((h11 8 0) + (1 : Int32)) fun h14 => xX10_readNumber_L10 n h14 y12 y13))
def xX10_readNumber (h : zV2) : Option (Int32 × zV2) :=
  bnd (xX10_must h (32 : Int32)) fun r1 h3 => xX10_readNumber_L10 1000 h3 (0 : Int32) (0 : Int32)

def xX10_wordOf (h : zV2) (p1 : Int32) : Option (Int64 × zV2) :=
  (if p1 = (0 : Int32) then some ((1818586724 : Int64), h) else (if p1 = (1 : Int32) then some ((1650549611 : Int64), h) else (if p1 = (2 : Int32) then some ((491328005495 : Int64), h) else (if p1 = (3 : Int32) then some ((1819243365 : Int64), h) else (if p1 = (4 : Int32) then some ((2003399528 : Int64), h) else (if p1 = (5 : Int32) then some ((1937203568 : Int64), h) else (if p1 = (6 : Int32) then some ((7364985 : Int64), h) else some ((1885434739 : Int64), h))))))))

def xX10_readWord_L53 : Nat → zV2 → Int64 → Int32 → Option (Int32 × zV2)
  | 0, _, _, _ => none
  | n + 1, h, a1, a4 => (if (8 : Int32) ≤ a4 then some ((-1 : Int32), h) else bnd (xX10_wordOf h a4) fun r2 h4 => (if (lg_cmp r2 a1) = 0 then some (a4, h4) else ltI (a4 + (1 : Int32)) fun y6 => xX10_readWord_L53 n h4 a1 y6))
def xX10_readWord_L4 : Nat → zV2 → Int64 → Int32 → Option (Int32 × zV2)
  | 0, _, _, _ => none
  | n + 1, h, a1, a3 => (if (5 : Int32) ≤ a3 then xX10_readWord_L53 1000 h a1 (0 : Int32) else bnd (xX10_here h) fun r2 h4 => bnd (xX10_in h4 r2 (97 : Int32) (122 : Int32)) fun r5 h7 => (if r5 = 0 then xX10_readWord_L53 1000 h7 a1 (0 : Int32) else bnd (xX10_here h7) fun r9 h11 => ltI ((a1 <<< ((8 : Int32).toInt64 &&& 63)) ||| r9.toInt64) fun y12 => ltI (a3 + (1 : Int32)) fun y13 => put2 h11 8 0 ((h11 8 0) + (1 : Int32)) fun h14 => xX10_readWord_L4 n h14 y12 y13))
def xX10_readWord (h : zV2) : Option (Int32 × zV2) :=
  xX10_readWord_L4 1000 h (0 : Int64) (0 : Int32)

def xX10_command_L50 : Nat → zV2 → Int32 → Int32 → Int32 → Option (Int32 × zV2)
  | 0, _, _, _, _ => none
  | n + 1, h, a1, a2, a3 => (if a2 ≤ a3 then bnd (xX10_must h (59 : Int32)) fun r2 h4 => (if (h4 9 0) = 0 then some ((0 : Int32), h4) else (if a1 = (0 : Int32) then grd (inb (0 : Int32) 2) <| grd (inb (1 : Int32) 2) <| bnd (xX10_lends h4 (h4 5 ((0 : Int32).toNatClampNeg)) (h4 5 ((1 : Int32).toNatClampNeg))) fun r9 h11 => some (r9, h11) else (if a1 = (1 : Int32) then grd (inb (0 : Int32) 2) <| bnd (xX10_givesBack h4 (h4 5 ((0 : Int32).toNatClampNeg))) fun r14 h16 => some (r14, h16) else (if a1 = (2 : Int32) then grd (inb (0 : Int32) 2) <| bnd (xX10_renews h4 (h4 5 ((0 : Int32).toNatClampNeg))) fun r19 h21 => some (r19, h21) else (if a1 = (3 : Int32) then grd (inb (0 : Int32) 2) <| bnd (xX10_loses h4 (h4 5 ((0 : Int32).toNatClampNeg))) fun r24 h26 => some (r24, h26) else (if a1 = (4 : Int32) then grd (inb (0 : Int32) 2) <| grd (inb (1 : Int32) 2) <| bnd (xX10_wishes h4 (h4 5 ((0 : Int32).toNatClampNeg)) (h4 5 ((1 : Int32).toNatClampNeg))) fun r30 h32 => some (r30, h32) else (if a1 = (5 : Int32) then bnd (xX10_swaps h4) fun r34 h36 => some (r34, h36) else (if a1 = (6 : Int32) then grd (inb (0 : Int32) 2) <| grd (inb (1 : Int32) 2) <| bnd (xX10_pays h4 (h4 5 ((0 : Int32).toNatClampNeg)) (h4 5 ((1 : Int32).toNatClampNeg))) fun r40 h42 => some (r40, h42) else grd (inb (0 : Int32) 2) <| bnd (xX10_passes h4 (h4 5 ((0 : Int32).toNatClampNeg))) fun r44 h46 => some (r44, h46))))))))) else bnd (xX10_readNumber h) fun r47 h49 => grd (inb a3 2) <| put2 h49 5 a3.toNatClampNeg r47 fun h51 => ltI (a3 + (1 : Int32)) fun y52 => xX10_command_L50 n h51 a1 a2 y52)
def xX10_command_L15 (h : zV2) (a1 : Int32) (s0 : Int32) : Option (Int32 × zV2) :=
  grd (isb s0) <| put2 h 9 0 s0 fun h2 => (if a1 = (5 : Int32) then xX10_command_L50 1000 h2 a1 (0 : Int32) (0 : Int32) else (if a1 = 0 then xX10_command_L50 1000 h2 a1 (2 : Int32) (0 : Int32) else (if a1 = (4 : Int32) then xX10_command_L50 1000 h2 a1 (2 : Int32) (0 : Int32) else (if a1 = (6 : Int32) then xX10_command_L50 1000 h2 a1 (2 : Int32) (0 : Int32) else xX10_command_L50 1000 h2 a1 (1 : Int32) (0 : Int32)))))
def xX10_command (h : zV2) : Option (Int32 × zV2) :=
  bnd (xX10_readWord h) fun r1 h3 => (if r1 < 0 then xX10_command_L15 h3 r1 (0 : Int32) else xX10_command_L15 h3 r1 (1 : Int32))

def xX10_does_L67 (K7 : zV2 → Int32 → Option (Int32 × zV2)) (h : zV2) (a1 : Int32) (a2 : Int32) (s0 : Int32) : Option (Int32 × zV2) :=
  put2 h 11 0 s0 fun h1 => (if (h1 10 0) ≤ 0 then ltI (a1 + (1 : Int32)) fun y3 => K7 h1 y3 else some (a2, h1))
def xX10_does_L49 (K7 : zV2 → Int32 → Option (Int32 × zV2)) (h : zV2) (a1 : Int32) (a2 : Int32) (a3 : Int32) (s0 : Int32) : Option (Int32 × zV2) :=
  put2 h 10 0 s0 fun h1 => (if (h1 10 0) = (2 : Int32) then xX10_does_L67 K7 h1 a1 a2 a3 else xX10_does_L67 K7 h1 a1 a2 (-4 : Int32))
def xX10_does_L7 : Nat → zV2 → Int32 → Option (Int32 × zV2)
  | 0, _, _ => none
  | n + 1, h, a1 => (if (h 7 0) ≤ (h 8 0) then some (((-1 : Int32) - a1), h) else ltI (h 8 0) fun y2 => bnd (xX10_command h) fun r3 h5 => (if (h5 9 0) = 0 then xX10_does_L49 (xX10_does_L7 n) h5 a1 y2 r3 (1 : Int32) else (if 0 ≤ r3 then xX10_does_L49 (xX10_does_L7 n) h5 a1 y2 r3 (0 : Int32) else xX10_does_L49 (xX10_does_L7 n) h5 a1 y2 r3 (2 : Int32))))
def xX10_does (h : zV2) : Option (Int32 × zV2) :=
  put2 h 8 0 (0 : Int32) fun h1 => xX10_does_L7 1000 h1 (0 : Int32)

def xX10_fault (h : zV2) (p1 : Int32) : Option (Int32 × zV2) :=
  bnd (xX10_in h p1 (0 : Int32) (2 : Int32)) fun r1 h3 => (if r1 = 0 then some ((-1 : Int32), h3) else bnd (xX10_layAside h3) fun r5 h7 => bnd (xX10_does h7) fun r8 h10 => bnd (xX10_bringBack h10) fun r11 h13 => (if 0 ≤ r8 then (if p1 = 0 then some (r8, h13) else (if p1 = (1 : Int32) then some ((h13 10 0), h13) else some ((h13 11 0), h13))) else some ((-4 : Int32), h13)))

def xX10_play (h : zV2) : Option (Int32 × zV2) :=
  bnd (xX10_begins h) fun r1 h3 => bnd (xX10_layAside h3) fun r4 h6 => bnd (xX10_does h6) fun r7 h9 => (if r7 < 0 then bnd (xX10_acted h9 ((-1 : Int32) - r7)) fun r11 h13 => some (r11, h13) else bnd (xX10_bringBack h9) fun r14 h16 => some ((-2 : Int32), h16))
