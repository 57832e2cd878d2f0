/-! the class: its methods as functions over the memory (printed by program from the bytecode) -/
def Bk_become (n : Nat) (b0 : Nat) (a1 : Int32) (g : Mem) : Option (Mem) :=
lt9 (sI g 0 b0 0 a1) fun g1 =>
lt9 (sI g1 0 b0 1 (0 : Int32)) fun g2 =>
lt9 (sI g2 0 b0 2 (0 : Int32)) fun g3 =>
lt9 (sI g3 0 b0 3 (0 : Int32)) fun g4 =>
lt9 (sI g4 0 b0 4 (-1 : Int32)) fun g5 =>
lt9 (sI g5 0 b0 5 (-1 : Int32)) fun g6 =>
some g6

def Ly_allows (n : Nat) (a1 : Int32) (a2 : Int32) (a3 : Int32) : Option (Int32) :=
if a1 < 0 then (
some (0 : Int32))
else (
if (2 : Int32) < a1 then (
some (0 : Int32))
else (
if a2 < (1 : Int32) then (
some (0 : Int32))
else (
if (4 : Int32) < a2 then (
some (0 : Int32))
else (
if a3 < (1 : Int32) then (
some (0 : Int32))
else (
if a1 = 0 then (
if (1 : Int32) < a3 then (
some (0 : Int32))
else (
some (1 : Int32)))
else (
if (4 : Int32) < a3 then (
some (0 : Int32))
else (
some (1 : Int32))))))))

def Ly_supply (n : Nat) (a1 : Int32) (a2 : Int32) (a3 : Int32) (g : Mem) : Option (Mem) :=
(ix a1 3).bind fun j1 =>
lt9 (sI g 23 0 j1 a2) fun g2 =>
(ix a1 4).bind fun j3 =>
lt9 (sI g2 24 0 j3 a3) fun g4 =>
some g4

def Ly_freeUnit_L2 (n : Nat) (a1 : Int32) (a2 : Int32) (g : Mem) : Nat → Int32 → Option ((Int32) ⊕ (Unit))
| 0, _ => none
| k1 + 1, x2 =>
(ix a1 3).bind fun j3 =>
if (gI g 23 0 j3) ≤ x2 then (
some (.inr ()))
else (
(ix ((a1 * (4 : Int32)) + x2) 12).bind fun j4 =>
if a2 < (gI g 25 0 j4) then (
Ly_freeUnit_L2 n a1 a2 g k1 (x2 + 1))
else (
some (.inl x2)))
def Ly_freeUnit (n : Nat) (a1 : Int32) (a2 : Int32) (g : Mem) : Option (Int32) :=
(Ly_freeUnit_L2 n a1 a2 g n (0 : Int32)).bind fun r5 =>
match r5 with
| .inl t6 => (
some t6)
| .inr t7 => (
some (-1 : Int32))


def Op_end (n : Nat) (o0 : Nat) (g : Mem) : Option (Int32) :=
some ((gI g 3 o0 9) + (gI g 3 o0 7))

def Op_hasBegun (n : Nat) (o0 : Nat) (g : Mem) : Option (Int32) :=
if (gI g 3 o0 9) = (-1 : Int32) then (
some (0 : Int32))
else (
some (1 : Int32))

def Ly_begins (n : Nat) (o1 : Nat) (a2 : Int32) (g : Mem) : Option (Int32 × Mem) :=
(Op_hasBegun n o1 g).bind fun z1 =>
if z1 = 0 then (
if 0 < (gI g 3 o1 12) then (
some ((0 : Int32), g))
else (
if (gI g 3 o1 13) ≤ a2 then (
lt9 (fun (v4 : Int32) =>
if v4 = (-1 : Int32) then (
some ((0 : Int32), g))
else (
lt9 (sI g 3 o1 9 a2) fun g5 =>
lt9 (sI g5 3 o1 10 v4) fun g6 =>
if (gI g6 3 o1 2) = (3 : Int32) then (
lt9 (sI g6 1 0 5 ((gI g6 1 0 5) + (1 : Int32))) fun g10 =>
some ((1 : Int32), g10))
else (
(Op_end n o1 g6).bind fun z7 =>
(ix (((gI g6 3 o1 2) * (4 : Int32)) + v4) 12).bind fun j8 =>
lt9 (sI g6 25 0 j8 z7) fun g9 =>
some ((1 : Int32), g9)))) fun j2 =>
if (gI g 3 o1 2) = (3 : Int32) then (
j2 (gI g 1 0 5))
else (
(Ly_freeUnit n (gI g 3 o1 2) a2 g).bind fun z3 =>
j2 z3))
else (
some ((0 : Int32), g))))
else (
some ((0 : Int32), g))

def Od_ofValue (n : Nat) (a1 : Int32) : Option (Int32) :=
some ((-9 : Int32) - a1)

def Od_ofVariable (n : Nat) (a1 : Int32) : Option (Int32) :=
some ((-1 : Int32) - a1)

def Op_uses (n : Nat) (o0 : Nat) (a1 : Int32) (g : Mem) : Option (Int32) :=
if (gI g 3 o0 3) = a1 then (
some (1 : Int32))
else (
if (gI g 3 o0 4) = a1 then (
some (1 : Int32))
else (
some (0 : Int32)))

def Op_usesGiven (n : Nat) (o0 : Nat) (o1 : Nat) (g : Mem) : Option (Int32) :=
if (gI g 3 o1 5) = (-1 : Int32) then (
some (0 : Int32))
else (
(Od_ofVariable n (gI g 3 o1 5)).bind fun z1 =>
(Op_uses n o0 z1 g).bind fun z2 =>
if z2 = 0 then (
some (0 : Int32))
else (
some (1 : Int32)))

def Op_touchesGiven (n : Nat) (o0 : Nat) (o1 : Nat) (g : Mem) : Option (Int32) :=
(Op_usesGiven n o0 o1 g).bind fun z1 =>
if z1 = 0 then (
if (gI g 3 o0 5) = (-1 : Int32) then (
some (0 : Int32))
else (
if (gI g 3 o0 5) = (gI g 3 o1 5) then (
some (1 : Int32))
else (
some (0 : Int32))))
else (
some (1 : Int32))

def Op_comesBehind (n : Nat) (o0 : Nat) (o1 : Nat) (g : Mem) : Option (Int32) :=
(Od_ofValue n (gI g 3 o1 0)).bind fun z1 =>
(Op_uses n o0 z1 g).bind fun z2 =>
if z2 = 0 then (
(Op_touchesGiven n o0 o1 g).bind fun z3 =>
if z3 = 0 then (
(Op_usesGiven n o1 o0 g).bind fun z4 =>
if z4 = 0 then (
lt9 (fun (_u : Unit) =>
if (gI g 3 o1 1) = (2 : Int32) then (
if (gI g 3 o0 2) = (2 : Int32) then (
some (1 : Int32))
else (
some (0 : Int32)))
else (
some (0 : Int32))) fun j5 =>
if (gI g 3 o0 1) = (2 : Int32) then (
if (gI g 3 o1 2) = (2 : Int32) then (
some (1 : Int32))
else (
j5 ()))
else (
j5 ()))
else (
some (1 : Int32)))
else (
some (1 : Int32)))
else (
some (1 : Int32))

def Ly_tellThoseBehind_L8 (n : Nat) (b2 : Nat) (o3 : Nat) (p1 : Nat) : Nat → Int32 → Mem → Option (Mem)
| 0, _, _ => none
| k1 + 1, x2, g3 =>
if ((gI g3 0 b2 0) + (gI g3 0 b2 1)) ≤ x2 then (
some g3)
else (
(ix x2 200).bind fun j4 =>
(Op_comesBehind n (200 * p1 + j4) o3 g3).bind fun z5 =>
if z5 = 0 then (
Ly_tellThoseBehind_L8 n b2 o3 p1 k1 (x2 + 1) g3)
else (
lt9 (sI g3 3 (200 * p1 + j4) 12 ((gI g3 3 (200 * p1 + j4) 12) - (1 : Int32))) fun g6 =>
(Op_end n o3 g6).bind fun z7 =>
lt9 (sI g6 3 (200 * p1 + j4) 13 (imax (gI g6 3 (200 * p1 + j4) 13) z7)) fun g8 =>
Ly_tellThoseBehind_L8 n b2 o3 p1 k1 (x2 + 1) g8))
def Ly_tellThoseBehind (n : Nat) (p1 : Nat) (b2 : Nat) (o3 : Nat) (g : Mem) : Option (Mem) :=
(Ly_tellThoseBehind_L8 n b2 o3 p1 n ((gI g 3 o3 0) + (1 : Int32)) g).bind fun r9 =>
some r9

def Ly_beginAll_L34 (n : Nat) (b2 : Nat) (p1 : Nat) (x4 : Int32) : Nat → Int32 → Int32 → Mem → Option (Int32 × Mem)
| 0, _, _, _ => none
| k7 + 1, x8, x9, g10 =>
if (gI g10 0 b2 1) ≤ x9 then (
some (x8, g10))
else (
(ix x9 200).bind fun j11 =>
(gR g10 27 0 j11).bind fun o12 =>
(if o12 < 400 then (
(Ly_begins n o12 x4 g10).bind fun z13 =>
if z13.1 = 0 then (
Ly_beginAll_L34 n b2 p1 x4 k7 x8 (x9 + 1) z13.2)
else (
(ix x9 200).bind fun j14 =>
(gR z13.2 27 0 j14).bind fun o15 =>
(if o15 < 400 then (
(Op_end n o15 z13.2).bind fun z16 =>
lt9 (sI z13.2 0 b2 6 (imax (gI z13.2 0 b2 6) z16)) fun g17 =>
(ix x9 200).bind fun j18 =>
(gR g17 27 0 j18).bind fun o19 =>
(if o19 < 400 then (
(Ly_tellThoseBehind n p1 b2 o19 g17).bind fun g20 =>
Ly_beginAll_L34 n b2 p1 x4 k7 (x8 + 1) (x9 + 1) g20)
else none))
else none)))
else none))
def Ly_beginAll_L10 (n : Nat) (b2 : Nat) (p1 : Nat) : Nat → Int32 → Int32 → Mem → Option (Mem)
| 0, _, _, _ => none
| k2 + 1, x3, x4, g5 =>
if (800 : Int32) ≤ x4 then (
some g5)
else (
if (gI g5 0 b2 1) ≤ x3 then (
some g5)
else (
lt9 (sI g5 1 0 5 (0 : Int32)) fun g6 =>
(Ly_beginAll_L34 n b2 p1 x4 n x3 (0 : Int32) g6).bind fun r21 =>
Ly_beginAll_L10 n b2 p1 k2 r21.1 (x4 + 1) r21.2))
def Ly_beginAll (n : Nat) (p1 : Nat) (b2 : Nat) (g : Mem) : Option (Mem) :=
lt9 (sI g 0 b2 6 (1 : Int32)) fun g1 =>
(Ly_beginAll_L10 n b2 p1 n (0 : Int32) (0 : Int32) g1).bind fun r22 =>
some r22

def Ly_freeRegister_L9 (n : Nat) (a1 : Int32) (g : Mem) : Nat → Int32 → Option ((Int32) ⊕ (Unit))
| 0, _ => none
| k1 + 1, x2 =>
if (200 : Int32) ≤ x2 then (
some (.inr ()))
else (
(ix x2 200).bind fun j3 =>
if a1 ≤ (gI g 26 0 j3) then (
Ly_freeRegister_L9 n a1 g k1 (x2 + 1))
else (
some (.inl x2)))
def Ly_freeRegister (n : Nat) (a1 : Int32) (a2 : Int32) (g : Mem) : Option (Int32 × Mem) :=
if a1 ≤ a2 then (
(Ly_freeRegister_L9 n a1 g n (0 : Int32)).bind fun r4 =>
match r4 with
| .inl t5 => (
(ix t5 200).bind fun j6 =>
lt9 (sI g 26 0 j6 a2) fun g7 =>
some (t5, g7))
| .inr t8 => (
some ((-1 : Int32), g))
)
else (
some ((0 : Int32), g))

def Op_fillsRegister (n : Nat) (o0 : Nat) (g : Mem) : Option (Int32) :=
if (gI g 3 o0 5) = (-1 : Int32) then (
if (gI g 3 o0 1) = (2 : Int32) then (
some (0 : Int32))
else (
some (1 : Int32)))
else (
some (0 : Int32))

def Ly_bindRegisters_L16 (n : Nat) (b2 : Nat) (p1 : Nat) (x2 : Int32) : Nat → Int32 → Mem → Option (Mem)
| 0, _, _ => none
| k4 + 1, x5, g6 =>
if ((gI g6 0 b2 0) + (gI g6 0 b2 1)) ≤ x5 then (
some g6)
else (
(ix x5 200).bind fun j7 =>
(Op_end n (200 * p1 + j7) g6).bind fun z8 =>
if z8 = x2 then (
(Op_fillsRegister n (200 * p1 + j7) g6).bind fun z9 =>
if z9 = 0 then (
Ly_bindRegisters_L16 n b2 p1 x2 k4 (x5 + 1) g6)
else (
(Ly_freeRegister n x2 (gI g6 3 (200 * p1 + j7) 14) g6).bind fun z10 =>
lt9 (sI z10.2 3 (200 * p1 + j7) 11 z10.1) fun g11 =>
Ly_bindRegisters_L16 n b2 p1 x2 k4 (x5 + 1) g11))
else (
Ly_bindRegisters_L16 n b2 p1 x2 k4 (x5 + 1) g6))
def Ly_bindRegisters_L2 (n : Nat) (b2 : Nat) (p1 : Nat) : Nat → Int32 → Mem → Option (Mem)
| 0, _, _ => none
| k1 + 1, x2, g3 =>
if (gI g3 0 b2 6) < x2 then (
some g3)
else (
(Ly_bindRegisters_L16 n b2 p1 x2 n (gI g3 0 b2 0) g3).bind fun r12 =>
Ly_bindRegisters_L2 n b2 p1 k1 (x2 + 1) r12)
def Ly_bindRegisters (n : Nat) (p1 : Nat) (b2 : Nat) (g : Mem) : Option (Mem) :=
(Ly_bindRegisters_L2 n b2 p1 n (1 : Int32) g).bind fun r13 =>
some r13

def Ly_measureHeights_L42 (n : Nat) (b2 : Nat) (g : Mem) (j4 : Nat) (p1 : Nat) : Nat → Int32 → Int32 → Mem → Option (Int32 × Mem)
| 0, _, _, _ => none
| k5 + 1, x6, x7, g8 =>
if ((gI g 0 b2 0) + (gI g 0 b2 1)) ≤ x7 then (
some (x6, g8))
else (
(ix x7 200).bind fun j9 =>
(Op_comesBehind n (200 * p1 + j9) (200 * p1 + j4) g8).bind fun z10 =>
if z10 = 0 then (
Ly_measureHeights_L42 n b2 g j4 p1 k5 x6 (x7 + 1) g8)
else (
lt9 (sI g8 3 (200 * p1 + j9) 12 ((gI g8 3 (200 * p1 + j9) 12) + (1 : Int32))) fun g11 =>
Ly_measureHeights_L42 n b2 g j4 p1 k5 (imax x6 (gI g8 3 (200 * p1 + j9) 8)) (x7 + 1) g11))
def Ly_measureHeights_L15 (n : Nat) (b2 : Nat) (g : Mem) (p1 : Nat) : Nat → Int32 → Mem → Option (Mem)
| 0, _, _ => none
| k1 + 1, x2, g3 =>
if x2 < (gI g3 0 b2 0) then (
some g3)
else (
(ix x2 200).bind fun j4 =>
(Ly_measureHeights_L42 n b2 g j4 p1 n (0 : Int32) (x2 + (1 : Int32)) g3).bind fun r12 =>
lt9 (sI r12.2 3 (200 * p1 + j4) 8 ((gI r12.2 3 (200 * p1 + j4) 7) + r12.1)) fun g13 =>
Ly_measureHeights_L15 n b2 g p1 k1 (x2 + (-1)) g13)
def Ly_measureHeights (n : Nat) (p1 : Nat) (b2 : Nat) (g : Mem) : Option (Mem) :=
(Ly_measureHeights_L15 n b2 g p1 n (((gI g 0 b2 0) + (gI g 0 b2 1)) - (1 : Int32)) g).bind fun r14 =>
some r14

def Od_isValue (n : Nat) (a1 : Int32) : Option (Int32) :=
if (-9 : Int32) < a1 then (
some (0 : Int32))
else (
if a1 ≤ (-209 : Int32) then (
some (0 : Int32))
else (
some (1 : Int32)))

def Od_operationOf (n : Nat) (a1 : Int32) : Option (Int32) :=
some ((-9 : Int32) - a1)

def Ly_noteUse (n : Nat) (p1 : Nat) (a2 : Int32) (a3 : Int32) (g : Mem) : Option (Mem) :=
(Od_isValue n a2).bind fun z1 =>
if z1 = 0 then (
some g)
else (
(Od_operationOf n a2).bind fun z2 =>
(ix z2 200).bind fun j3 =>
lt9 (sI g 3 (200 * p1 + j3) 14 (imax (gI g 3 (200 * p1 + j3) 14) a3)) fun g4 =>
some g4)

def Ly_noteUses_L5 (n : Nat) (b2 : Nat) (p1 : Nat) : Nat → Int32 → Mem → Option (Mem)
| 0, _, _ => none
| k1 + 1, x2, g3 =>
if ((gI g3 0 b2 0) + (gI g3 0 b2 1)) ≤ x2 then (
some g3)
else (
(ix x2 200).bind fun j4 =>
(Ly_noteUse n p1 (gI g3 3 (200 * p1 + j4) 3) (gI g3 3 (200 * p1 + j4) 9) g3).bind fun g5 =>
(Ly_noteUse n p1 (gI g5 3 (200 * p1 + j4) 4) (gI g5 3 (200 * p1 + j4) 9) g5).bind fun g6 =>
Ly_noteUses_L5 n b2 p1 k1 (x2 + 1) g6)
def Ly_noteUses (n : Nat) (p1 : Nat) (b2 : Nat) (g : Mem) : Option (Mem) :=
(Ly_noteUses_L5 n b2 p1 n (gI g 0 b2 0) g).bind fun r7 =>
if (gI r7 0 b2 2) = 0 then (
some r7)
else (
(Ly_noteUse n p1 (gI r7 0 b2 3) ((gI r7 0 b2 6) - (1 : Int32)) r7).bind fun g8 =>
some g8)

def Ly_prepare_L5 (n : Nat) (b2 : Nat) (p1 : Nat) : Nat → Int32 → Mem → Option (Mem)
| 0, _, _ => none
| k1 + 1, x2, g3 =>
if ((gI g3 0 b2 0) + (gI g3 0 b2 1)) ≤ x2 then (
some g3)
else (
(ix x2 200).bind fun j4 =>
(ix (gI g3 3 (200 * p1 + j4) 2) 4).bind fun j5 =>
lt9 (sI g3 3 (200 * p1 + j4) 7 (gI g3 24 0 j5)) fun g6 =>
lt9 (sI g6 3 (200 * p1 + j4) 9 (-1 : Int32)) fun g7 =>
lt9 (sI g7 3 (200 * p1 + j4) 11 (-1 : Int32)) fun g8 =>
lt9 (sI g8 3 (200 * p1 + j4) 12 (0 : Int32)) fun g9 =>
lt9 (sI g9 3 (200 * p1 + j4) 13 (0 : Int32)) fun g10 =>
lt9 (sI g10 3 (200 * p1 + j4) 14 (-1 : Int32)) fun g11 =>
Ly_prepare_L5 n b2 p1 k1 (x2 + 1) g11)
def Ly_prepare_L79 (n : Nat) : Nat → Int32 → Mem → Option (Mem)
| 0, _, _ => none
| k13 + 1, x14, g15 =>
if (12 : Int32) ≤ x14 then (
some g15)
else (
(ix x14 12).bind fun j16 =>
lt9 (sI g15 25 0 j16 (0 : Int32)) fun g17 =>
Ly_prepare_L79 n k13 (x14 + 1) g17)
def Ly_prepare_L100 (n : Nat) : Nat → Int32 → Mem → Option (Mem)
| 0, _, _ => none
| k19 + 1, x20, g21 =>
if (200 : Int32) ≤ x20 then (
some g21)
else (
(ix x20 200).bind fun j22 =>
lt9 (sI g21 26 0 j22 (-1 : Int32)) fun g23 =>
Ly_prepare_L100 n k19 (x20 + 1) g23)
def Ly_prepare (n : Nat) (p1 : Nat) (b2 : Nat) (g : Mem) : Option (Mem) :=
(Ly_prepare_L5 n b2 p1 n (gI g 0 b2 0) g).bind fun r12 =>
(Ly_prepare_L79 n n (0 : Int32) r12).bind fun r18 =>
(Ly_prepare_L100 n n (0 : Int32) r18).bind fun r24 =>
some r24

def Ly_rank_L26 (n : Nat) (j4 : Nat) (p1 : Nat) : Nat → Int32 → Mem → Option (Int32 × Mem)
| 0, _, _ => none
| k5 + 1, x6, g7 =>
if x6 ≤ 0 then (
some (x6, g7))
else (
(ix (x6 - (1 : Int32)) 200).bind fun j8 =>
(gR g7 27 0 j8).bind fun o9 =>
(if o9 < 400 then (
if (gI g7 3 (200 * p1 + j4) 8) ≤ (gI g7 3 o9 8) then (
some (x6, g7))
else (
(ix (x6 - (1 : Int32)) 200).bind fun j10 =>
(gR g7 27 0 j10).bind fun o11 =>
(if o11 < 400 then (
(ix x6 200).bind fun j12 =>
lt9 (sR g7 27 0 j12 (some o11)) fun g13 =>
Ly_rank_L26 n j4 p1 k5 (x6 + (-1)) g13)
else none)))
else none))
def Ly_rank_L2 (n : Nat) (b2 : Nat) (p1 : Nat) : Nat → Int32 → Mem → Option (Mem)
| 0, _, _ => none
| k1 + 1, x2, g3 =>
if (gI g3 0 b2 1) ≤ x2 then (
some g3)
else (
(ix ((gI g3 0 b2 0) + x2) 200).bind fun j4 =>
(Ly_rank_L26 n j4 p1 n x2 g3).bind fun r14 =>
(ix r14.1 200).bind fun j15 =>
lt9 (sR r14.2 27 0 j15 (some (200 * p1 + j4))) fun g16 =>
Ly_rank_L2 n b2 p1 k1 (x2 + 1) g16)
def Ly_rank (n : Nat) (p1 : Nat) (b2 : Nat) (g : Mem) : Option (Mem) :=
(Ly_rank_L2 n b2 p1 n (0 : Int32) g).bind fun r17 =>
some r17

def Ly_lay_L2 (n : Nat) (p1 : Nat) : Nat → Int32 → Mem → Option (Mem)
| 0, _, _ => none
| k1 + 1, x2, g3 =>
if (gI g3 4 p1 3) ≤ x2 then (
some g3)
else (
(ix x2 175).bind fun j4 =>
(Ly_prepare n p1 (175 * p1 + j4) g3).bind fun g5 =>
(Ly_measureHeights n p1 (175 * p1 + j4) g5).bind fun g6 =>
(Ly_rank n p1 (175 * p1 + j4) g6).bind fun g7 =>
(Ly_beginAll n p1 (175 * p1 + j4) g7).bind fun g8 =>
(Ly_noteUses n p1 (175 * p1 + j4) g8).bind fun g9 =>
(Ly_bindRegisters n p1 (175 * p1 + j4) g9).bind fun g10 =>
Ly_lay_L2 n p1 k1 (x2 + 1) g10)
def Ly_lay (n : Nat) (p1 : Nat) (g : Mem) : Option (Mem) :=
(Ly_lay_L2 n p1 n (0 : Int32) g).bind fun r11 =>
some r11

def Mc_begin (n : Nat) (p1 : Nat) (g : Mem) : Option (Mem) :=
lt9 (sR g 2 0 3 (some p1)) fun g1 =>
if (gI g1 4 p1 3) ≤ 0 then (
lt9 (sI g1 2 0 4 (-1 : Int32)) fun g2 =>
lt9 (sL g2 2 0 (0 : Int64)) fun g3 =>
some g3)
else (
lt9 (sI g1 2 0 4 (0 : Int32)) fun g4 =>
lt9 (sL g4 2 0 (0 : Int64)) fun g5 =>
some g5)

def Od_isNumber (n : Nat) (a1 : Int32) : Option (Int32) :=
if a1 < 0 then (
some (0 : Int32))
else (
some (1 : Int32))

def Od_variableOf (n : Nat) (a1 : Int32) : Option (Int32) :=
some ((-1 : Int32) - a1)

def Mc_taken (n : Nat) (a1 : Int32) (g : Mem) : Option (Int32) :=
(Od_isNumber n a1).bind fun z1 =>
if z1 = 0 then (
(Od_isValue n a1).bind fun z2 =>
if z2 = 0 then (
(Od_variableOf n a1).bind fun z3 =>
(ix z3 8).bind fun j4 =>
some (gI g 28 0 j4))
else (
(Od_operationOf n a1).bind fun z5 =>
(ix z5 200).bind fun j6 =>
some (gI g 30 0 j6)))
else (
some a1)

def Mc_outcome (n : Nat) (o1 : Nat) (g : Mem) : Option (Int32 × Mem) :=
(Mc_taken n (gI g 3 o1 3) g).bind fun z1 =>
(Mc_taken n (gI g 3 o1 4) g).bind fun z2 =>
if gI g 3 o1 1 = 1 then (
(ix (z1 &&& (15 : Int32)) 16).bind fun j3 =>
some (gI g 29 0 j3, g))
else (
if gI g 3 o1 1 = 2 then (
(ix (z1 &&& (15 : Int32)) 16).bind fun j4 =>
lt9 (sI g 29 0 j4 z2) fun g5 =>
some (z2, g5))
else (
if gI g 3 o1 1 = 42 then (
some (z1 * z2, g))
else (
if gI g 3 o1 1 = 43 then (
some (z1 + z2, g))
else (
if gI g 3 o1 1 = 45 then (
some (z1 - z2, g))
else (
if gI g 3 o1 1 = 60 then (
if z2 ≤ z1 then (
some ((0 : Int32), g))
else (
some ((1 : Int32), g)))
else (
if gI g 3 o1 1 = 61 then (
if z1 = z2 then (
some ((1 : Int32), g))
else (
some ((0 : Int32), g)))
else (
some (z1, g))))))))

def Mc_perform_L5 (n : Nat) (b1 : Nat) : Nat → Int32 → Mem → Option (Mem)
| 0, _, _ => none
| k1 + 1, x2, g3 =>
if ((gI g3 0 b1 0) + (gI g3 0 b1 1)) ≤ x2 then (
some g3)
else (
(gR g3 2 0 3).bind fun p4 =>
(if p4 < 2 then (
(ix x2 200).bind fun j5 =>
(Mc_outcome n (200 * p4 + j5) g3).bind fun z6 =>
(ix x2 200).bind fun j7 =>
lt9 (sI z6.2 30 0 j7 z6.1) fun g8 =>
if (gI g8 3 (200 * p4 + j5) 5) = (-1 : Int32) then (
Mc_perform_L5 n b1 k1 (x2 + 1) g8)
else (
(ix x2 200).bind fun j9 =>
(ix (gI g8 3 (200 * p4 + j5) 5) 8).bind fun j10 =>
lt9 (sI g8 28 0 j10 (gI g8 30 0 j9)) fun g11 =>
Mc_perform_L5 n b1 k1 (x2 + 1) g11))
else none))
def Mc_perform (n : Nat) (b1 : Nat) (g : Mem) : Option (Mem) :=
(Mc_perform_L5 n b1 n (gI g 0 b1 0) g).bind fun r12 =>
lt9 (fun (v16 : Int32) =>
if v16 = 0 then (
lt9 (sI r12 2 0 4 (gI r12 0 b1 5)) fun g17 =>
some g17)
else (
lt9 (sI r12 2 0 4 (gI r12 0 b1 4)) fun g18 =>
some g18)) fun j14 =>
lt9 (fun (_u : Unit) =>
j14 (1 : Int32)) fun j13 =>
if (gI r12 0 b1 2) = 0 then (
j13 ())
else (
(Mc_taken n (gI r12 0 b1 3) r12).bind fun z15 =>
if z15 = 0 then (
j14 (0 : Int32))
else (
j13 ()))

def Mc_advance_L4 (n : Nat) (a1 : Int32) : Nat → Int32 → Int32 → Mem → Option (Int32 × Mem)
| 0, _, _, _ => none
| k1 + 1, x2, x3, g4 =>
if a1 ≤ x3 then (
some (x2, g4))
else (
if a1 ≤ x2 then (
some (x2, g4))
else (
if (gI g4 2 0 4) = (-1 : Int32) then (
some (x2, g4))
else (
(gR g4 2 0 3).bind fun p5 =>
(if p5 < 2 then (
(ix (gI g4 2 0 4) 175).bind fun j6 =>
(Mc_perform n (175 * p5 + j6) g4).bind fun g7 =>
Mc_advance_L4 n a1 k1 (x2 + (gI g7 0 (175 * p5 + j6) 6)) (x3 + 1) g7)
else none))))
def Mc_advance (n : Nat) (a1 : Int32) (g : Mem) : Option (Int32 × Mem) :=
(Mc_advance_L4 n a1 n (0 : Int32) (0 : Int32) g).bind fun r8 =>
lt9 (sL r8.2 2 0 ((gL r8.2 2 0) + r8.1.toInt64)) fun g9 =>
some (r8.1, g9)

def Op_kindOf (n : Nat) (a1 : Int32) : Option (Int32) :=
if a1 = 1 then (
some (2 : Int32))
else (
if a1 = 2 then (
some (2 : Int32))
else (
if a1 = 3 then (
some (3 : Int32))
else (
if a1 = 42 then (
some (1 : Int32))
else (
some (0 : Int32)))))

def Op_become (n : Nat) (o0 : Nat) (a1 : Int32) (a2 : Int32) (a3 : Int32) (g : Mem) : Option (Mem) :=
lt9 (sI g 3 o0 1 a1) fun g1 =>
lt9 (sI g1 3 o0 3 a2) fun g2 =>
lt9 (sI g2 3 o0 4 a3) fun g3 =>
(Op_kindOf n a1).bind fun z4 =>
lt9 (sI g3 3 o0 2 z4) fun g5 =>
lt9 (sI g5 3 o0 5 (-1 : Int32)) fun g6 =>
some g6

def Pg_clear (n : Nat) (p0 : Nat) (g : Mem) : Option (Mem) :=
lt9 (sI g 4 p0 2 (0 : Int32)) fun g1 =>
lt9 (sI g1 4 p0 3 (0 : Int32)) fun g2 =>
some g2

def Pg_isFull (n : Nat) (p0 : Nat) (g : Mem) : Option (Int32) :=
if (gI g 4 p0 2) = (200 : Int32) then (
some (1 : Int32))
else (
some (0 : Int32))

def Pg_addBlock (n : Nat) (p0 : Nat) (g : Mem) : Option (Nat × Mem) :=
(ix (gI g 4 p0 3) 175).bind fun j1 =>
(Bk_become n (175 * p0 + j1) (gI g 4 p0 2) g).bind fun g2 =>
lt9 (sI g2 4 p0 3 ((gI g2 4 p0 3) + (1 : Int32))) fun g3 =>
some (175 * p0 + j1, g3)

def Pg_addOperation (n : Nat) (p0 : Nat) (a1 : Int32) (a2 : Int32) (a3 : Int32) (g : Mem) : Option (Nat × Mem) :=
(ix (gI g 4 p0 2) 200).bind fun j1 =>
(Op_become n (200 * p0 + j1) a1 a2 a3 g).bind fun g2 =>
lt9 (sI g2 3 (200 * p0 + j1) 6 ((gI g2 4 p0 3) - (1 : Int32))) fun g3 =>
(ix ((gI g3 4 p0 3) - (1 : Int32)) 175).bind fun j4 =>
lt9 (sI g3 0 (175 * p0 + j4) 1 ((gI g3 0 (175 * p0 + j4) 1) + (1 : Int32))) fun g5 =>
lt9 (sI g5 4 p0 2 ((gI g5 4 p0 2) + (1 : Int32))) fun g6 =>
some (200 * p0 + j1, g6)

def Pg_allCycles_L4 (n : Nat) (g : Mem) (p0 : Nat) : Nat → Int32 → Int32 → Option (Int32)
| 0, _, _ => none
| k1 + 1, x2, x3 =>
if (gI g 4 p0 3) ≤ x3 then (
some x2)
else (
(ix x3 175).bind fun j4 =>
Pg_allCycles_L4 n g p0 k1 (x2 + (gI g 0 (175 * p0 + j4) 6)) (x3 + 1))
def Pg_allCycles (n : Nat) (p0 : Nat) (g : Mem) : Option (Int32) :=
(Pg_allCycles_L4 n g p0 n (0 : Int32) (0 : Int32)).bind fun r5 =>
some r5

def Pg_usedRegisters_L4 (n : Nat) (g : Mem) (p0 : Nat) : Nat → Int32 → Int32 → Option (Int32)
| 0, _, _ => none
| k1 + 1, x2, x3 =>
if (gI g 4 p0 2) ≤ x3 then (
some x2)
else (
(ix x3 200).bind fun j4 =>
Pg_usedRegisters_L4 n g p0 k1 (imax x2 (gI g 3 (200 * p0 + j4) 11)) (x3 + 1))
def Pg_usedRegisters (n : Nat) (p0 : Nat) (g : Mem) : Option (Int32) :=
(Pg_usedRegisters_L4 n g p0 n (-1 : Int32) (0 : Int32)).bind fun r5 =>
some (r5 + (1 : Int32))

def Pg_usedUnits_L4 (n : Nat) (a1 : Int32) (g : Mem) (p0 : Nat) : Nat → Int32 → Int32 → Option (Int32)
| 0, _, _ => none
| k1 + 1, x2, x3 =>
if (gI g 4 p0 2) ≤ x3 then (
some x2)
else (
(ix x3 200).bind fun j4 =>
if (gI g 3 (200 * p0 + j4) 2) = a1 then (
(ix x3 200).bind fun j5 =>
Pg_usedUnits_L4 n a1 g p0 k1 (imax x2 (gI g 3 (200 * p0 + j5) 10)) (x3 + 1))
else (
Pg_usedUnits_L4 n a1 g p0 k1 x2 (x3 + 1)))
def Pg_usedUnits (n : Nat) (p0 : Nat) (a1 : Int32) (g : Mem) : Option (Int32) :=
(Pg_usedUnits_L4 n a1 g p0 n (-1 : Int32) (0 : Int32)).bind fun r6 =>
some (r6 + (1 : Int32))

def Rd_rewind (n : Nat) (g : Mem) : Option (Mem) :=
lt9 (sI g 5 0 1 (0 : Int32)) fun g1 =>
some g1

def Rd_look_L0 (n : Nat) : Nat → Mem → Option ((Mem) ⊕ (Mem))
| 0, _ => none
| k1 + 1, g2 =>
if (gI g2 6 0 1) ≤ (gI g2 5 0 1) then (
some (.inr g2))
else (
(ix (gI g2 5 0 1) 700).bind fun j3 =>
if (gI g2 20 0 j3) ≤ (32 : Int32) then (
lt9 (sI g2 5 0 1 ((gI g2 5 0 1) + (1 : Int32))) fun g4 =>
Rd_look_L0 n k1 g4)
else (
some (.inl g2)))
def Rd_look (n : Nat) (g : Mem) : Option (Int32 × Mem) :=
(Rd_look_L0 n n g).bind fun r5 =>
match r5 with
| .inl t6 => (
(ix (gI t6 5 0 1) 700).bind fun j7 =>
some (gI t6 20 0 j7, t6))
| .inr t8 => (
some ((-1 : Int32), t8))


def Rd_pass (n : Nat) (a1 : Int32) (g : Mem) : Option (Mem) :=
lt9 (sI g 5 0 1 ((gI g 5 0 1) + a1)) fun g1 =>
some g1

def Rd_isLetter (n : Nat) (a1 : Int32) : Option (Int32) :=
if a1 < (97 : Int32) then (
some (0 : Int32))
else (
if (122 : Int32) < a1 then (
some (0 : Int32))
else (
some (1 : Int32)))

def Rd_lettersHere_L5 (n : Nat) (g : Mem) : Nat → Int32 → Option (Int32)
| 0, _ => none
| k1 + 1, x2 =>
if (gI g 6 0 1) ≤ x2 then (
some x2)
else (
(ix x2 700).bind fun j3 =>
(Rd_isLetter n (gI g 20 0 j3)).bind fun z4 =>
if z4 = 0 then (
some x2)
else (
Rd_lettersHere_L5 n g k1 (x2 + 1)))
def Rd_lettersHere (n : Nat) (g : Mem) : Option (Int32) :=
(Rd_lettersHere_L5 n g n (gI g 5 0 1)).bind fun r5 =>
some (r5 - (gI g 5 0 1))

def Rd_seesWord_L20 (n : Nat) (w1 : Nat) (z1 : Int32 × Mem) : Nat → Int32 → Option ((Unit) ⊕ (Unit))
| 0, _ => none
| k3 + 1, x4 =>
if (nI (lenS.getD w1 0)) ≤ x4 then (
some (.inr ()))
else (
(ix ((gI z1.2 5 0 1) + x4) 700).bind fun j5 =>
(ix x4 (lenS.getD w1 0)).bind fun j6 =>
if (gI z1.2 20 0 j5) = ((bytS.getD w1 []).getD j6 0) then (
Rd_seesWord_L20 n w1 z1 k3 (x4 + 1))
else (
some (.inl ())))
def Rd_seesWord (n : Nat) (w1 : Nat) (g : Mem) : Option (Int32 × Mem) :=
(Rd_look n g).bind fun z1 =>
(Rd_lettersHere n z1.2).bind fun z2 =>
if z2 = (nI (lenS.getD w1 0)) then (
(Rd_seesWord_L20 n w1 z1 n (0 : Int32)).bind fun r7 =>
match r7 with
| .inl t8 => (
some ((0 : Int32), z1.2))
| .inr t9 => (
some ((1 : Int32), z1.2))
)
else (
some ((0 : Int32), z1.2))

def Rd_seenVariable (n : Nat) (g : Mem) : Option (Int32 × Mem) :=
(Rd_look n g).bind fun z1 =>
lt9 (fun (v5 : Int32) =>
if v5 = 0 then (
some ((-1 : Int32), z1.2))
else (
some (z1.1 - (97 : Int32), z1.2))) fun j3 =>
lt9 (fun (_u : Unit) =>
j3 (0 : Int32)) fun j2 =>
if (z1.1 - (97 : Int32)) < 0 then (
j2 ())
else (
if (8 : Int32) ≤ (z1.1 - (97 : Int32)) then (
j2 ())
else (
(Rd_lettersHere n z1.2).bind fun z4 =>
if z4 = (1 : Int32) then (
j3 (1 : Int32))
else (
j2 ())))

def Rd_isFigure (n : Nat) (a1 : Int32) : Option (Int32) :=
if a1 < (48 : Int32) then (
some (0 : Int32))
else (
if (57 : Int32) < a1 then (
some (0 : Int32))
else (
some (1 : Int32)))

def Rd_seesFigure (n : Nat) (g : Mem) : Option (Int32 × Mem) :=
(Rd_look n g).bind fun z1 =>
(Rd_isFigure n z1.1).bind fun z2 =>
(if z2 = 0 ∨ z2 = 1 then (
some (z2, z1.2))
else none)
def Rd_seesLetter (n : Nat) (g : Mem) : Option (Int32 × Mem) :=
(Rd_look n g).bind fun z1 =>
(Rd_isLetter n z1.1).bind fun z2 =>
(if z2 = 0 ∨ z2 = 1 then (
some (z2, z1.2))
else none)
def Rd_readNumber_L2 (n : Nat) : Nat → Int64 → Mem → Option (Int64 × Mem)
| 0, _, _ => none
| k1 + 1, x2, g3 =>
if (gI g3 6 0 1) ≤ (gI g3 5 0 1) then (
some (x2, g3))
else (
(ix (gI g3 5 0 1) 700).bind fun j4 =>
(Rd_isFigure n (gI g3 20 0 j4)).bind fun z5 =>
if z5 = 0 then (
some (x2, g3))
else (
(ix (gI g3 5 0 1) 700).bind fun j6 =>
lt9 (sI g3 5 0 1 ((gI g3 5 0 1) + (1 : Int32))) fun g7 =>
Rd_readNumber_L2 n k1 (lmin ((((10 : Int64) * x2) + ((gI g3 20 0 j6).toInt64)) - (48 : Int64)) (2147483648 : Int64)) g7))
def Rd_readNumber (n : Nat) (g : Mem) : Option (Int64 × Mem) :=
(Rd_readNumber_L2 n n (0 : Int64) g).bind fun r8 =>
some (r8.1, r8.2)

def Tp_append_L17 (n : Nat) (a1 : Int32) (a2 : Int64) : Nat → Int32 → Mem → Option (Mem)
| 0, _, _ => none
| k1 + 1, x2, g3 =>
if a1 ≤ x2 then (
some g3)
else (
(ix ((gI g3 6 0 1) + x2) 700).bind fun j4 =>
lt9 (sI g3 20 0 j4 (((a2 >>> (((8 : Int32) * x2).toInt64 &&& 63)).toInt32) &&& (255 : Int32))) fun g5 =>
Tp_append_L17 n a1 a2 k1 (x2 + 1) g5)
def Tp_append (n : Nat) (a1 : Int32) (a2 : Int64) (g : Mem) : Option (Int32 × Mem) :=
if ((gI g 6 0 1) + a1) ≤ (700 : Int32) then (
(Tp_append_L17 n a1 a2 n (0 : Int32) g).bind fun r6 =>
lt9 (sI r6 6 0 1 ((gI r6 6 0 1) + a1)) fun g7 =>
some ((1 : Int32), g7))
else (
some ((0 : Int32), g))

def Tp_clear (n : Nat) (g : Mem) : Option (Int32 × Mem) :=
lt9 (sI g 6 0 1 (0 : Int32)) fun g1 =>
some (gI g 6 0 1, g1)

def Tr_refuse (n : Nat) (a1 : Int32) (a2 : Int32) (g : Mem) : Option (Int32 × Mem) :=
lt9 (sI g 7 0 5 a1) fun g1 =>
lt9 (sI g1 7 0 6 a2) fun g2 =>
some ((0 : Int32), g2)

def Tr_meets (n : Nat) (a1 : Int32) (g : Mem) : Option (Int32 × Mem) :=
(Rd_look n g).bind fun z1 =>
if z1.1 = a1 then (
some ((1 : Int32), z1.2))
else (
(Tr_refuse n (1 : Int32) (gI z1.2 5 0 1) z1.2).bind fun z2 =>
if z2.1 = 0 then (
some ((0 : Int32), z2.2))
else (
some ((1 : Int32), z2.2)))

def Tr_add (n : Nat) (a1 : Int32) (a2 : Int32) (a3 : Int32) (a4 : Int32) (g : Mem) : Option (Int32 × Mem) :=
if a3 = (-209 : Int32) then (
some (a3, g))
else (
(gR g 7 0 2).bind fun p1 =>
(if p1 < 2 then (
(Pg_isFull n p1 g).bind fun z2 =>
if z2 = 0 then (
(gR g 7 0 2).bind fun p3 =>
(if p3 < 2 then (
(Pg_addOperation n p3 a1 a2 a3 g).bind fun z4 =>
(if z4.1 < 400 then (
(Od_ofValue n (gI z4.2 3 z4.1 0)).bind fun z6 =>
some (z6, z4.2))
else none))
else none))
else (
(Tr_refuse n (3 : Int32) a4 g).bind fun z7 =>
some ((-209 : Int32), z7.2)))
else none))

def Tr_passes (n : Nat) (a1 : Int32) (g : Mem) : Option (Int32 × Mem) :=
(Tr_meets n a1 g).bind fun z1 =>
if z1.1 = 0 then (
some ((0 : Int32), z1.2))
else (
(Rd_pass n (1 : Int32) z1.2).bind fun g2 =>
some ((1 : Int32), g2))

def Tr_refuseHere (n : Nat) (a1 : Int32) (g : Mem) : Option (Int32 × Mem) :=
(Tr_refuse n a1 (gI g 5 0 1) g).bind fun z1 =>
(if z1.1 = 0 ∨ z1.1 = 1 then (
some (z1.1, z1.2))
else none)
def Tr_enclosed (rc : Mem → Option (Int32 × Mem)) (n : Nat) (a1 : Int32) (a2 : Int32) (g : Mem) : Option (Int32 × Mem) :=
(Tr_meets n a1 g).bind fun z1 =>
if z1.1 = 0 then (
some ((-209 : Int32), z1.2))
else (
if (gI z1.2 7 0 4) = (20 : Int32) then (
(Tr_refuseHere n (3 : Int32) z1.2).bind fun z7 =>
some ((-209 : Int32), z7.2))
else (
lt9 (sI z1.2 7 0 4 ((gI z1.2 7 0 4) + (1 : Int32))) fun g2 =>
(Rd_pass n (1 : Int32) g2).bind fun g3 =>
(rc g3).bind fun z4 =>
if z4.1 = (-209 : Int32) then (
some ((-209 : Int32), z4.2))
else (
(Tr_passes n a2 z4.2).bind fun z5 =>
if z5.1 = 0 then (
some ((-209 : Int32), z5.2))
else (
lt9 (sI z5.2 7 0 4 ((gI z5.2 7 0 4) - (1 : Int32))) fun g6 =>
some (z4.1, g6)))))

def Tr_number (n : Nat) (g : Mem) : Option (Int32 × Mem) :=
(Rd_readNumber n g).bind fun z1 =>
if (lg_cmp z1.1 (2147483647 : Int64)) ≤ 0 then (
some (z1.1.toInt32, z1.2))
else (
(Tr_refuse n (2 : Int32) (gI g 5 0 1) z1.2).bind fun z2 =>
some ((-209 : Int32), z2.2))

def Tr_read (rc : Mem → Option (Int32 × Mem)) (n : Nat) (g : Mem) : Option (Int32 × Mem) :=
(Rd_pass n (1 : Int32) g).bind fun g1 =>
(Tr_enclosed rc n (91 : Int32) (93 : Int32) g1).bind fun z2 =>
if z2.1 = (-209 : Int32) then (
some (z2.1, z2.2))
else (
(Tr_add n (1 : Int32) z2.1 (0 : Int32) (gI g 5 0 1) z2.2).bind fun z3 =>
some (z3.1, z3.2))

def Tr_factor (rc : Mem → Option (Int32 × Mem)) (n : Nat) (g : Mem) : Option (Int32 × Mem) :=
(Rd_look n g).bind fun z1 =>
if z1.1 = (40 : Int32) then (
(Tr_enclosed rc n (40 : Int32) (41 : Int32) z1.2).bind fun z10 =>
some (z10.1, z10.2))
else (
(Rd_seesFigure n z1.2).bind fun z2 =>
if z2.1 = 0 then (
(Rd_seesWord n 2 z2.2).bind fun z3 =>
if z3.1 = 0 then (
(Rd_seenVariable n z3.2).bind fun z4 =>
if z4.1 = (-1 : Int32) then (
(Tr_refuseHere n (1 : Int32) z4.2).bind fun z7 =>
some ((-209 : Int32), z7.2))
else (
(Rd_pass n (1 : Int32) z4.2).bind fun g5 =>
(Od_ofVariable n z4.1).bind fun z6 =>
some (z6, g5)))
else (
(Tr_read rc n z3.2).bind fun z8 =>
some (z8.1, z8.2)))
else (
(Tr_number n z2.2).bind fun z9 =>
some (z9.1, z9.2)))

def Tr_term_L7 (n : Nat) (rc : Mem → Option (Int32 × Mem)) : Nat → Int32 → Int32 → Mem → Option ((Int32 × Mem) ⊕ (Int32 × Mem))
| 0, _, _, _ => none
| k2 + 1, x3, x4, g5 =>
if (700 : Int32) ≤ x4 then (
some (.inr (x3, g5)))
else (
if x3 = (-209 : Int32) then (
some (.inr (x3, g5)))
else (
(Rd_look n g5).bind fun z6 =>
if z6.1 = (42 : Int32) then (
(Rd_pass n (1 : Int32) z6.2).bind fun g7 =>
(Tr_factor rc n g7).bind fun z8 =>
(Tr_add n (42 : Int32) x3 z8.1 (gI z6.2 5 0 1) z8.2).bind fun z9 =>
Tr_term_L7 n rc k2 z9.1 (x4 + 1) z9.2)
else (
some (.inl (x3, z6.2)))))
def Tr_term (rc : Mem → Option (Int32 × Mem)) (n : Nat) (g : Mem) : Option (Int32 × Mem) :=
(Tr_factor rc n g).bind fun z1 =>
(Tr_term_L7 n rc n z1.1 (0 : Int32) z1.2).bind fun r10 =>
match r10 with
| .inl t11 => (
some (t11.1, t11.2))
| .inr t12 => (
some (t12.1, t12.2))


def Tr_sum_L7 (n : Nat) (rc : Mem → Option (Int32 × Mem)) : Nat → Int32 → Int32 → Mem → Option ((Int32 × Mem) ⊕ (Int32 × Mem))
| 0, _, _, _ => none
| k2 + 1, x3, x4, g5 =>
if (700 : Int32) ≤ x4 then (
some (.inr (x3, g5)))
else (
if x3 = (-209 : Int32) then (
some (.inr (x3, g5)))
else (
(Rd_look n g5).bind fun z6 =>
lt9 (fun (_u : Unit) =>
(Rd_pass n (1 : Int32) z6.2).bind fun g8 =>
(Tr_term rc n g8).bind fun z9 =>
(Tr_add n z6.1 x3 z9.1 (gI z6.2 5 0 1) z9.2).bind fun z10 =>
Tr_sum_L7 n rc k2 z10.1 (x4 + 1) z10.2) fun j7 =>
if z6.1 = (43 : Int32) then (
j7 ())
else (
if z6.1 = (45 : Int32) then (
j7 ())
else (
some (.inl (x3, z6.2))))))
def Tr_sum (rc : Mem → Option (Int32 × Mem)) (n : Nat) (g : Mem) : Option (Int32 × Mem) :=
(Tr_term rc n g).bind fun z1 =>
(Tr_sum_L7 n rc n z1.1 (0 : Int32) z1.2).bind fun r11 =>
match r11 with
| .inl t12 => (
some (t12.1, t12.2))
| .inr t13 => (
some (t13.1, t13.2))


def Tr_expression_b (rc : Mem → Option (Int32 × Mem)) (n : Nat) (g : Mem) : Option (Int32 × Mem) :=
(Tr_sum rc n g).bind fun z1 =>
if z1.1 = (-209 : Int32) then (
some (z1.1, z1.2))
else (
(Rd_look n z1.2).bind fun z2 =>
lt9 (fun (_u : Unit) =>
(Rd_pass n (1 : Int32) z2.2).bind fun g4 =>
(Tr_sum rc n g4).bind fun z5 =>
(Tr_add n z2.1 z1.1 z5.1 (gI z2.2 5 0 1) z5.2).bind fun z6 =>
some (z6.1, z6.2)) fun j3 =>
if z2.1 = (60 : Int32) then (
j3 ())
else (
if z2.1 = (61 : Int32) then (
j3 ())
else (
some (z1.1, z2.2))))
def Tr_expression (n : Nat) : Nat → Mem → Option (Int32 × Mem)
| 0, _ => none
| d + 1, g => Tr_expression_b (Tr_expression n d) n g

def Wy_openBlock (n : Nat) (g : Mem) : Option (Mem) :=
if gR g 8 0 4 = none then (
(gR g 8 0 3).bind fun p1 =>
(if p1 < 2 then (
(ix (gI g 8 0 5) 350).bind fun j2 =>
lt9 (sI g 21 0 j2 (gI g 4 p1 3)) fun g3 =>
(gR g3 8 0 3).bind fun p4 =>
(if p4 < 2 then (
(Pg_addBlock n p4 g3).bind fun z5 =>
(if z5.1 < 350 then (
lt9 (sR z5.2 8 0 4 (some z5.1)) fun g7 =>
some g7)
else none))
else none))
else none))
else (
some g)

def Tr_assignment (n : Nat) (a1 : Int32) (g : Mem) : Option (Int32 × Mem) :=
(Rd_pass n (1 : Int32) g).bind fun g1 =>
(Wy_openBlock n g1).bind fun g2 =>
(Tr_passes n (61 : Int32) g2).bind fun z3 =>
if z3.1 = 0 then (
some ((0 : Int32), z3.2))
else (
(Tr_expression n 30 z3.2).bind fun z4 =>
if z4.1 = (-209 : Int32) then (
some ((0 : Int32), z4.2))
else (
(Tr_passes n (59 : Int32) z4.2).bind fun z5 =>
if z5.1 = 0 then (
some ((0 : Int32), z5.2))
else (
(Od_isValue n z4.1).bind fun z6 =>
lt9 (fun (x9 : Int32) (g10 : Mem) =>
if x9 = (-209 : Int32) then (
some ((0 : Int32), g10))
else (
(gR g10 7 0 2).bind fun p11 =>
(if p11 < 2 then (
(Od_operationOf n x9).bind fun z12 =>
(ix z12 200).bind fun j13 =>
lt9 (sI g10 3 (200 * p11 + j13) 5 a1) fun g14 =>
some ((1 : Int32), g14))
else none))) fun j7 =>
if z6 = 0 then (
(Tr_add n (3 : Int32) z4.1 (0 : Int32) (gI g 5 0 1) z5.2).bind fun z8 =>
j7 z8.1 z8.2)
else (
j7 z4.1 z5.2))))

def Wy_standAt (n : Nat) (a1 : Int32) (g : Mem) : Option (Mem) :=
lt9 (sI g 8 0 5 a1) fun g1 =>
lt9 (sR g1 8 0 4 none) fun g2 =>
some g2

def Tr_body (rc : Mem → Option (Int32 × Mem)) (n : Nat) (a1 : Int32) (g : Mem) : Option (Int32 × Mem) :=
(Tr_meets n (123 : Int32) g).bind fun z1 =>
if z1.1 = 0 then (
some ((0 : Int32), z1.2))
else (
if (gI z1.2 7 0 3) = (10 : Int32) then (
(Tr_refuseHere n (3 : Int32) z1.2).bind fun z8 =>
(if z8.1 = 0 ∨ z8.1 = 1 then (
some (z8.1, z8.2))
else none))
else (
lt9 (sI z1.2 7 0 3 ((gI z1.2 7 0 3) + (1 : Int32))) fun g2 =>
(Rd_pass n (1 : Int32) g2).bind fun g3 =>
(Wy_standAt n a1 g3).bind fun g4 =>
(rc g4).bind fun z5 =>
if z5.1 = 0 then (
some ((0 : Int32), z5.2))
else (
(Tr_passes n (125 : Int32) z5.2).bind fun z6 =>
if z6.1 = 0 then (
some ((0 : Int32), z6.2))
else (
lt9 (sI z6.2 7 0 3 ((gI z6.2 7 0 3) - (1 : Int32))) fun g7 =>
some ((1 : Int32), g7)))))

def Wy_choose (n : Nat) (a1 : Int32) (a2 : Int32) (a3 : Int32) (g : Mem) : Option (Mem) :=
if gR g 8 0 4 = none then (
some g)
else (
(gR g 8 0 4).bind fun b1 =>
(if b1 < 350 then (
lt9 (sI g 0 b1 2 (1 : Int32)) fun g2 =>
(gR g2 8 0 4).bind fun b3 =>
(if b3 < 350 then (
lt9 (sI g2 0 b3 3 a1) fun g4 =>
(gR g4 8 0 4).bind fun b5 =>
(if b5 < 350 then (
lt9 (sI g4 0 b5 4 a2) fun g6 =>
(gR g6 8 0 4).bind fun b7 =>
(if b7 < 350 then (
lt9 (sI g6 0 b7 5 a3) fun g8 =>
some g8)
else none))
else none))
else none))
else none))

def Tr_choice (n : Nat) (a1 : Int32) (a2 : Int32) (g : Mem) : Option (Int32 × Mem) :=
(Wy_openBlock n g).bind fun g1 =>
(Tr_expression n 30 g1).bind fun z2 =>
if z2.1 = (-209 : Int32) then (
some ((0 : Int32), z2.2))
else (
(Wy_choose n z2.1 a1 a2 z2.2).bind fun g3 =>
some ((1 : Int32), g3))

def Wy_addJoint (n : Nat) (g : Mem) : Option (Int32 × Mem) :=
(ix (gI g 8 0 2) 350).bind fun j1 =>
lt9 (sI g 21 0 j1 (-1 : Int32)) fun g2 =>
(ix (gI g 8 0 2) 350).bind fun j3 =>
lt9 (sI g2 22 0 j3 (-1 : Int32)) fun g4 =>
lt9 (sI g4 8 0 2 ((gI g4 8 0 2) + (1 : Int32))) fun g5 =>
some (gI g 8 0 2, g5)

def Wy_goTo (n : Nat) (a1 : Int32) (g : Mem) : Option (Mem) :=
if gR g 8 0 4 = none then (
(ix (gI g 8 0 5) 350).bind fun j3 =>
lt9 (sI g 22 0 j3 a1) fun g4 =>
some g4)
else (
(gR g 8 0 4).bind fun b1 =>
(if b1 < 350 then (
lt9 (sI g 0 b1 4 a1) fun g2 =>
some g2)
else none))

def Tr_ifStatement (rc : Mem → Option (Int32 × Mem)) (n : Nat) (g : Mem) : Option (Int32 × Mem) :=
(Rd_pass n (2 : Int32) g).bind fun g1 =>
(Wy_addJoint n g1).bind fun z2 =>
(Wy_addJoint n z2.2).bind fun z3 =>
(Tr_choice n z2.1 z3.1 z3.2).bind fun z4 =>
if z4.1 = 0 then (
some ((0 : Int32), z4.2))
else (
(Tr_body rc n z2.1 z4.2).bind fun z5 =>
if z5.1 = 0 then (
some ((0 : Int32), z5.2))
else (
(Rd_seesWord n 3 z5.2).bind fun z6 =>
if z6.1 = 0 then (
(Wy_goTo n z3.1 z6.2).bind fun g13 =>
(Wy_standAt n z3.1 g13).bind fun g14 =>
some ((1 : Int32), g14))
else (
(Rd_pass n (4 : Int32) z6.2).bind fun g7 =>
(Wy_addJoint n g7).bind fun z8 =>
(Wy_goTo n z8.1 z8.2).bind fun g9 =>
(Tr_body rc n z3.1 g9).bind fun z10 =>
if z10.1 = 0 then (
some ((0 : Int32), z10.2))
else (
(Wy_goTo n z8.1 z10.2).bind fun g11 =>
(Wy_standAt n z8.1 g11).bind fun g12 =>
some ((1 : Int32), g12)))))

def Tr_whileStatement (rc : Mem → Option (Int32 × Mem)) (n : Nat) (g : Mem) : Option (Int32 × Mem) :=
(Rd_pass n (5 : Int32) g).bind fun g1 =>
(Wy_addJoint n g1).bind fun z2 =>
(Wy_addJoint n z2.2).bind fun z3 =>
(Wy_addJoint n z3.2).bind fun z4 =>
(Wy_goTo n z2.1 z4.2).bind fun g5 =>
(Wy_standAt n z2.1 g5).bind fun g6 =>
(Tr_choice n z3.1 z4.1 g6).bind fun z7 =>
if z7.1 = 0 then (
some ((0 : Int32), z7.2))
else (
(Tr_body rc n z3.1 z7.2).bind fun z8 =>
if z8.1 = 0 then (
some ((0 : Int32), z8.2))
else (
(Wy_goTo n z2.1 z8.2).bind fun g9 =>
(Wy_standAt n z4.1 g9).bind fun g10 =>
some ((1 : Int32), g10)))

def Tr_write (n : Nat) (g : Mem) : Option (Int32 × Mem) :=
(Rd_pass n (1 : Int32) g).bind fun g1 =>
(Wy_openBlock n g1).bind fun g2 =>
(Tr_enclosed (Tr_expression n 30) n (91 : Int32) (93 : Int32) g2).bind fun z3 =>
if z3.1 = (-209 : Int32) then (
some ((0 : Int32), z3.2))
else (
(Tr_passes n (61 : Int32) z3.2).bind fun z4 =>
if z4.1 = 0 then (
some ((0 : Int32), z4.2))
else (
(Tr_expression n 30 z4.2).bind fun z5 =>
if z5.1 = (-209 : Int32) then (
some ((0 : Int32), z5.2))
else (
(Tr_passes n (59 : Int32) z5.2).bind fun z6 =>
if z6.1 = 0 then (
some ((0 : Int32), z6.2))
else (
(Tr_add n (2 : Int32) z3.1 z5.1 (gI g 5 0 1) z6.2).bind fun z7 =>
if z7.1 = (-209 : Int32) then (
some ((0 : Int32), z7.2))
else (
some ((1 : Int32), z7.2))))))

def Tr_statement (rc : Mem → Option (Int32 × Mem)) (n : Nat) (g : Mem) : Option (Int32 × Mem) :=
(Rd_seesWord n 0 g).bind fun z1 =>
if z1.1 = 0 then (
(Rd_seesWord n 1 z1.2).bind fun z2 =>
if z2.1 = 0 then (
(Rd_seesWord n 2 z2.2).bind fun z3 =>
if z3.1 = 0 then (
(Rd_seenVariable n z3.2).bind fun z4 =>
if z4.1 = (-1 : Int32) then (
(Tr_refuseHere n (1 : Int32) z4.2).bind fun z7 =>
(if z7.1 = 0 ∨ z7.1 = 1 then (
some (z7.1, z7.2))
else none))
else (
(Tr_assignment n z4.1 z4.2).bind fun z5 =>
(if z5.1 = 0 ∨ z5.1 = 1 then (
some (z5.1, z5.2))
else none)))
else (
(Tr_write n z3.2).bind fun z9 =>
(if z9.1 = 0 ∨ z9.1 = 1 then (
some (z9.1, z9.2))
else none)))
else (
(Tr_whileStatement rc n z2.2).bind fun z11 =>
(if z11.1 = 0 ∨ z11.1 = 1 then (
some (z11.1, z11.2))
else none)))
else (
(Tr_ifStatement rc n z1.2).bind fun z13 =>
(if z13.1 = 0 ∨ z13.1 = 1 then (
some (z13.1, z13.2))
else none))

def Tr_statements_L2 (n : Nat) (rc : Mem → Option (Int32 × Mem)) : Nat → Int32 → Mem → Option ((Mem) ⊕ (Mem))
| 0, _, _ => none
| k1 + 1, x2, g3 =>
if (700 : Int32) ≤ x2 then (
some (.inr g3))
else (
(Rd_seesLetter n g3).bind fun z4 =>
if z4.1 = 0 then (
some (.inr z4.2))
else (
(Tr_statement rc n z4.2).bind fun z5 =>
if z5.1 = 0 then (
some (.inl z5.2))
else (
Tr_statements_L2 n rc k1 (x2 + 1) z5.2)))
def Tr_statements_b (rc : Mem → Option (Int32 × Mem)) (n : Nat) (g : Mem) : Option (Int32 × Mem) :=
(Tr_statements_L2 n rc n (0 : Int32) g).bind fun r6 =>
match r6 with
| .inl t7 => (
some ((0 : Int32), t7))
| .inr t8 => (
some ((1 : Int32), t8))

def Tr_statements (n : Nat) : Nat → Mem → Option (Int32 × Mem)
| 0, _ => none
| d + 1, g => Tr_statements_b (Tr_statements n d) n g

def Wy_blockFrom_L4 (n : Nat) (g : Mem) : Nat → Int32 → Int32 → Option ((Int32) ⊕ (Unit))
| 0, _, _ => none
| k1 + 1, x2, x3 =>
if (gI g 8 0 2) ≤ x3 then (
some (.inr ()))
else (
if x2 = (-1 : Int32) then (
some (.inr ()))
else (
(ix x2 350).bind fun j4 =>
if (gI g 21 0 j4) = (-1 : Int32) then (
(ix x2 350).bind fun j5 =>
Wy_blockFrom_L4 n g k1 (gI g 22 0 j5) (x3 + 1))
else (
some (.inl x2))))
def Wy_blockFrom (n : Nat) (a1 : Int32) (g : Mem) : Option (Int32) :=
(Wy_blockFrom_L4 n g n a1 (0 : Int32)).bind fun r6 =>
match r6 with
| .inl t7 => (
(ix t7 350).bind fun j8 =>
some (gI g 21 0 j8))
| .inr t9 => (
some (-1 : Int32))


def Wy_settle_L2 (n : Nat) : Nat → Int32 → Mem → Option (Mem)
| 0, _, _ => none
| k1 + 1, x2, g3 =>
(gR g3 8 0 3).bind fun p4 =>
(if p4 < 2 then (
if (gI g3 4 p4 3) ≤ x2 then (
some g3)
else (
(gR g3 8 0 3).bind fun p5 =>
(if p5 < 2 then (
(ix x2 175).bind fun j6 =>
(Wy_blockFrom n (gI g3 0 (175 * p5 + j6) 4) g3).bind fun z7 =>
lt9 (sI g3 0 (175 * p5 + j6) 4 z7) fun g8 =>
(Wy_blockFrom n (gI g8 0 (175 * p5 + j6) 5) g8).bind fun z9 =>
lt9 (sI g8 0 (175 * p5 + j6) 5 z9) fun g10 =>
Wy_settle_L2 n k1 (x2 + 1) g10)
else none)))
else none)
def Wy_settle (n : Nat) (g : Mem) : Option (Mem) :=
(Wy_settle_L2 n n (0 : Int32) g).bind fun r11 =>
some r11

def Wy_start (n : Nat) (p1 : Nat) (g : Mem) : Option (Mem) :=
lt9 (sR g 8 0 3 (some p1)) fun g1 =>
lt9 (sI g1 8 0 2 (0 : Int32)) fun g2 =>
(Wy_addJoint n g2).bind fun z3 =>
(Wy_standAt n z3.1 z3.2).bind fun g4 =>
some g4

def Tr_translate (n : Nat) (p1 : Nat) (g : Mem) : Option (Int32 × Mem) :=
lt9 (sR g 7 0 2 (some p1)) fun g1 =>
(gR g1 7 0 2).bind fun p2 =>
(if p2 < 2 then (
(Pg_clear n p2 g1).bind fun g3 =>
(Rd_rewind n g3).bind fun g4 =>
(gR g4 7 0 2).bind fun p5 =>
(if p5 < 2 then (
(Wy_start n p5 g4).bind fun g6 =>
lt9 (sI g6 7 0 3 (0 : Int32)) fun g7 =>
lt9 (sI g7 7 0 4 (0 : Int32)) fun g8 =>
lt9 (sI g8 7 0 5 (0 : Int32)) fun g9 =>
lt9 (sI g9 7 0 6 (-1 : Int32)) fun g10 =>
(Tr_statements n 15 g10).bind fun z11 =>
if z11.1 = 0 then (
some ((0 : Int32), z11.2))
else (
(Tr_meets n (-1 : Int32) z11.2).bind fun z12 =>
if z12.1 = 0 then (
some ((0 : Int32), z12.2))
else (
(Wy_settle n z12.2).bind fun g13 =>
some ((1 : Int32), g13))))
else none))
else none)
def K_wipe (n : Nat) (g : Mem) : Option (Int32 × Mem) :=
(Tp_clear n g).bind fun z1 =>
some (z1.1, z1.2)

def K_compile (n : Nat) (g : Mem) : Option (Int32 × Mem) :=
(gR g 9 0 5).bind fun p1 =>
(if p1 < 2 then (
(Tr_translate n p1 g).bind fun z2 =>
if z2.1 = 0 then (
some ((-1 : Int32), z2.2))
else (
(gR z2.2 9 0 4).bind fun p3 =>
(if p3 < 2 then (
(gR z2.2 9 0 5).bind fun p4 =>
(if p4 < 2 then (
lt9 (sR z2.2 9 0 4 (some p4)) fun g5 =>
lt9 (sR g5 9 0 5 (some p3)) fun g6 =>
(gR g6 9 0 4).bind fun p7 =>
(if p7 < 2 then (
(Ly_lay n p7 g6).bind fun g8 =>
(gR g8 9 0 4).bind fun p9 =>
(if p9 < 2 then (
(Mc_begin n p9 g8).bind fun g10 =>
(gR g10 9 0 4).bind fun p11 =>
(if p11 < 2 then (
some (gI g10 4 p11 2, g10))
else none))
else none))
else none))
else none))
else none)))
else none)
def K_fault (n : Nat) (g : Mem) : Option (Int32) :=
some (gI g 7 0 5)

def K_place (n : Nat) (g : Mem) : Option (Int32) :=
some (gI g 7 0 6)

def K_restart (n : Nat) (g : Mem) : Option (Mem) :=
(gR g 9 0 4).bind fun p1 =>
(if p1 < 2 then (
(Mc_begin n p1 g).bind fun g2 =>
some g2)
else none)
def K_at (n : Nat) (g : Mem) : Option (Int32) :=
some (gI g 2 0 4)

def K_cycles (n : Nat) (g : Mem) : Option (Int64) :=
some (gL g 2 0)
