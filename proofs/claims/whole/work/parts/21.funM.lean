/-! the reference: its methods as functions over the memory (printed by program from the bytecode) -/
def M_thrown (n : Nat) (g : Mem) : Option (Int32) :=
some (gI g 10 0 0)

def M_feed_L46 (n : Nat) (a1 : Int32) (a2 : Int64) : Nat → Int32 → Mem → Option (Mem)
| 0, _, _ => none
| k5 + 1, x6, g7 =>
if a1 ≤ x6 then (
some g7)
else (
(ix (gI g7 10 0 2) 700).bind fun j8 =>
lt9 (sI g7 101 0 j8 (((a2 >>> (((8 : Int32) * x6).toInt64 &&& 63)) &&& (255 : Int64)).toInt32)) fun g9 =>
lt9 (sI g9 10 0 2 ((gI g9 10 0 2) + (1 : Int32))) fun g10 =>
M_feed_L46 n a1 a2 k5 (x6 + 1) g10)
def M_feed (n : Nat) (a1 : Int32) (a2 : Int64) (g : Mem) : Option (Int32 × Mem) :=
lt9 (fun (v3 : Int32) =>
lt9 (sI g 10 0 0 v3) fun g4 =>
if (gI g4 10 0 0) ≤ 0 then (
if ((gI g4 10 0 2) + a1) ≤ (700 : Int32) then (
(M_feed_L46 n a1 a2 n (0 : Int32) g4).bind fun r11 =>
some (gI r11 10 0 2, r11))
else (
some ((-1 : Int32), g4)))
else (
some ((0 : Int32), g4))) fun j2 =>
lt9 (fun (_u : Unit) =>
j2 (1 : Int32)) fun j1 =>
if a1 < (1 : Int32) then (
j1 ())
else (
if a1 ≤ (8 : Int32) then (
j2 (0 : Int32))
else (
j1 ()))

def M_wipe (n : Nat) (g : Mem) : Option (Int32 × Mem) :=
lt9 (sI g 10 0 0 (0 : Int32)) fun g1 =>
lt9 (sI g1 10 0 2 (0 : Int32)) fun g2 =>
some (gI g1 10 0 2, g2)

def M_fail (n : Nat) (a1 : Int32) (a2 : Int32) (g : Mem) : Option (Mem) :=
if (gI g 10 0 3) = 0 then (
lt9 (sI g 10 0 3 a1) fun g1 =>
lt9 (sI g1 10 0 4 a2) fun g2 =>
some g2)
else (
some g)

def M_byteAt (n : Nat) (a1 : Int32) (g : Mem) : Option (Int32) :=
if (gI g 10 0 2) ≤ a1 then (
some (-1 : Int32))
else (
(ix a1 700).bind fun j1 =>
some (gI g 101 0 j1))

def M_isLetter (n : Nat) (a1 : Int32) : Option (Int32) :=
if a1 < (97 : Int32) then (
some (0 : Int32))
else (
if (122 : Int32) < a1 then (
some (0 : Int32))
else (
some (1 : Int32)))

def M_isFigure (n : Nat) (a1 : Int32) : Option (Int32) :=
if a1 < (48 : Int32) then (
some (0 : Int32))
else (
if (57 : Int32) < a1 then (
some (0 : Int32))
else (
some (1 : Int32)))

def M_next_L0 (n : Nat) : Nat → Mem → Option (Mem)
| 0, _ => none
| k1 + 1, g2 =>
if (gI g2 10 0 2) ≤ (gI g2 10 0 5) then (
some g2)
else (
(ix (gI g2 10 0 5) 700).bind fun j3 =>
if (32 : Int32) < (gI g2 101 0 j3) then (
some g2)
else (
lt9 (sI g2 10 0 5 ((gI g2 10 0 5) + (1 : Int32))) fun g4 =>
M_next_L0 n k1 g4))
def M_next (n : Nat) (g : Mem) : Option (Int32 × Mem) :=
(M_next_L0 n n g).bind fun r5 =>
(M_byteAt n (gI r5 10 0 5) r5).bind fun z6 =>
some (z6, r5)

def M_want (n : Nat) (a1 : Int32) (g : Mem) : Option (Mem) :=
if (gI g 10 0 3) = 0 then (
(M_next n g).bind fun z1 =>
if z1.1 = a1 then (
lt9 (sI z1.2 10 0 5 ((gI z1.2 10 0 5) + (1 : Int32))) fun g3 =>
some g3)
else (
(M_fail n (1 : Int32) (gI z1.2 10 0 5) z1.2).bind fun g2 =>
some g2))
else (
some g)

def M_wordSize_L2 (n : Nat) (a1 : Int32) (g : Mem) : Nat → Int32 → Option (Int32)
| 0, _ => none
| k1 + 1, x2 =>
(M_byteAt n (a1 + x2) g).bind fun z3 =>
(M_isLetter n z3).bind fun z4 =>
if z4 = 0 then (
some x2)
else (
M_wordSize_L2 n a1 g k1 (x2 + 1))
def M_wordSize (n : Nat) (a1 : Int32) (g : Mem) : Option (Int32) :=
(M_wordSize_L2 n a1 g n (0 : Int32)).bind fun r5 =>
some r5

def M_word_L19 (n : Nat) (z1 : Int32 × Mem) (z2 : Int32) : Nat → Int64 → Int32 → Option (Int64)
| 0, _, _ => none
| k3 + 1, x4, x5 =>
if z2 ≤ x5 then (
some x4)
else (
if (6 : Int32) ≤ x5 then (
some x4)
else (
(M_byteAt n ((gI z1.2 10 0 5) + x5) z1.2).bind fun z6 =>
M_word_L19 n z1 z2 k3 ((x4 <<< ((8 : Int32).toInt64 &&& 63)) ||| z6.toInt64) (x5 + 1)))
def M_word (n : Nat) (g : Mem) : Option (Int32 × Mem) :=
(M_next n g).bind fun z1 =>
(M_wordSize n (gI z1.2 10 0 5) z1.2).bind fun z2 =>
(M_word_L19 n z1 z2 n (0 : Int64) (0 : Int32)).bind fun r7 =>
if z2 = (1 : Int32) then (
if (104 : Int32) < z1.1 then (
if z1.1 = (109 : Int32) then (
some ((5 : Int32), z1.2))
else (
some ((0 : Int32), z1.2)))
else (
some ((4 : Int32), z1.2)))
else (
lt9 (fun (v10 : Int32) =>
lt9 (fun (v13 : Int32) =>
lt9 (fun (v16 : Int32) =>
if v10 = 0 then (
if v13 = 0 then (
if v16 = 0 then (
some ((0 : Int32), z1.2))
else (
some ((3 : Int32), z1.2)))
else (
some ((2 : Int32), z1.2)))
else (
some ((1 : Int32), z1.2))) fun j15 =>
lt9 (fun (_u : Unit) =>
j15 (0 : Int32)) fun j14 =>
if z2 = (5 : Int32) then (
if (lg_cmp r7 (512852847717 : Int64)) = 0 then (
j15 (1 : Int32))
else (
j14 ()))
else (
j14 ())) fun j12 =>
lt9 (fun (_u : Unit) =>
j12 (0 : Int32)) fun j11 =>
if z2 = (4 : Int32) then (
if (lg_cmp r7 (1701606245 : Int64)) = 0 then (
j12 (1 : Int32))
else (
j11 ()))
else (
j11 ())) fun j9 =>
lt9 (fun (_u : Unit) =>
j9 (0 : Int32)) fun j8 =>
if z2 = (2 : Int32) then (
if (lg_cmp r7 (26982 : Int64)) = 0 then (
j9 (1 : Int32))
else (
j8 ()))
else (
j8 ()))

def M_way (n : Nat) (a1 : Int32) (a2 : Int32) (g : Mem) : Option (Mem) :=
lt9 (fun (v2 : Int32) =>
(ix (gI g 10 0 24) 1600).bind fun j3 =>
lt9 (sI g 123 0 j3 (((2 : Int32) * a1) + v2)) fun g4 =>
lt9 (sI g4 10 0 24 ((gI g4 10 0 24) + (1 : Int32))) fun g5 =>
some g5) fun j1 =>
if a2 = 0 then (
j1 (0 : Int32))
else (
j1 (1 : Int32))

def M_lead_L2 (n : Nat) (a2 : Int32) : Nat → Int32 → Mem → Option (Mem)
| 0, _, _ => none
| k1 + 1, x2, g3 =>
if (gI g3 10 0 24) ≤ x2 then (
some g3)
else (
(ix x2 1600).bind fun j4 =>
(ix x2 1600).bind fun j5 =>
if ((gI g3 123 0 j5) - (gI g3 123 0 j5) / (2 : Int32) * (2 : Int32)) = 0 then (
(ix ((gI g3 123 0 j4) / (2 : Int32)) 800).bind fun j8 =>
lt9 (sI g3 119 0 j8 a2) fun g9 =>
M_lead_L2 n a2 k1 (x2 + 1) g9)
else (
(ix ((gI g3 123 0 j4) / (2 : Int32)) 800).bind fun j6 =>
lt9 (sI g3 120 0 j6 a2) fun g7 =>
M_lead_L2 n a2 k1 (x2 + 1) g7))
def M_lead (n : Nat) (a1 : Int32) (a2 : Int32) (g : Mem) : Option (Mem) :=
(M_lead_L2 n a2 n a1 g).bind fun r10 =>
lt9 (sI r10 10 0 24 a1) fun g11 =>
some g11

def M_needBlock (n : Nat) (g : Mem) : Option (Mem) :=
if (gI g 10 0 22) = (-1 : Int32) then (
lt9 (sI g 10 0 22 (gI g 10 0 16)) fun g1 =>
lt9 (sI g1 10 0 16 ((gI g1 10 0 16) + (1 : Int32))) fun g2 =>
(ix (gI g2 10 0 22) 800).bind fun j3 =>
lt9 (sI g2 119 0 j3 (-1 : Int32)) fun g4 =>
(ix (gI g4 10 0 22) 800).bind fun j5 =>
lt9 (sI g4 120 0 j5 (-1 : Int32)) fun g6 =>
(ix (gI g6 10 0 22) 800).bind fun j7 =>
lt9 (sI g6 121 0 j7 (0 : Int32)) fun g8 =>
(M_lead n (gI g8 10 0 49) (gI g8 10 0 22) g8).bind fun g9 =>
some g9)
else (
some g)

def M_emit (n : Nat) (a1 : Int32) (a2 : Int32) (a3 : Int32) (a4 : Int32) (g : Mem) : Option (Int32 × Mem) :=
lt9 (fun (g3 : Mem) =>
if (gI g3 10 0 3) ≤ 0 then (
(M_needBlock n g3).bind fun g4 =>
lt9 (sI g4 10 0 10 ((gI g4 10 0 10) + (1 : Int32))) fun g5 =>
(ix (gI g4 10 0 10) 200).bind fun j6 =>
lt9 (sI g5 111 0 j6 a1) fun g7 =>
(ix ((2 : Int32) * (gI g4 10 0 10)) 400).bind fun j8 =>
lt9 (sI g7 112 0 j8 a3) fun g9 =>
(ix ((2 : Int32) * (gI g4 10 0 10)) 400).bind fun j10 =>
lt9 (sI g9 113 0 j10 a4) fun g11 =>
(ix (((2 : Int32) * (gI g4 10 0 10)) + (1 : Int32)) 400).bind fun j12 =>
lt9 (sI g11 112 0 j12 (gI g11 10 0 8)) fun g13 =>
(ix (((2 : Int32) * (gI g4 10 0 10)) + (1 : Int32)) 400).bind fun j14 =>
lt9 (sI g13 113 0 j14 (gI g13 10 0 9)) fun g15 =>
(ix (gI g4 10 0 10) 200).bind fun j16 =>
lt9 (sI g15 114 0 j16 (-1 : Int32)) fun g17 =>
(ix (gI g4 10 0 10) 200).bind fun j18 =>
lt9 (sI g17 115 0 j18 (gI g17 10 0 22)) fun g19 =>
lt9 (sI g19 10 0 8 (3 : Int32)) fun g20 =>
lt9 (sI g20 10 0 9 (gI g4 10 0 10)) fun g21 =>
some (gI g4 10 0 10, g21))
else (
some ((0 : Int32), g3))) fun j1 =>
if (gI g 10 0 3) = 0 then (
if (gI g 10 0 10) = (200 : Int32) then (
(M_fail n (3 : Int32) a2 g).bind fun g2 =>
j1 g2)
else (
j1 g))
else (
j1 g)

def M_open (n : Nat) (g : Mem) : Option (Mem) :=
lt9 (fun (g3 : Mem) =>
lt9 (sI g3 10 0 6 ((gI g3 10 0 6) + (1 : Int32))) fun g4 =>
lt9 (sI g4 10 0 5 ((gI g4 10 0 5) + (1 : Int32))) fun g5 =>
some g5) fun j1 =>
if (gI g 10 0 6) = (20 : Int32) then (
(M_fail n (3 : Int32) (gI g 10 0 5) g).bind fun g2 =>
j1 g2)
else (
j1 g)

def M_number_L7 (n : Nat) : Nat → Int64 → Mem → Option (Int64 × Mem)
| 0, _, _ => none
| k1 + 1, x2, g3 =>
(M_byteAt n (gI g3 10 0 5) g3).bind fun z4 =>
(M_isFigure n z4).bind fun z5 =>
if z5 = 0 then (
some (x2, g3))
else (
(M_byteAt n (gI g3 10 0 5) g3).bind fun z6 =>
lt9 (fun (v8 : Int64) =>
lt9 (sI g3 10 0 5 ((gI g3 10 0 5) + (1 : Int32))) fun g9 =>
M_number_L7 n k1 v8 g9) fun j7 =>
if (lg_cmp (((x2 * (10 : Int64)) + z6.toInt64) - (48 : Int64)) (9999999999 : Int64)) ≤ 0 then (
j7 (((x2 * (10 : Int64)) + z6.toInt64) - (48 : Int64)))
else (
j7 (9999999999 : Int64)))
def M_number (n : Nat) (g : Mem) : Option (Mem) :=
(M_number_L7 n n (0 : Int64) g).bind fun r10 =>
lt9 (fun (g13 : Mem) =>
lt9 (sI g13 10 0 8 (1 : Int32)) fun g14 =>
lt9 (sI g14 10 0 9 r10.1.toInt32) fun g15 =>
some g15) fun j11 =>
if (lg_cmp r10.1 (2147483647 : Int64)) ≤ 0 then (
j11 r10.2)
else (
(M_fail n (2 : Int32) (gI g 10 0 5) r10.2).bind fun g12 =>
j11 g12)

def M_factor (rc : Mem → Option (Mem)) (n : Nat) (g : Mem) : Option (Mem) :=
(M_next n g).bind fun z1 =>
if (gI z1.2 10 0 3) ≤ 0 then (
(M_isFigure n z1.1).bind fun z2 =>
if z2 = 0 then (
if z1.1 = (40 : Int32) then (
(M_open n z1.2).bind fun g23 =>
(rc g23).bind fun g24 =>
(M_want n (41 : Int32) g24).bind fun g25 =>
lt9 (sI g25 10 0 6 ((gI g25 10 0 6) - (1 : Int32))) fun g26 =>
some g26)
else (
(M_isLetter n z1.1).bind fun z3 =>
lt9 (fun (g9 : Mem) =>
(M_isLetter n z1.1).bind fun z10 =>
if z10 = 0 then (
(M_fail n (1 : Int32) (gI g9 10 0 5) g9).bind fun g11 =>
some g11)
else (
(M_word n g9).bind fun z12 =>
if z12.1 = (5 : Int32) then (
lt9 (sI z12.2 10 0 5 ((gI z12.2 10 0 5) + (1 : Int32))) fun g14 =>
(M_next n g14).bind fun z15 =>
if z15.1 = (91 : Int32) then (
(M_open n z15.2).bind fun g16 =>
(rc g16).bind fun g17 =>
(M_want n (93 : Int32) g17).bind fun g18 =>
lt9 (sI g18 10 0 6 ((gI g18 10 0 6) - (1 : Int32))) fun g19 =>
lt9 (sI g19 10 0 8 (0 : Int32)) fun g20 =>
(M_emit n (5 : Int32) (gI z1.2 10 0 5) (gI g19 10 0 8) (gI g19 10 0 9) g20).bind fun z21 =>
some z21.2)
else (
(M_fail n (1 : Int32) (gI z15.2 10 0 5) z15.2).bind fun g22 =>
some g22))
else (
(M_fail n (1 : Int32) (gI z12.2 10 0 5) z12.2).bind fun g13 =>
some g13))) fun j4 =>
if z3 = 0 then (
j4 z1.2)
else (
(M_word n z1.2).bind fun z5 =>
if z5.1 = (4 : Int32) then (
lt9 (sI z5.2 10 0 8 (2 : Int32)) fun g6 =>
lt9 (sI g6 10 0 9 (z1.1 - (97 : Int32))) fun g7 =>
lt9 (sI g7 10 0 5 ((gI g7 10 0 5) + (1 : Int32))) fun g8 =>
some g8)
else (
j4 z5.2))))
else (
(M_number n z1.2).bind fun g27 =>
some g27))
else (
some z1.2)

def M_join (n : Nat) (a1 : Int32) (a2 : Int32) (a3 : Int32) (a4 : Int32) (g : Mem) : Option (Mem) :=
if (gI g 10 0 3) = 0 then (
(M_emit n a1 a2 a3 a4 g).bind fun z1 =>
some z1.2)
else (
some g)

def M_term_L4 (n : Nat) (rc : Mem → Option (Mem)) : Nat → Mem → Option (Mem)
| 0, _ => none
| k2 + 1, g3 =>
if (gI g3 10 0 3) = 0 then (
(M_next n g3).bind fun z4 =>
if z4.1 = (42 : Int32) then (
lt9 (sI z4.2 10 0 5 ((gI z4.2 10 0 5) + (1 : Int32))) fun g5 =>
(M_factor rc n g5).bind fun g6 =>
(M_join n (2 : Int32) (gI z4.2 10 0 5) (gI z4.2 10 0 8) (gI z4.2 10 0 9) g6).bind fun g7 =>
M_term_L4 n rc k2 g7)
else (
some z4.2))
else (
some g3)
def M_term (rc : Mem → Option (Mem)) (n : Nat) (g : Mem) : Option (Mem) :=
(M_factor rc n g).bind fun g1 =>
(M_term_L4 n rc n g1).bind fun r8 =>
some r8

def M_sum_L4 (n : Nat) (rc : Mem → Option (Mem)) : Nat → Mem → Option (Mem)
| 0, _ => none
| k2 + 1, g3 =>
if (gI g3 10 0 3) = 0 then (
(M_next n g3).bind fun z4 =>
lt9 (fun (g7 : Mem) =>
(M_byteAt n (gI g7 10 0 5) g7).bind fun z8 =>
lt9 (fun (v10 : Int32) =>
lt9 (sI g7 10 0 5 ((gI g7 10 0 5) + (1 : Int32))) fun g11 =>
(M_term rc n g11).bind fun g12 =>
(M_join n v10 (gI g7 10 0 5) (gI g7 10 0 8) (gI g7 10 0 9) g12).bind fun g13 =>
M_sum_L4 n rc k2 g13) fun j9 =>
if z8 = (43 : Int32) then (
j9 (0 : Int32))
else (
j9 (1 : Int32))) fun j5 =>
if z4.1 = (43 : Int32) then (
j5 z4.2)
else (
(M_next n z4.2).bind fun z6 =>
if z6.1 = (45 : Int32) then (
j5 z6.2)
else (
some z6.2)))
else (
some g3)
def M_sum (rc : Mem → Option (Mem)) (n : Nat) (g : Mem) : Option (Mem) :=
(M_term rc n g).bind fun g1 =>
(M_sum_L4 n rc n g1).bind fun r14 =>
some r14

def M_expression_b (rc : Mem → Option (Mem)) (n : Nat) (g : Mem) : Option (Mem) :=
(M_sum rc n g).bind fun g1 =>
if (gI g1 10 0 3) = 0 then (
(M_next n g1).bind fun z2 =>
lt9 (fun (g5 : Mem) =>
(M_byteAt n (gI g5 10 0 5) g5).bind fun z6 =>
lt9 (fun (v8 : Int32) =>
lt9 (sI g5 10 0 5 ((gI g5 10 0 5) + (1 : Int32))) fun g9 =>
(M_sum rc n g9).bind fun g10 =>
(M_join n v8 (gI g5 10 0 5) (gI g5 10 0 8) (gI g5 10 0 9) g10).bind fun g11 =>
some g11) fun j7 =>
if z6 = (60 : Int32) then (
j7 (3 : Int32))
else (
j7 (4 : Int32))) fun j3 =>
if z2.1 = (60 : Int32) then (
j3 z2.2)
else (
(M_next n z2.2).bind fun z4 =>
if z4.1 = (61 : Int32) then (
j3 z4.2)
else (
some z4.2)))
else (
some g1)
def M_expression (n : Nat) : Nat → Mem → Option (Mem)
| 0, _ => none
| d + 1, g => M_expression_b (M_expression n d) n g

def M_assignment (n : Nat) (g : Mem) : Option (Mem) :=
(M_next n g).bind fun z1 =>
lt9 (sI z1.2 10 0 5 ((gI z1.2 10 0 5) + (1 : Int32))) fun g2 =>
(M_want n (61 : Int32) g2).bind fun g3 =>
(M_expression n 30 g3).bind fun g4 =>
(M_want n (59 : Int32) g4).bind fun g5 =>
if (gI g5 10 0 3) ≤ 0 then (
lt9 (fun (g9 : Mem) =>
if (gI g9 10 0 3) = 0 then (
(ix ((gI g9 10 0 10) - (1 : Int32)) 200).bind fun j10 =>
lt9 (sI g9 114 0 j10 (z1.1 - (97 : Int32))) fun g11 =>
some g11)
else (
some g9)) fun j6 =>
if (gI g5 10 0 10) = (gI g3 10 0 10) then (
lt9 (sI g5 10 0 8 (0 : Int32)) fun g7 =>
(M_emit n (7 : Int32) (gI g 10 0 5) (gI g5 10 0 8) (gI g5 10 0 9) g7).bind fun z8 =>
j6 z8.2)
else (
j6 g5))
else (
some g5)

def M_writing (n : Nat) (g : Mem) : Option (Mem) :=
lt9 (sI g 10 0 5 ((gI g 10 0 5) + (1 : Int32))) fun g1 =>
(M_next n g1).bind fun z2 =>
if z2.1 = (91 : Int32) then (
(M_open n z2.2).bind fun g3 =>
(M_expression n 30 g3).bind fun g4 =>
(M_want n (93 : Int32) g4).bind fun g5 =>
lt9 (sI g5 10 0 6 ((gI g5 10 0 6) - (1 : Int32))) fun g6 =>
(M_want n (61 : Int32) g6).bind fun g7 =>
lt9 (fun (g10 : Mem) =>
(M_want n (59 : Int32) g10).bind fun g11 =>
if (gI g11 10 0 3) = 0 then (
(M_emit n (6 : Int32) (gI g 10 0 5) (gI g6 10 0 8) (gI g6 10 0 9) g11).bind fun z12 =>
some z12.2)
else (
some g11)) fun j8 =>
if (gI g7 10 0 3) = 0 then (
(M_expression n 30 g7).bind fun g9 =>
j8 g9)
else (
j8 g7))
else (
(M_fail n (1 : Int32) (gI z2.2 10 0 5) z2.2).bind fun g13 =>
some g13)

def M_inBraces (rc : Mem → Option (Mem)) (n : Nat) (g : Mem) : Option (Mem) :=
lt9 (fun (g4 : Mem) =>
(M_want n (123 : Int32) g4).bind fun g5 =>
lt9 (sI g5 10 0 7 ((gI g5 10 0 7) + (1 : Int32))) fun g6 =>
(rc g6).bind fun g7 =>
(M_want n (125 : Int32) g7).bind fun g8 =>
lt9 (sI g8 10 0 7 ((gI g8 10 0 7) - (1 : Int32))) fun g9 =>
some g9) fun j1 =>
if (gI g 10 0 3) = 0 then (
(M_next n g).bind fun z2 =>
if z2.1 = (123 : Int32) then (
if (gI z2.2 10 0 7) = (10 : Int32) then (
(M_fail n (3 : Int32) (gI z2.2 10 0 5) z2.2).bind fun g3 =>
j1 g3)
else (
j1 z2.2))
else (
j1 z2.2))
else (
j1 g)

def M_endBlock (n : Nat) (g : Mem) : Option (Int32 × Mem) :=
(M_needBlock n g).bind fun g1 =>
(ix (gI g1 10 0 22) 800).bind fun j2 =>
lt9 (sI g1 121 0 j2 (1 : Int32)) fun g3 =>
(ix (gI g1 10 0 22) 800).bind fun j4 =>
lt9 (sI g3 117 0 j4 (gI g3 10 0 8)) fun g5 =>
(ix (gI g1 10 0 22) 800).bind fun j6 =>
lt9 (sI g5 118 0 j6 (gI g5 10 0 9)) fun g7 =>
lt9 (sI g7 10 0 22 (-1 : Int32)) fun g8 =>
some (gI g1 10 0 22, g8)

def M_leaveOpen (n : Nat) (g : Mem) : Option (Mem) :=
if (gI g 10 0 22) = (-1 : Int32) then (
some g)
else (
(M_way n (gI g 10 0 22) (0 : Int32) g).bind fun g1 =>
lt9 (sI g1 10 0 22 (-1 : Int32)) fun g2 =>
some g2)

def M_choice (rc : Mem → Option (Mem)) (n : Nat) (g : Mem) : Option (Mem) :=
lt9 (sI g 10 0 5 ((gI g 10 0 5) + (2 : Int32))) fun g1 =>
(M_expression n 30 g1).bind fun g2 =>
if (gI g2 10 0 3) ≤ 0 then (
(M_endBlock n g2).bind fun z3 =>
(M_way n z3.1 (0 : Int32) z3.2).bind fun g4 =>
(M_inBraces rc n g4).bind fun g5 =>
(M_leaveOpen n g5).bind fun g6 =>
if (gI g6 10 0 3) = 0 then (
(M_word n g6).bind fun z8 =>
if z8.1 = (2 : Int32) then (
lt9 (sI z8.2 10 0 5 ((gI z8.2 10 0 5) + (4 : Int32))) fun g10 =>
lt9 (sI g10 10 0 49 (gI g10 10 0 24)) fun g11 =>
(M_way n z3.1 (1 : Int32) g11).bind fun g12 =>
(M_inBraces rc n g12).bind fun g13 =>
(M_leaveOpen n g13).bind fun g14 =>
lt9 (sI g14 10 0 49 (gI z3.2 10 0 49)) fun g15 =>
some g15)
else (
(M_way n z3.1 (1 : Int32) z8.2).bind fun g9 =>
some g9))
else (
(M_way n z3.1 (1 : Int32) g6).bind fun g7 =>
some g7))
else (
some g2)

def M_loop (rc : Mem → Option (Mem)) (n : Nat) (g : Mem) : Option (Mem) :=
lt9 (sI g 10 0 5 ((gI g 10 0 5) + (5 : Int32))) fun g1 =>
(M_leaveOpen n g1).bind fun g2 =>
(M_needBlock n g2).bind fun g3 =>
(M_expression n 30 g3).bind fun g4 =>
if (gI g4 10 0 3) ≤ 0 then (
(M_endBlock n g4).bind fun z5 =>
(M_way n z5.1 (0 : Int32) z5.2).bind fun g6 =>
(M_inBraces rc n g6).bind fun g7 =>
(M_leaveOpen n g7).bind fun g8 =>
(M_lead n (gI g8 10 0 49) z5.1 g8).bind fun g9 =>
(M_way n z5.1 (1 : Int32) g9).bind fun g10 =>
some g10)
else (
some g4)

def M_statements_L0 (n : Nat) (rc : Mem → Option (Mem)) : Nat → Mem → Option (Mem)
| 0, _ => none
| k1 + 1, g2 =>
if (gI g2 10 0 3) = 0 then (
(M_next n g2).bind fun z3 =>
(M_isLetter n z3.1).bind fun z4 =>
if z4 = 0 then (
some z3.2)
else (
(M_word n z3.2).bind fun z5 =>
if z5.1 = (4 : Int32) then (
(M_assignment n z5.2).bind fun g10 =>
M_statements_L0 n rc k1 g10)
else (
if z5.1 = (5 : Int32) then (
(M_writing n z5.2).bind fun g9 =>
M_statements_L0 n rc k1 g9)
else (
if z5.1 = (1 : Int32) then (
(M_choice rc n z5.2).bind fun g8 =>
M_statements_L0 n rc k1 g8)
else (
if z5.1 = (3 : Int32) then (
(M_loop rc n z5.2).bind fun g7 =>
M_statements_L0 n rc k1 g7)
else (
(M_fail n (1 : Int32) (gI z5.2 10 0 5) z5.2).bind fun g6 =>
M_statements_L0 n rc k1 g6))))))
else (
some g2)
def M_statements_b (rc : Mem → Option (Mem)) (n : Nat) (g : Mem) : Option (Mem) :=
(M_statements_L0 n rc n g).bind fun r11 =>
some r11
def M_statements (n : Nat) : Nat → Mem → Option (Mem)
| 0, _ => none
| d + 1, g => M_statements_b (M_statements n d) n g

def M_kindOf (n : Nat) (a1 : Int32) : Option (Int32) :=
if a1 = (2 : Int32) then (
some (1 : Int32))
else (
if a1 = (5 : Int32) then (
some (2 : Int32))
else (
if a1 = (6 : Int32) then (
some (2 : Int32))
else (
if a1 = (7 : Int32) then (
some (3 : Int32))
else (
some (0 : Int32)))))

def M_latencyOf (n : Nat) (a1 : Int32) (g : Mem) : Option (Int32) :=
(ix a1 200).bind fun j1 =>
(M_kindOf n (gI g 126 0 j1)).bind fun z2 =>
(ix z2 4).bind fun j3 =>
some (gI g 138 0 j3)

def M_endOf (n : Nat) (a1 : Int32) (g : Mem) : Option (Int32) :=
(ix a1 200).bind fun j1 =>
(M_latencyOf n a1 g).bind fun z2 =>
some ((gI g 140 0 j1) + z2)

def M_meet (n : Nat) (a1 : Int32) (a2 : Int32) (g : Mem) : Option (Int32) :=
(M_endOf n a1 g).bind fun z1 =>
(ix a2 200).bind fun j2 =>
if (gI g 150 0 j2) < z1 then (
some (0 : Int32))
else (
(M_endOf n a2 g).bind fun z3 =>
(ix a1 200).bind fun j4 =>
if (gI g 150 0 j4) < z3 then (
some (0 : Int32))
else (
some (1 : Int32)))

def M_bindOne_L37 (n : Nat) (a1 : Int32) (g : Mem) (v4 : Int32) (x6 : Int32) : Nat → Int32 → Int32 → Option (Int32)
| 0, _, _ => none
| k8 + 1, x9, x10 =>
if (gI g 10 0 25) ≤ x10 then (
some x9)
else (
if x9 = 0 then (
if x10 = a1 then (
M_bindOne_L37 n a1 g v4 x6 k8 (0 : Int32) (x10 + 1))
else (
if v4 = 0 then (
(ix x10 200).bind fun j11 =>
(ix a1 200).bind fun j12 =>
if (gI g 130 0 j11) = (gI g 130 0 j12) then (
(ix x10 200).bind fun j13 =>
if (gI g 142 0 j13) = (x6 + 1) then (
(M_meet n a1 x10 g).bind fun z14 =>
if z14 = 0 then (
M_bindOne_L37 n a1 g v4 x6 k8 (0 : Int32) (x10 + 1))
else (
M_bindOne_L37 n a1 g v4 x6 k8 (1 : Int32) (x10 + 1)))
else (
M_bindOne_L37 n a1 g v4 x6 k8 (0 : Int32) (x10 + 1)))
else (
M_bindOne_L37 n a1 g v4 x6 k8 (0 : Int32) (x10 + 1)))
else (
M_bindOne_L37 n a1 g v4 x6 k8 (0 : Int32) (x10 + 1))))
else (
M_bindOne_L37 n a1 g v4 x6 k8 (1 : Int32) (x10 + 1)))
def M_bindOne_L25 (n : Nat) (a1 : Int32) (g : Mem) (v4 : Int32) : Nat → Int32 → Int32 → Option (Int32)
| 0, _, _ => none
| k5 + 1, x6, x7 =>
if x7 = 0 then (
some x6)
else (
(M_bindOne_L37 n a1 g v4 x6 n (0 : Int32) (0 : Int32)).bind fun r15 =>
M_bindOne_L25 n a1 g v4 k5 (x6 + 1) r15)
def M_bindOne (n : Nat) (a1 : Int32) (g : Mem) : Option (Mem) :=
(M_endOf n a1 g).bind fun z1 =>
(ix a1 200).bind fun j2 =>
lt9 (fun (v4 : Int32) =>
(M_bindOne_L25 n a1 g v4 n (-1 : Int32) (1 : Int32)).bind fun r16 =>
(ix a1 200).bind fun j17 =>
lt9 (sI g 142 0 j17 r16) fun g18 =>
some g18) fun j3 =>
if z1 ≤ (gI g 150 0 j2) then (
j3 (0 : Int32))
else (
j3 (1 : Int32))

def M_behindAll_L4 (n : Nat) (a1 : Int32) (g : Mem) : Nat → Int32 → Int32 → Option (Int32)
| 0, _, _ => none
| k1 + 1, x2, x3 =>
if (gI g 10 0 25) ≤ x3 then (
some x2)
else (
(ix x3 200).bind fun j4 =>
if (gI g 130 0 j4) = a1 then (
M_behindAll_L4 n a1 g k1 (x3 + (1 : Int32)) (x3 + 1))
else (
M_behindAll_L4 n a1 g k1 x2 (x3 + 1)))
def M_behindAll (n : Nat) (a1 : Int32) (g : Mem) : Option (Int32) :=
(M_behindAll_L4 n a1 g n (0 : Int32) (0 : Int32)).bind fun r5 =>
some r5

def M_isEnd (n : Nat) (a1 : Int32) (a2 : Int32) (g : Mem) : Option (Int32) :=
(ix a2 800).bind fun j1 =>
if (gI g 136 0 j1) = 0 then (
some (0 : Int32))
else (
(ix a2 800).bind fun j2 =>
if (gI g 132 0 j2) = (3 : Int32) then (
(ix a2 800).bind fun j3 =>
if (gI g 133 0 j3) = a1 then (
some (1 : Int32))
else (
some (0 : Int32)))
else (
some (0 : Int32)))

def M_usesValue (n : Nat) (a1 : Int32) (a2 : Int32) (g : Mem) : Option (Int32) :=
(ix ((2 : Int32) * a1) 400).bind fun j1 =>
lt9 (fun (_u : Unit) =>
(ix (((2 : Int32) * a1) + (1 : Int32)) 400).bind fun j4 =>
if (gI g 127 0 j4) = (3 : Int32) then (
(ix (((2 : Int32) * a1) + (1 : Int32)) 400).bind fun j5 =>
if (gI g 128 0 j5) = a2 then (
some (1 : Int32))
else (
some (0 : Int32)))
else (
some (0 : Int32))) fun j2 =>
if (gI g 127 0 j1) = (3 : Int32) then (
(ix ((2 : Int32) * a1) 400).bind fun j3 =>
if (gI g 128 0 j3) = a2 then (
some (1 : Int32))
else (
j2 ()))
else (
j2 ())

def M_heldTo_L42 (n : Nat) (a1 : Int32) (g : Mem) (z6 : Int32) : Nat → Int32 → Int32 → Option (Int32)
| 0, _, _ => none
| k7 + 1, x8, x9 =>
if z6 ≤ x9 then (
some x8)
else (
(M_usesValue n x9 a1 g).bind fun z10 =>
if z10 = 0 then (
M_heldTo_L42 n a1 g z6 k7 x8 (x9 + 1))
else (
(ix x9 200).bind fun j11 =>
if (gI g 140 0 j11) ≤ x8 then (
M_heldTo_L42 n a1 g z6 k7 x8 (x9 + 1))
else (
(ix x9 200).bind fun j12 =>
M_heldTo_L42 n a1 g z6 k7 (gI g 140 0 j12) (x9 + 1))))
def M_heldTo (n : Nat) (a1 : Int32) (g : Mem) : Option (Int32) :=
(ix a1 200).bind fun j1 =>
(M_isEnd n a1 (gI g 130 0 j1) g).bind fun z2 =>
lt9 (fun (v5 : Int32) =>
(M_behindAll n (gI g 130 0 j1) g).bind fun z6 =>
(M_heldTo_L42 n a1 g z6 n v5 (a1 + (1 : Int32))).bind fun r13 =>
some r13) fun j3 =>
if z2 = 0 then (
j3 (-2 : Int32))
else (
(ix (gI g 130 0 j1) 800).bind fun j4 =>
j3 ((gI g 143 0 j4) - (1 : Int32)))

def M_holds (n : Nat) (a1 : Int32) (g : Mem) : Option (Int32) :=
(ix a1 200).bind fun j1 =>
if 0 ≤ (gI g 129 0 j1) then (
some (0 : Int32))
else (
(ix a1 200).bind fun j2 =>
if (gI g 150 0 j2) ≤ (-2 : Int32) then (
some (0 : Int32))
else (
some (1 : Int32)))

def M_isBefore (n : Nat) (a1 : Int32) (a2 : Int32) (g : Mem) : Option (Int32) :=
(M_endOf n a1 g).bind fun z1 =>
(M_endOf n a2 g).bind fun z2 =>
if z1 < z2 then (
some (1 : Int32))
else (
(M_endOf n a1 g).bind fun z3 =>
(M_endOf n a2 g).bind fun z4 =>
if z3 = z4 then (
if a2 ≤ a1 then (
some (0 : Int32))
else (
some (1 : Int32)))
else (
some (0 : Int32)))

def M_bindRegisters_L2 (n : Nat) : Nat → Int32 → Mem → Option (Mem)
| 0, _, _ => none
| k1 + 1, x2, g3 =>
if (gI g3 10 0 25) ≤ x2 then (
some g3)
else (
(ix x2 200).bind fun j4 =>
lt9 (sI g3 142 0 j4 (-1 : Int32)) fun g5 =>
(M_heldTo n x2 g5).bind fun z6 =>
(ix x2 200).bind fun j7 =>
lt9 (sI g5 150 0 j7 z6) fun g8 =>
M_bindRegisters_L2 n k1 (x2 + 1) g8)
def M_bindRegisters_L38 (n : Nat) (r9 : (Mem)) : Nat → Int32 → Int32 → Option (Int32)
| 0, _, _ => none
| k10 + 1, x11, x12 =>
if (gI r9 10 0 25) ≤ x12 then (
some x11)
else (
(M_holds n x12 r9).bind fun z13 =>
if z13 = 0 then (
M_bindRegisters_L38 n r9 k10 x11 (x12 + 1))
else (
M_bindRegisters_L38 n r9 k10 (x11 + (1 : Int32)) (x12 + 1)))
def M_bindRegisters_L76 (n : Nat) (g17 : Mem) : Nat → Int32 → Int32 → Option (Int32)
| 0, _, _ => none
| k18 + 1, x19, x20 =>
if (gI g17 10 0 25) ≤ x20 then (
some x19)
else (
(M_holds n x20 g17).bind fun z21 =>
lt9 (fun (v25 : Int32) =>
if v25 = 0 then (
M_bindRegisters_L76 n g17 k18 x19 (x20 + 1))
else (
if x19 < 0 then (
M_bindRegisters_L76 n g17 k18 x20 (x20 + 1))
else (
(M_isBefore n x20 x19 g17).bind fun z26 =>
if z26 = 0 then (
M_bindRegisters_L76 n g17 k18 x19 (x20 + 1))
else (
M_bindRegisters_L76 n g17 k18 x20 (x20 + 1))))) fun j23 =>
lt9 (fun (_u : Unit) =>
j23 (0 : Int32)) fun j22 =>
if z21 = 0 then (
j22 ())
else (
(ix x20 200).bind fun j24 =>
if 0 ≤ (gI g17 142 0 j24) then (
j22 ())
else (
j23 (1 : Int32))))
def M_bindRegisters_L68 (n : Nat) : Nat → Int32 → Mem → Option (Mem)
| 0, _, _ => none
| k15 + 1, x16, g17 =>
if x16 ≤ 0 then (
some g17)
else (
(M_bindRegisters_L76 n g17 n (-1 : Int32) (0 : Int32)).bind fun r27 =>
(M_bindOne n r27 g17).bind fun g28 =>
M_bindRegisters_L68 n k15 (x16 + (-1)) g28)
def M_bindRegisters (n : Nat) (g : Mem) : Option (Mem) :=
(M_bindRegisters_L2 n n (0 : Int32) g).bind fun r9 =>
(M_bindRegisters_L38 n r9 n (0 : Int32) (0 : Int32)).bind fun r14 =>
(M_bindRegisters_L68 n n r14 r9).bind fun r29 =>
some r29

def M_first_L2 (n : Nat) (a1 : Int32) (g : Mem) : Nat → Int32 → Option ((Int32) ⊕ (Unit))
| 0, _ => none
| k1 + 1, x2 =>
if (gI g 10 0 25) ≤ x2 then (
some (.inr ()))
else (
(ix x2 200).bind fun j3 =>
if (gI g 130 0 j3) = a1 then (
some (.inl x2))
else (
M_first_L2 n a1 g k1 (x2 + 1)))
def M_first (n : Nat) (a1 : Int32) (g : Mem) : Option (Int32) :=
(M_first_L2 n a1 g n (0 : Int32)).bind fun r4 =>
match r4 with
| .inl t5 => (
some t5)
| .inr t6 => (
some (-1 : Int32))


def M_freeUnit_L53 (n : Nat) (a3 : Int32) (g : Mem) (x6 : Int32) (z2 : Int32) (z4 : Int32) : Nat → Int32 → Int32 → Option (Int32)
| 0, _, _ => none
| k9 + 1, x10, x11 =>
if z4 ≤ x11 then (
some x10)
else (
(ix x11 200).bind fun j12 =>
lt9 (fun (v17 : Int32) =>
if x10 = 0 then (
M_freeUnit_L53 n a3 g x6 z2 z4 k9 (0 : Int32) (x11 + 1))
else (
if v17 = 0 then (
M_freeUnit_L53 n a3 g x6 z2 z4 k9 (1 : Int32) (x11 + 1))
else (
(ix x11 200).bind fun j18 =>
(M_kindOf n (gI g 126 0 j18)).bind fun z19 =>
if z19 = z2 then (
(ix x11 200).bind fun j20 =>
if (gI g 141 0 j20) = x6 then (
M_freeUnit_L53 n a3 g x6 z2 z4 k9 (0 : Int32) (x11 + 1))
else (
M_freeUnit_L53 n a3 g x6 z2 z4 k9 (1 : Int32) (x11 + 1)))
else (
M_freeUnit_L53 n a3 g x6 z2 z4 k9 (1 : Int32) (x11 + 1))))) fun j14 =>
lt9 (fun (_u : Unit) =>
j14 (0 : Int32)) fun j13 =>
if (gI g 140 0 j12) < 0 then (
j13 ())
else (
(ix x11 200).bind fun j15 =>
if a3 < (gI g 140 0 j15) then (
j13 ())
else (
(M_endOf n x11 g).bind fun z16 =>
if z16 ≤ a3 then (
j13 ())
else (
j14 (1 : Int32)))))
def M_freeUnit_L28 (n : Nat) (a3 : Int32) (g : Mem) (z2 : Int32) (z3 : Int32) (z4 : Int32) : Nat → Int32 → Option ((Int32) ⊕ (Unit))
| 0, _ => none
| k5 + 1, x6 =>
lt9 (fun (_u : Unit) =>
(M_freeUnit_L53 n a3 g x6 z2 z4 n (1 : Int32) z3).bind fun r21 =>
if r21 = 0 then (
M_freeUnit_L28 n a3 g z2 z3 z4 k5 (x6 + 1))
else (
some (.inl x6))) fun j7 =>
if z2 = (3 : Int32) then (
j7 ())
else (
(ix z2 3).bind fun j8 =>
if (gI g 137 0 j8) ≤ x6 then (
some (.inr ()))
else (
j7 ()))
def M_freeUnit (n : Nat) (a1 : Int32) (a2 : Int32) (a3 : Int32) (g : Mem) : Option (Int32) :=
(ix a1 200).bind fun j1 =>
(M_kindOf n (gI g 126 0 j1)).bind fun z2 =>
(M_first n a2 g).bind fun z3 =>
(M_behindAll n a2 g).bind fun z4 =>
(M_freeUnit_L28 n a3 g z2 z3 z4 n (0 : Int32)).bind fun r22 =>
match r22 with
| .inl t23 => (
some t23)
| .inr t24 => (
some (-1 : Int32))


def M_usesVariable (n : Nat) (a1 : Int32) (a2 : Int32) (g : Mem) : Option (Int32) :=
(ix ((2 : Int32) * a1) 400).bind fun j1 =>
lt9 (fun (_u : Unit) =>
(ix (((2 : Int32) * a1) + (1 : Int32)) 400).bind fun j4 =>
if (gI g 127 0 j4) = (2 : Int32) then (
(ix (((2 : Int32) * a1) + (1 : Int32)) 400).bind fun j5 =>
if (gI g 128 0 j5) = a2 then (
some (1 : Int32))
else (
some (0 : Int32)))
else (
some (0 : Int32))) fun j2 =>
if (gI g 127 0 j1) = (2 : Int32) then (
(ix ((2 : Int32) * a1) 400).bind fun j3 =>
if (gI g 128 0 j3) = a2 then (
some (1 : Int32))
else (
j2 ()))
else (
j2 ())

def M_comesBehind (n : Nat) (a1 : Int32) (a2 : Int32) (g : Mem) : Option (Int32) :=
(M_usesValue n a1 a2 g).bind fun z1 =>
if z1 = 0 then (
(ix a2 200).bind fun j2 =>
lt9 (fun (_u : Unit) =>
(ix a1 200).bind fun j8 =>
lt9 (fun (_u : Unit) =>
(ix a2 200).bind fun j12 =>
(M_kindOf n (gI g 126 0 j12)).bind fun z13 =>
lt9 (fun (v18 : Int32) =>
if v18 = 0 then (
some (0 : Int32))
else (
(ix a2 200).bind fun j19 =>
if (gI g 126 0 j19) = (6 : Int32) then (
some (1 : Int32))
else (
(ix a1 200).bind fun j20 =>
if (gI g 126 0 j20) = (6 : Int32) then (
some (1 : Int32))
else (
some (0 : Int32))))) fun j15 =>
lt9 (fun (_u : Unit) =>
j15 (0 : Int32)) fun j14 =>
if z13 = (2 : Int32) then (
(ix a1 200).bind fun j16 =>
(M_kindOf n (gI g 126 0 j16)).bind fun z17 =>
if z17 = (2 : Int32) then (
j15 (1 : Int32))
else (
j14 ()))
else (
j14 ())) fun j9 =>
if (gI g 129 0 j8) < 0 then (
j9 ())
else (
(ix a1 200).bind fun j10 =>
(M_usesVariable n a2 (gI g 129 0 j10) g).bind fun z11 =>
if z11 = 0 then (
j9 ())
else (
some (1 : Int32)))) fun j3 =>
if (gI g 129 0 j2) < 0 then (
j3 ())
else (
(ix a2 200).bind fun j4 =>
(M_usesVariable n a1 (gI g 129 0 j4) g).bind fun z5 =>
if z5 = 0 then (
(ix a1 200).bind fun j6 =>
(ix a2 200).bind fun j7 =>
if (gI g 129 0 j6) = (gI g 129 0 j7) then (
some (1 : Int32))
else (
j3 ()))
else (
some (1 : Int32))))
else (
some (1 : Int32))

def M_isReady_L7 (n : Nat) (a1 : Int32) (a3 : Int32) (g : Mem) : Nat → Int32 → Option ((Unit) ⊕ (Unit))
| 0, _ => none
| k2 + 1, x3 =>
if a1 ≤ x3 then (
some (.inr ()))
else (
(M_comesBehind n a1 x3 g).bind fun z4 =>
if z4 = 0 then (
M_isReady_L7 n a1 a3 g k2 (x3 + 1))
else (
(ix x3 200).bind fun j5 =>
if (gI g 140 0 j5) < 0 then (
some (.inl ()))
else (
(M_endOf n x3 g).bind fun z6 =>
if z6 ≤ a3 then (
M_isReady_L7 n a1 a3 g k2 (x3 + 1))
else (
some (.inl ())))))
def M_isReady (n : Nat) (a1 : Int32) (a2 : Int32) (a3 : Int32) (g : Mem) : Option (Int32) :=
(M_first n a2 g).bind fun z1 =>
(M_isReady_L7 n a1 a3 g n z1).bind fun r7 =>
match r7 with
| .inl t8 => (
some (0 : Int32))
| .inr t9 => (
some (1 : Int32))


def M_beginOne_L19 (n : Nat) (a1 : Int32) (a2 : Int32) (g : Mem) (z1 : Int32) : Nat → Int32 → Int32 → Int32 → Option (Int32 × Int32)
| 0, _, _, _ => none
| k3 + 1, x4, x5, x6 =>
if z1 ≤ x6 then (
some (x4, x5))
else (
lt9 (fun (v11 : Int32) =>
(ix x6 200).bind fun j12 =>
if 0 ≤ (gI g 140 0 j12) then (
M_beginOne_L19 n a1 a2 g z1 k3 x4 x5 (x6 + 1))
else (
if v11 = 0 then (
M_beginOne_L19 n a1 a2 g z1 k3 x4 x5 (x6 + 1))
else (
(M_isReady n x6 a1 a2 g).bind fun z13 =>
if z13 = 0 then (
M_beginOne_L19 n a1 a2 g z1 k3 x4 x5 (x6 + 1))
else (
(M_freeUnit n x6 a1 a2 g).bind fun z14 =>
if z14 < 0 then (
M_beginOne_L19 n a1 a2 g z1 k3 x4 x5 (x6 + 1))
else (
M_beginOne_L19 n a1 a2 g z1 k3 x6 z14 (x6 + 1)))))) fun j8 =>
lt9 (fun (_u : Unit) =>
j8 (1 : Int32)) fun j7 =>
if x4 < 0 then (
j7 ())
else (
(ix x6 200).bind fun j9 =>
(ix x4 200).bind fun j10 =>
if (gI g 139 0 j9) ≤ (gI g 139 0 j10) then (
j8 (0 : Int32))
else (
j7 ())))
def M_beginOne (n : Nat) (a1 : Int32) (a2 : Int32) (g : Mem) : Option (Int32 × Mem) :=
(M_behindAll n a1 g).bind fun z1 =>
(M_first n a1 g).bind fun z2 =>
(M_beginOne_L19 n a1 a2 g z1 n (-1 : Int32) (-1 : Int32) z2).bind fun r15 =>
if 0 ≤ r15.1 then (
(ix r15.1 200).bind fun j16 =>
lt9 (sI g 140 0 j16 a2) fun g17 =>
(ix r15.1 200).bind fun j18 =>
lt9 (sI g17 141 0 j18 r15.2) fun g19 =>
some ((1 : Int32), g19))
else (
some ((0 : Int32), g))

def M_layBlock_L36 (n : Nat) (g5 : Mem) (x4 : Int32) (z2 : Int32) : Nat → Int32 → Int32 → Option (Int32)
| 0, _, _ => none
| k6 + 1, x7, x8 =>
if z2 ≤ x8 then (
some x7)
else (
(M_comesBehind n x8 x4 g5).bind fun z9 =>
if z9 = 0 then (
M_layBlock_L36 n g5 x4 z2 k6 x7 (x8 + 1))
else (
(ix x8 200).bind fun j10 =>
if (gI g5 139 0 j10) ≤ x7 then (
M_layBlock_L36 n g5 x4 z2 k6 x7 (x8 + 1))
else (
(ix x8 200).bind fun j11 =>
M_layBlock_L36 n g5 x4 z2 k6 (gI g5 139 0 j11) (x8 + 1))))
def M_layBlock_L17 (n : Nat) (z1 : Int32) (z2 : Int32) : Nat → Int32 → Mem → Option (Mem)
| 0, _, _ => none
| k3 + 1, x4, g5 =>
if x4 < z1 then (
some g5)
else (
if z1 < 0 then (
some g5)
else (
(M_layBlock_L36 n g5 x4 z2 n (0 : Int32) (x4 + (1 : Int32))).bind fun r12 =>
(M_latencyOf n x4 g5).bind fun z13 =>
(ix x4 200).bind fun j14 =>
lt9 (sI g5 139 0 j14 (z13 + r12)) fun g15 =>
(ix x4 200).bind fun j16 =>
lt9 (sI g15 140 0 j16 (-1 : Int32)) fun g17 =>
M_layBlock_L17 n z1 z2 k3 (x4 + (-1)) g17))
def M_layBlock_L136 (n : Nat) (a1 : Int32) (x23 : Int32) : Nat → Int32 → Mem → Option (Int32 × Mem)
| 0, _, _ => none
| k25 + 1, x26, g27 =>
(M_beginOne n a1 x23 g27).bind fun z28 =>
if z28.1 = 0 then (
some (x26, z28.2))
else (
M_layBlock_L136 n a1 x23 k25 (x26 + (-1)) z28.2)
def M_layBlock_L131 (n : Nat) (a1 : Int32) : Nat → Int32 → Int32 → Mem → Option (Mem)
| 0, _, _, _ => none
| k21 + 1, x22, x23, g24 =>
if x22 ≤ 0 then (
some g24)
else (
(M_layBlock_L136 n a1 x23 n x22 g24).bind fun r29 =>
M_layBlock_L131 n a1 k21 r29.1 (x23 + 1) r29.2)
def M_layBlock_L168 (n : Nat) (a1 : Int32) (z1 : Int32) (z2 : Int32) : Nat → Int32 → Mem → Option (Mem)
| 0, _, _ => none
| k33 + 1, x34, g35 =>
if z2 ≤ x34 then (
some g35)
else (
if z1 < 0 then (
some g35)
else (
(M_endOf n x34 g35).bind fun z36 =>
(ix a1 800).bind fun j37 =>
if z36 ≤ (gI g35 143 0 j37) then (
(ix a1 800).bind fun j38 =>
(ix a1 800).bind fun j39 =>
lt9 (sI g35 143 0 j39 (gI g35 143 0 j38)) fun g40 =>
M_layBlock_L168 n a1 z1 z2 k33 (x34 + 1) g40)
else (
(M_endOf n x34 g35).bind fun z41 =>
(ix a1 800).bind fun j42 =>
lt9 (sI g35 143 0 j42 z41) fun g43 =>
M_layBlock_L168 n a1 z1 z2 k33 (x34 + 1) g43)))
def M_layBlock (n : Nat) (a1 : Int32) (g : Mem) : Option (Mem) :=
(M_first n a1 g).bind fun z1 =>
(M_behindAll n a1 g).bind fun z2 =>
(M_layBlock_L17 n z1 z2 n (z2 - (1 : Int32)) g).bind fun r18 =>
lt9 (fun (v20 : Int32) =>
(M_layBlock_L131 n a1 n v20 (0 : Int32) r18).bind fun r30 =>
(ix a1 800).bind fun j31 =>
lt9 (sI r30 143 0 j31 (1 : Int32)) fun g32 =>
(M_layBlock_L168 n a1 z1 z2 n z1 g32).bind fun r44 =>
some r44) fun j19 =>
if 0 ≤ z1 then (
j19 (z2 - z1))
else (
j19 (0 : Int32))

def M_stand (n : Nat) (g : Mem) : Option (Mem) :=
if (gI g 10 0 31) ≤ 0 then (
lt9 (sI g 10 0 47 (-1 : Int32)) fun g1 =>
lt9 (sL g1 10 0 (0 : Int64)) fun g2 =>
some g2)
else (
lt9 (sI g 10 0 47 (0 : Int32)) fun g3 =>
lt9 (sL g3 10 0 (0 : Int64)) fun g4 =>
some g4)

def M_lay_L2 (n : Nat) : Nat → Int32 → Mem → Option (Mem)
| 0, _, _ => none
| k1 + 1, x2, g3 =>
if (gI g3 10 0 31) ≤ x2 then (
some g3)
else (
(M_layBlock n x2 g3).bind fun g4 =>
M_lay_L2 n k1 (x2 + 1) g4)
def M_lay (n : Nat) (g : Mem) : Option (Mem) :=
(M_lay_L2 n n (0 : Int32) g).bind fun r5 =>
(M_bindRegisters n r5).bind fun g6 =>
(M_stand n g6).bind fun g7 =>
some g7

def M_keepProgram_L18 (n : Nat) : Nat → Int32 → Mem → Option (Mem)
| 0, _, _ => none
| k3 + 1, x4, g5 =>
if (gI g5 10 0 25) ≤ x4 then (
some g5)
else (
(ix x4 200).bind fun j6 =>
(ix x4 200).bind fun j7 =>
lt9 (sI g5 126 0 j7 (gI g5 111 0 j6)) fun g8 =>
(ix x4 200).bind fun j9 =>
(ix x4 200).bind fun j10 =>
lt9 (sI g8 129 0 j10 (gI g8 114 0 j9)) fun g11 =>
(ix x4 200).bind fun j12 =>
(ix x4 200).bind fun j13 =>
lt9 (sI g11 130 0 j13 (gI g11 115 0 j12)) fun g14 =>
M_keepProgram_L18 n k3 (x4 + 1) g14)
def M_keepProgram_L70 (n : Nat) : Nat → Int32 → Mem → Option (Mem)
| 0, _, _ => none
| k16 + 1, x17, g18 =>
if ((2 : Int32) * (gI g18 10 0 25)) ≤ x17 then (
some g18)
else (
(ix x17 400).bind fun j19 =>
(ix x17 400).bind fun j20 =>
lt9 (sI g18 127 0 j20 (gI g18 112 0 j19)) fun g21 =>
(ix x17 400).bind fun j22 =>
(ix x17 400).bind fun j23 =>
lt9 (sI g21 128 0 j23 (gI g21 113 0 j22)) fun g24 =>
M_keepProgram_L70 n k16 (x17 + 1) g24)
def M_keepProgram_L112 (n : Nat) : Nat → Int32 → Mem → Option (Mem)
| 0, _, _ => none
| k26 + 1, x27, g28 =>
if (gI g28 10 0 31) ≤ x27 then (
some g28)
else (
(ix x27 800).bind fun j29 =>
(ix x27 800).bind fun j30 =>
(if gI g28 121 0 j29 = 0 ∨ gI g28 121 0 j29 = 1 then (
lt9 (sI g28 136 0 j30 (gI g28 121 0 j29)) fun g31 =>
(ix x27 800).bind fun j33 =>
(ix x27 800).bind fun j34 =>
lt9 (sI g31 132 0 j34 (gI g31 117 0 j33)) fun g35 =>
(ix x27 800).bind fun j36 =>
(ix x27 800).bind fun j37 =>
lt9 (sI g35 133 0 j37 (gI g35 118 0 j36)) fun g38 =>
(ix x27 800).bind fun j39 =>
(ix x27 800).bind fun j40 =>
lt9 (sI g38 134 0 j40 (gI g38 119 0 j39)) fun g41 =>
(ix x27 800).bind fun j42 =>
(ix x27 800).bind fun j43 =>
lt9 (sI g41 135 0 j43 (gI g41 120 0 j42)) fun g44 =>
M_keepProgram_L112 n k26 (x27 + 1) g44)
else none))
def M_keepProgram (n : Nat) (g : Mem) : Option (Mem) :=
lt9 (sI g 10 0 25 (gI g 10 0 10)) fun g1 =>
lt9 (sI g1 10 0 31 (gI g1 10 0 16)) fun g2 =>
(M_keepProgram_L18 n n (0 : Int32) g2).bind fun r15 =>
(M_keepProgram_L70 n n (0 : Int32) r15).bind fun r25 =>
(M_keepProgram_L112 n n (0 : Int32) r25).bind fun r45 =>
(M_lay n r45).bind fun g46 =>
some g46

def M_compile (n : Nat) (g : Mem) : Option (Int32 × Mem) :=
lt9 (sI g 10 0 0 (0 : Int32)) fun g1 =>
lt9 (sI g1 10 0 3 (0 : Int32)) fun g2 =>
lt9 (sI g2 10 0 4 (-1 : Int32)) fun g3 =>
lt9 (sI g3 10 0 5 (0 : Int32)) fun g4 =>
lt9 (sI g4 10 0 6 (0 : Int32)) fun g5 =>
lt9 (sI g5 10 0 7 (0 : Int32)) fun g6 =>
lt9 (sI g6 10 0 10 (0 : Int32)) fun g7 =>
lt9 (sI g7 10 0 16 (0 : Int32)) fun g8 =>
lt9 (sI g8 10 0 22 (-1 : Int32)) fun g9 =>
lt9 (sI g9 10 0 24 (0 : Int32)) fun g10 =>
lt9 (sI g10 10 0 49 (0 : Int32)) fun g11 =>
(M_statements n 15 g11).bind fun g12 =>
lt9 (fun (g16 : Mem) =>
if (gI g16 10 0 3) ≤ 0 then (
(M_leaveOpen n g16).bind fun g17 =>
(M_lead n (0 : Int32) (-1 : Int32) g17).bind fun g18 =>
(M_keepProgram n g18).bind fun g19 =>
some (gI g19 10 0 25, g19))
else (
some ((-1 : Int32), g16))) fun j13 =>
if (gI g12 10 0 3) = 0 then (
(M_next n g12).bind fun z14 =>
if z14.1 < 0 then (
j13 z14.2)
else (
(M_fail n (1 : Int32) (gI z14.2 10 0 5) z14.2).bind fun g15 =>
j13 g15))
else (
j13 g12)

def M_fault (n : Nat) (g : Mem) : Option (Int32 × Mem) :=
lt9 (sI g 10 0 0 (0 : Int32)) fun g1 =>
some (gI g1 10 0 3, g1)

def M_place (n : Nat) (g : Mem) : Option (Int32 × Mem) :=
lt9 (sI g 10 0 0 (0 : Int32)) fun g1 =>
some (gI g1 10 0 4, g1)

def M_units (n : Nat) (a1 : Int32) (a2 : Int32) (a3 : Int32) (g : Mem) : Option (Mem) :=
lt9 (fun (v4 : Int32) =>
lt9 (sI g 10 0 0 v4) fun g5 =>
if (gI g5 10 0 0) = 0 then (
(ix a1 3).bind fun j6 =>
lt9 (sI g5 137 0 j6 a2) fun g7 =>
(ix a1 4).bind fun j8 =>
lt9 (sI g7 138 0 j8 a3) fun g9 =>
(M_lay n g9).bind fun g10 =>
some g10)
else (
some g5)) fun j2 =>
lt9 (fun (_u : Unit) =>
j2 (1 : Int32)) fun j1 =>
if a1 < 0 then (
j1 ())
else (
if (2 : Int32) < a1 then (
j1 ())
else (
if a2 < (1 : Int32) then (
j1 ())
else (
if (4 : Int32) < a2 then (
j1 ())
else (
if a3 < (1 : Int32) then (
j1 ())
else (
if (4 : Int32) < a3 then (
j1 ())
else (
lt9 (fun (_u : Unit) =>
j2 (0 : Int32)) fun j3 =>
if a1 = 0 then (
if a3 = (1 : Int32) then (
j3 ())
else (
j1 ()))
else (
j3 ())))))))

def M_told_L35 (n : Nat) (g4 : Mem) : Nat → Int32 → Int32 → Option (Int32)
| 0, _, _ => none
| k5 + 1, x6, x7 =>
if (gI g4 10 0 31) ≤ x7 then (
some x6)
else (
(ix x7 800).bind fun j8 =>
M_told_L35 n g4 k5 (x6 + (gI g4 143 0 j8)) (x7 + 1))
def M_told_L63 (n : Nat) (a1 : Int32) (g4 : Mem) : Nat → Int32 → Int32 → Option (Int32)
| 0, _, _ => none
| k10 + 1, x11, x12 =>
if (gI g4 10 0 25) ≤ x12 then (
some x11)
else (
lt9 (fun (v18 : Int32) =>
if v18 ≤ x11 then (
M_told_L63 n a1 g4 k10 x11 (x12 + 1))
else (
M_told_L63 n a1 g4 k10 v18 (x12 + 1))) fun j13 =>
if a1 = (2 : Int32) then (
(ix x12 200).bind fun j17 =>
j13 ((gI g4 142 0 j17) + (1 : Int32)))
else (
(ix x12 200).bind fun j14 =>
(M_kindOf n (gI g4 126 0 j14)).bind fun z15 =>
if z15 = (a1 - (3 : Int32)) then (
(ix x12 200).bind fun j16 =>
j13 ((gI g4 141 0 j16) + (1 : Int32)))
else (
j13 (0 : Int32))))
def M_told (n : Nat) (a1 : Int32) (g : Mem) : Option (Int32 × Mem) :=
lt9 (fun (v3 : Int32) =>
lt9 (sI g 10 0 0 v3) fun g4 =>
if (gI g4 10 0 0) ≤ 0 then (
(M_told_L35 n g4 n (0 : Int32) (0 : Int32)).bind fun r9 =>
(M_told_L63 n a1 g4 n (0 : Int32) (0 : Int32)).bind fun r19 =>
if a1 = 0 then (
some (gI g4 10 0 31, g4))
else (
if a1 = (1 : Int32) then (
some (r9, g4))
else (
some (r19, g4))))
else (
some ((0 : Int32), g4))) fun j2 =>
lt9 (fun (_u : Unit) =>
j2 (1 : Int32)) fun j1 =>
if a1 < 0 then (
j1 ())
else (
if a1 ≤ (6 : Int32) then (
j2 (0 : Int32))
else (
j1 ()))

def M_block (n : Nat) (a1 : Int32) (a2 : Int32) (g : Mem) : Option (Int32 × Mem) :=
lt9 (fun (v4 : Int32) =>
lt9 (sI g 10 0 0 v4) fun g5 =>
if (gI g5 10 0 0) ≤ 0 then (
(M_first n a1 g5).bind fun z6 =>
if a2 = 0 then (
(ix a1 800).bind fun j10 =>
some (gI g5 143 0 j10, g5))
else (
if a2 = (1 : Int32) then (
some (z6, g5))
else (
if a2 = (2 : Int32) then (
if 0 ≤ z6 then (
(M_behindAll n a1 g5).bind fun z9 =>
some (z9 - z6, g5))
else (
some ((0 : Int32), g5)))
else (
if a2 = (3 : Int32) then (
(ix a1 800).bind fun j8 =>
some (gI g5 134 0 j8, g5))
else (
(ix a1 800).bind fun j7 =>
some (gI g5 135 0 j7, g5))))))
else (
some ((0 : Int32), g5))) fun j2 =>
lt9 (fun (_u : Unit) =>
j2 (1 : Int32)) fun j1 =>
if a1 < 0 then (
j1 ())
else (
if a1 < (gI g 10 0 31) then (
lt9 (fun (_u : Unit) =>
j2 (2 : Int32)) fun j3 =>
if a2 < 0 then (
j3 ())
else (
if a2 ≤ (4 : Int32) then (
j2 (0 : Int32))
else (
j3 ())))
else (
j1 ()))

def M_operation (n : Nat) (a1 : Int32) (a2 : Int32) (g : Mem) : Option (Int32 × Mem) :=
lt9 (fun (v4 : Int32) =>
lt9 (sI g 10 0 0 v4) fun g5 =>
if (gI g5 10 0 0) ≤ 0 then (
if a2 = 0 then (
(ix a1 200).bind fun j11 =>
(M_kindOf n (gI g5 126 0 j11)).bind fun z12 =>
some (z12, g5))
else (
if a2 = (1 : Int32) then (
(ix a1 200).bind fun j10 =>
some (gI g5 130 0 j10, g5))
else (
if a2 = (2 : Int32) then (
(ix a1 200).bind fun j9 =>
some (gI g5 140 0 j9, g5))
else (
if a2 = (3 : Int32) then (
(ix a1 200).bind fun j8 =>
some (gI g5 139 0 j8, g5))
else (
if a2 = (4 : Int32) then (
(ix a1 200).bind fun j7 =>
some (gI g5 141 0 j7, g5))
else (
(ix a1 200).bind fun j6 =>
some (gI g5 142 0 j6, g5)))))))
else (
some ((0 : Int32), g5))) fun j2 =>
lt9 (fun (_u : Unit) =>
j2 (1 : Int32)) fun j1 =>
if a1 < 0 then (
j1 ())
else (
if a1 < (gI g 10 0 25) then (
lt9 (fun (_u : Unit) =>
j2 (2 : Int32)) fun j3 =>
if a2 < 0 then (
j3 ())
else (
if a2 ≤ (5 : Int32) then (
j2 (0 : Int32))
else (
j3 ())))
else (
j1 ()))

def M_set (n : Nat) (a1 : Int32) (a2 : Int32) (g : Mem) : Option (Int32 × Mem) :=
lt9 (fun (v3 : Int32) =>
lt9 (sI g 10 0 0 v3) fun g4 =>
if (gI g4 10 0 0) ≤ 0 then (
(ix a1 8).bind fun j5 =>
(ix a1 8).bind fun j6 =>
lt9 (sI g4 144 0 j6 a2) fun g7 =>
some (gI g4 144 0 j5, g7))
else (
some ((0 : Int32), g4))) fun j2 =>
lt9 (fun (_u : Unit) =>
j2 (1 : Int32)) fun j1 =>
if a1 < 0 then (
j1 ())
else (
if a1 ≤ (7 : Int32) then (
j2 (0 : Int32))
else (
j1 ()))

def M_get (n : Nat) (a1 : Int32) (g : Mem) : Option (Int32 × Mem) :=
lt9 (fun (v3 : Int32) =>
lt9 (sI g 10 0 0 v3) fun g4 =>
if (gI g4 10 0 0) ≤ 0 then (
(ix a1 8).bind fun j5 =>
some (gI g4 144 0 j5, g4))
else (
some ((0 : Int32), g4))) fun j2 =>
lt9 (fun (_u : Unit) =>
j2 (1 : Int32)) fun j1 =>
if a1 < 0 then (
j1 ())
else (
if a1 ≤ (7 : Int32) then (
j2 (0 : Int32))
else (
j1 ()))

def M_poke (n : Nat) (a1 : Int32) (a2 : Int32) (g : Mem) : Option (Int32 × Mem) :=
lt9 (fun (v3 : Int32) =>
lt9 (sI g 10 0 0 v3) fun g4 =>
if (gI g4 10 0 0) ≤ 0 then (
(ix a1 16).bind fun j5 =>
(ix a1 16).bind fun j6 =>
lt9 (sI g4 145 0 j6 a2) fun g7 =>
some (gI g4 145 0 j5, g7))
else (
some ((0 : Int32), g4))) fun j2 =>
lt9 (fun (_u : Unit) =>
j2 (1 : Int32)) fun j1 =>
if a1 < 0 then (
j1 ())
else (
if a1 ≤ (15 : Int32) then (
j2 (0 : Int32))
else (
j1 ()))

def M_peek (n : Nat) (a1 : Int32) (g : Mem) : Option (Int32 × Mem) :=
lt9 (fun (v3 : Int32) =>
lt9 (sI g 10 0 0 v3) fun g4 =>
if (gI g4 10 0 0) ≤ 0 then (
(ix a1 16).bind fun j5 =>
some (gI g4 145 0 j5, g4))
else (
some ((0 : Int32), g4))) fun j2 =>
lt9 (fun (_u : Unit) =>
j2 (1 : Int32)) fun j1 =>
if a1 < 0 then (
j1 ())
else (
if a1 ≤ (15 : Int32) then (
j2 (0 : Int32))
else (
j1 ()))

def M_restart (n : Nat) (g : Mem) : Option (Mem) :=
lt9 (sI g 10 0 0 (0 : Int32)) fun g1 =>
(M_stand n g1).bind fun g2 =>
some g2

def M_look (n : Nat) (a1 : Int32) (a2 : Int32) (g : Mem) : Option (Int32) :=
if a1 = (1 : Int32) then (
some a2)
else (
if a1 = (2 : Int32) then (
(ix a2 8).bind fun j2 =>
some (gI g 144 0 j2))
else (
if a1 = (3 : Int32) then (
(ix a2 200).bind fun j1 =>
some (gI g 146 0 j1))
else (
some (0 : Int32))))

def M_doOperation (n : Nat) (a1 : Int32) (g : Mem) : Option (Mem) :=
(ix ((2 : Int32) * a1) 400).bind fun j1 =>
(ix ((2 : Int32) * a1) 400).bind fun j2 =>
(M_look n (gI g 127 0 j1) (gI g 128 0 j2) g).bind fun z3 =>
(ix (((2 : Int32) * a1) + (1 : Int32)) 400).bind fun j4 =>
(ix (((2 : Int32) * a1) + (1 : Int32)) 400).bind fun j5 =>
(M_look n (gI g 127 0 j4) (gI g 128 0 j5) g).bind fun z6 =>
(ix a1 200).bind fun j7 =>
lt9 (fun (g30 : Mem) =>
(ix a1 200).bind fun j31 =>
if (gI g30 129 0 j31) < 0 then (
some g30)
else (
(ix a1 200).bind fun j32 =>
(ix a1 200).bind fun j33 =>
(ix (gI g30 129 0 j32) 8).bind fun j34 =>
lt9 (sI g30 144 0 j34 (gI g30 146 0 j33)) fun g35 =>
some g35)) fun j8 =>
if gI g 126 0 j7 = 0 then (
(ix a1 200).bind fun j9 =>
lt9 (sI g 146 0 j9 (z3 + z6)) fun g10 =>
j8 g10)
else (
if gI g 126 0 j7 = 1 then (
(ix a1 200).bind fun j11 =>
lt9 (sI g 146 0 j11 (z3 - z6)) fun g12 =>
j8 g12)
else (
if gI g 126 0 j7 = 2 then (
(ix a1 200).bind fun j13 =>
lt9 (sI g 146 0 j13 (z3 * z6)) fun g14 =>
j8 g14)
else (
if gI g 126 0 j7 = 3 then (
lt9 (fun (v16 : Int32) =>
(ix a1 200).bind fun j17 =>
lt9 (sI g 146 0 j17 v16) fun g18 =>
j8 g18) fun j15 =>
if z6 ≤ z3 then (
j15 (0 : Int32))
else (
j15 (1 : Int32)))
else (
if gI g 126 0 j7 = 4 then (
lt9 (fun (v20 : Int32) =>
(ix a1 200).bind fun j21 =>
lt9 (sI g 146 0 j21 v20) fun g22 =>
j8 g22) fun j19 =>
if z3 = z6 then (
j19 (1 : Int32))
else (
j19 (0 : Int32)))
else (
if gI g 126 0 j7 = 5 then (
(ix (z3 &&& (15 : Int32)) 16).bind fun j23 =>
(ix a1 200).bind fun j24 =>
lt9 (sI g 146 0 j24 (gI g 145 0 j23)) fun g25 =>
j8 g25)
else (
if gI g 126 0 j7 = 6 then (
(ix (z3 &&& (15 : Int32)) 16).bind fun j26 =>
lt9 (sI g 145 0 j26 z6) fun g27 =>
j8 g27)
else (
(ix a1 200).bind fun j28 =>
lt9 (sI g 146 0 j28 z3) fun g29 =>
j8 g29)))))))

def M_run_L43 (n : Nat) : Nat → Int32 → Mem → Option (Mem)
| 0, _, _ => none
| k8 + 1, x9, g10 =>
if (gI g10 10 0 25) ≤ x9 then (
some g10)
else (
(ix x9 200).bind fun j11 =>
if (gI g10 130 0 j11) = (gI g10 10 0 47) then (
(M_doOperation n x9 g10).bind fun g12 =>
M_run_L43 n k8 (x9 + 1) g12)
else (
M_run_L43 n k8 (x9 + 1) g10))
def M_run_L22 (n : Nat) (a1 : Int32) : Nat → Int32 → Mem → Option (Int32 × Mem)
| 0, _, _ => none
| k5 + 1, x6, g7 =>
if (gI g7 10 0 0) = 0 then (
if (gI g7 10 0 47) < 0 then (
some (x6, g7))
else (
if a1 ≤ x6 then (
some (x6, g7))
else (
(M_run_L43 n n (0 : Int32) g7).bind fun r13 =>
(ix (gI r13 10 0 47) 800).bind fun j14 =>
(ix (gI r13 10 0 47) 800).bind fun j15 =>
lt9 (fun (v21 : Int32) =>
if v21 = 0 then (
(ix (gI r13 10 0 47) 800).bind fun j22 =>
lt9 (sI r13 10 0 47 (gI r13 135 0 j22)) fun g23 =>
M_run_L22 n a1 k5 (x6 + (gI r13 143 0 j14)) g23)
else (
(ix (gI r13 10 0 47) 800).bind fun j24 =>
lt9 (sI r13 10 0 47 (gI r13 134 0 j24)) fun g25 =>
M_run_L22 n a1 k5 (x6 + (gI r13 143 0 j14)) g25)) fun j17 =>
lt9 (fun (_u : Unit) =>
j17 (1 : Int32)) fun j16 =>
if (gI r13 136 0 j15) = 0 then (
j16 ())
else (
(ix (gI r13 10 0 47) 800).bind fun j18 =>
(ix (gI r13 10 0 47) 800).bind fun j19 =>
(M_look n (gI r13 132 0 j18) (gI r13 133 0 j19) r13).bind fun z20 =>
if z20 = 0 then (
j17 (0 : Int32))
else (
j16 ())))))
else (
some (x6, g7))
def M_run (n : Nat) (a1 : Int32) (g : Mem) : Option (Int32 × Mem) :=
lt9 (fun (v3 : Int32) =>
lt9 (sI g 10 0 0 v3) fun g4 =>
(M_run_L22 n a1 n (0 : Int32) g4).bind fun r26 =>
lt9 (sL r26.2 10 0 ((gL r26.2 10 0) + r26.1.toInt64)) fun g27 =>
some (r26.1, g27)) fun j2 =>
lt9 (fun (_u : Unit) =>
j2 (1 : Int32)) fun j1 =>
if a1 < 0 then (
j1 ())
else (
if a1 ≤ (5000 : Int32) then (
j2 (0 : Int32))
else (
j1 ()))

def M_at (n : Nat) (g : Mem) : Option (Int32 × Mem) :=
lt9 (sI g 10 0 0 (0 : Int32)) fun g1 =>
some (gI g1 10 0 47, g1)

def M_cycles (n : Nat) (g : Mem) : Option (Int64 × Mem) :=
lt9 (sI g 10 0 0 (0 : Int32)) fun g1 =>
some (gL g1 10 0, g1)
