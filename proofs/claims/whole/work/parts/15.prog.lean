def fJ6_bitCount_0f7a4 (σ : Sg) (a0 : Int32) : Option (Int32 × Sg) := (
gLet ((a0 - (((a0).toUInt32 >>> (((1 : Int32)).toUInt32 &&& Int32.toUInt32 31)).toInt32 &&& (1431655765 : Int32)))) (fun x1 =>
gLet (((x1 &&& (858993459 : Int32)) + (((x1).toUInt32 >>> (((2 : Int32)).toUInt32 &&& Int32.toUInt32 31)).toInt32 &&& (858993459 : Int32)))) (fun x2 =>
gLet (((x2 + ((x2).toUInt32 >>> (((4 : Int32)).toUInt32 &&& Int32.toUInt32 31)).toInt32) &&& (252645135 : Int32))) (fun x3 =>
gLet ((x3 + ((x3).toUInt32 >>> (((8 : Int32)).toUInt32 &&& Int32.toUInt32 31)).toInt32)) (fun x4 =>
gLet ((x4 + ((x4).toUInt32 >>> (((16 : Int32)).toUInt32 &&& Int32.toUInt32 31)).toInt32)) (fun x5 =>
some ((x5 &&& (63 : Int32)), σ)))))))
def fX10_outside (σ : Sg) (a0 : Int32) (a1 : Int32) (a2 : Int32) : Option (Int32 × Sg) := (
gLet (fun  (g2 : Sg) => (
some ((1 : Int32), g2)))
(fun (K1 : Sg → Option (Int32 × Sg)) =>
if a0 < a1 then (
K1  σ)
else (
if a0 ≤ a2 then (
some ((0 : Int32), σ))
else (
K1  σ))))
def fX4_add (σ : Sg) (a0 : Int32) : Option Sg := (
if (200 : Int32) ≤ (σ 1 2) then (
some σ)
else (
gLet (gUp σ 1 2 ((σ 1 2) + (1 : Int32))) (fun g2 =>
gWr (σ 1 2) 200 g2 2 a0 (fun g4 =>
some g4))))
def fX10_write (σ : Sg) (a0 : Int32) : Option (Int32 × Sg) := (
gCl (fX10_outside σ a0 (32 : Int32) (126 : Int32)) (fun r3 g2 =>
if r3 = 0 then (
if (g2 1 2) < (200 : Int32) then (
gCv (fX4_add g2 a0) (fun g7 =>
some ((g7 1 2), g7)))
else (
some ((-3 : Int32), g2)))
else (
some ((-1 : Int32), g2))))
def fX4_clear (σ : Sg)  : Option Sg := (
gLet (gUp σ 1 2 (0 : Int32)) (fun g1 =>
some g1))
def fX10_wipe (σ : Sg)  : Option (Int32 × Sg) := (
gLet ((σ 1 2)) (fun x1 =>
gCv (fX4_clear σ ) (fun g3 =>
some (x1, g3))))
def fX3_clear_23 (t : Nat) : Nat → Int32 → Sg → (Sg → Option Sg) → Option Sg
  | 0, _, _, _ => none
  | n + 1, x6, g7, K5 => (
if (9 : Int32) ≤ x6 then (
K5  g7)
else (
gWr x6 9 g7 (t + 6) (0 : Int32) (fun g10 =>
gWr x6 9 g10 (t + 7) (0 : Int32) (fun g12 =>
gWr x6 10 g12 (t + 9) (0 : Int32) (fun g14 =>
gLet (x6 + (1 : Int32)) (fun x15 =>
fX3_clear_23 t n x15 g14 K5))))))
def fX3_clear (σ : Sg) (t : Nat) : Option Sg := (
gLet (gUp σ t 9 (5 : Int32)) (fun g1 =>
gLet (gUp g1 t 10 (20 : Int32)) (fun g2 =>
gLet (gUp g2 t 11 (0 : Int32)) (fun g3 =>
gLet (gUp g3 t 12 (1 : Int32)) (fun g4 =>
fX3_clear_23 t gN (0 : Int32) g4 (fun  (g18 : Sg) => (
gWr (9 : Int32) 10 g18 (t + 9) (0 : Int32) (fun g20 =>
some g20))))))))
def fX3_takeAtStep (σ : Sg) (t : Nat) (q0 : Nat) (a2 : Int32) (a3 : Int32) : Option (Int32 × Sg) := (
if a2 = (2 : Int32) then (
gRd (0 : Int32) 5 (σ 3) (fun x2 =>
gCl (fX10_outside σ x2 (0 : Int32) ((σ t 9) - (1 : Int32))) (fun r6 g5 =>
if r6 = 0 then (
gRd (1 : Int32) 5 (g5 3) (fun x8 =>
gCl (fX10_outside g5 x8 (0 : Int32) a3) (fun r12 g11 =>
if r12 = 0 then (
gRd (0 : Int32) 5 (g11 3) (fun x14 =>
gRd (1 : Int32) 5 (g11 3) (fun x16 =>
gWr x14 9 g11 q0 x16 (fun g19 =>
some ((1 : Int32), g19)))))
else (
some ((0 : Int32), g11)))))
else (
some ((0 : Int32), g5)))))
else (
some ((0 : Int32), σ)))
def fX3_takeHold (σ : Sg) (t : Nat) (a1 : Int32) : Option (Int32 × Sg) := (
if a1 = (1 : Int32) then (
gRd (0 : Int32) 5 (σ 3) (fun x2 =>
gCl (fX10_outside σ x2 (1 : Int32) (99 : Int32)) (fun r6 g5 =>
if r6 = 0 then (
gRd (0 : Int32) 5 (g5 3) (fun x8 =>
gLet (gUp g5 t 10 x8) (fun g10 =>
some ((1 : Int32), g10))))
else (
some ((0 : Int32), g5)))))
else (
some ((0 : Int32), σ)))
def fX3_takeYounger (σ : Sg) (t : Nat) (a1 : Int32) : Option (Int32 × Sg) := (
if a1 = (5 : Int32) then (
if (8 : Int32) ≤ (σ t 11) then (
some ((0 : Int32), σ))
else (
gRd (0 : Int32) 5 (σ 3) (fun x3 =>
gCl (fX10_outside σ x3 (0 : Int32) (3 : Int32)) (fun r7 g6 =>
if r7 = 0 then (
gRd (1 : Int32) 5 (g6 3) (fun x9 =>
gCl (fX10_outside g6 x9 (0 : Int32) ((g6 t 9) - (1 : Int32))) (fun r13 g12 =>
if r13 = 0 then (
gRd (2 : Int32) 5 (g12 3) (fun x15 =>
gCl (fX10_outside g12 x15 (0 : Int32) (20 : Int32)) (fun r19 g18 =>
if r19 = 0 then (
gRd (3 : Int32) 5 (g18 3) (fun x21 =>
gCl (fX10_outside g18 x21 (1 : Int32) (9 : Int32)) (fun r25 g24 =>
if r25 = 0 then (
gRd (4 : Int32) 5 (g24 3) (fun x27 =>
gCl (fX10_outside g24 x27 (1 : Int32) (20 : Int32)) (fun r31 g30 =>
if r31 = 0 then (
gRd (0 : Int32) 5 (g30 3) (fun x33 =>
gWr (g30 t 11) 8 g30 (t + 1) x33 (fun g36 =>
gRd (1 : Int32) 5 (g36 3) (fun x37 =>
gWr (g36 t 11) 8 g36 (t + 2) x37 (fun g40 =>
gRd (2 : Int32) 5 (g40 3) (fun x41 =>
gWr (g40 t 11) 8 g40 (t + 3) x41 (fun g44 =>
gRd (3 : Int32) 5 (g44 3) (fun x45 =>
gWr (g44 t 11) 8 g44 (t + 4) x45 (fun g48 =>
gRd (4 : Int32) 5 (g48 3) (fun x49 =>
gWr (g48 t 11) 8 g48 (t + 5) x49 (fun g52 =>
gLet (gUp g52 t 11 ((g52 t 11) + (1 : Int32))) (fun g53 =>
some ((1 : Int32), g53)))))))))))))
else (
some ((0 : Int32), g30)))))
else (
some ((0 : Int32), g24)))))
else (
some ((0 : Int32), g18)))))
else (
some ((0 : Int32), g12)))))
else (
some ((0 : Int32), g6))))))
else (
some ((0 : Int32), σ)))
def fX3_takeSteps (σ : Sg) (t : Nat) (a1 : Int32) : Option (Int32 × Sg) := (
if (σ t 12) = 0 then (
some ((0 : Int32), σ))
else (
if a1 = (1 : Int32) then (
gRd (0 : Int32) 5 (σ 3) (fun x3 =>
gCl (fX10_outside σ x3 (1 : Int32) (9 : Int32)) (fun r7 g6 =>
if r7 = 0 then (
gRd (0 : Int32) 5 (g6 3) (fun x9 =>
gLet (gUp g6 t 9 x9) (fun g11 =>
some ((1 : Int32), g11))))
else (
some ((0 : Int32), g6)))))
else (
some ((0 : Int32), σ))))
def fX3_take (σ : Sg) (t : Nat) (a0 : Int32) (a2 : Int32) : Option (Int32 × Sg) := (
if a0 = (115 : Int32) then (
gCl (fX3_takeSteps σ t a2) (fun r25 g24 =>
gZ r25 (some (r25, g24))))
else (
gLet (gUp σ t 12 (0 : Int32)) (fun g2 =>
if a0 = (99 : Int32) then (
gCl (fX3_takeAtStep g2 t (t + 6) a2 (40 : Int32)) (fun r6 g5 =>
gZ r6 (some (r6, g5))))
else if a0 = (104 : Int32) then (
gCl (fX3_takeHold g2 t a2) (fun r11 g10 =>
gZ r11 (some (r11, g10))))
else if a0 = (107 : Int32) then (
gCl (fX3_takeAtStep g2 t (t + 7) a2 (9 : Int32)) (fun r16 g15 =>
gZ r16 (some (r16, g15))))
else if a0 = (121 : Int32) then (
gCl (fX3_takeYounger g2 t a2) (fun r21 g20 =>
gZ r21 (some (r21, g20))))
else (
some ((0 : Int32), g2)))))
def fX3_drinksBehind (σ : Sg) (t : Nat) (a0 : Int32) (a1 : Int32) : Option (Int32 × Sg) := (
gRd a0 8 (σ (t + 2)) (fun x1 =>
gRd a1 8 (σ (t + 2)) (fun x3 =>
gLet (fun  (g6 : Sg) => (
some ((1 : Int32), g6)))
(fun (K5 : Sg → Option (Int32 × Sg)) =>
if x3 < x1 then (
K5  σ)
else (
gRd a0 8 (σ (t + 2)) (fun x8 =>
gRd a1 8 (σ (t + 2)) (fun x10 =>
if x8 = x10 then (
gRd a0 8 (σ (t + 3)) (fun x13 =>
gRd a1 8 (σ (t + 3)) (fun x15 =>
if x13 ≤ x15 then (
some ((0 : Int32), σ))
else (
K5  σ))))
else (
some ((0 : Int32), σ)))))))))
def fX3_lineUp_12 (t : Nat) (x1 : Int32) : Nat → Int32 → Sg → (Int32 → Sg → Option Sg) → Option Sg
  | 0, _, _, _ => none
  | n + 1, x5, g6, K4 => (
if x5 ≤ 0 then (
K4 x5 g6)
else (
gRd (x5 - (1 : Int32)) 8 (g6 (t + 8)) (fun x8 =>
gCl (fX3_drinksBehind g6 t x8 x1) (fun r12 g11 =>
if r12 = 0 then (
K4 x5 g11)
else (
gRd (x5 - (1 : Int32)) 8 (g11 (t + 8)) (fun x14 =>
gWr x5 8 g11 (t + 8) x14 (fun g17 =>
gLet (x5 + (-1 : Int32)) (fun x18 =>
fX3_lineUp_12 t x1 n x18 g17 K4))))))))
def fX3_lineUp_68 (t : Nat) : Nat → Int32 → Sg → (Sg → Option Sg) → Option Sg
  | 0, _, _, _ => none
  | n + 1, x30, g31, K29 => (
if (9 : Int32) < x30 then (
K29  g31)
else (
gRd x30 10 (g31 (t + 9)) (fun x33 =>
gWr x30 10 g31 (t + 9) (x33 + (1 : Int32)) (fun g36 =>
gLet (x30 + (1 : Int32)) (fun x37 =>
fX3_lineUp_68 t n x37 g36 K29)))))
def fX3_lineUp_2 (t : Nat) : Nat → Int32 → Sg → Option Sg
  | 0, _, _ => none
  | n + 1, x1, g2 => (
if (g2 t 11) ≤ x1 then (
some g2)
else (
fX3_lineUp_12 t x1 gN x1 g2 (fun (x22 : Int32) (g23 : Sg) => (
gWr x22 8 g23 (t + 8) x1 (fun g25 =>
gRd x1 8 (g25 (t + 2)) (fun x26 =>
gLet ((x26 + (1 : Int32))) (fun x28 =>
fX3_lineUp_68 t gN x28 g25 (fun  (g40 : Sg) => (
gLet (x1 + (1 : Int32)) (fun x41 =>
fX3_lineUp_2 t n x41 g40 ))))))))))
def fX3_lineUp (σ : Sg) (t : Nat) : Option Sg := (
fX3_lineUp_2 t gN (0 : Int32) σ )
def fX4_readInto_14 (p0 : Nat) : Nat → Int32 → Int32 → Int32 → Int32 → Sg → (Int32 → Sg → Option (Int32 × Sg)) → Option (Int32 × Sg)
  | 0, _, _, _, _, _, _ => none
  | n + 1, x4, x5, x6, x7, g8, K3 => (
if (g8 1 2) ≤ x7 then (
K3 x4 g8)
else (
gRd x7 200 (g8 2) (fun x10 =>
gLet (fun (x13 : Int32) (x14 : Int32) (x15 : Int32) (g16 : Sg) => (
gLet (x7 + (1 : Int32)) (fun x17 =>
fX4_readInto_14 p0 n x13 x14 x15 x17 g16 K3)))
(fun (K12 : Int32 → Int32 → Int32 → Sg → Option (Int32 × Sg)) =>
if x7 = x4 then (
K12 x4 x5 x6 g8)
else (
gLet (fun  (g20 : Sg) => (
if x6 = 0 then (
some (x4, g20))
else (
gLet (fun  (g23 : Sg) => (
gLet (x5 + (1 : Int32)) (fun x24 =>
if x10 = (59 : Int32) then (
gRd x4 200 (g23 2) (fun x26 =>
gCl (fX3_take g23 p0 x26 x24) (fun r30 g29 =>
if r30 = 0 then (
some (x4, g29))
else (
gLet ((x7 + (1 : Int32))) (fun x32 =>
K12 x32 (0 : Int32) (0 : Int32) g29)))))
else (
K12 x4 x24 (0 : Int32) g23))))
(fun (K22 : Sg → Option (Int32 × Sg)) =>
if x10 = (44 : Int32) then (
K22  g20)
else (
if x10 = (59 : Int32) then (
K22  g20)
else (
some (x4, g20)))))))
(fun (K19 : Sg → Option (Int32 × Sg)) =>
if x10 < (48 : Int32) then (
K19  g8)
else (
if (57 : Int32) < x10 then (
K19  g8)
else (
if (2 : Int32) ≤ x6 then (
K19  g8)
else (
if (5 : Int32) ≤ x5 then (
K19  g8)
else (
gLet (fun (x40 : Int32) (g41 : Sg) => (
gWr x5 5 g41 3 ((x40 + x10) - (48 : Int32)) (fun g43 =>
gLet (x6 + (1 : Int32)) (fun x44 =>
K12 x4 x5 x44 g43))))
(fun (K39 : Int32 → Sg → Option (Int32 × Sg)) =>
if x6 = 0 then (
K39 (0 : Int32) g8)
else (
gRd x5 5 (g8 3) (fun x46 =>
K39 ((10 : Int32) * x46) g8)))))))))))))
def fX4_readInto (σ : Sg) (p0 : Nat) : Option (Int32 × Sg) := (
gCv (fX3_clear σ p0) (fun g2 =>
fX4_readInto_14 p0 gN (0 : Int32) (0 : Int32) (0 : Int32) (0 : Int32) g2 (fun (x51 : Int32) (g52 : Sg) => (
gCv (fX3_lineUp g52 p0) (fun g54 =>
if (g54 1 2) ≤ x51 then (
some ((-4 : Int32), g54))
else (
some (x51, g54)))))))
def fX10_fault (σ : Sg)  : Option (Int32 × Sg) := (
gCl (fX4_readInto σ 14) (fun r3 g2 =>
some (r3, g2)))
def fX9_startAs_2 (t : Nat) : Nat → Int32 → Sg → (Sg → Option Sg) → Option Sg
  | 0, _, _, _ => none
  | n + 1, x2, g3, K1 => (
if (9 : Int32) ≤ x2 then (
K1  g3)
else (
gRd x2 9 (g3 10) (fun x5 =>
gWr x2 9 g3 (t + 1) x5 (fun g8 =>
gRd x2 9 (g8 11) (fun x9 =>
gWr x2 9 g8 (t + 2) x9 (fun g12 =>
gLet (x2 + (1 : Int32)) (fun x13 =>
fX9_startAs_2 t n x13 g12 K1)))))))
def fX9_startAs_40 (t : Nat) : Nat → Int32 → Sg → (Sg → Option Sg) → Option Sg
  | 0, _, _, _ => none
  | n + 1, x18, g19, K17 => (
if (8 : Int32) ≤ x18 then (
K17  g19)
else (
gLet (fun (x22 : Int32) (g23 : Sg) => (
gWr x18 8 g23 (t + 3) x22 (fun g25 =>
gLet (x18 + (1 : Int32)) (fun x26 =>
fX9_startAs_40 t n x26 g25 K17))))
(fun (K21 : Int32 → Sg → Option Sg) =>
if (g19 4 11) ≤ x18 then (
K21 (0 : Int32) g19)
else (
gRd x18 8 (g19 9) (fun x28 =>
K21 x28 g19)))))
def fX9_startAs (σ : Sg) (t : Nat) : Option Sg := (
fX9_startAs_2 t gN (0 : Int32) σ (fun  (g16 : Sg) => (
fX9_startAs_40 t gN (0 : Int32) g16 (fun  (g32 : Sg) => (
gLet (gUp g32 t 3 (0 : Int32)) (fun g33 =>
gLet (gUp g33 t 4 (0 : Int32)) (fun g34 =>
some g34)))))))
def fX5_clear (σ : Sg)  : Option Sg := (
gLet (gUp σ 74 2 (0 : Int32)) (fun g1 =>
some g1))
def fX7_clear (σ : Sg) (t : Nat) (nt : Nat) (bt : Nat) : Option Sg := (
gLet (gUp σ t 2 (0 : Int32)) (fun g1 =>
some g1))
def fX10_start (σ : Sg)  : Option Sg := (
gCv (fX9_startAs σ 24) (fun g2 =>
gCv (fX5_clear g2 ) (fun g4 =>
gCv (fX7_clear g4 28 8 30) (fun g6 =>
gCv (fX7_clear g6 62 2 64) (fun g8 =>
some g8)))))
def fX10_lay (σ : Sg)  : Option (Int32 × Sg) := (
gCl (fX4_readInto σ 14) (fun r3 g2 =>
if r3 = (-4 : Int32) then (
if (g2 14 11) = 0 then (
some ((-2 : Int32), g2))
else (
gCl (fX4_readInto g2 4) (fun r8 g7 =>
gCv (fX10_start g7 ) (fun g10 =>
some ((g10 4 11), g10)))))
else (
some ((-2 : Int32), g2))))
def fX10_noStep (σ : Sg) (a0 : Int32) : Option (Int32 × Sg) := (
gCl (fX10_outside σ a0 (0 : Int32) ((σ 4 9) - (1 : Int32))) (fun r3 g2 =>
gZ r3 (some (r3, g2))))
def fX2_notGoneAt_13 (a1 : Int32) (s0 : Nat) : Nat → Int32 → Int32 → Sg → Option (Int32 × Sg)
  | 0, _, _, _ => none
  | n + 1, x3, x4, g5 => (
gRd (a1 + (1 : Int32)) 10 (g5 13) (fun x6 =>
if x6 ≤ x4 then (
some (x3, g5))
else (
gRd x4 8 (g5 12) (fun x9 =>
gRd x9 8 (g5 (s0 + 3)) (fun x11 =>
gLet (fun (x14 : Int32) (g15 : Sg) => (
gLet ((x3 ||| x14)) (fun x16 =>
gLet (x4 + (1 : Int32)) (fun x17 =>
fX2_notGoneAt_13 a1 s0 n x16 x17 g15 ))))
(fun (K13 : Int32 → Sg → Option (Int32 × Sg)) =>
if x11 ≤ 0 then (
K13 (0 : Int32) g5)
else (
K13 ((1 : Int32) <<< (x9 &&& 31)) g5)))))))
def fX2_notGoneAt (σ : Sg) (s0 : Nat) (a1 : Int32) : Option (Int32 × Sg) := (
gRd a1 10 (σ 13) (fun x1 =>
fX2_notGoneAt_13 a1 s0 gN (0 : Int32) x1 σ ))
def fX2_drinkersAt (σ : Sg) (s0 : Nat) (a1 : Int32) : Option (Int32 × Sg) := (
gCl (fX2_notGoneAt σ s0 a1) (fun r3 g2 =>
some ((r3 &&& ((g2 s0 3) ^^^ (-1 : Int32))), g2)))
def fX10_has (σ : Sg) (a0 : Int32) (a1 : Int32) : Option (Int32 × Sg) := (
if ((a0 >>> (a1 &&& 31)) &&& (1 : Int32)) = 0 then (
some ((0 : Int32), σ))
else (
some ((1 : Int32), σ)))
def fX3_wants (σ : Sg) (t : Nat) (a0 : Int32) (a1 : Int32) : Option (Int32 × Sg) := (
gRd a0 8 (σ (t + 1)) (fun x1 =>
if x1 = (1 : Int32) then (
gRd a0 8 (σ (t + 4)) (fun x4 =>
some (((x4 / (2 : Int32)) + (1 : Int32)), σ)))
else if x1 = (2 : Int32) then (
gRd a0 8 (σ (t + 4)) (fun x8 =>
some (((2 : Int32) * x8), σ)))
else if x1 = (3 : Int32) then (
if a1 = 0 then (
gRd a0 8 (σ (t + 4)) (fun x12 =>
some (x12, σ)))
else (
some ((0 : Int32), σ)))
else (
gRd a0 8 (σ (t + 4)) (fun x14 =>
some (x14, σ)))))
def fX2_leftOver_24 (a0 : Int32) (a3 : Int32) (x1 : Int32) : Nat → Int32 → Int32 → Sg → Option (Int32 × Sg)
  | 0, _, _, _ => none
  | n + 1, x5, x6, g7 => (
gRd (a0 + (1 : Int32)) 10 (g7 13) (fun x8 =>
if x8 ≤ x6 then (
some (x5, g7))
else (
gRd x6 8 (g7 12) (fun x11 =>
gCl (fX10_has g7 a3 x11) (fun r15 g14 =>
gLet (fun (x17 : Int32) (g18 : Sg) => (
gWr x11 8 g18 73 x17 (fun g20 =>
gRd x11 8 (g20 73) (fun x21 =>
gLet ((x5 - x21)) (fun x23 =>
gLet (x6 + (1 : Int32)) (fun x24 =>
fX2_leftOver_24 a0 a3 x1 n x23 x24 g20 ))))))
(fun (K16 : Int32 → Sg → Option (Int32 × Sg)) =>
if r15 = 0 then (
K16 (0 : Int32) g14)
else (
gLet (fun (x27 : Int32) (g28 : Sg) => (
gCl (fX3_wants g28 4 x11 x27) (fun r31 g30 =>
K16 (if x5 < r31 then x5 else r31) g30)))
(fun (K26 : Int32 → Sg → Option (Int32 × Sg)) =>
if x1 ≤ 0 then (
K26 (0 : Int32) g14)
else (
K26 (1 : Int32) g14)))))))))
def fX2_leftOver (σ : Sg) (a0 : Int32) (a1 : Int32) (a2 : Int32) (a3 : Int32) : Option (Int32 × Sg) := (
gLet ((if a1 < a2 then a1 else a2)) (fun x1 =>
gLet ((a1 - x1)) (fun x2 =>
gRd a0 10 (σ 13) (fun x3 =>
fX2_leftOver_24 a0 a3 x1 gN x2 x3 σ ))))
def fX2_leftOverAt (σ : Sg) (s0 : Nat) (a1 : Int32) : Option (Int32 × Sg) := (
gRd a1 9 (σ (s0 + 1)) (fun x1 =>
gRd a1 9 (σ (s0 + 2)) (fun x3 =>
gCl (fX2_drinkersAt σ s0 a1) (fun r7 g6 =>
gCl (fX2_leftOver g6 a1 x1 x3 r7) (fun r10 g9 =>
some (r10, g9))))))
def fX10_step (σ : Sg) (a0 : Int32) (a1 : Int32) : Option (Int32 × Sg) := (
gCl (fX10_noStep σ a0) (fun r3 g2 =>
if r3 = 0 then (
gCl (fX10_outside g2 a1 (0 : Int32) (3 : Int32)) (fun r7 g6 =>
if r7 = 0 then (
if a1 = (0 : Int32) then (
gRd a0 9 (g6 25) (fun x10 =>
some (x10, g6)))
else if a1 = (1 : Int32) then (
gRd a0 9 (g6 26) (fun x13 =>
some (x13, g6)))
else if a1 = (2 : Int32) then (
gCl (fX2_leftOverAt g6 24 a0) (fun r18 g17 =>
some (r18, g17)))
else (
gCl (fX2_notGoneAt g6 24 a0) (fun r21 g20 =>
some (r21, g20))))
else (
some ((-1 : Int32), g6))))
else (
some ((-1 : Int32), g2))))
def fX10_noYounger (σ : Sg) (a0 : Int32) : Option (Int32 × Sg) := (
gCl (fX10_outside σ a0 (0 : Int32) ((σ 4 11) - (1 : Int32))) (fun r3 g2 =>
gZ r3 (some (r3, g2))))
def fX9_hasQuarrelled (σ : Sg) (t : Nat) (a0 : Int32) : Option (Int32 × Sg) := (
gCl (fX10_has σ (σ t 3) a0) (fun r3 g2 =>
gZ r3 (some (r3, g2))))
def fX10_younger (σ : Sg) (a0 : Int32) (a1 : Int32) : Option (Int32 × Sg) := (
gCl (fX10_noYounger σ a0) (fun r3 g2 =>
if r3 = 0 then (
gCl (fX10_outside g2 a1 (0 : Int32) (6 : Int32)) (fun r7 g6 =>
if r7 = 0 then (
if a1 = (0 : Int32) then (
gRd a0 8 (g6 5) (fun x10 =>
some (x10, g6)))
else if a1 = (1 : Int32) then (
gRd a0 8 (g6 6) (fun x13 =>
some (x13, g6)))
else if a1 = (2 : Int32) then (
gRd a0 8 (g6 7) (fun x16 =>
some (x16, g6)))
else if a1 = (3 : Int32) then (
gRd a0 8 (g6 8) (fun x19 =>
some (x19, g6)))
else if a1 = (4 : Int32) then (
gRd a0 8 (g6 27) (fun x22 =>
some (x22, g6)))
else if a1 = (5 : Int32) then (
gCl (fX9_hasQuarrelled g6 24 a0) (fun r27 g26 =>
if r27 = 0 then (
some ((0 : Int32), g26))
else (
some ((1 : Int32), g26))))
else (
gRd a0 8 (g6 6) (fun x29 =>
gCl (fX2_leftOverAt g6 24 x29) (fun r33 g32 =>
gRd a0 8 (g32 73) (fun x34 =>
some (x34, g32))))))
else (
some ((-1 : Int32), g6))))
else (
some ((-1 : Int32), g2))))
def fX9_become_2 (s0 : Nat) (t : Nat) : Nat → Int32 → Sg → (Sg → Option Sg) → Option Sg
  | 0, _, _, _ => none
  | n + 1, x2, g3, K1 => (
if (9 : Int32) ≤ x2 then (
K1  g3)
else (
gRd x2 9 (g3 (s0 + 1)) (fun x5 =>
gWr x2 9 g3 (t + 1) x5 (fun g8 =>
gRd x2 9 (g8 (s0 + 2)) (fun x9 =>
gWr x2 9 g8 (t + 2) x9 (fun g12 =>
gLet (x2 + (1 : Int32)) (fun x13 =>
fX9_become_2 s0 t n x13 g12 K1)))))))
def fX9_become_40 (s0 : Nat) (t : Nat) : Nat → Int32 → Sg → (Sg → Option Sg) → Option Sg
  | 0, _, _, _ => none
  | n + 1, x18, g19, K17 => (
if (8 : Int32) ≤ x18 then (
K17  g19)
else (
gRd x18 8 (g19 (s0 + 3)) (fun x21 =>
gWr x18 8 g19 (t + 3) x21 (fun g24 =>
gLet (x18 + (1 : Int32)) (fun x25 =>
fX9_become_40 s0 t n x25 g24 K17)))))
def fX9_become (σ : Sg) (t : Nat) (s0 : Nat) : Option Sg := (
fX9_become_2 s0 t gN (0 : Int32) σ (fun  (g16 : Sg) => (
fX9_become_40 s0 t gN (0 : Int32) g16 (fun  (g28 : Sg) => (
gLet (gUp g28 t 3 (g28 s0 3)) (fun g29 =>
gLet (gUp g29 t 4 (g29 s0 4)) (fun g30 =>
some g30)))))))
def fX7_push (σ : Sg) (t : Nat) (nt : Nat) (bt : Nat) : Option Sg := (
if (σ t 1) < 0 then (
some σ)
else (
if (Int32.ofNat nt) ≤ (σ t 1) then (
some σ)
else (
gIx (σ t 1) nt (fun j3 =>
gCv (fX9_become σ (bt + 4 * j3) 24) (fun g8 =>
gLet (fun (x10 : Int32) (g11 : Sg) => (
gLet (gUp g11 t 1 x10) (fun g12 =>
gLet (gUp g12 t 2 (if (Int32.ofNat nt) < ((g12 t 2) + (1 : Int32)) then (Int32.ofNat nt) else ((g12 t 2) + (1 : Int32)))) (fun g13 =>
some g13))))
(fun (K9 : Int32 → Sg → Option Sg) =>
if ((g8 t 1) + (1 : Int32)) = (Int32.ofNat nt) then (
K9 (0 : Int32) g8)
else (
K9 ((g8 t 1) + (1 : Int32)) g8)))))))
def fX3_gains (σ : Sg) (t : Nat) (a0 : Int32) (a1 : Int32) : Option (Int32 × Sg) := (
gRd a0 8 (σ (t + 1)) (fun x1 =>
gLet (fun (x4 : Int32) (g5 : Sg) => (
gLet (fun (x7 : Int32) (g8 : Sg) => (
if a1 < x7 then (
if x4 = 0 then (
gRd a0 8 (g8 (t + 4)) (fun x11 =>
some ((a1 - x11), g8)))
else (
some ((-1 : Int32), g8)))
else (
some ((1 : Int32), g8))))
(fun (K6 : Int32 → Sg → Option (Int32 × Sg)) =>
if x4 = 0 then (
gRd a0 8 (g5 (t + 4)) (fun x14 =>
K6 x14 g5))
else (
gCl (fX3_wants g5 t a0 (0 : Int32)) (fun r18 g17 =>
K6 r18 g17)))))
(fun (K3 : Int32 → Sg → Option (Int32 × Sg)) =>
if x1 = (1 : Int32) then (
K3 (1 : Int32) σ)
else (
K3 (0 : Int32) σ))))
def fX2_goByAt_31 (a1 : Int32) (r8 : Int32) (s0 : Nat) : Nat → Int32 → Sg → Option (Int32 × Sg)
  | 0, _, _ => none
  | n + 1, x11, g12 => (
gRd (a1 + (1 : Int32)) 10 (g12 13) (fun x13 =>
if x13 ≤ x11 then (
some (r8, g12))
else (
gRd x11 8 (g12 12) (fun x16 =>
gRd x16 8 (g12 (s0 + 3)) (fun x18 =>
gLet (fun  (g21 : Sg) => (
gLet (x11 + (1 : Int32)) (fun x22 =>
fX2_goByAt_31 a1 r8 s0 n x22 g21 )))
(fun (K20 : Sg → Option (Int32 × Sg)) =>
if x18 ≤ 0 then (
K20  g12)
else (
gCl (fX9_hasQuarrelled g12 s0 x16) (fun r26 g25 =>
gLet (fun (x28 : Int32) (g29 : Sg) => (
gRd x16 8 (g29 (s0 + 3)) (fun x30 =>
gWr x16 8 g29 (s0 + 3) (if (0 : Int32) < (if (x30 + x28) < (20 : Int32) then (x30 + x28) else (20 : Int32)) then (if (x30 + x28) < (20 : Int32) then (x30 + x28) else (20 : Int32)) else (0 : Int32)) (fun g33 =>
K20  g33))))
(fun (K27 : Int32 → Sg → Option (Int32 × Sg)) =>
if r26 = 0 then (
gRd x16 8 (g25 73) (fun x35 =>
gCl (fX3_gains g25 4 x16 x35) (fun r39 g38 =>
K27 r39 g38)))
else (
K27 (-1 : Int32) g25))))))))))
def fX2_goByAt (σ : Sg) (s0 : Nat) (a1 : Int32) (a2 : Int32) : Option (Int32 × Sg) := (
gRd a1 9 (σ (s0 + 2)) (fun x1 =>
gCl (fX2_drinkersAt σ s0 a1) (fun r5 g4 =>
gCl (fX2_leftOver g4 a1 a2 x1 r5) (fun r8 g7 =>
gRd a1 10 (g7 13) (fun x9 =>
fX2_goByAt_31 a1 r8 s0 gN x9 g7 )))))
def fX2_goBy_4 (s0 : Nat) : Nat → Int32 → Int32 → Sg → (Int32 → Sg → Option (Int32 × Sg)) → Option (Int32 × Sg)
  | 0, _, _, _, _ => none
  | n + 1, x2, x3, g4, K1 => (
if (g4 4 9) ≤ x3 then (
K1 x2 g4)
else (
gRd x3 9 (g4 (s0 + 1)) (fun x6 =>
gCl (fX2_goByAt g4 s0 x3 x6) (fun r10 g9 =>
gLet ((x2 + r10)) (fun x11 =>
gLet (x3 + (1 : Int32)) (fun x12 =>
fX2_goBy_4 s0 n x11 x12 g9 K1))))))
def fX2_goBy (σ : Sg) (s0 : Nat) : Option (Int32 × Sg) := (
fX2_goBy_4 s0 gN (0 : Int32) (0 : Int32) σ (fun (x16 : Int32) (g17 : Sg) => (
gLet (gUp g17 s0 4 ((g17 s0 4) + (1 : Int32))) (fun g18 =>
some (x16, g18)))))
def fX10_pass_25 (a0 : Int32) : Nat → Int32 → Sg → Option (Int32 × Sg)
  | 0, _, _ => none
  | n + 1, x7, g8 => (
if a0 ≤ x7 then (
some ((g8 24 4), g8))
else (
gCl (fX2_goBy g8 24) (fun r12 g11 =>
gLet (x7 + (1 : Int32)) (fun x13 =>
fX10_pass_25 a0 n x13 g11 ))))
def fX10_pass (σ : Sg) (a0 : Int32) : Option (Int32 × Sg) := (
gCl (fX10_outside σ a0 (1 : Int32) (20 : Int32)) (fun r3 g2 =>
if r3 = 0 then (
gCv (fX7_push g2 28 8 30) (fun g6 =>
fX10_pass_25 a0 gN (0 : Int32) g6 ))
else (
some ((-1 : Int32), g2))))
def fX10_put (σ : Sg) (a0 : Int32) (a1 : Int32) : Option (Int32 × Sg) := (
gCl (fX10_noStep σ a0) (fun r3 g2 =>
if r3 = 0 then (
gCl (fX10_outside g2 a1 (0 : Int32) (40 : Int32)) (fun r7 g6 =>
if r7 = 0 then (
gCv (fX7_push g6 28 8 30) (fun g10 =>
gRd a0 9 (g10 25) (fun x11 =>
gWr a0 9 g10 25 a1 (fun g14 =>
some (x11, g14)))))
else (
some ((-1 : Int32), g6))))
else (
some ((-1 : Int32), g2))))
def fX9_turn (σ : Sg) (t : Nat) (a0 : Int32) : Option Sg := (
gLet (gUp σ t 3 ((σ t 3) ^^^ ((1 : Int32) <<< (a0 &&& 31)))) (fun g1 =>
some g1))
def fX10_quarrel (σ : Sg) (a0 : Int32) (a1 : Int32) : Option (Int32 × Sg) := (
gCl (fX10_noYounger σ a0) (fun r3 g2 =>
if r3 = 0 then (
gCl (fX10_outside g2 a1 (0 : Int32) (1 : Int32)) (fun r7 g6 =>
if r7 = 0 then (
gCl (fX9_hasQuarrelled g6 24 a0) (fun r11 g10 =>
gLet (fun (x13 : Int32) (g14 : Sg) => (
if r11 = x13 then (
some ((-2 : Int32), g14))
else (
gRd a0 8 (g14 27) (fun x16 =>
if x16 = 0 then (
some ((-2 : Int32), g14))
else (
gCv (fX7_push g14 28 8 30) (fun g20 =>
gCv (fX9_turn g20 24 a0) (fun g22 =>
gCl (fJ6_bitCount_0f7a4 g22 (g22 24 3)) (fun r25 g24 =>
some (r25, g24)))))))))
(fun (K12 : Int32 → Sg → Option (Int32 × Sg)) =>
if a1 = (1 : Int32) then (
K12 (1 : Int32) g10)
else (
K12 (0 : Int32) g10))))
else (
some ((-1 : Int32), g6))))
else (
some ((-1 : Int32), g2))))
def fX10_cats (σ : Sg) (a0 : Int32) (a1 : Int32) : Option (Int32 × Sg) := (
gCl (fX10_noStep σ a0) (fun r3 g2 =>
if r3 = 0 then (
gCl (fX10_outside g2 a1 (0 : Int32) (9 : Int32)) (fun r7 g6 =>
if r7 = 0 then (
gCv (fX7_push g6 28 8 30) (fun g10 =>
gRd a0 9 (g10 26) (fun x11 =>
gWr a0 9 g10 26 a1 (fun g14 =>
some (x11, g14)))))
else (
some ((-1 : Int32), g6))))
else (
some ((-1 : Int32), g2))))
def fX7_popInto (σ : Sg) (t : Nat) (nt : Nat) (bt : Nat) : Option Sg := (
gLet (fun (x2 : Int32) (g3 : Sg) => (
if (g3 t 2) ≤ 0 then (
some g3)
else (
if x2 < 0 then (
some g3)
else (
if (Int32.ofNat nt) ≤ x2 then (
some g3)
else (
gIx x2 nt (fun j7 =>
gCv (fX9_become g3 24 (bt + 4 * j7)) (fun g12 =>
gLet (gUp g12 t 1 x2) (fun g13 =>
gLet (gUp g13 t 2 ((g13 t 2) - (1 : Int32))) (fun g14 =>
some g14)))))))))
(fun (K1 : Int32 → Sg → Option Sg) =>
if (σ t 1) = 0 then (
K1 ((Int32.ofNat nt) - (1 : Int32)) σ)
else (
K1 ((σ t 1) - (1 : Int32)) σ)))
def fX10_undo (σ : Sg)  : Option (Int32 × Sg) := (
if (σ 28 2) = 0 then (
some ((-2 : Int32), σ))
else (
gCv (fX7_popInto σ 28 8 30) (fun g3 =>
some ((g3 28 2), g3))))
def fX1_goByAt_2 (a0 : Int32) (a1 : Int32) : Nat → Int32 → Sg → Option Sg
  | 0, _, _ => none
  | n + 1, x1, g2 => (
if a1 ≤ x1 then (
some g2)
else (
gRd a0 9 (g2 79) (fun x4 =>
gCl (fX2_goByAt g2 78 a0 x4) (fun r8 g7 =>
gLet (x1 + (1 : Int32)) (fun x9 =>
fX1_goByAt_2 a0 a1 n x9 g7 )))))
def fX1_goByAt (σ : Sg) (a0 : Int32) (a1 : Int32) : Option Sg := (
fX1_goByAt_2 a0 a1 gN (0 : Int32) σ )
def fX1_wellBehindFrom (σ : Sg) (a1 : Int32) (a2 : Int32) (a3 : Int32) : Option (Int32 × Sg) := (
gCv (fX9_become σ 78 24) (fun g2 =>
gWr a2 8 g2 81 a3 (fun g4 =>
gRd a2 8 (g4 6) (fun x5 =>
gCv (fX1_goByAt g4 x5 a1) (fun g8 =>
gRd a2 8 (g8 81) (fun x9 =>
some (x9, g8)))))))
def fX1_wellBehind (σ : Sg) (a1 : Int32) (a2 : Int32) : Option (Int32 × Sg) := (
gRd a2 8 (σ 27) (fun x1 =>
gCl (fX1_wellBehindFrom σ a1 a2 x1) (fun r5 g4 =>
some (r5, g4))))
def fX10_behind (σ : Sg) (a0 : Int32) (a1 : Int32) : Option (Int32 × Sg) := (
gCl (fX10_outside σ a0 (0 : Int32) (30 : Int32)) (fun r3 g2 =>
if r3 = 0 then (
gCl (fX10_noYounger g2 a1) (fun r7 g6 =>
if r7 = 0 then (
gCl (fX1_wellBehind g6 a0 a1) (fun r11 g10 =>
some (r11, g10)))
else (
some ((-1 : Int32), g6))))
else (
some ((-1 : Int32), g2))))
def fX1_daysToGo_10 (a1 : Int32) : Nat → Int32 → Sg → Option (Int32 × Sg)
  | 0, _, _ => none
  | n + 1, x3, g4 => (
if (60 : Int32) < x3 then (
some ((-4 : Int32), g4))
else (
gRd a1 8 (g4 81) (fun x6 =>
if x6 = 0 then (
some (x3, g4))
else (
gRd a1 8 (g4 6) (fun x9 =>
gCv (fX1_goByAt g4 x9 (1 : Int32)) (fun g12 =>
gLet (x3 + (1 : Int32)) (fun x13 =>
fX1_daysToGo_10 a1 n x13 g12 )))))))
def fX1_daysToGo (σ : Sg) (a1 : Int32) : Option (Int32 × Sg) := (
gCv (fX9_become σ 78 24) (fun g2 =>
fX1_daysToGo_10 a1 gN (0 : Int32) g2 ))
def fX10_goes (σ : Sg) (a0 : Int32) : Option (Int32 × Sg) := (
gCl (fX10_noYounger σ a0) (fun r3 g2 =>
if r3 = 0 then (
gCl (fX1_daysToGo g2 a0) (fun r7 g6 =>
some (r7, g6)))
else (
some ((-1 : Int32), g2))))
def fX1_leastFor_14 (a1 : Int32) (a2 : Int32) (r3 : Int32) : Nat → Int32 → Sg → Option (Int32 × Sg)
  | 0, _, _ => none
  | n + 1, x4, g5 => (
if (40 : Int32) < x4 then (
some ((-4 : Int32), g5))
else (
gCv (fX9_become g5 78 24) (fun g8 =>
gWr a1 9 g8 79 x4 (fun g10 =>
gCv (fX1_goByAt g10 a1 a2) (fun g12 =>
gCl (fX2_notGoneAt g12 78 a1) (fun r15 g14 =>
if r15 = r3 then (
some (x4, g14))
else (
gLet (x4 + (1 : Int32)) (fun x17 =>
fX1_leastFor_14 a1 a2 r3 n x17 g14 ))))))))
def fX1_leastFor (σ : Sg) (a1 : Int32) (a2 : Int32) : Option (Int32 × Sg) := (
gCl (fX2_notGoneAt σ 24 a1) (fun r3 g2 =>
fX1_leastFor_14 a1 a2 r3 gN (0 : Int32) g2 ))
def fX10_least (σ : Sg) (a0 : Int32) (a1 : Int32) : Option (Int32 × Sg) := (
gCl (fX10_noStep σ a0) (fun r3 g2 =>
if r3 = 0 then (
gCl (fX10_outside g2 a1 (1 : Int32) (20 : Int32)) (fun r7 g6 =>
if r7 = 0 then (
gCl (fX1_leastFor g6 a0 a1) (fun r11 g10 =>
some (r11, g10)))
else (
some ((-1 : Int32), g6))))
else (
some ((-1 : Int32), g2))))
def fX0_bringTo_21 (a1 : Int32) (a2 : Int32) (a3 : Int32) (x1 : Int32) : Nat → Int32 → Int32 → Sg → (Int32 → Sg → Option Sg) → Option Sg
  | 0, _, _, _, _ => none
  | n + 1, x6, x7, g8, K5 => (
if x7 ≤ 0 then (
K5 x6 g8)
else (
gRd x7 512 (g8 148) (fun x10 =>
gLet (fun (x13 : Int32) (g14 : Sg) => (
gLet (((x7 - (1 : Int32)) &&& a1)) (fun x15 =>
fX0_bringTo_21 a1 a2 a3 x1 n x13 x15 g14 K5)))
(fun (K12 : Int32 → Sg → Option Sg) =>
if a3 < (x10 + a2) then (
K12 x6 g8)
else (
gRd (a1 ^^^ x7) 512 (g8 149) (fun x17 =>
gLet ((if (x1 + x17) < x6 then (x1 + x17) else x6)) (fun x19 =>
K12 x19 g8)))))))
def fX0_bringTo (σ : Sg) (a0 : Int32) (a1 : Int32) (a2 : Int32) (a3 : Int32) : Option Sg := (
gLet (((2 : Int32) * (a0 + (1 : Int32)))) (fun x1 =>
gRd a1 512 (σ 149) (fun x2 =>
gLet ((x1 + x2)) (fun x4 =>
fX0_bringTo_21 a1 a2 a3 x1 gN x4 a1 σ (fun (x23 : Int32) (g24 : Sg) => (
gRd a1 512 (g24 148) (fun x25 =>
gWr (a1 ||| ((1 : Int32) <<< (a0 &&& 31))) 512 g24 148 (x25 + a2) (fun g28 =>
gWr (a1 ||| ((1 : Int32) <<< (a0 &&& 31))) 512 g28 149 x23 (fun g30 =>
some g30)))))))))
def fX0_leastWay_32 (a1 : Int32) (x1 : Int32) (x2 : Int32) : Nat → Int32 → Sg → (Sg → Option (Int32 × Sg)) → Option (Int32 × Sg)
  | 0, _, _, _ => none
  | n + 1, x18, g19, K17 => (
if ((1 : Int32) <<< (x2 &&& 31)) ≤ x18 then (
K17  g19)
else (
gLet (fun  (g22 : Sg) => (
gLet (x18 + (1 : Int32)) (fun x23 =>
fX0_leastWay_32 a1 x1 x2 n x23 g22 K17)))
(fun (K21 : Sg → Option (Int32 × Sg)) =>
if (x18 &&& (x1 ^^^ (-1 : Int32))) = 0 then (
gRd x2 9 (g19 25) (fun x25 =>
gCv (fX0_bringTo g19 x2 x18 (if a1 < x25 then a1 else x25) a1) (fun g28 =>
K21  g28)))
else (
K21  g19))))
def fX0_leastWay_5 (a1 : Int32) : Nat → Int32 → Int32 → Sg → Option (Int32 × Sg)
  | 0, _, _, _ => none
  | n + 1, x1, x2, g3 => (
if (9 : Int32) ≤ x2 then (
gRd x1 512 (g3 149) (fun x5 =>
some (x5, g3)))
else (
if (9 : Int32) ≤ x2 then (
gRd x1 512 (g3 149) (fun x8 =>
some (x8, g3)))
else (
gRd x2 9 (g3 25) (fun x10 =>
gLet (fun (x13 : Int32) (g14 : Sg) => (
gLet (x2 + (1 : Int32)) (fun x15 =>
fX0_leastWay_5 a1 n x13 x15 g14 )))
(fun (K12 : Int32 → Sg → Option (Int32 × Sg)) =>
if x10 = 0 then (
K12 x1 g3)
else (
fX0_leastWay_32 a1 x1 x2 gN (0 : Int32) g3 (fun  (g31 : Sg) => (
gLet ((x1 ||| ((1 : Int32) <<< (x2 &&& 31)))) (fun x32 =>
K12 x32 g31)))))))))
def fX0_leastWay (σ : Sg) (a1 : Int32) : Option (Int32 × Sg) := (
fX0_leastWay_5 a1 gN (0 : Int32) (0 : Int32) σ )
def fX10_round (σ : Sg)  : Option (Int32 × Sg) := (
gCl (fX0_leastWay σ (σ 4 10)) (fun r3 g2 =>
some (r3, g2)))
def fX6_stayBy_26 (a1 : Int32) (a2 : Int32) (x3 : Int32) : Nat → Int32 → Sg → (Sg → Option Sg) → Option Sg
  | 0, _, _, _ => none
  | n + 1, x7, g8, K6 => (
if a2 ≤ x7 then (
K6  g8)
else (
gCl (fX2_goByAt g8 83 x3 a1) (fun r12 g11 =>
gLet (x7 + (1 : Int32)) (fun x13 =>
fX6_stayBy_26 a1 a2 x3 n x13 g11 K6))))
def fX6_stayBy_11 (a1 : Int32) (a2 : Int32) : Nat → Int32 → Sg → Option Sg
  | 0, _, _ => none
  | n + 1, x3, g4 => (
if (g4 4 9) ≤ x3 then (
some g4)
else (
fX6_stayBy_26 a1 a2 x3 gN (0 : Int32) g4 (fun  (g16 : Sg) => (
gIx x3 9 (fun j17 =>
gCl (fX2_notGoneAt g16 83 x3) (fun r23 g22 =>
gCl (fJ6_bitCount_0f7a4 g22 r23) (fun r26 g25 =>
gWr a1 10 g25 (88 + 1 * j17) r26 (fun g28 =>
gLet (x3 + (1 : Int32)) (fun x29 =>
fX6_stayBy_11 a1 a2 n x29 g28 )))))))))
def fX6_stayBy (σ : Sg) (a1 : Int32) (a2 : Int32) : Option Sg := (
gCv (fX9_become σ 83 24) (fun g2 =>
fX6_stayBy_11 a1 a2 gN (0 : Int32) g2 ))
def fX6_worthOf (σ : Sg) (a0 : Int32) (a1 : Int32) (a2 : Int32) : Option (Int32 × Sg) := (
gLet (fun (x2 : Int32) (g3 : Sg) => (
gIx a0 9 (fun j4 =>
gRd a2 10 (g3 (88 + 1 * j4)) (fun x8 =>
some (((((100 : Int32) * x8) - a2) + x2), g3)))))
(fun (K1 : Int32 → Sg → Option (Int32 × Sg)) =>
if (σ 4 9) ≤ (a0 + (1 : Int32)) then (
K1 (0 : Int32) σ)
else (
gIx (a0 + (1 : Int32)) 9 (fun j11 =>
gRd (a1 - a2) 100 (σ (98 + 1 * j11)) (fun x15 =>
K1 x15 σ)))))
def fX6_bestShare_14 (a0 : Int32) (a1 : Int32) : Nat → Int32 → Int32 → Int32 → Sg → Option (Int32 × Sg)
  | 0, _, _, _, _ => none
  | n + 1, x4, x5, x6, g7 => (
if (9 : Int32) < x6 then (
some (x4, g7))
else (
if a1 < x6 then (
some (x4, g7))
else (
gCl (fX6_worthOf g7 a0 a1 x6) (fun r12 g11 =>
gLet (fun (x14 : Int32) (x15 : Int32) (g16 : Sg) => (
gLet (x6 + (1 : Int32)) (fun x17 =>
fX6_bestShare_14 a0 a1 n x14 x15 x17 g16 )))
(fun (K13 : Int32 → Int32 → Sg → Option (Int32 × Sg)) =>
if r12 ≤ x5 then (
K13 x4 x5 g11)
else (
K13 x6 r12 g11))))))
def fX6_bestShare (σ : Sg) (a0 : Int32) (a1 : Int32) : Option (Int32 × Sg) := (
gCl (fX6_worthOf σ a0 a1 (0 : Int32)) (fun r3 g2 =>
fX6_bestShare_14 a0 a1 gN (0 : Int32) r3 (1 : Int32) g2 ))
def fX6_deal_9  : Nat → Int32 → Int32 → Sg → Option Sg
  | 0, _, _, _ => none
  | n + 1, x2, x3, g4 => (
if (g4 4 9) ≤ x3 then (
some g4)
else (
gCl (fX6_bestShare g4 x3 x2) (fun r8 g7 =>
gWr x3 9 g7 107 r8 (fun g10 =>
gRd x3 9 (g10 107) (fun x11 =>
gLet ((x2 - x11)) (fun x13 =>
gIx x3 9 (fun j14 =>
gRd x3 9 (g10 107) (fun x18 =>
gRd x18 10 (g10 (88 + 1 * j14)) (fun x20 =>
gLet (gUp g10 82 6 ((g10 82 6) + x20)) (fun g22 =>
gLet (x3 + (1 : Int32)) (fun x23 =>
fX6_deal_9  n x13 x23 g22 )))))))))))
def fX6_deal (σ : Sg) (a0 : Int32) : Option Sg := (
gLet (gUp σ 82 6 (0 : Int32)) (fun g1 =>
fX6_deal_9  gN a0 (0 : Int32) g1 ))
def fX6_dealOut_3 (a2 : Int32) : Nat → Int32 → Sg → (Sg → Option Sg) → Option Sg
  | 0, _, _, _ => none
  | n + 1, x2, g3, K1 => (
if (9 : Int32) < x2 then (
K1  g3)
else (
gCv (fX6_stayBy g3 x2 a2) (fun g6 =>
gLet (x2 + (1 : Int32)) (fun x7 =>
fX6_dealOut_3 a2 n x7 g6 K1))))
def fX6_dealOut_43 (a1 : Int32) (x13 : Int32) : Nat → Int32 → Sg → (Sg → Option Sg) → Option Sg
  | 0, _, _, _ => none
  | n + 1, x17, g18, K16 => (
if a1 < x17 then (
K16  g18)
else (
gIx x13 9 (fun j20 =>
gCl (fX6_bestShare g18 x13 x17) (fun r26 g25 =>
gCl (fX6_worthOf g25 x13 x17 r26) (fun r29 g28 =>
gWr x17 100 g28 (98 + 1 * j20) r29 (fun g31 =>
gLet (x17 + (1 : Int32)) (fun x32 =>
fX6_dealOut_43 a1 x13 n x32 g31 K16)))))))
def fX6_dealOut_35 (a1 : Int32) : Nat → Int32 → Sg → (Sg → Option Sg) → Option Sg
  | 0, _, _, _ => none
  | n + 1, x13, g14, K12 => (
if x13 ≤ 0 then (
K12  g14)
else (
fX6_dealOut_43 a1 x13 gN (0 : Int32) g14 (fun  (g35 : Sg) => (
gLet (x13 + (-1 : Int32)) (fun x36 =>
fX6_dealOut_35 a1 n x36 g35 K12)))))
def fX6_dealOut (σ : Sg) (a1 : Int32) (a2 : Int32) : Option Sg := (
fX6_dealOut_3 a2 gN (0 : Int32) σ (fun  (g10 : Sg) => (
gLet (((g10 4 9) - (1 : Int32))) (fun x11 =>
fX6_dealOut_35 a1 gN x11 g10 (fun  (g39 : Sg) => (
gCv (fX6_deal g39 a1) (fun g41 =>
some g41)))))))
def fX10_best (σ : Sg) (a0 : Int32) (a1 : Int32) (a2 : Int32) : Option (Int32 × Sg) := (
gCl (fX10_outside σ a0 (0 : Int32) (99 : Int32)) (fun r3 g2 =>
if r3 = 0 then (
gCl (fX10_outside g2 a1 (1 : Int32) (20 : Int32)) (fun r7 g6 =>
if r7 = 0 then (
gLet (fun  (g10 : Sg) => (
gCv (fX6_dealOut g10 a0 a1) (fun g12 =>
if a2 = (-1 : Int32) then (
some ((g12 82 6), g12))
else (
gRd a2 9 (g12 107) (fun x14 =>
some (x14, g12))))))
(fun (K9 : Sg → Option (Int32 × Sg)) =>
if a2 = (-1 : Int32) then (
K9  g6)
else (
gCl (fX10_noStep g6 a2) (fun r19 g18 =>
if r19 = 0 then (
K9  g18)
else (
some ((-1 : Int32), g18))))))
else (
some ((-1 : Int32), g6))))
else (
some ((-1 : Int32), g2))))
def fX9_notGone_4 (t : Nat) : Nat → Int32 → Int32 → Sg → Option (Int32 × Sg)
  | 0, _, _, _ => none
  | n + 1, x1, x2, g3 => (
if (8 : Int32) ≤ x2 then (
some (x1, g3))
else (
gRd x2 8 (g3 (t + 3)) (fun x5 =>
gLet (fun (x8 : Int32) (g9 : Sg) => (
gLet ((x1 + x8)) (fun x10 =>
gLet (x2 + (1 : Int32)) (fun x11 =>
fX9_notGone_4 t n x10 x11 g9 ))))
(fun (K7 : Int32 → Sg → Option (Int32 × Sg)) =>
if x5 ≤ 0 then (
K7 (0 : Int32) g3)
else (
K7 (1 : Int32) g3)))))
def fX9_notGone (σ : Sg) (t : Nat) : Option (Int32 × Sg) := (
fX9_notGone_4 t gN (0 : Int32) (0 : Int32) σ )
def fX1_othersKeptBy_18  : Nat → Int32 → Sg → (Sg → Option (Int32 × Sg)) → Option (Int32 × Sg)
  | 0, _, _, _ => none
  | n + 1, x6, g7, K5 => (
if (10 : Int32) ≤ x6 then (
K5  g7)
else (
gCl (fX2_goBy g7 78) (fun r11 g10 =>
gLet (x6 + (1 : Int32)) (fun x12 =>
fX1_othersKeptBy_18  n x12 g10 K5))))
def fX1_othersKeptBy (σ : Sg) (a1 : Int32) : Option (Int32 × Sg) := (
gCv (fX9_become σ 78 24) (fun g2 =>
gCv (fX9_turn g2 78 a1) (fun g4 =>
fX1_othersKeptBy_18  gN (0 : Int32) g4 (fun  (g15 : Sg) => (
gCl (fX9_notGone g15 78) (fun r18 g17 =>
gRd a1 8 (g17 81) (fun x19 =>
if x19 ≤ 0 then (
some ((r18 - (0 : Int32)), g17))
else (
some ((r18 - (1 : Int32)), g17)))))))))
def fX1_helper_8  : Nat → Int32 → Int32 → Int32 → Sg → Option (Int32 × Sg)
  | 0, _, _, _, _ => none
  | n + 1, x1, x2, x3, g4 => (
if (g4 4 11) ≤ x3 then (
some (x1, g4))
else (
gRd x3 8 (g4 27) (fun x6 =>
gLet (fun (x9 : Int32) (x10 : Int32) (g11 : Sg) => (
gLet (x3 + (1 : Int32)) (fun x12 =>
fX1_helper_8  n x9 x10 x12 g11 )))
(fun (K8 : Int32 → Int32 → Sg → Option (Int32 × Sg)) =>
if x6 = 0 then (
K8 x1 x2 g4)
else (
gCl (fX9_hasQuarrelled g4 24 x3) (fun r16 g15 =>
if r16 = 0 then (
gCl (fX1_othersKeptBy g15 x3) (fun r20 g19 =>
if r20 ≤ x2 then (
K8 x1 x2 g19)
else (
K8 x3 r20 g19)))
else (
K8 x1 x2 g15)))))))
def fX1_helper (σ : Sg)  : Option (Int32 × Sg) := (
fX1_helper_8  gN (-4 : Int32) (-1 : Int32) (0 : Int32) σ )
def fX10_help (σ : Sg) (a0 : Int32) : Option (Int32 × Sg) := (
gCl (fX10_outside σ a0 (0 : Int32) (1 : Int32)) (fun r3 g2 =>
if r3 = 0 then (
gCl (fX1_helper g2 ) (fun r7 g6 =>
if r7 = (-4 : Int32) then (
some ((-4 : Int32), g6))
else (
if a0 = 0 then (
some (r7, g6))
else (
gCl (fX1_othersKeptBy g6 r7) (fun r12 g11 =>
some (r12, g11))))))
else (
some ((-1 : Int32), g2))))
def fX5_add (σ : Sg) (a0 : Int32) (a1 : Int32) : Option Sg := (
if (6 : Int32) ≤ (σ 74 2) then (
some σ)
else (
gWr (σ 74 2) 6 σ 75 a0 (fun g3 =>
gWr (g3 74 2) 6 g3 76 a1 (fun g5 =>
gLet (gUp g5 74 2 ((g5 74 2) + (1 : Int32))) (fun g6 =>
some g6)))))
def fX10_see (σ : Sg) (a0 : Int32) (a1 : Int32) : Option (Int32 × Sg) := (
gCl (fX10_noStep σ a0) (fun r3 g2 =>
if r3 = 0 then (
gCl (fX10_outside g2 a1 (0 : Int32) (40 : Int32)) (fun r7 g6 =>
if r7 = 0 then (
if (g6 74 2) < (6 : Int32) then (
gCv (fX5_add g6 a0 a1) (fun g11 =>
some ((g11 74 2), g11)))
else (
some ((-3 : Int32), g6)))
else (
some ((-1 : Int32), g6))))
else (
some ((-1 : Int32), g2))))
def fX10_forget (σ : Sg)  : Option (Int32 × Sg) := (
gLet ((σ 74 2)) (fun x1 =>
gCv (fX5_clear σ ) (fun g3 =>
some (x1, g3))))
def fX5_fits_2 (a0 : Int32) (a1 : Int32) : Nat → Int32 → Sg → Option (Int32 × Sg)
  | 0, _, _ => none
  | n + 1, x1, g2 => (
if (g2 74 2) ≤ x1 then (
some ((1 : Int32), g2))
else (
gRd x1 6 (g2 75) (fun x4 =>
gLet (fun  (g7 : Sg) => (
gLet (x1 + (1 : Int32)) (fun x8 =>
fX5_fits_2 a0 a1 n x8 g7 )))
(fun (K6 : Sg → Option (Int32 × Sg)) =>
if x4 = a0 then (
gRd x1 6 (g2 76) (fun x10 =>
if x10 = a1 then (
K6  g2)
else (
some ((0 : Int32), g2))))
else (
K6  g2)))))
def fX5_fits (σ : Sg) (a0 : Int32) (a1 : Int32) : Option (Int32 × Sg) := (
fX5_fits_2 a0 a1 gN (0 : Int32) σ )
def fX10_within_38 (a0 : Int32) (a1 : Int32) (r11 : Int32) : Nat → Int32 → Int32 → Sg → (Int32 → Sg → Option (Int32 × Sg)) → Option (Int32 × Sg)
  | 0, _, _, _, _ => none
  | n + 1, x13, x14, g15, K12 => (
if (256 : Int32) ≤ x14 then (
K12 x13 g15)
else (
gLet (fun (x18 : Int32) (g19 : Sg) => (
gLet (fun (x21 : Int32) (g22 : Sg) => (
gLet (x14 + (1 : Int32)) (fun x23 =>
fX10_within_38 a0 a1 r11 n x21 x23 g22 K12)))
(fun (K20 : Int32 → Sg → Option (Int32 × Sg)) =>
if x18 = 0 then (
K20 x13 g19)
else (
gRd a0 9 (g19 25) (fun x25 =>
gRd a0 9 (g19 26) (fun x27 =>
gCl (fX2_leftOver g19 a0 x25 x27 x14) (fun r31 g30 =>
gCl (fX5_fits g30 a0 r31) (fun r34 g33 =>
if r34 = 0 then (
K20 x13 g33)
else (
if a1 = (1 : Int32) then (
some (x14, g33))
else (
gLet (x13 + (1 : Int32)) (fun x37 =>
K20 x37 g33)))))))))))
(fun (K17 : Int32 → Sg → Option (Int32 × Sg)) =>
if (x14 &&& (r11 ^^^ (-1 : Int32))) = 0 then (
K17 (1 : Int32) g15)
else (
K17 (0 : Int32) g15))))
def fX10_within (σ : Sg) (a0 : Int32) (a1 : Int32) : Option (Int32 × Sg) := (
gCl (fX10_noStep σ a0) (fun r3 g2 =>
if r3 = 0 then (
gCl (fX10_outside g2 a1 (0 : Int32) (1 : Int32)) (fun r7 g6 =>
if r7 = 0 then (
gCl (fX2_notGoneAt g6 24 a0) (fun r11 g10 =>
fX10_within_38 a0 a1 r11 gN (0 : Int32) (0 : Int32) g10 (fun (x42 : Int32) (g43 : Sg) => (
if a1 = (1 : Int32) then (
some ((-4 : Int32), g43))
else (
some (x42, g43))))))
else (
some ((-1 : Int32), g6))))
else (
some ((-1 : Int32), g2))))
def fX10_isCats_28 (a0 : Int32) (r7 : Int32) : Nat → Int32 → Int32 → Sg → Option (Int32 × Sg)
  | 0, _, _, _ => none
  | n + 1, x8, x9, g10 => (
if (9 : Int32) < x9 then (
some (x8, g10))
else (
gRd a0 9 (g10 25) (fun x12 =>
gCl (fX2_leftOver g10 a0 x12 x9 r7) (fun r16 g15 =>
gCl (fX5_fits g15 a0 r16) (fun r19 g18 =>
gLet (fun (x21 : Int32) (g22 : Sg) => (
gLet (x9 + (1 : Int32)) (fun x23 =>
fX10_isCats_28 a0 r7 n x21 x23 g22 )))
(fun (K20 : Int32 → Sg → Option (Int32 × Sg)) =>
if r19 = 0 then (
K20 x8 g18)
else (
gLet ((x8 ||| ((1 : Int32) <<< (x9 &&& 31)))) (fun x25 =>
K20 x25 g18))))))))
def fX10_isCats (σ : Sg) (a0 : Int32) : Option (Int32 × Sg) := (
gCl (fX10_noStep σ a0) (fun r3 g2 =>
if r3 = 0 then (
gCl (fX2_drinkersAt g2 24 a0) (fun r7 g6 =>
fX10_isCats_28 a0 r7 gN (0 : Int32) (0 : Int32) g6 ))
else (
some ((-1 : Int32), g2))))
def fX10_was_50 (a0 : Int32) (a1 : Int32) (a2 : Int32) : Nat → Int32 → Int32 → Sg → (Int32 → Sg → Option (Int32 × Sg)) → Option (Int32 × Sg)
  | 0, _, _, _, _ => none
  | n + 1, x17, x18, g19, K16 => (
if (20 : Int32) < x18 then (
K16 x17 g19)
else (
gCl (fX1_wellBehindFrom g19 a1 a0 x18) (fun r23 g22 =>
gRd a0 8 (g22 27) (fun x24 =>
gLet (fun (x27 : Int32) (g28 : Sg) => (
gLet (x18 + (1 : Int32)) (fun x29 =>
fX10_was_50 a0 a1 a2 n x27 x29 g28 K16)))
(fun (K26 : Int32 → Sg → Option (Int32 × Sg)) =>
if r23 = x24 then (
if a2 = (1 : Int32) then (
some (x18, g22))
else (
gLet (x17 + (1 : Int32)) (fun x32 =>
K26 x32 g22)))
else (
K26 x17 g22))))))
def fX10_was (σ : Sg) (a0 : Int32) (a1 : Int32) (a2 : Int32) : Option (Int32 × Sg) := (
gCl (fX10_noYounger σ a0) (fun r3 g2 =>
if r3 = 0 then (
gCl (fX10_outside g2 a1 (1 : Int32) (20 : Int32)) (fun r7 g6 =>
if r7 = 0 then (
gCl (fX10_outside g6 a2 (0 : Int32) (1 : Int32)) (fun r11 g10 =>
if r11 = 0 then (
gRd a0 8 (g10 27) (fun x13 =>
if x13 = 0 then (
some ((-2 : Int32), g10))
else (
fX10_was_50 a0 a1 a2 gN (0 : Int32) (0 : Int32) g10 (fun (x36 : Int32) (g37 : Sg) => (
if a2 = (1 : Int32) then (
some ((-4 : Int32), g37))
else (
some (x36, g37)))))))
else (
some ((-1 : Int32), g10))))
else (
some ((-1 : Int32), g6))))
else (
some ((-1 : Int32), g2))))
def fX8_sameAhead_4 (a0 : Int32) (a1 : Int32) : Nat → Int32 → Sg → Option (Int32 × Sg)
  | 0, _, _ => none
  | n + 1, x2, g3 => (
if x2 ≤ 0 then (
some ((0 : Int32), g3))
else (
gCl (fX10_has g3 a0 ((a1 - (1 : Int32)) - x2)) (fun r7 g6 =>
if r7 = 0 then (
gLet (x2 + (-1 : Int32)) (fun x9 =>
fX8_sameAhead_4 a0 a1 n x9 g6 ))
else (
some (x2, g6)))))
def fX8_sameAhead (σ : Sg) (a0 : Int32) (a1 : Int32) : Option (Int32 × Sg) := (
gLet ((a1 - (1 : Int32))) (fun x1 =>
fX8_sameAhead_4 a0 a1 gN x1 σ ))
def fX8_goBy (σ : Sg) (a0 : Int32) (a1 : Int32) (a2 : Int32) (a3 : Int32) : Option Sg := (
gIx (a0 + (1 : Int32)) 9 (fun j1 =>
gIx a0 9 (fun j5 =>
gCv (fX9_become σ (110 + 4 * j1) (110 + 4 * j5)) (fun g10 =>
gIx (a0 + (1 : Int32)) 9 (fun j11 =>
gLet (fun (x16 : Int32) (g17 : Sg) => (
gCl (fX2_goByAt g17 (110 + 4 * j11) a1 x16) (fun r20 g19 =>
gRd a0 9 (g19 146) (fun x21 =>
gLet (fun (x24 : Int32) (g25 : Sg) => (
gWr (a0 + (1 : Int32)) 9 g25 146 (x21 * x24) (fun g27 =>
some g27)))
(fun (K23 : Int32 → Sg → Option Sg) =>
if a2 = 0 then (
K23 ((10 : Int32) - a3) g19)
else (
K23 a3 g19))))))
(fun (K15 : Int32 → Sg → Option Sg) =>
if a2 = 0 then (
gIx a0 9 (fun j30 =>
gRd a1 9 (g10 ((110 + 4 * j30) + 1)) (fun x34 =>
K15 x34 g10)))
else (
K15 (0 : Int32) g10)))))))
def fX8_waysKept_39 (a1 : Int32) (a2 : Int32) (a3 : Int32) (x10 : Int32) : Nat → Int32 → Sg → (Sg → Option (Int32 × Sg)) → Option (Int32 × Sg)
  | 0, _, _, _ => none
  | n + 1, x17, g18, K16 => (
if a2 ≤ x17 then (
K16  g18)
else (
gRd a1 8 (g18 6) (fun x20 =>
gCl (fX10_has g18 x10 ((a2 - (1 : Int32)) - x17)) (fun r24 g23 =>
gCv (fX8_goBy g23 x17 x20 r24 a3) (fun g26 =>
gLet (x17 + (1 : Int32)) (fun x27 =>
fX8_waysKept_39 a1 a2 a3 x10 n x27 g26 K16))))))
def fX8_waysKept_23 (a1 : Int32) (a2 : Int32) (a3 : Int32) : Nat → Int32 → Int32 → Sg → Option (Int32 × Sg)
  | 0, _, _, _ => none
  | n + 1, x9, x10, g11 => (
if ((1 : Int32) <<< (a2 &&& 31)) ≤ x10 then (
some (x9, g11))
else (
gCl (fX8_sameAhead g11 x10 a2) (fun r15 g14 =>
fX8_waysKept_39 a1 a2 a3 x10 gN r15 g14 (fun  (g30 : Sg) => (
gIx a2 9 (fun j31 =>
gRd a1 8 (g30 ((110 + 4 * j31) + 3)) (fun x35 =>
gLet (fun (x38 : Int32) (g39 : Sg) => (
gLet ((x9 + x38)) (fun x40 =>
gLet (x10 + (1 : Int32)) (fun x41 =>
fX8_waysKept_23 a1 a2 a3 n x40 x41 g39 ))))
(fun (K37 : Int32 → Sg → Option (Int32 × Sg)) =>
if x35 ≤ 0 then (
K37 (0 : Int32) g30)
else (
gRd a2 9 (g30 146) (fun x43 =>
K37 x43 g30))))))))))
def fX8_waysKept (σ : Sg) (a1 : Int32) (a2 : Int32) (a3 : Int32) : Option (Int32 × Sg) := (
gIx (0 : Int32) 9 (fun j1 =>
gCv (fX9_become σ (110 + 4 * j1) 24) (fun g6 =>
gWr (0 : Int32) 9 g6 146 (1 : Int32) (fun g8 =>
fX8_waysKept_23 a1 a2 a3 gN (0 : Int32) (0 : Int32) g8 ))))
def fX10_commonDivisor_2  : Nat → Int32 → Int32 → Int32 → Sg → Option (Int32 × Sg)
  | 0, _, _, _, _ => none
  | n + 1, x1, x2, x3, g4 => (
if (64 : Int32) ≤ x3 then (
some (x1, g4))
else (
if x2 = 0 then (
some (x1, g4))
else (
gNz x2 (
gLet ((x1 - x1 / x2 * x2)) (fun x8 =>
gLet (x3 + (1 : Int32)) (fun x9 =>
fX10_commonDivisor_2  n x2 x8 x9 g4 ))))))
def fX10_commonDivisor (σ : Sg) (a0 : Int32) (a1 : Int32) : Option (Int32 × Sg) := (
fX10_commonDivisor_2  gN a0 a1 (0 : Int32) σ )
def fX10_snows_62 (a1 : Int32) : Nat → Int32 → Int32 → Sg → (Int32 → Sg → Option (Int32 × Sg)) → Option (Int32 × Sg)
  | 0, _, _, _, _ => none
  | n + 1, x21, x22, g23, K20 => (
if a1 ≤ x22 then (
K20 x21 g23)
else (
gLet ((x21 * (10 : Int32))) (fun x25 =>
gLet (x22 + (1 : Int32)) (fun x26 =>
fX10_snows_62 a1 n x25 x26 g23 K20))))
def fX10_snows (σ : Sg) (a0 : Int32) (a1 : Int32) (a2 : Int32) (a3 : Int32) : Option (Int32 × Sg) := (
gCl (fX10_noYounger σ a0) (fun r3 g2 =>
if r3 = 0 then (
gCl (fX10_outside g2 a1 (0 : Int32) (8 : Int32)) (fun r7 g6 =>
if r7 = 0 then (
gCl (fX10_outside g6 a2 (0 : Int32) (10 : Int32)) (fun r11 g10 =>
if r11 = 0 then (
gCl (fX10_outside g10 a3 (0 : Int32) (1 : Int32)) (fun r15 g14 =>
if r15 = 0 then (
gCl (fX8_waysKept g14 a0 a1 a2) (fun r19 g18 =>
fX10_snows_62 a1 gN (1 : Int32) (0 : Int32) g18 (fun (x30 : Int32) (g31 : Sg) => (
gCl (fX10_commonDivisor g31 r19 x30) (fun r34 g33 =>
gLet ((if (1 : Int32) < r34 then r34 else (1 : Int32))) (fun x35 =>
if a3 = 0 then (
gNz x35 (
some ((r19 / x35), g33)))
else (
gNz x35 (
some ((x30 / x35), g33)))))))))
else (
some ((-1 : Int32), g14))))
else (
some ((-1 : Int32), g10))))
else (
some ((-1 : Int32), g6))))
else (
some ((-1 : Int32), g2))))
def fX10_modulo (σ : Sg) (a0 : Int32) (a1 : Int32) : Option (Int32 × Sg) := (
if a1 ≤ 0 then (
some ((0 : Int32), σ))
else (
gNz a1 (
some ((a0 - a0 / a1 * a1), σ))))
def fX1_act (σ : Sg) (a0 : Int32) : Option Sg := (
gLet ((a0 / (8 : Int32))) (fun x2 =>
gLet ((a0 / (64 : Int32))) (fun x4 =>
gLet ((a0 - a0 / (8 : Int32) * (8 : Int32))) (fun x6 =>
if x6 = (0 : Int32) then (
gCl (fX10_modulo σ x2 (σ 4 9)) (fun r10 g9 =>
gWr r10 9 g9 79 (x4 - x4 / (41 : Int32) * (41 : Int32)) (fun g13 =>
some g13)))
else if x6 = (1 : Int32) then (
gCl (fX10_modulo σ x2 (σ 4 9)) (fun r17 g16 =>
gWr r17 9 g16 79 (x4 - x4 / (41 : Int32) * (41 : Int32)) (fun g20 =>
some g20)))
else if x6 = (2 : Int32) then (
gCl (fX10_modulo σ x2 (σ 4 11)) (fun r24 g23 =>
gCv (fX9_turn g23 78 r24) (fun g26 =>
some g26)))
else if x6 = (3 : Int32) then (
gCl (fX10_modulo σ x2 (σ 4 9)) (fun r30 g29 =>
gWr r30 9 g29 80 (x4 - x4 / (10 : Int32) * (10 : Int32)) (fun g33 =>
some g33)))
else (
some σ)))))
def fX1_leftOverInYear_14 (a1 : Int32) (a2 : Int32) : Nat → Int32 → Int32 → Sg → Option (Int32 × Sg)
  | 0, _, _, _ => none
  | n + 1, x3, x4, g5 => (
if a2 ≤ x4 then (
some (x3, g5))
else (
gLet (((((7919 : Int64) * (a1.toInt64)) + ((6151 : Int64) * (x4.toInt64))) + (1 : Int64))) (fun x7 =>
gCv (fX1_act g5 (((x7 * x7) - (x7 * x7) / (65521 : Int64) * (65521 : Int64)).toInt32)) (fun g10 =>
gCl (fX2_goBy g10 78) (fun r13 g12 =>
gLet ((x3 + r13)) (fun x14 =>
gLet (x4 + (1 : Int32)) (fun x15 =>
fX1_leftOverInYear_14 a1 a2 n x14 x15 g12 )))))))
def fX1_leftOverInYear (σ : Sg) (a1 : Int32) (a2 : Int32) : Option (Int32 × Sg) := (
gCv (fX9_become σ 78 24) (fun g2 =>
fX1_leftOverInYear_14 a1 a2 gN (0 : Int32) (0 : Int32) g2 ))
def fX10_year (σ : Sg) (a0 : Int32) (a1 : Int32) (a2 : Int32) : Option (Int32 × Sg) := (
gCl (fX10_outside σ a0 (0 : Int32) (9999 : Int32)) (fun r3 g2 =>
if r3 = 0 then (
gCl (fX10_outside g2 a1 (1 : Int32) (60 : Int32)) (fun r7 g6 =>
if r7 = 0 then (
gCl (fX10_outside g6 a2 (0 : Int32) (1 : Int32)) (fun r11 g10 =>
if r11 = 0 then (
gCl (fX1_leftOverInYear g10 a0 a1) (fun r15 g14 =>
if a2 = 0 then (
gCl (fX9_notGone g14 78) (fun r19 g18 =>
some (r19, g18)))
else (
some (r15, g14))))
else (
some ((-1 : Int32), g10))))
else (
some ((-1 : Int32), g6))))
else (
some ((-1 : Int32), g2))))
def fX10_keep (σ : Sg)  : Option (Int32 × Sg) := (
if (σ 62 2) < (2 : Int32) then (
gCv (fX7_push σ 62 2 64) (fun g3 =>
some ((g3 62 2), g3)))
else (
some ((-3 : Int32), σ)))
def fX10_back (σ : Sg)  : Option (Int32 × Sg) := (
if (σ 62 2) = 0 then (
some ((-2 : Int32), σ))
else (
gCv (fX7_popInto σ 62 2 64) (fun g3 =>
gCv (fX7_clear g3 28 8 30) (fun g5 =>
some ((g5 62 2), g5)))))
def fX10_downInAll_4  : Nat → Int32 → Int32 → Sg → Option (Int32 × Sg)
  | 0, _, _, _ => none
  | n + 1, x1, x2, g3 => (
if (g3 4 9) ≤ x2 then (
some (x1, g3))
else (
gRd x2 9 (g3 25) (fun x5 =>
gLet ((x1 + x5)) (fun x7 =>
gLet (x2 + (1 : Int32)) (fun x8 =>
fX10_downInAll_4  n x7 x8 g3 )))))
def fX10_downInAll (σ : Sg)  : Option (Int32 × Sg) := (
fX10_downInAll_4  gN (0 : Int32) (0 : Int32) σ )
def fX10_leftOverInAll_4  : Nat → Int32 → Int32 → Sg → Option (Int32 × Sg)
  | 0, _, _, _ => none
  | n + 1, x1, x2, g3 => (
if (g3 4 9) ≤ x2 then (
some (x1, g3))
else (
gCl (fX2_leftOverAt g3 24 x2) (fun r7 g6 =>
gLet ((x1 + r7)) (fun x8 =>
gLet (x2 + (1 : Int32)) (fun x9 =>
fX10_leftOverInAll_4  n x8 x9 g6 )))))
def fX10_leftOverInAll (σ : Sg)  : Option (Int32 × Sg) := (
fX10_leftOverInAll_4  gN (0 : Int32) (0 : Int32) σ )
def fX10_count (σ : Sg) (a0 : Int32) : Option (Int32 × Sg) := (
if a0 = (0 : Int32) then (
some ((σ 4 9), σ))
else if a0 = (1 : Int32) then (
some ((σ 4 11), σ))
else if a0 = (2 : Int32) then (
some ((σ 4 10), σ))
else if a0 = (3 : Int32) then (
some ((σ 24 4), σ))
else if a0 = (4 : Int32) then (
gCl (fX9_notGone σ 24) (fun r8 g7 =>
some (((σ 4 11) - r8), g7)))
else if a0 = (5 : Int32) then (
gCl (fJ6_bitCount_0f7a4 σ (σ 24 3)) (fun r12 g11 =>
some (r12, g11)))
else if a0 = (6 : Int32) then (
gCl (fX10_downInAll σ ) (fun r16 g15 =>
some (r16, g15)))
else if a0 = (7 : Int32) then (
gCl (fX10_leftOverInAll σ ) (fun r20 g19 =>
some (r20, g19)))
else if a0 = (8 : Int32) then (
some ((σ 74 2), σ))
else if a0 = (9 : Int32) then (
some ((σ 28 2), σ))
else if a0 = (10 : Int32) then (
some ((σ 62 2), σ))
else if a0 = (11 : Int32) then (
some ((σ 1 2), σ))
else (
some ((-1 : Int32), σ)))
