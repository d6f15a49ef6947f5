def fX11_in (σ : Sg) (a0 : Int64) (a1 : Int64) (a2 : Int64) : Option (Int32 × Sg) := (
if (lg_cmp a0 a1) < 0 then (
some ((0 : Int32), σ))
else (
if 0 < (lg_cmp a0 a2) then (
some ((0 : Int32), σ))
else (
some ((1 : Int32), σ))))
def fX11_has (σ : Sg) (a0 : Int32) (a1 : Int32) : Option (Int32 × Sg) := (
if ((a0 >>> (a1 &&& 31)) &&& (1 : Int32)) = (1 : Int32) then (
some ((1 : Int32), σ))
else (
some ((0 : Int32), σ)))
def fX11_smaller (σ : Sg) (a0 : Int32) (a1 : Int32) : Option (Int32 × Sg) := (
if a1 ≤ a0 then (
some (a1, σ))
else (
some (a0, σ)))
def fX11_larger (σ : Sg) (a0 : Int32) (a1 : Int32) : Option (Int32 × Sg) := (
if a1 ≤ a0 then (
some (a0, σ))
else (
some (a1, σ)))
def fX11_clears_18  : Nat → Int32 → Sg → Option Sg
  | 0, _, _ => none
  | n + 1, x4, g5 => (
if (28 : Int32) ≤ x4 then (
some g5)
else (
gWr ((308 : Int32) + x4) 336 g5 10 (0 : Int32) (fun g8 =>
gLet (x4 + (1 : Int32)) (fun x9 =>
fX11_clears_18  n x9 g8 ))))
def fX11_clears (σ : Sg)  : Option Sg := (
gLet (gUp σ 0 8 (5 : Int32)) (fun g1 =>
gLet (gUp g1 0 9 (20 : Int32)) (fun g2 =>
gLet (gUp g2 0 10 (0 : Int32)) (fun g3 =>
fX11_clears_18  gN (0 : Int32) g3 ))))
def fX11_comes (σ : Sg) (a0 : Int32) (a1 : Int32) (a2 : Int32) (a3 : Int32) (a4 : Int32) : Option Sg := (
gWr (σ 0 10) 8 σ 6 a0 (fun g2 =>
gWr (g2 0 10) 8 g2 7 a1 (fun g4 =>
gWr (g4 0 10) 8 g4 8 a2 (fun g6 =>
gWr (g6 0 10) 8 g6 9 a3 (fun g8 =>
gWr ((308 : Int32) + (g8 0 10)) 336 g8 10 a4 (fun g10 =>
gLet (gUp g10 0 10 ((g10 0 10) + (1 : Int32))) (fun g11 =>
some g11)))))))
def fX11_copies_2 (a0 : Int32) (a1 : Int32) : Nat → Int32 → Sg → Option Sg
  | 0, _, _ => none
  | n + 1, x1, g2 => (
if (28 : Int32) ≤ x1 then (
some g2)
else (
gRd (a0 + x1) 336 (g2 10) (fun x4 =>
gWr (a1 + x1) 336 g2 10 x4 (fun g7 =>
gLet (x1 + (1 : Int32)) (fun x8 =>
fX11_copies_2 a0 a1 n x8 g7 )))))
def fX11_copies (σ : Sg) (a0 : Int32) (a1 : Int32) : Option Sg := (
fX11_copies_2 a0 a1 gN (0 : Int32) σ )
def fX11_settles_26  : Nat → Int32 → Sg → (Sg → Option Sg) → Option Sg
  | 0, _, _, _ => none
  | n + 1, x5, g6, K4 => (
if (8 : Int32) ≤ x5 then (
K4  g6)
else (
gRd x5 8 (g6 6) (fun x8 =>
gWr x5 8 g6 1 x8 (fun g11 =>
gRd x5 8 (g11 7) (fun x12 =>
gWr x5 8 g11 2 x12 (fun g15 =>
gRd x5 8 (g15 8) (fun x16 =>
gWr x5 8 g15 3 x16 (fun g19 =>
gRd x5 8 (g19 9) (fun x20 =>
gWr x5 8 g19 4 x20 (fun g23 =>
gLet (x5 + (1 : Int32)) (fun x24 =>
fX11_settles_26  n x24 g23 K4)))))))))))
def fX11_settles_98 (x30 : Int32) : Nat → Int32 → Int32 → Sg → (Int32 → Sg → Option Sg) → Option Sg
  | 0, _, _, _, _ => none
  | n + 1, x34, x35, g36, K33 => (
if (g36 0 2) ≤ x35 then (
K33 x34 g36)
else (
gRd x35 8 (g36 3) (fun x38 =>
gLet (fun (x41 : Int32) (g42 : Sg) => (
gLet (x35 + (1 : Int32)) (fun x43 =>
fX11_settles_98 x30 n x41 x43 g42 K33)))
(fun (K40 : Int32 → Sg → Option Sg) =>
if x38 = x30 then (
gWr x34 8 g36 5 x35 (fun g46 =>
gLet (x34 + (1 : Int32)) (fun x47 =>
K40 x47 g46)))
else (
K40 x34 g36)))))
def fX11_settles_90  : Nat → Int32 → Int32 → Sg → (Sg → Option Sg) → Option Sg
  | 0, _, _, _, _ => none
  | n + 1, x29, x30, g31, K28 => (
if (20 : Int32) < x30 then (
K28  g31)
else (
fX11_settles_98 x30 gN x29 (0 : Int32) g31 (fun (x51 : Int32) (g52 : Sg) => (
gLet (x30 + (1 : Int32)) (fun x53 =>
fX11_settles_90  n x51 x53 g52 K28)))))
def fX11_settles (σ : Sg)  : Option Sg := (
gLet (gUp σ 0 0 (σ 0 8)) (fun g1 =>
gLet (gUp g1 0 1 (g1 0 9)) (fun g2 =>
gLet (gUp g2 0 2 (g2 0 10)) (fun g3 =>
fX11_settles_26  gN (0 : Int32) g3 (fun  (g27 : Sg) => (
fX11_settles_90  gN (0 : Int32) (0 : Int32) g27 (fun  (g56 : Sg) => (
gCv (fX11_copies g56 (308 : Int32) (0 : Int32)) (fun g58 =>
some g58)))))))))
def fX11_isStep (σ : Sg) (a0 : Int32) : Option (Int32 × Sg) := (
gCl (fX11_in σ (a0.toInt64) (0 : Int64) (((σ 0 0) - (1 : Int32)).toInt64)) (fun r3 g2 =>
gZ r3 (some (r3, g2))))
def fX11_isOne (σ : Sg) (a0 : Int32) : Option (Int32 × Sg) := (
gCl (fX11_in σ (a0.toInt64) (0 : Int64) (((σ 0 2) - (1 : Int32)).toInt64)) (fun r3 g2 =>
gZ r3 (some (r3, g2))))
def fX11_write (σ : Sg) (a0 : Int32) : Option (Int32 × Sg) := (
gCl (fX11_in σ (a0.toInt64) (32 : Int64) (126 : Int64)) (fun r3 g2 =>
if r3 = 0 then (
some ((-1 : Int32), g2))
else (
if (g2 0 18) = (200 : Int32) then (
some ((-3 : Int32), g2))
else (
gWr (g2 0 18) 200 g2 11 (vp_nar .byte (a0.toInt8.toInt32)) (fun g7 =>
gLet (gUp g7 0 18 ((g7 0 18) + (1 : Int32))) (fun g8 =>
some ((g8 0 18), g8)))))))
def fX11_wipe (σ : Sg)  : Option (Int32 × Sg) := (
gLet ((σ 0 18)) (fun x1 =>
gLet (gUp σ 0 18 (0 : Int32)) (fun g2 =>
some (x1, g2))))
def fX11_next (σ : Sg)  : Option (Int32 × Sg) := (
if (σ 0 18) ≤ (σ 0 20) then (
some ((-1 : Int32), σ))
else (
gRd (σ 0 20) 200 (σ 11) (fun x2 =>
some (x2, σ))))
def fX11_number_5  : Nat → Int32 → Int32 → Sg → (Int32 → Int32 → Sg → Option (Int32 × Sg)) → Option (Int32 × Sg)
  | 0, _, _, _, _ => none
  | n + 1, x2, x3, g4, K1 => (
gCl (fX11_next g4 ) (fun r7 g6 =>
gCl (fX11_in g6 (r7.toInt64) (48 : Int64) (57 : Int64)) (fun r10 g9 =>
if r10 = 0 then (
K1 x2 x3 g9)
else (
if (3 : Int32) ≤ x3 then (
K1 x2 x3 g9)
else (
gCl (fX11_next g9 ) (fun r15 g14 =>
gLet (((((10 : Int32) * x2) + r15) - (48 : Int32))) (fun x16 =>
gLet (x3 + (1 : Int32)) (fun x17 =>
gLet (gUp g14 0 20 ((g14 0 20) + (1 : Int32))) (fun g18 =>
fX11_number_5  n x16 x17 g18 K1)))))))))
def fX11_number (σ : Sg) (a0 : Int32) (a1 : Int32) : Option (Int32 × Sg) := (
fX11_number_5  gN (0 : Int32) (0 : Int32) σ (fun (x23 : Int32) (x24 : Int32) (g25 : Sg) => (
gLet (fun (x27 : Int32) (g28 : Sg) => (
gZ x27 (
gLet (gUp g28 0 22 x27) (fun g29 =>
if (g29 0 22) = 0 then (
some (x23, g29))
else (
some ((0 : Int32), g29))))))
(fun (K26 : Int32 → Sg → Option (Int32 × Sg)) =>
gLet (fun  (g33 : Sg) => (
K26 (1 : Int32) g33))
(fun (K32 : Sg → Option (Int32 × Sg)) =>
if (g25 0 22) = 0 then (
if x24 = 0 then (
K32  g25)
else (
if (2 : Int32) < x24 then (
K32  g25)
else (
gCl (fX11_in g25 (x23.toInt64) (a0.toInt64) (a1.toInt64)) (fun r39 g38 =>
if r39 = 0 then (
K32  g38)
else (
K26 (0 : Int32) g38)))))
else (
K32  g25))))))
def fX11_more (σ : Sg) (a0 : Int32) (a1 : Int32) : Option (Int32 × Sg) := (
gLet (fun (x2 : Int32) (g3 : Sg) => (
gZ x2 (
gLet (gUp g3 0 22 x2) (fun g4 =>
gLet (gUp g4 0 20 ((g4 0 20) + (1 : Int32))) (fun g6 =>
if (g6 0 22) = 0 then (
gCl (fX11_number g6 a0 a1) (fun r10 g9 =>
some (r10, g9)))
else (
some ((0 : Int32), g6)))))))
(fun (K1 : Int32 → Sg → Option (Int32 × Sg)) =>
gLet (fun  (g12 : Sg) => (
K1 (1 : Int32) g12))
(fun (K11 : Sg → Option (Int32 × Sg)) =>
if (σ 0 22) = 0 then (
gCl (fX11_next σ ) (fun r16 g15 =>
if r16 = (44 : Int32) then (
K1 (0 : Int32) g15)
else (
K11  g15)))
else (
K11  σ))))
def fX11_youngerItem (σ : Sg)  : Option Sg := (
gLet (fun (x2 : Int32) (g3 : Sg) => (
gZ x2 (
gLet (gUp g3 0 22 x2) (fun g4 =>
gLet (fun (x7 : Int32) (g8 : Sg) => (
gCl (fX11_more g8 (0 : Int32) ((g8 0 8) - (1 : Int32))) (fun r11 g10 =>
gCl (fX11_more g10 (0 : Int32) (20 : Int32)) (fun r14 g13 =>
gCl (fX11_more g13 (1 : Int32) (9 : Int32)) (fun r17 g16 =>
gCl (fX11_more g16 (1 : Int32) (20 : Int32)) (fun r20 g19 =>
if (g19 0 22) = 0 then (
gCv (fX11_comes g19 x7 r11 r14 r17 r20) (fun g23 =>
some g23))
else (
some g19)))))))
(fun (K6 : Int32 → Sg → Option Sg) =>
if (g4 0 22) = 0 then (
gCl (fX11_number g4 (0 : Int32) (3 : Int32)) (fun r27 g26 =>
K6 r27 g26))
else (
K6 (0 : Int32) g4))))))
(fun (K1 : Int32 → Sg → Option Sg) =>
if (σ 0 10) = (8 : Int32) then (
K1 (1 : Int32) σ)
else (
K1 (0 : Int32) σ)))
def fX11_item (σ : Sg) (a0 : Int32) (a1 : Int32) : Option (Int32 × Sg) := (
if a0 = (115 : Int32) then (
gLet (fun (x40 : Int32) (g41 : Sg) => (
gZ x40 (
gLet (gUp g41 0 22 x40) (fun g42 =>
gLet (fun (x45 : Int32) (g46 : Sg) => (
gLet (fun (x48 : Int32) (g49 : Sg) => (
gLet (gUp g49 0 8 x48) (fun g50 =>
some ((1 : Int32), g50))))
(fun (K47 : Int32 → Sg → Option (Int32 × Sg)) =>
if (g46 0 22) = 0 then (
K47 x45 g46)
else (
K47 (g46 0 8) g46))))
(fun (K44 : Int32 → Sg → Option (Int32 × Sg)) =>
if (g42 0 22) = 0 then (
gCl (fX11_number g42 (1 : Int32) (9 : Int32)) (fun r55 g54 =>
K44 r55 g54))
else (
K44 (0 : Int32) g42))))))
(fun (K39 : Int32 → Sg → Option (Int32 × Sg)) =>
if a1 = 0 then (
K39 (1 : Int32) σ)
else (
K39 (0 : Int32) σ)))
else (
if a0 = (121 : Int32) then (
gCv (fX11_youngerItem σ ) (fun g38 =>
some ((0 : Int32), g38)))
else (
gLet (fun  (g4 : Sg) => (
gCl (fX11_number g4 (0 : Int32) ((g4 0 8) - (1 : Int32))) (fun r7 g6 =>
gLet (fun (x9 : Int32) (g10 : Sg) => (
gCl (fX11_more g10 (0 : Int32) x9) (fun r13 g12 =>
gLet (fun (x15 : Int32) (g16 : Sg) => (
gLet (fun (x18 : Int32) (g19 : Sg) => (
gWr (((308 : Int32) + x15) + r7) 336 g19 10 x18 (fun g21 =>
some ((0 : Int32), g21))))
(fun (K17 : Int32 → Sg → Option (Int32 × Sg)) =>
if (g16 0 22) = 0 then (
K17 r13 g16)
else (
K17 (0 : Int32) g16))))
(fun (K14 : Int32 → Sg → Option (Int32 × Sg)) =>
if a0 = (107 : Int32) then (
K14 (18 : Int32) g12)
else (
K14 (9 : Int32) g12)))))
(fun (K8 : Int32 → Sg → Option (Int32 × Sg)) =>
if a0 = (107 : Int32) then (
K8 (9 : Int32) g6)
else (
K8 (40 : Int32) g6)))))
(fun (K3 : Sg → Option (Int32 × Sg)) =>
if a0 = (107 : Int32) then (
K3  σ)
else (
if a0 = (99 : Int32) then (
K3  σ)
else (
if a0 = (104 : Int32) then (
gCl (fX11_number σ (1 : Int32) (99 : Int32)) (fun r31 g30 =>
gLet (fun (x33 : Int32) (g34 : Sg) => (
gLet (gUp g34 0 9 x33) (fun g35 =>
some ((0 : Int32), g35))))
(fun (K32 : Int32 → Sg → Option (Int32 × Sg)) =>
if (g30 0 22) = 0 then (
K32 r31 g30)
else (
K32 (g30 0 9) g30))))
else (
gLet (gUp σ 0 22 (1 : Int32)) (fun g28 =>
some ((0 : Int32), g28)))))))))
def fX11_reads_16  : Nat → Int32 → Sg → (Sg → Option (Int32 × Sg)) → Option (Int32 × Sg)
  | 0, _, _, _ => none
  | n + 1, x6, g7, K5 => (
if (g7 0 18) ≤ (g7 0 20) then (
K5  g7)
else (
if (g7 0 22) = 0 then (
gLet (gUp g7 0 21 (g7 0 20)) (fun g10 =>
gCl (fX11_next g10 ) (fun r13 g12 =>
gLet (gUp g12 0 20 ((g12 0 20) + (1 : Int32))) (fun g14 =>
gCl (fX11_item g14 r13 x6) (fun r17 g16 =>
gLet (fun (x19 : Int32) (g20 : Sg) => (
gLet (fun (x22 : Int32) (g23 : Sg) => (
gZ x22 (
gLet (gUp g23 0 22 x22) (fun g24 =>
gLet (gUp g24 0 20 ((g24 0 20) + (1 : Int32))) (fun g26 =>
fX11_reads_16  n x19 g26 K5)))))
(fun (K21 : Int32 → Sg → Option (Int32 × Sg)) =>
gLet (fun  (g28 : Sg) => (
K21 (1 : Int32) g28))
(fun (K27 : Sg → Option (Int32 × Sg)) =>
if (g20 0 22) = 0 then (
gCl (fX11_next g20 ) (fun r32 g31 =>
if r32 = (59 : Int32) then (
K21 (0 : Int32) g31)
else (
K27  g31)))
else (
K27  g20)))))
(fun (K18 : Int32 → Sg → Option (Int32 × Sg)) =>
gLet (fun  (g35 : Sg) => (
K18 (0 : Int32) g35))
(fun (K34 : Sg → Option (Int32 × Sg)) =>
if r17 = 0 then (
K34  g16)
else (
if x6 = 0 then (
K34  g16)
else (
K18 (1 : Int32) g16)))))))))
else (
K5  g7)))
def fX11_reads (σ : Sg)  : Option (Int32 × Sg) := (
gCv (fX11_clears σ ) (fun g2 =>
gLet (gUp g2 0 20 (0 : Int32)) (fun g3 =>
gLet (gUp g3 0 22 (0 : Int32)) (fun g4 =>
fX11_reads_16  gN (1 : Int32) g4 (fun  (g40 : Sg) => (
if (g40 0 22) = 0 then (
some ((1 : Int32), g40))
else (
some ((0 : Int32), g40))))))))
def fX11_fault (σ : Sg)  : Option (Int32 × Sg) := (
gCl (fX11_reads σ ) (fun r3 g2 =>
if r3 = 0 then (
some ((g2 0 21), g2))
else (
some ((-4 : Int32), g2))))
def fX11_lay (σ : Sg)  : Option (Int32 × Sg) := (
gCl (fX11_reads σ ) (fun r3 g2 =>
if r3 = 0 then (
some ((-2 : Int32), g2))
else (
if (g2 0 10) = 0 then (
some ((-2 : Int32), g2))
else (
gCv (fX11_settles g2 ) (fun g7 =>
gLet (gUp g7 0 16 (0 : Int32)) (fun g8 =>
gLet (gUp g8 0 17 (0 : Int32)) (fun g9 =>
gLet (gUp g9 0 23 (0 : Int32)) (fun g10 =>
some ((g10 0 2), g10)))))))))
def fX11_wants (σ : Sg) (a0 : Int32) (a1 : Int32) : Option (Int32 × Sg) := (
gRd a0 8 (σ 4) (fun x1 =>
gRd a0 8 (σ 1) (fun x3 =>
if x3 = (1 : Int32) then (
some (((x1 / (2 : Int32)) + (1 : Int32)), σ))
else (
gRd a0 8 (σ 1) (fun x6 =>
if x6 = (2 : Int32) then (
some (((2 : Int32) * x1), σ))
else (
gRd a0 8 (σ 1) (fun x9 =>
if x9 = (3 : Int32) then (
if a1 = 0 then (
some (x1, σ))
else (
some ((0 : Int32), σ)))
else (
some (x1, σ)))))))))
def fX11_pours_16 (a0 : Int32) (a3 : Int32) (r3 : Int32) : Nat → Int32 → Int32 → Sg → Option (Int32 × Sg)
  | 0, _, _, _ => none
  | n + 1, x5, x6, g7 => (
if (g7 0 2) ≤ x6 then (
some (x5, g7))
else (
gRd x6 8 (g7 5) (fun x9 =>
gRd x9 8 (g7 2) (fun x11 =>
gLet (fun (x14 : Int32) (g15 : Sg) => (
gLet (x6 + (1 : Int32)) (fun x16 =>
fX11_pours_16 a0 a3 r3 n x14 x16 g15 )))
(fun (K13 : Int32 → Sg → Option (Int32 × Sg)) =>
if x11 = a0 then (
gCl (fX11_has g7 a3 x9) (fun r20 g19 =>
gLet (fun (x22 : Int32) (g23 : Sg) => (
gWr x9 8 g23 14 x22 (fun g25 =>
gRd x9 8 (g25 14) (fun x26 =>
gLet ((x5 - x26)) (fun x28 =>
K13 x28 g25)))))
(fun (K21 : Int32 → Sg → Option (Int32 × Sg)) =>
if r20 = 0 then (
K21 (0 : Int32) g19)
else (
gLet (fun (x31 : Int32) (g32 : Sg) => (
gCl (fX11_wants g32 x9 x31) (fun r35 g34 =>
gCl (fX11_smaller g34 x5 r35) (fun r38 g37 =>
K21 r38 g37))))
(fun (K30 : Int32 → Sg → Option (Int32 × Sg)) =>
if r3 ≤ 0 then (
K30 (0 : Int32) g19)
else (
K30 (1 : Int32) g19))))))
else (
K13 x5 g7))))))
def fX11_pours (σ : Sg) (a0 : Int32) (a1 : Int32) (a2 : Int32) (a3 : Int32) : Option (Int32 × Sg) := (
gCl (fX11_smaller σ a1 a2) (fun r3 g2 =>
gLet ((a1 - r3)) (fun x4 =>
fX11_pours_16 a0 a3 r3 gN x4 (0 : Int32) g2 )))
def fX11_thereAt_5 (a0 : Int32) (a1 : Int32) : Nat → Int32 → Int32 → Sg → Option (Int32 × Sg)
  | 0, _, _, _ => none
  | n + 1, x1, x2, g3 => (
if (g3 0 2) ≤ x2 then (
some (x1, g3))
else (
gRd x2 8 (g3 2) (fun x5 =>
gLet (fun (x8 : Int32) (g9 : Sg) => (
gLet ((x1 ||| x8)) (fun x10 =>
gLet (x2 + (1 : Int32)) (fun x11 =>
fX11_thereAt_5 a0 a1 n x10 x11 g9 ))))
(fun (K7 : Int32 → Sg → Option (Int32 × Sg)) =>
gLet (fun  (g13 : Sg) => (
K7 (0 : Int32) g13))
(fun (K12 : Sg → Option (Int32 × Sg)) =>
if x5 = a1 then (
gRd (a0 + x2) 336 (g3 10) (fun x15 =>
if x15 ≤ 0 then (
K12  g3)
else (
K7 ((1 : Int32) <<< (x2 &&& 31)) g3)))
else (
K12  g3))))))
def fX11_thereAt (σ : Sg) (a0 : Int32) (a1 : Int32) : Option (Int32 × Sg) := (
fX11_thereAt_5 a0 a1 gN (0 : Int32) (0 : Int32) σ )
def fX11_leftAt (σ : Sg) (a0 : Int32) (a1 : Int32) : Option (Int32 × Sg) := (
gRd ((a0 + (9 : Int32)) + a1) 336 (σ 10) (fun x1 =>
gRd ((a0 + (18 : Int32)) + a1) 336 (σ 10) (fun x3 =>
gCl (fX11_thereAt σ a0 a1) (fun r7 g6 =>
gRd (a0 + (8 : Int32)) 336 (g6 10) (fun x8 =>
gCl (fX11_pours g6 a1 x1 x3 (r7 &&& (x8 ^^^ (-1 : Int32)))) (fun r12 g11 =>
some (r12, g11)))))))
def fX11_step (σ : Sg) (a0 : Int32) (a1 : Int32) : Option (Int32 × Sg) := (
gCl (fX11_isStep σ a0) (fun r3 g2 =>
if r3 = 0 then (
some ((-1 : Int32), g2))
else (
gCl (fX11_in g2 (a1.toInt64) (0 : Int64) (3 : Int64)) (fun r7 g6 =>
if r7 = 0 then (
some ((-1 : Int32), g6))
else (
if a1 = 0 then (
gRd ((9 : Int32) + a0) 336 (g6 10) (fun x20 =>
some (x20, g6)))
else (
if a1 = (1 : Int32) then (
gRd ((18 : Int32) + a0) 336 (g6 10) (fun x18 =>
some (x18, g6)))
else (
if a1 = (2 : Int32) then (
gCl (fX11_leftAt g6 (0 : Int32) a0) (fun r17 g16 =>
some (r17, g16)))
else (
gCl (fX11_thereAt g6 (0 : Int32) a0) (fun r14 g13 =>
some (r14, g13))))))))))
def fX11_younger (σ : Sg) (a0 : Int32) (a1 : Int32) : Option (Int32 × Sg) := (
gCl (fX11_isOne σ a0) (fun r3 g2 =>
if r3 = 0 then (
some ((-1 : Int32), g2))
else (
gCl (fX11_in g2 (a1.toInt64) (0 : Int64) (6 : Int64)) (fun r7 g6 =>
if r7 = 0 then (
some ((-1 : Int32), g6))
else (
gRd a0 8 (g6 2) (fun x9 =>
gCl (fX11_leftAt g6 (0 : Int32) x9) (fun r13 g12 =>
if a1 = 0 then (
gRd a0 8 (g12 1) (fun x33 =>
some (x33, g12)))
else (
if a1 = (1 : Int32) then (
gRd a0 8 (g12 2) (fun x31 =>
some (x31, g12)))
else (
if a1 = (2 : Int32) then (
gRd a0 8 (g12 3) (fun x29 =>
some (x29, g12)))
else (
if a1 = (3 : Int32) then (
gRd a0 8 (g12 4) (fun x27 =>
some (x27, g12)))
else (
if a1 = (4 : Int32) then (
gRd a0 336 (g12 10) (fun x25 =>
some (x25, g12)))
else (
if a1 = (5 : Int32) then (
gRd (8 : Int32) 336 (g12 10) (fun x23 =>
some (((x23 >>> (a0 &&& 31)) &&& (1 : Int32)), g12)))
else (
if 0 ≤ r13 then (
gRd a0 8 (g12 14) (fun x21 =>
some (x21, g12)))
else (
some ((0 : Int32), g12)))))))))))))))
def fX11_wellThen (σ : Sg) (a0 : Int32) (a1 : Int32) (a2 : Int32) (a3 : Int32) (a4 : Int32) : Option (Int32 × Sg) := (
if 0 < a1 then (
gRd a0 8 (σ 1) (fun x2 =>
gLet (fun (x5 : Int32) (g6 : Sg) => (
gLet (fun (x8 : Int32) (g9 : Sg) => (
gLet (fun  (g11 : Sg) => (
gCl (fX11_larger g11 (0 : Int32) (a1 - x8)) (fun r14 g13 =>
some (r14, g13))))
(fun (K10 : Sg → Option (Int32 × Sg)) =>
if a3 = 0 then (
if a2 < x5 then (
K10  g9)
else (
gCl (fX11_smaller g9 (20 : Int32) (a1 + (1 : Int32))) (fun r19 g18 =>
some (r19, g18))))
else (
K10  g9))))
(fun (K7 : Int32 → Sg → Option (Int32 × Sg)) =>
gLet (fun  (g21 : Sg) => (
K7 (1 : Int32) g21))
(fun (K20 : Sg → Option (Int32 × Sg)) =>
if a3 = 0 then (
gRd a0 8 (g6 1) (fun x23 =>
if x23 = (1 : Int32) then (
K20  g6)
else (
gRd a0 8 (g6 4) (fun x26 =>
K7 (x26 - a2) g6))))
else (
K20  g6)))))
(fun (K4 : Int32 → Sg → Option (Int32 × Sg)) =>
if x2 = (1 : Int32) then (
gCl (fX11_wants σ a0 a4) (fun r33 g32 =>
K4 r33 g32))
else (
gRd a0 8 (σ 4) (fun x29 =>
K4 x29 σ)))))
else (
some ((0 : Int32), σ)))
def fX11_goesOn_112 (a0 : Int32) (x17 : Int32) (x3 : Int32) (x9 : Int32) : Nat → Int32 → Sg → (Sg → Option (Int32 × Sg)) → Option (Int32 × Sg)
  | 0, _, _, _ => none
  | n + 1, x29, g30, K28 => (
if (g30 0 2) ≤ x29 then (
K28  g30)
else (
gRd x29 8 (g30 2) (fun x32 =>
gLet (fun  (g35 : Sg) => (
gLet (x29 + (1 : Int32)) (fun x36 =>
fX11_goesOn_112 a0 x17 x3 x9 n x36 g35 K28)))
(fun (K34 : Sg → Option (Int32 × Sg)) =>
if x32 = x3 then (
gRd (a0 + x29) 336 (g30 10) (fun x38 =>
gRd x29 8 (g30 14) (fun x40 =>
gCl (fX11_has g30 x9 x29) (fun r44 g43 =>
gCl (fX11_wellThen g43 x29 x38 x40 r44 x17) (fun r47 g46 =>
gWr (a0 + x29) 336 g46 10 r47 (fun g49 =>
K34  g49))))))
else (
K34  g30)))))
def fX11_goesOn_5 (a0 : Int32) (a1 : Int32) : Nat → Int32 → Int32 → Sg → (Int32 → Sg → Option (Int32 × Sg)) → Option (Int32 × Sg)
  | 0, _, _, _, _ => none
  | n + 1, x2, x3, g4, K1 => (
if (g4 0 0) ≤ x3 then (
K1 x2 g4)
else (
gLet (fun (x7 : Int32) (g8 : Sg) => (
gRd (a0 + (8 : Int32)) 336 (g8 10) (fun x9 =>
gRd ((a0 + (18 : Int32)) + x3) 336 (g8 10) (fun x11 =>
gCl (fX11_smaller g8 x7 x11) (fun r15 g14 =>
gLet (fun (x17 : Int32) (g18 : Sg) => (
gRd ((a0 + (18 : Int32)) + x3) 336 (g18 10) (fun x19 =>
gCl (fX11_thereAt g18 a0 x3) (fun r23 g22 =>
gCl (fX11_pours g22 x3 x7 x19 (r23 &&& (x9 ^^^ (-1 : Int32)))) (fun r26 g25 =>
gLet ((x2 + r26)) (fun x27 =>
fX11_goesOn_112 a0 x17 x3 x9 gN (0 : Int32) g25 (fun  (g52 : Sg) => (
gLet (x3 + (1 : Int32)) (fun x53 =>
fX11_goesOn_5 a0 a1 n x27 x53 g52 K1)))))))))
(fun (K16 : Int32 → Sg → Option (Int32 × Sg)) =>
if r15 ≤ 0 then (
K16 (0 : Int32) g14)
else (
K16 (1 : Int32) g14)))))))
(fun (K6 : Int32 → Sg → Option (Int32 × Sg)) =>
if a1 = 0 then (
gRd ((a0 + (9 : Int32)) + x3) 336 (g4 10) (fun x56 =>
K6 x56 g4))
else (
K6 (0 : Int32) g4))))
def fX11_goesOn (σ : Sg) (a0 : Int32) (a1 : Int32) : Option (Int32 × Sg) := (
fX11_goesOn_5 a0 a1 gN (0 : Int32) (0 : Int32) σ (fun (x61 : Int32) (g62 : Sg) => (
gRd (a0 + (27 : Int32)) 336 (g62 10) (fun x63 =>
gWr (a0 + (27 : Int32)) 336 g62 10 (x63 + (1 : Int32)) (fun g66 =>
some (x61, g66))))))
def fX11_known_12  : Nat → Int32 → Sg → (Sg → Option Sg) → Option Sg
  | 0, _, _, _ => none
  | n + 1, x8, g9, K7 => (
if (224 : Int32) ≤ x8 then (
K7  g9)
else (
gRd (x8 + (28 : Int32)) 336 (g9 10) (fun x11 =>
gWr x8 336 g9 10 x11 (fun g14 =>
gLet (x8 + (1 : Int32)) (fun x15 =>
fX11_known_12  n x15 g14 K7)))))
def fX11_known (σ : Sg)  : Option Sg := (
gLet (fun  (g2 : Sg) => (
gLet (gUp g2 0 16 ((g2 0 16) + (1 : Int32))) (fun g3 =>
gCv (fX11_copies g3 (0 : Int32) ((g3 0 16) * (28 : Int32))) (fun g5 =>
some g5))))
(fun (K1 : Sg → Option Sg) =>
if (σ 0 16) = (8 : Int32) then (
fX11_known_12  gN (28 : Int32) σ (fun  (g18 : Sg) => (
gLet (gUp g18 0 16 (7 : Int32)) (fun g19 =>
K1  g19))))
else (
K1  σ)))
def fX11_pass_22 (a0 : Int32) : Nat → Int32 → Int32 → Sg → (Int32 → Sg → Option (Int32 × Sg)) → Option (Int32 × Sg)
  | 0, _, _, _, _ => none
  | n + 1, x8, x9, g10, K7 => (
if a0 ≤ x9 then (
K7 x8 g10)
else (
gCl (fX11_goesOn g10 (0 : Int32) (0 : Int32)) (fun r14 g13 =>
gLet ((x8 + r14)) (fun x15 =>
gLet (x9 + (1 : Int32)) (fun x16 =>
fX11_pass_22 a0 n x15 x16 g13 K7)))))
def fX11_pass (σ : Sg) (a0 : Int32) : Option (Int32 × Sg) := (
gCl (fX11_in σ (a0.toInt64) (1 : Int64) (20 : Int64)) (fun r3 g2 =>
if r3 = 0 then (
some ((-1 : Int32), g2))
else (
gCv (fX11_known g2 ) (fun g6 =>
fX11_pass_22 a0 gN (0 : Int32) (0 : Int32) g6 (fun (x20 : Int32) (g21 : Sg) => (
if 0 ≤ x20 then (
gRd (27 : Int32) 336 (g21 10) (fun x23 =>
some (x23, g21)))
else (
some ((-4 : Int32), g21))))))))
def fX11_put (σ : Sg) (a0 : Int32) (a1 : Int32) : Option (Int32 × Sg) := (
gCl (fX11_isStep σ a0) (fun r3 g2 =>
if r3 = 0 then (
some ((-1 : Int32), g2))
else (
gCl (fX11_in g2 (a1.toInt64) (0 : Int64) (40 : Int64)) (fun r7 g6 =>
if r7 = 0 then (
some ((-1 : Int32), g6))
else (
gCv (fX11_known g6 ) (fun g10 =>
gRd ((9 : Int32) + a0) 336 (g10 10) (fun x11 =>
gWr ((9 : Int32) + a0) 336 g10 10 a1 (fun g14 =>
some (x11, g14)))))))))
def fX11_bits_4 (a0 : Int32) : Nat → Int32 → Int32 → Sg → Option (Int32 × Sg)
  | 0, _, _, _ => none
  | n + 1, x1, x2, g3 => (
if (9 : Int32) ≤ x2 then (
some (x1, g3))
else (
gLet ((x1 + ((a0 >>> (x2 &&& 31)) &&& (1 : Int32)))) (fun x5 =>
gLet (x2 + (1 : Int32)) (fun x6 =>
fX11_bits_4 a0 n x5 x6 g3 ))))
def fX11_bits (σ : Sg) (a0 : Int32) : Option (Int32 × Sg) := (
fX11_bits_4 a0 gN (0 : Int32) (0 : Int32) σ )
def fX11_quarrel (σ : Sg) (a0 : Int32) (a1 : Int32) : Option (Int32 × Sg) := (
gCl (fX11_isOne σ a0) (fun r3 g2 =>
if r3 = 0 then (
some ((-1 : Int32), g2))
else (
gCl (fX11_in g2 (a1.toInt64) (0 : Int64) (1 : Int64)) (fun r7 g6 =>
if r7 = 0 then (
some ((-1 : Int32), g6))
else (
gRd a0 336 (g6 10) (fun x9 =>
if x9 = 0 then (
some ((-2 : Int32), g6))
else (
gRd (8 : Int32) 336 (g6 10) (fun x12 =>
if ((x12 >>> (a0 &&& 31)) &&& (1 : Int32)) = a1 then (
some ((-2 : Int32), g6))
else (
gCv (fX11_known g6 ) (fun g16 =>
gRd (8 : Int32) 336 (g16 10) (fun x17 =>
gWr (8 : Int32) 336 g16 10 (x17 ^^^ ((1 : Int32) <<< (a0 &&& 31))) (fun g20 =>
gRd (8 : Int32) 336 (g20 10) (fun x21 =>
gCl (fX11_bits g20 x21) (fun r25 g24 =>
some (r25, g24)))))))))))))))
def fX11_cats (σ : Sg) (a0 : Int32) (a1 : Int32) : Option (Int32 × Sg) := (
gCl (fX11_isStep σ a0) (fun r3 g2 =>
if r3 = 0 then (
some ((-1 : Int32), g2))
else (
gCl (fX11_in g2 (a1.toInt64) (0 : Int64) (9 : Int64)) (fun r7 g6 =>
if r7 = 0 then (
some ((-1 : Int32), g6))
else (
gCv (fX11_known g6 ) (fun g10 =>
gRd ((18 : Int32) + a0) 336 (g10 10) (fun x11 =>
gWr ((18 : Int32) + a0) 336 g10 10 a1 (fun g14 =>
some (x11, g14)))))))))
def fX11_undo (σ : Sg)  : Option (Int32 × Sg) := (
if (σ 0 16) = 0 then (
some ((-2 : Int32), σ))
else (
gCv (fX11_copies σ ((σ 0 16) * (28 : Int32)) (0 : Int32)) (fun g3 =>
gLet (gUp g3 0 16 ((g3 0 16) - (1 : Int32))) (fun g4 =>
some ((g4 0 16), g4)))))
def fX11_tries_4 (a0 : Int32) : Nat → Int32 → Int32 → Sg → Option Sg
  | 0, _, _, _ => none
  | n + 1, x1, x2, g3 => (
if a0 ≤ x2 then (
some g3)
else (
if x1 < 0 then (
some g3)
else (
gCl (fX11_goesOn g3 (308 : Int32) (0 : Int32)) (fun r8 g7 =>
gLet ((x1 + r8)) (fun x9 =>
gLet (x2 + (1 : Int32)) (fun x10 =>
fX11_tries_4 a0 n x9 x10 g7 ))))))
def fX11_tries (σ : Sg) (a0 : Int32) : Option Sg := (
fX11_tries_4 a0 gN (0 : Int32) (0 : Int32) σ )
def fX11_behind (σ : Sg) (a0 : Int32) (a1 : Int32) : Option (Int32 × Sg) := (
gCl (fX11_in σ (a0.toInt64) (0 : Int64) (30 : Int64)) (fun r3 g2 =>
if r3 = 0 then (
some ((-1 : Int32), g2))
else (
gCl (fX11_isOne g2 a1) (fun r7 g6 =>
if r7 = 0 then (
some ((-1 : Int32), g6))
else (
gCv (fX11_copies g6 (0 : Int32) (308 : Int32)) (fun g10 =>
gCv (fX11_tries g10 a0) (fun g12 =>
gRd ((308 : Int32) + a1) 336 (g12 10) (fun x13 =>
some (x13, g12)))))))))
def fX11_goes_20 (a0 : Int32) : Nat → Int32 → Sg → Option (Int32 × Sg)
  | 0, _, _ => none
  | n + 1, x7, g8 => (
if (60 : Int32) < x7 then (
some ((-4 : Int32), g8))
else (
gRd ((308 : Int32) + a0) 336 (g8 10) (fun x10 =>
if x10 = 0 then (
some (x7, g8))
else (
gCv (fX11_tries g8 (1 : Int32)) (fun g14 =>
gLet (x7 + (1 : Int32)) (fun x15 =>
fX11_goes_20 a0 n x15 g14 ))))))
def fX11_goes (σ : Sg) (a0 : Int32) : Option (Int32 × Sg) := (
gCl (fX11_isOne σ a0) (fun r3 g2 =>
if r3 = 0 then (
some ((-1 : Int32), g2))
else (
gCv (fX11_copies g2 (0 : Int32) (308 : Int32)) (fun g6 =>
fX11_goes_20 a0 gN (0 : Int32) g6 ))))
def fX11_staysAt (σ : Sg) (a0 : Int32) (a1 : Int32) (a2 : Int32) : Option (Int32 × Sg) := (
gCv (fX11_copies σ (0 : Int32) (308 : Int32)) (fun g2 =>
gWr ((317 : Int32) + a0) 336 g2 10 a1 (fun g4 =>
gCv (fX11_tries g4 a2) (fun g6 =>
gCl (fX11_thereAt g6 (308 : Int32) a0) (fun r9 g8 =>
some (r9, g8))))))
def fX11_least_32 (a0 : Int32) (a1 : Int32) (r11 : Int32) : Nat → Int32 → Sg → Option (Int32 × Sg)
  | 0, _, _ => none
  | n + 1, x12, g13 => (
if (40 : Int32) < x12 then (
some ((-4 : Int32), g13))
else (
gCl (fX11_staysAt g13 a0 x12 a1) (fun r17 g16 =>
if r17 = r11 then (
some (x12, g16))
else (
gLet (x12 + (1 : Int32)) (fun x19 =>
fX11_least_32 a0 a1 r11 n x19 g16 )))))
def fX11_least (σ : Sg) (a0 : Int32) (a1 : Int32) : Option (Int32 × Sg) := (
gCl (fX11_isStep σ a0) (fun r3 g2 =>
if r3 = 0 then (
some ((-1 : Int32), g2))
else (
gCl (fX11_in g2 (a1.toInt64) (1 : Int64) (20 : Int64)) (fun r7 g6 =>
if r7 = 0 then (
some ((-1 : Int32), g6))
else (
gCl (fX11_thereAt g6 (0 : Int32) a0) (fun r11 g10 =>
fX11_least_32 a0 a1 r11 gN (0 : Int32) g10 ))))))
def fX11_load (σ : Sg) (a0 : Int32) : Option (Int32 × Sg) := (
gRd ((9 : Int32) + a0) 336 (σ 10) (fun x1 =>
gCl (fX11_smaller σ (σ 0 1) x1) (fun r5 g4 =>
some (r5, g4))))
def fX11_journey_7 (a0 : Int32) : Nat → Int32 → Int32 → Int32 → Sg → (Int32 → Int32 → Sg → Option (Int32 × Sg)) → Option (Int32 × Sg)
  | 0, _, _, _, _, _ => none
  | n + 1, x2, x3, x4, g5, K1 => (
if (g5 0 0) ≤ x4 then (
K1 x2 x3 g5)
else (
gCl (fX11_has g5 a0 x4) (fun r9 g8 =>
gLet (fun (x11 : Int32) (g12 : Sg) => (
gLet ((x2 + x11)) (fun x13 =>
gCl (fX11_has g12 a0 x4) (fun r16 g15 =>
gLet (fun (x18 : Int32) (g19 : Sg) => (
gLet (x4 + (1 : Int32)) (fun x20 =>
fX11_journey_7 a0 n x13 x18 x20 g19 K1)))
(fun (K17 : Int32 → Sg → Option (Int32 × Sg)) =>
if r16 = 0 then (
K17 x3 g15)
else (
K17 (x4 + (1 : Int32)) g15))))))
(fun (K10 : Int32 → Sg → Option (Int32 × Sg)) =>
if r9 = 0 then (
K10 (0 : Int32) g8)
else (
gCl (fX11_load g8 x4) (fun r25 g24 =>
K10 r25 g24))))))
def fX11_journey (σ : Sg) (a0 : Int32) : Option (Int32 × Sg) := (
fX11_journey_7 a0 gN (0 : Int32) (0 : Int32) (0 : Int32) σ (fun (x30 : Int32) (x31 : Int32) (g32 : Sg) => (
if x30 ≤ (g32 0 1) then (
some (((2 : Int32) * x31), g32))
else (
some ((-4 : Int32), g32)))))
def fX11_round_4  : Nat → Int32 → Int32 → Sg → (Int32 → Sg → Option (Int32 × Sg)) → Option (Int32 × Sg)
  | 0, _, _, _, _ => none
  | n + 1, x2, x3, g4, K1 => (
if (g4 0 0) ≤ x3 then (
K1 x2 g4)
else (
gRd ((9 : Int32) + x3) 336 (g4 10) (fun x6 =>
gLet (fun (x9 : Int32) (g10 : Sg) => (
gLet ((x2 ||| x9)) (fun x11 =>
gLet (x3 + (1 : Int32)) (fun x12 =>
fX11_round_4  n x11 x12 g10 K1))))
(fun (K8 : Int32 → Sg → Option (Int32 × Sg)) =>
if x6 ≤ 0 then (
K8 (0 : Int32) g4)
else (
K8 ((1 : Int32) <<< (x3 &&& 31)) g4)))))
def fX11_round_68 (x19 : Int32) : Nat → Int32 → Sg → (Sg → Option (Int32 × Sg)) → Option (Int32 × Sg)
  | 0, _, _, _ => none
  | n + 1, x31, g32, K30 => (
if x31 ≤ 0 then (
K30  g32)
else (
gCl (fX11_journey g32 x31) (fun r36 g35 =>
gLet (fun (x38 : Int32) (g39 : Sg) => (
gWr x19 512 g39 15 x38 (fun g41 =>
gLet (((x31 - (1 : Int32)) &&& x19)) (fun x42 =>
fX11_round_68 x19 n x42 g41 K30))))
(fun (K37 : Int32 → Sg → Option (Int32 × Sg)) =>
if 0 ≤ r36 then (
gRd x19 512 (g35 15) (fun x44 =>
gRd (x19 &&& (x31 ^^^ (-1 : Int32))) 512 (g35 15) (fun x46 =>
gCl (fX11_smaller g35 x44 (x46 + r36)) (fun r50 g49 =>
K37 r50 g49))))
else (
gRd x19 512 (g35 15) (fun x51 =>
K37 x51 g35))))))
def fX11_round_42 (x17 : Int32) : Nat → Int32 → Sg → Option (Int32 × Sg)
  | 0, _, _ => none
  | n + 1, x19, g20 => (
if x17 < x19 then (
gRd x17 512 (g20 15) (fun x22 =>
some (x22, g20)))
else (
gLet (fun (x25 : Int32) (g26 : Sg) => (
gWr x19 512 g26 15 x25 (fun g28 =>
gLet ((x19 &&& x17)) (fun x29 =>
fX11_round_68 x19 gN x29 g28 (fun  (g55 : Sg) => (
gLet (x19 + (1 : Int32)) (fun x56 =>
fX11_round_42 x17 n x56 g55 )))))))
(fun (K24 : Int32 → Sg → Option (Int32 × Sg)) =>
if x19 = 0 then (
K24 (0 : Int32) g20)
else (
K24 (9999 : Int32) g20))))
def fX11_round (σ : Sg)  : Option (Int32 × Sg) := (
fX11_round_4  gN (0 : Int32) (0 : Int32) σ (fun (x17 : Int32) (g18 : Sg) => (
fX11_round_42 x17 gN (0 : Int32) g18 )))
def fX11_keepsBy_2 (a1 : Int32) : Nat → Int32 → Sg → (Sg → Option Sg) → Option Sg
  | 0, _, _, _ => none
  | n + 1, x2, g3, K1 => (
if ((10 : Int32) * (g3 0 0)) ≤ x2 then (
K1  g3)
else (
gCl (fX11_staysAt g3 (x2 / (10 : Int32)) (x2 - x2 / (10 : Int32) * (10 : Int32)) a1) (fun r9 g8 =>
gCl (fX11_bits g8 r9) (fun r12 g11 =>
gWr x2 90 g11 16 r12 (fun g14 =>
gLet (x2 + (1 : Int32)) (fun x15 =>
fX11_keepsBy_2 a1 n x15 g14 K1))))))
def fX11_keepsBy_43 (a0 : Int32) : Nat → Int32 → Sg → (Sg → Option Sg) → Option Sg
  | 0, _, _, _ => none
  | n + 1, x20, g21, K19 => (
if a0 < x20 then (
K19  g21)
else (
gWr (((100 : Int32) * (g21 0 0)) + x20) 1000 g21 17 (0 : Int32) (fun g24 =>
gWr (((100 : Int32) * (g24 0 0)) + x20) 1000 g24 18 (0 : Int32) (fun g26 =>
gLet (x20 + (1 : Int32)) (fun x27 =>
fX11_keepsBy_43 a0 n x27 g26 K19)))))
def fX11_keepsBy_124 (x32 : Int32) (x36 : Int32) (x39 : Int32) : Nat → Int32 → Sg → (Sg → Option Sg) → Option Sg
  | 0, _, _, _ => none
  | n + 1, x43, g44, K42 => (
gCl (fX11_smaller g44 (9 : Int32) x36) (fun r47 g46 =>
if r47 < x43 then (
K42  g46)
else (
gLet (((x39 + (100 : Int32)) - x43)) (fun x49 =>
gRd (((10 : Int32) * x32) + x43) 90 (g46 16) (fun x50 =>
gRd x49 1000 (g46 17) (fun x52 =>
gLet ((x50 + x52)) (fun x54 =>
gRd x49 1000 (g46 18) (fun x55 =>
gLet ((x43 + x55)) (fun x57 =>
gRd x39 1000 (g46 17) (fun x58 =>
gLet (fun (x61 : Int32) (g62 : Sg) => (
gLet (fun (x64 : Int32) (g65 : Sg) => (
gWr x39 1000 g65 18 x64 (fun g67 =>
gLet (fun (x69 : Int32) (g70 : Sg) => (
gWr x39 1000 g70 17 x69 (fun g72 =>
gLet (x43 + (1 : Int32)) (fun x73 =>
fX11_keepsBy_124 x32 x36 x39 n x73 g72 K42))))
(fun (K68 : Int32 → Sg → Option Sg) =>
if x61 = 0 then (
gRd x39 1000 (g67 17) (fun x75 =>
K68 x75 g67))
else (
K68 x54 g67)))))
(fun (K63 : Int32 → Sg → Option Sg) =>
if x61 = 0 then (
gRd x39 1000 (g62 18) (fun x78 =>
K63 x78 g62))
else (
K63 x57 g62))))
(fun (K60 : Int32 → Sg → Option Sg) =>
gLet (fun  (g81 : Sg) => (
K60 (1 : Int32) g81))
(fun (K80 : Sg → Option Sg) =>
if x58 < x54 then (
K80  g46)
else (
gRd x39 1000 (g46 17) (fun x83 =>
gLet (fun  (g86 : Sg) => (
K60 (0 : Int32) g86))
(fun (K85 : Sg → Option Sg) =>
if x54 = x83 then (
gRd x39 1000 (g46 18) (fun x88 =>
if x88 ≤ x57 then (
K85  g46)
else (
K80  g46)))
else (
K85  g46))))))))))))))))
def fX11_keepsBy_98 (a0 : Int32) (x32 : Int32) : Nat → Int32 → Sg → (Sg → Option Sg) → Option Sg
  | 0, _, _, _ => none
  | n + 1, x36, g37, K35 => (
if a0 < x36 then (
K35  g37)
else (
gLet ((((100 : Int32) * x32) + x36)) (fun x39 =>
gWr x39 1000 g37 17 (-1 : Int32) (fun g41 =>
fX11_keepsBy_124 x32 x36 x39 gN (0 : Int32) g41 (fun  (g93 : Sg) => (
gLet (x36 + (1 : Int32)) (fun x94 =>
fX11_keepsBy_98 a0 x32 n x94 g93 K35)))))))
def fX11_keepsBy_91 (a0 : Int32) : Nat → Int32 → Sg → Option Sg
  | 0, _, _ => none
  | n + 1, x32, g33 => (
if x32 < 0 then (
some g33)
else (
fX11_keepsBy_98 a0 x32 gN (0 : Int32) g33 (fun  (g97 : Sg) => (
gLet (x32 + (-1 : Int32)) (fun x98 =>
fX11_keepsBy_91 a0 n x98 g97 )))))
def fX11_keepsBy (σ : Sg) (a0 : Int32) (a1 : Int32) : Option Sg := (
fX11_keepsBy_2 a1 gN (0 : Int32) σ (fun  (g18 : Sg) => (
fX11_keepsBy_43 a0 gN (0 : Int32) g18 (fun  (g30 : Sg) => (
gLet (((g30 0 0) - (1 : Int32))) (fun x31 =>
fX11_keepsBy_91 a0 gN x31 g30 ))))))
def fX11_best_78 (x17 : Int32) (x20 : Int32) : Nat → Int32 → Sg → (Int32 → Sg → Option (Int32 × Sg)) → Option (Int32 × Sg)
  | 0, _, _, _ => none
  | n + 1, x22, g23, K21 => (
gRd (((10 : Int32) * x17) + x22) 90 (g23 16) (fun x24 =>
gRd ((x20 + (100 : Int32)) - x22) 1000 (g23 17) (fun x26 =>
gRd x20 1000 (g23 17) (fun x28 =>
gLet (fun  (g31 : Sg) => (
gLet (x22 + (1 : Int32)) (fun x32 =>
fX11_best_78 x17 x20 n x32 g31 K21)))
(fun (K30 : Sg → Option (Int32 × Sg)) =>
if (x24 + x26) = x28 then (
gRd ((x20 + (100 : Int32)) - x22) 1000 (g23 18) (fun x34 =>
gRd x20 1000 (g23 18) (fun x36 =>
if (x22 + x34) = x36 then (
K21 x22 g23)
else (
K30  g23))))
else (
K30  g23))))))
def fX11_best_56  : Nat → Int32 → Int32 → Sg → (Sg → Option (Int32 × Sg)) → Option (Int32 × Sg)
  | 0, _, _, _, _ => none
  | n + 1, x16, x17, g18, K15 => (
if (g18 0 0) ≤ x17 then (
K15  g18)
else (
gLet ((((100 : Int32) * x17) + x16)) (fun x20 =>
fX11_best_78 x17 x20 gN (0 : Int32) g18 (fun (x42 : Int32) (g43 : Sg) => (
gWr x17 9 g43 19 x42 (fun g45 =>
gLet ((x16 - x42)) (fun x46 =>
gLet (x17 + (1 : Int32)) (fun x47 =>
fX11_best_56  n x46 x47 g45 K15))))))))
def fX11_best (σ : Sg) (a0 : Int32) (a1 : Int32) (a2 : Int32) : Option (Int32 × Sg) := (
gCl (fX11_in σ (a0.toInt64) (0 : Int64) (99 : Int64)) (fun r3 g2 =>
if r3 = 0 then (
some ((-1 : Int32), g2))
else (
gCl (fX11_in g2 (a1.toInt64) (1 : Int64) (20 : Int64)) (fun r7 g6 =>
if r7 = 0 then (
some ((-1 : Int32), g6))
else (
gCl (fX11_in g6 (a2.toInt64) (-1 : Int64) (((g6 0 0) - (1 : Int32)).toInt64)) (fun r11 g10 =>
if r11 = 0 then (
some ((-1 : Int32), g10))
else (
gCv (fX11_keepsBy g10 a0 a1) (fun g14 =>
fX11_best_56  gN a0 (0 : Int32) g14 (fun  (g50 : Sg) => (
if 0 ≤ a2 then (
gRd a2 9 (g50 19) (fun x52 =>
some (x52, g50)))
else (
gRd a0 1000 (g50 17) (fun x54 =>
some (x54, g50)))))))))))))
def fX11_alive_4 (a0 : Int32) : Nat → Int32 → Int32 → Sg → Option (Int32 × Sg)
  | 0, _, _, _ => none
  | n + 1, x1, x2, g3 => (
if (g3 0 2) ≤ x2 then (
some (x1, g3))
else (
gRd (a0 + x2) 336 (g3 10) (fun x5 =>
gLet (fun (x8 : Int32) (g9 : Sg) => (
gLet ((x1 + x8)) (fun x10 =>
gLet (x2 + (1 : Int32)) (fun x11 =>
fX11_alive_4 a0 n x10 x11 g9 ))))
(fun (K7 : Int32 → Sg → Option (Int32 × Sg)) =>
if x5 ≤ 0 then (
K7 (0 : Int32) g3)
else (
K7 (1 : Int32) g3)))))
def fX11_alive (σ : Sg) (a0 : Int32) : Option (Int32 × Sg) := (
fX11_alive_4 a0 gN (0 : Int32) (0 : Int32) σ )
def fX11_help_20  : Nat → Int32 → Int32 → Int32 → Sg → (Int32 → Int32 → Sg → Option (Int32 × Sg)) → Option (Int32 × Sg)
  | 0, _, _, _, _, _ => none
  | n + 1, x6, x7, x8, g9, K5 => (
if (g9 0 2) ≤ x8 then (
K5 x6 x7 g9)
else (
gRd x8 336 (g9 10) (fun x11 =>
gLet (fun (x14 : Int32) (x15 : Int32) (g16 : Sg) => (
gLet (x8 + (1 : Int32)) (fun x17 =>
fX11_help_20  n x14 x15 x17 g16 K5)))
(fun (K13 : Int32 → Int32 → Sg → Option (Int32 × Sg)) =>
if x11 ≤ 0 then (
K13 x6 x7 g9)
else (
gRd (8 : Int32) 336 (g9 10) (fun x19 =>
gCl (fX11_has g9 x19 x8) (fun r23 g22 =>
if r23 = 0 then (
gCv (fX11_copies g22 (0 : Int32) (308 : Int32)) (fun g26 =>
gRd (316 : Int32) 336 (g26 10) (fun x27 =>
gWr (316 : Int32) 336 g26 10 (x27 ||| ((1 : Int32) <<< (x8 &&& 31))) (fun g30 =>
gCv (fX11_tries g30 (10 : Int32)) (fun g32 =>
gCl (fX11_alive g32 (308 : Int32)) (fun r35 g34 =>
gRd ((308 : Int32) + x8) 336 (g34 10) (fun x36 =>
gLet (fun (x39 : Int32) (g40 : Sg) => (
gLet ((r35 - x39)) (fun x41 =>
gLet (fun (x43 : Int32) (g44 : Sg) => (
gCl (fX11_larger g44 x7 x41) (fun r47 g46 =>
K13 x43 r47 g46)))
(fun (K42 : Int32 → Sg → Option (Int32 × Sg)) =>
if x41 ≤ x7 then (
K42 x6 g40)
else (
K42 x8 g40)))))
(fun (K38 : Int32 → Sg → Option (Int32 × Sg)) =>
if x36 ≤ 0 then (
K38 (0 : Int32) g34)
else (
K38 (1 : Int32) g34)))))))))
else (
K13 x6 x7 g22))))))))
def fX11_help (σ : Sg) (a0 : Int32) : Option (Int32 × Sg) := (
gCl (fX11_in σ (a0.toInt64) (0 : Int64) (1 : Int64)) (fun r3 g2 =>
if r3 = 0 then (
some ((-1 : Int32), g2))
else (
fX11_help_20  gN (-4 : Int32) (-1 : Int32) (0 : Int32) g2 (fun (x54 : Int32) (x55 : Int32) (g56 : Sg) => (
gLet (fun  (g58 : Sg) => (
some (x54, g58)))
(fun (K57 : Sg → Option (Int32 × Sg)) =>
if x54 < 0 then (
K57  g56)
else (
if a0 = 0 then (
K57  g56)
else (
some (x55, g56)))))))))
def fX11_see (σ : Sg) (a0 : Int32) (a1 : Int32) : Option (Int32 × Sg) := (
gCl (fX11_isStep σ a0) (fun r3 g2 =>
if r3 = 0 then (
some ((-1 : Int32), g2))
else (
gCl (fX11_in g2 (a1.toInt64) (0 : Int64) (40 : Int64)) (fun r7 g6 =>
if r7 = 0 then (
some ((-1 : Int32), g6))
else (
if (g6 0 23) = (6 : Int32) then (
some ((-3 : Int32), g6))
else (
gWr (g6 0 23) 6 g6 12 a0 (fun g11 =>
gWr (g11 0 23) 6 g11 13 a1 (fun g13 =>
gLet (gUp g13 0 23 ((g13 0 23) + (1 : Int32))) (fun g14 =>
some ((g14 0 23), g14))))))))))
def fX11_forget (σ : Sg)  : Option (Int32 × Sg) := (
gLet ((σ 0 23)) (fun x1 =>
gLet (gUp σ 0 23 (0 : Int32)) (fun g2 =>
some (x1, g2))))
def fX11_isSo_5 (a0 : Int32) (a1 : Int32) : Nat → Int32 → Int32 → Sg → Option (Int32 × Sg)
  | 0, _, _, _ => none
  | n + 1, x1, x2, g3 => (
if (g3 0 23) ≤ x2 then (
gZ x1 (some (x1, g3)))
else (
gLet (fun (x7 : Int32) (g8 : Sg) => (
gLet (x2 + (1 : Int32)) (fun x9 =>
fX11_isSo_5 a0 a1 n x7 x9 g8 )))
(fun (K6 : Int32 → Sg → Option (Int32 × Sg)) =>
gLet (fun  (g11 : Sg) => (
K6 (0 : Int32) g11))
(fun (K10 : Sg → Option (Int32 × Sg)) =>
if x1 = 0 then (
K10  g3)
else (
gRd x2 6 (g3 12) (fun x13 =>
gLet (fun  (g16 : Sg) => (
K6 (1 : Int32) g16))
(fun (K15 : Sg → Option (Int32 × Sg)) =>
if x13 = a0 then (
gRd x2 6 (g3 13) (fun x18 =>
if x18 = a1 then (
K15  g3)
else (
K10  g3)))
else (
K15  g3))))))))
def fX11_isSo (σ : Sg) (a0 : Int32) (a1 : Int32) : Option (Int32 × Sg) := (
fX11_isSo_5 a0 a1 gN (1 : Int32) (0 : Int32) σ )
def fX11_within_44 (a0 : Int32) (r11 : Int32) : Nat → Int32 → Int32 → Int32 → Sg → (Int32 → Int32 → Sg → Option (Int32 × Sg)) → Option (Int32 × Sg)
  | 0, _, _, _, _, _ => none
  | n + 1, x14, x15, x16, g17, K13 => (
if x16 < 0 then (
K13 x14 x15 g17)
else (
gLet (fun (x20 : Int32) (g21 : Sg) => (
gLet (fun (x23 : Int32) (g24 : Sg) => (
gLet ((x14 + x23)) (fun x25 =>
gLet (fun (x27 : Int32) (g28 : Sg) => (
gLet (x16 + (-1 : Int32)) (fun x29 =>
fX11_within_44 a0 r11 n x25 x27 x29 g28 K13)))
(fun (K26 : Int32 → Sg → Option (Int32 × Sg)) =>
if x20 = 0 then (
K26 x15 g24)
else (
K26 x16 g24)))))
(fun (K22 : Int32 → Sg → Option (Int32 × Sg)) =>
if x20 = 0 then (
K22 (0 : Int32) g21)
else (
K22 (1 : Int32) g21))))
(fun (K19 : Int32 → Sg → Option (Int32 × Sg)) =>
gLet (fun  (g33 : Sg) => (
K19 (0 : Int32) g33))
(fun (K32 : Sg → Option (Int32 × Sg)) =>
if (x16 &&& (r11 ^^^ (-1 : Int32))) = 0 then (
gRd ((9 : Int32) + a0) 336 (g17 10) (fun x35 =>
gRd ((18 : Int32) + a0) 336 (g17 10) (fun x37 =>
gCl (fX11_pours g17 a0 x35 x37 x16) (fun r41 g40 =>
gCl (fX11_isSo g40 a0 r41) (fun r44 g43 =>
if r44 = 0 then (
K32  g43)
else (
K19 (1 : Int32) g43))))))
else (
K32  g17)))))
def fX11_within (σ : Sg) (a0 : Int32) (a1 : Int32) : Option (Int32 × Sg) := (
gCl (fX11_isStep σ a0) (fun r3 g2 =>
if r3 = 0 then (
some ((-1 : Int32), g2))
else (
gCl (fX11_in g2 (a1.toInt64) (0 : Int64) (1 : Int64)) (fun r7 g6 =>
if r7 = 0 then (
some ((-1 : Int32), g6))
else (
gCl (fX11_thereAt g6 (0 : Int32) a0) (fun r11 g10 =>
gLet ((((1 : Int32) <<< ((g10 0 2) &&& 31)) - (1 : Int32))) (fun x12 =>
fX11_within_44 a0 r11 gN (0 : Int32) (-4 : Int32) x12 g10 (fun (x50 : Int32) (x51 : Int32) (g52 : Sg) => (
if a1 = 0 then (
some (x50, g52))
else (
some (x51, g52)))))))))))
def fX11_isCats_14 (a0 : Int32) : Nat → Int32 → Int32 → Sg → Option (Int32 × Sg)
  | 0, _, _, _ => none
  | n + 1, x5, x6, g7 => (
if (9 : Int32) < x6 then (
some (x5, g7))
else (
gRd ((9 : Int32) + a0) 336 (g7 10) (fun x9 =>
gCl (fX11_thereAt g7 (0 : Int32) a0) (fun r13 g12 =>
gRd (8 : Int32) 336 (g12 10) (fun x14 =>
gCl (fX11_pours g12 a0 x9 x6 (r13 &&& (x14 ^^^ (-1 : Int32)))) (fun r18 g17 =>
gCl (fX11_isSo g17 a0 r18) (fun r21 g20 =>
gLet (fun (x23 : Int32) (g24 : Sg) => (
gLet ((x5 ||| x23)) (fun x25 =>
gLet (x6 + (1 : Int32)) (fun x26 =>
fX11_isCats_14 a0 n x25 x26 g24 ))))
(fun (K22 : Int32 → Sg → Option (Int32 × Sg)) =>
if r21 = 0 then (
K22 (0 : Int32) g20)
else (
K22 ((1 : Int32) <<< (x6 &&& 31)) g20)))))))))
def fX11_isCats (σ : Sg) (a0 : Int32) : Option (Int32 × Sg) := (
gCl (fX11_isStep σ a0) (fun r3 g2 =>
if r3 = 0 then (
some ((-1 : Int32), g2))
else (
fX11_isCats_14 a0 gN (0 : Int32) (0 : Int32) g2 )))
def fX11_was_55 (a0 : Int32) (a1 : Int32) : Nat → Int32 → Int32 → Int32 → Sg → (Int32 → Int32 → Sg → Option (Int32 × Sg)) → Option (Int32 × Sg)
  | 0, _, _, _, _, _ => none
  | n + 1, x17, x18, x19, g20, K16 => (
if x19 < 0 then (
K16 x17 x18 g20)
else (
gCv (fX11_copies g20 (0 : Int32) (308 : Int32)) (fun g23 =>
gWr ((308 : Int32) + a0) 336 g23 10 x19 (fun g25 =>
gCv (fX11_tries g25 a1) (fun g27 =>
gRd ((308 : Int32) + a0) 336 (g27 10) (fun x28 =>
gRd a0 336 (g27 10) (fun x30 =>
gLet (fun (x33 : Int32) (g34 : Sg) => (
gLet (fun (x36 : Int32) (g37 : Sg) => (
gLet ((x17 + x36)) (fun x38 =>
gLet (fun (x40 : Int32) (g41 : Sg) => (
gLet (x19 + (-1 : Int32)) (fun x42 =>
fX11_was_55 a0 a1 n x38 x40 x42 g41 K16)))
(fun (K39 : Int32 → Sg → Option (Int32 × Sg)) =>
if x33 = 0 then (
K39 x18 g37)
else (
K39 x19 g37)))))
(fun (K35 : Int32 → Sg → Option (Int32 × Sg)) =>
if x33 = 0 then (
K35 (0 : Int32) g34)
else (
K35 (1 : Int32) g34))))
(fun (K32 : Int32 → Sg → Option (Int32 × Sg)) =>
if x28 = x30 then (
K32 (1 : Int32) g27)
else (
K32 (0 : Int32) g27)))))))))
def fX11_was (σ : Sg) (a0 : Int32) (a1 : Int32) (a2 : Int32) : Option (Int32 × Sg) := (
gCl (fX11_isOne σ a0) (fun r3 g2 =>
if r3 = 0 then (
some ((-1 : Int32), g2))
else (
gCl (fX11_in g2 (a1.toInt64) (1 : Int64) (20 : Int64)) (fun r7 g6 =>
if r7 = 0 then (
some ((-1 : Int32), g6))
else (
gCl (fX11_in g6 (a2.toInt64) (0 : Int64) (1 : Int64)) (fun r11 g10 =>
if r11 = 0 then (
some ((-1 : Int32), g10))
else (
gRd a0 336 (g10 10) (fun x13 =>
if x13 = 0 then (
some ((-2 : Int32), g10))
else (
fX11_was_55 a0 a1 gN (0 : Int32) (-4 : Int32) (20 : Int32) g10 (fun (x50 : Int32) (x51 : Int32) (g52 : Sg) => (
if a2 = 0 then (
some (x50, g52))
else (
some (x51, g52)))))))))))))
def fX11_snows_79 (a1 : Int32) (a2 : Int32) (x20 : Int32) : Nat → Int32 → Int32 → Int32 → Sg → (Int32 → Int32 → Sg → Option (Int32 × Sg)) → Option (Int32 × Sg)
  | 0, _, _, _, _, _ => none
  | n + 1, x26, x27, x28, g29, K25 => (
if a1 ≤ x28 then (
K25 x26 x27 g29)
else (
gCl (fX11_has g29 x20 x28) (fun r33 g32 =>
gLet (fun (x35 : Int32) (g36 : Sg) => (
gLet ((x26 * x35)) (fun x37 =>
gCl (fX11_has g36 x20 x28) (fun r40 g39 =>
gCl (fX11_goesOn g39 (308 : Int32) r40) (fun r43 g42 =>
gLet ((x27 + r43)) (fun x44 =>
gLet (x28 + (1 : Int32)) (fun x45 =>
fX11_snows_79 a1 a2 x20 n x37 x44 x45 g42 K25)))))))
(fun (K34 : Int32 → Sg → Option (Int32 × Sg)) =>
if r33 = 0 then (
K34 ((10 : Int32) - a2) g32)
else (
K34 a2 g32)))))
def fX11_snows_54 (a0 : Int32) (a1 : Int32) (a2 : Int32) : Nat → Int32 → Int32 → Int32 → Sg → (Int32 → Int32 → Sg → Option (Int32 × Sg)) → Option (Int32 × Sg)
  | 0, _, _, _, _, _ => none
  | n + 1, x18, x19, x20, g21, K17 => (
if ((1 : Int32) <<< (a1 &&& 31)) ≤ x20 then (
K17 x18 x19 g21)
else (
gCv (fX11_copies g21 (0 : Int32) (308 : Int32)) (fun g24 =>
fX11_snows_79 a1 a2 x20 gN (1 : Int32) (0 : Int32) (0 : Int32) g24 (fun (x51 : Int32) (x52 : Int32) (g53 : Sg) => (
gLet ((x19 + x51)) (fun x54 =>
gLet (fun (x56 : Int32) (g57 : Sg) => (
gLet ((x18 + x56)) (fun x58 =>
gLet (x20 + (1 : Int32)) (fun x59 =>
fX11_snows_54 a0 a1 a2 n x58 x54 x59 g57 K17))))
(fun (K55 : Int32 → Sg → Option (Int32 × Sg)) =>
gLet (fun  (g61 : Sg) => (
K55 (0 : Int32) g61))
(fun (K60 : Sg → Option (Int32 × Sg)) =>
if x52 < 0 then (
K60  g53)
else (
gRd ((308 : Int32) + a0) 336 (g53 10) (fun x63 =>
if x63 ≤ 0 then (
K60  g53)
else (
K55 x51 g53)))))))))))
def fX11_snows_183  : Nat → Int32 → Int32 → Sg → (Int32 → Sg → Option (Int32 × Sg)) → Option (Int32 × Sg)
  | 0, _, _, _, _ => none
  | n + 1, x74, x75, g76, K73 => (
if x75 = 0 then (
K73 x74 g76)
else (
gNz x75 (
gLet ((x74 - x74 / x75 * x75)) (fun x79 =>
fX11_snows_183  n x75 x79 g76 K73))))
def fX11_snows (σ : Sg) (a0 : Int32) (a1 : Int32) (a2 : Int32) (a3 : Int32) : Option (Int32 × Sg) := (
gCl (fX11_isOne σ a0) (fun r3 g2 =>
if r3 = 0 then (
some ((-1 : Int32), g2))
else (
gCl (fX11_in g2 (a1.toInt64) (0 : Int64) (8 : Int64)) (fun r7 g6 =>
if r7 = 0 then (
some ((-1 : Int32), g6))
else (
gCl (fX11_in g6 (a2.toInt64) (0 : Int64) (10 : Int64)) (fun r11 g10 =>
if r11 = 0 then (
some ((-1 : Int32), g10))
else (
gCl (fX11_in g10 (a3.toInt64) (0 : Int64) (1 : Int64)) (fun r15 g14 =>
if r15 = 0 then (
some ((-1 : Int32), g14))
else (
fX11_snows_54 a0 a1 a2 gN (0 : Int32) (0 : Int32) (0 : Int32) g14 (fun (x70 : Int32) (x71 : Int32) (g72 : Sg) => (
fX11_snows_183  gN x70 x71 g72 (fun (x83 : Int32) (g84 : Sg) => (
if a3 = 0 then (
gNz x83 (
some ((x70 / x83), g84)))
else (
gNz x83 (
some ((x71 / x83), g84))))))))))))))))
def fX11_does (σ : Sg) (a0 : Int32) (a1 : Int32) : Option Sg := (
gLet ((a1 - a1 / (8 : Int32) * (8 : Int32))) (fun x2 =>
if (2 : Int32) ≤ x2 then (
if x2 = (2 : Int32) then (
gRd (a0 + (8 : Int32)) 336 (σ 10) (fun x12 =>
gNz (σ 0 2) (
gWr (a0 + (8 : Int32)) 336 σ 10 (x12 ^^^ ((1 : Int32) <<< (((a1 / (8 : Int32)) - (a1 / (8 : Int32)) / (σ 0 2) * (σ 0 2)) &&& 31))) (fun g17 =>
some g17))))
else (
if x2 = (3 : Int32) then (
gNz (σ 0 0) (
gWr ((a0 + (18 : Int32)) + ((a1 / (8 : Int32)) - (a1 / (8 : Int32)) / (σ 0 0) * (σ 0 0))) 336 σ 10 ((a1 / (64 : Int32)) - (a1 / (64 : Int32)) / (10 : Int32) * (10 : Int32)) (fun g11 =>
some g11)))
else (
some σ)))
else (
gNz (σ 0 0) (
gWr ((a0 + (9 : Int32)) + ((a1 / (8 : Int32)) - (a1 / (8 : Int32)) / (σ 0 0) * (σ 0 0))) 336 σ 10 ((a1 / (64 : Int32)) - (a1 / (64 : Int32)) / (41 : Int32) * (41 : Int32)) (fun g23 =>
some g23)))))
def fX11_year_50 (a0 : Int32) (a1 : Int32) : Nat → Int32 → Int32 → Sg → (Int32 → Sg → Option (Int32 × Sg)) → Option (Int32 × Sg)
  | 0, _, _, _, _ => none
  | n + 1, x16, x17, g18, K15 => (
if a1 ≤ x17 then (
K15 x16 g18)
else (
gLet (((((7919 : Int64) * (a0.toInt64)) + ((6151 : Int64) * (x17.toInt64))) + (1 : Int64))) (fun x20 =>
gCv (fX11_does g18 (308 : Int32) (((x20 * x20) - (x20 * x20) / (65521 : Int64) * (65521 : Int64)).toInt32)) (fun g23 =>
gCl (fX11_goesOn g23 (308 : Int32) (0 : Int32)) (fun r26 g25 =>
gLet ((x16 + r26)) (fun x27 =>
gLet (x17 + (1 : Int32)) (fun x28 =>
fX11_year_50 a0 a1 n x27 x28 g25 K15)))))))
def fX11_year (σ : Sg) (a0 : Int32) (a1 : Int32) (a2 : Int32) : Option (Int32 × Sg) := (
gCl (fX11_in σ (a0.toInt64) (0 : Int64) (9999 : Int64)) (fun r3 g2 =>
if r3 = 0 then (
some ((-1 : Int32), g2))
else (
gCl (fX11_in g2 (a1.toInt64) (1 : Int64) (60 : Int64)) (fun r7 g6 =>
if r7 = 0 then (
some ((-1 : Int32), g6))
else (
gCl (fX11_in g6 (a2.toInt64) (0 : Int64) (1 : Int64)) (fun r11 g10 =>
if r11 = 0 then (
some ((-1 : Int32), g10))
else (
gCv (fX11_copies g10 (0 : Int32) (308 : Int32)) (fun g14 =>
fX11_year_50 a0 a1 gN (0 : Int32) (0 : Int32) g14 (fun (x32 : Int32) (g33 : Sg) => (
if a2 = 0 then (
gCl (fX11_alive g33 (308 : Int32)) (fun r37 g36 =>
some (r37, g36)))
else (
some (x32, g33))))))))))))
def fX11_keep (σ : Sg)  : Option (Int32 × Sg) := (
if (σ 0 17) = (2 : Int32) then (
some ((-3 : Int32), σ))
else (
gCv (fX11_copies σ (0 : Int32) (((9 : Int32) + (σ 0 17)) * (28 : Int32))) (fun g3 =>
gLet (gUp g3 0 17 ((g3 0 17) + (1 : Int32))) (fun g4 =>
some ((g4 0 17), g4)))))
def fX11_back (σ : Sg)  : Option (Int32 × Sg) := (
if (σ 0 17) = 0 then (
some ((-2 : Int32), σ))
else (
gLet (gUp σ 0 17 ((σ 0 17) - (1 : Int32))) (fun g2 =>
gCv (fX11_copies g2 (((9 : Int32) + (g2 0 17)) * (28 : Int32)) (0 : Int32)) (fun g4 =>
gLet (gUp g4 0 16 (0 : Int32)) (fun g5 =>
some ((g5 0 17), g5))))))
def fX11_sumOf_4 (a0 : Int32) : Nat → Int32 → Int32 → Sg → Option (Int32 × Sg)
  | 0, _, _, _ => none
  | n + 1, x1, x2, g3 => (
if (g3 0 0) ≤ x2 then (
some (x1, g3))
else (
gLet (fun (x6 : Int32) (g7 : Sg) => (
gLet ((x1 + x6)) (fun x8 =>
gLet (x2 + (1 : Int32)) (fun x9 =>
fX11_sumOf_4 a0 n x8 x9 g7 ))))
(fun (K5 : Int32 → Sg → Option (Int32 × Sg)) =>
if a0 = 0 then (
gRd ((9 : Int32) + x2) 336 (g3 10) (fun x11 =>
K5 x11 g3))
else (
gCl (fX11_leftAt g3 (0 : Int32) x2) (fun r15 g14 =>
K5 r15 g14)))))
def fX11_sumOf (σ : Sg) (a0 : Int32) : Option (Int32 × Sg) := (
fX11_sumOf_4 a0 gN (0 : Int32) (0 : Int32) σ )
def fX11_count (σ : Sg) (a0 : Int32) : Option (Int32 × Sg) := (
if a0 = 0 then (
some ((σ 0 0), σ))
else (
if a0 = (1 : Int32) then (
some ((σ 0 2), σ))
else (
if a0 = (2 : Int32) then (
some ((σ 0 1), σ))
else (
if a0 = (3 : Int32) then (
gRd (27 : Int32) 336 (σ 10) (fun x27 =>
some (x27, σ)))
else (
if a0 = (4 : Int32) then (
gCl (fX11_alive σ (0 : Int32)) (fun r26 g25 =>
some (((σ 0 2) - r26), g25)))
else (
if a0 = (5 : Int32) then (
gRd (8 : Int32) 336 (σ 10) (fun x19 =>
gCl (fX11_bits σ x19) (fun r23 g22 =>
some (r23, g22))))
else (
if a0 = (6 : Int32) then (
gCl (fX11_sumOf σ (0 : Int32)) (fun r18 g17 =>
some (r18, g17)))
else (
if a0 = (7 : Int32) then (
gCl (fX11_sumOf σ (1 : Int32)) (fun r15 g14 =>
some (r15, g14)))
else (
if a0 = (8 : Int32) then (
some ((σ 0 23), σ))
else (
if a0 = (9 : Int32) then (
some ((σ 0 16), σ))
else (
if a0 = (10 : Int32) then (
some ((σ 0 17), σ))
else (
if a0 = (11 : Int32) then (
some ((σ 0 18), σ))
else (
some ((-1 : Int32), σ))))))))))))))
