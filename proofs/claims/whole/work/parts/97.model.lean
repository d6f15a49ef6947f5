/-! ===== the constructor of the reference ===== -/
theorem cr_p10 {X : CX} {w : Wl} {cc : ByteArray} {own : String} {Ts : List Cond} {nL fr lo MC MS : Nat} (C : cC X w.1 w.2.1 cc own Ts nL fr lo MC MS) {k n pc : Nat} {lv : List (Nat × Value)} {st : List Value} {σ : Sg} {j v : Nat} (hk : w.2.2.2[10]? = some (.inl (0, 336))) (hj : j < 336) (hd : decode cc pc = .ok (.iastore, 1)) (kk : cG X w.1 (gWs w (p10 σ j v)) k n (pc + 1) lv st) : cG X w.1 (gWs w σ) k n pc lv (.int (nI v) :: .int (nI j) :: .ref (w.2.2.1 10) :: st) := cr_iastW C 10 hk hj (by decide) hd kk
set_option maxHeartbeats 4000000 in
theorem kMod_0 {X : CX} {D : va_G} {cA : Nat → ClassId} (C : cC X D cA cX11_init RX11 wsX11_init 1 2 46 19 3239) (I : cI X) (h0  : Nat) (K : ∀ q1 q2 q3 q4 q5 : Nat, cG X D [(h0, .inr (11, [.int 0, .int 0, .int 0, .ref q1, .ref q2, .ref q3, .ref q4, .ref q5, .int 0, .int 0, .int 0, .null, .null, .null, .null, .null, .int 0, .int 0, .int 0, .null, .int 0, .int 0, .int 0, .int 0, .null, .null, .null, .null, .null, .null, .null, .null])), (q1, .inl (cA 0, 8, .inl (fun _ => 0))), (q2, .inl (cA 0, 8, .inl (fun _ => 0))), (q3, .inl (cA 0, 8, .inl (fun _ => 0))), (q4, .inl (cA 0, 8, .inl (fun _ => 0))), (q5, .inl (cA 0, 8, .inl (fun _ => 0)))] 5 40 44 [(0, .ref h0)] []) : cG X D [(h0, .inr (11, [.int 0, .int 0, .int 0, .null, .null, .null, .null, .null, .int 0, .int 0, .int 0, .null, .null, .null, .null, .null, .int 0, .int 0, .int 0, .null, .int 0, .int 0, .int 0, .int 0, .null, .null, .null, .null, .null, .null, .null, .null]))] 0 0 4 [(0, .ref h0)] [] := by
  have inX : ∀ v ∈ u_ws RX11 TX11 32, v ∈ wsX11_init := by decide +kernel
  have arI : Cond.arrayClass (newarray.typeOf .int) ∈ wsX11_init := by decide +kernel
  have arB : Cond.arrayClass (newarray.typeOf .byte) ∈ wsX11_init := by decide +kernel
  have ln7 : Cond.fieldLink RX11 7 (TX11 3).1 (TX11 3).2.1 (TX11 3).2.2.1 ∈ wsX11_init := by decide +kernel
  have ln13 : Cond.fieldLink RX11 13 (TX11 4).1 (TX11 4).2.1 (TX11 4).2.2.1 ∈ wsX11_init := by decide +kernel
  have ln16 : Cond.fieldLink RX11 16 (TX11 5).1 (TX11 5).2.1 (TX11 5).2.2.1 ∈ wsX11_init := by decide +kernel
  have ln19 : Cond.fieldLink RX11 19 (TX11 6).1 (TX11 6).2.1 (TX11 6).2.2.1 ∈ wsX11_init := by decide +kernel
  have ln22 : Cond.fieldLink RX11 22 (TX11 7).1 (TX11 7).2.1 (TX11 7).2.2.1 ∈ wsX11_init := by decide +kernel
  refine cr_aload_n C 0 dX11_init_4 rfl rfl ?_
  refine cr_bipush C (v := 8) dX11_init_5 (by decide) ?_
  refine cr_newa C 0 (by decide) 8 dX11_init_7 rfl arI (by decide) rfl (Nat.le_of_ble_eq_true rfl) (Nat.le_of_ble_eq_true rfl) (Nat.le_of_ble_eq_true rfl) ?_
  intro q1
  refine cr_putF C I 3 (fs' := [.int 0, .int 0, .int 0, .ref q1, .null, .null, .null, .null, .int 0, .int 0, .int 0, .null, .null, .null, .null, .null, .int 0, .int 0, .int 0, .null, .int 0, .int 0, .int 0, .int 0, .null, .null, .null, .null, .null, .null, .null, .null]) rfl rfl inX (by decide) ln7 tyX11 tyX11_ok nmX11 rfl rfl (.array .int) rfl rfl rfl (Nat.le_of_ble_eq_true rfl) rfl dX11_init_9 ?_
  refine cr_aload_n C 0 dX11_init_12 rfl rfl ?_
  refine cr_bipush C (v := 8) dX11_init_13 (by decide) ?_
  refine cr_newa C 0 (by decide) 8 dX11_init_15 rfl arI (by decide) rfl (Nat.le_of_ble_eq_true rfl) (Nat.le_of_ble_eq_true rfl) (Nat.le_of_ble_eq_true rfl) ?_
  intro q2
  refine cr_putF C I 4 (fs' := [.int 0, .int 0, .int 0, .ref q1, .ref q2, .null, .null, .null, .int 0, .int 0, .int 0, .null, .null, .null, .null, .null, .int 0, .int 0, .int 0, .null, .int 0, .int 0, .int 0, .int 0, .null, .null, .null, .null, .null, .null, .null, .null]) rfl rfl inX (by decide) ln13 tyX11 tyX11_ok nmX11 rfl rfl (.array .int) rfl rfl rfl (Nat.le_of_ble_eq_true rfl) rfl dX11_init_17 ?_
  refine cr_aload_n C 0 dX11_init_20 rfl rfl ?_
  refine cr_bipush C (v := 8) dX11_init_21 (by decide) ?_
  refine cr_newa C 0 (by decide) 8 dX11_init_23 rfl arI (by decide) rfl (Nat.le_of_ble_eq_true rfl) (Nat.le_of_ble_eq_true rfl) (Nat.le_of_ble_eq_true rfl) ?_
  intro q3
  refine cr_putF C I 5 (fs' := [.int 0, .int 0, .int 0, .ref q1, .ref q2, .ref q3, .null, .null, .int 0, .int 0, .int 0, .null, .null, .null, .null, .null, .int 0, .int 0, .int 0, .null, .int 0, .int 0, .int 0, .int 0, .null, .null, .null, .null, .null, .null, .null, .null]) rfl rfl inX (by decide) ln16 tyX11 tyX11_ok nmX11 rfl rfl (.array .int) rfl rfl rfl (Nat.le_of_ble_eq_true rfl) rfl dX11_init_25 ?_
  refine cr_aload_n C 0 dX11_init_28 rfl rfl ?_
  refine cr_bipush C (v := 8) dX11_init_29 (by decide) ?_
  refine cr_newa C 0 (by decide) 8 dX11_init_31 rfl arI (by decide) rfl (Nat.le_of_ble_eq_true rfl) (Nat.le_of_ble_eq_true rfl) (Nat.le_of_ble_eq_true rfl) ?_
  intro q4
  refine cr_putF C I 6 (fs' := [.int 0, .int 0, .int 0, .ref q1, .ref q2, .ref q3, .ref q4, .null, .int 0, .int 0, .int 0, .null, .null, .null, .null, .null, .int 0, .int 0, .int 0, .null, .int 0, .int 0, .int 0, .int 0, .null, .null, .null, .null, .null, .null, .null, .null]) rfl rfl inX (by decide) ln19 tyX11 tyX11_ok nmX11 rfl rfl (.array .int) rfl rfl rfl (Nat.le_of_ble_eq_true rfl) rfl dX11_init_33 ?_
  refine cr_aload_n C 0 dX11_init_36 rfl rfl ?_
  refine cr_bipush C (v := 8) dX11_init_37 (by decide) ?_
  refine cr_newa C 0 (by decide) 8 dX11_init_39 rfl arI (by decide) rfl (Nat.le_of_ble_eq_true rfl) (Nat.le_of_ble_eq_true rfl) (Nat.le_of_ble_eq_true rfl) ?_
  intro q5
  refine cr_putF C I 7 (fs' := [.int 0, .int 0, .int 0, .ref q1, .ref q2, .ref q3, .ref q4, .ref q5, .int 0, .int 0, .int 0, .null, .null, .null, .null, .null, .int 0, .int 0, .int 0, .null, .int 0, .int 0, .int 0, .int 0, .null, .null, .null, .null, .null, .null, .null, .null]) rfl rfl inX (by decide) ln22 tyX11 tyX11_ok nmX11 rfl rfl (.array .int) rfl rfl rfl (Nat.le_of_ble_eq_true rfl) rfl dX11_init_41 ?_
  exact K q1 q2 q3 q4 q5
set_option maxHeartbeats 4000000 in
theorem kMod_1 {X : CX} {D : va_G} {cA : Nat → ClassId} (C : cC X D cA cX11_init RX11 wsX11_init 1 2 46 19 3239) (I : cI X) (h0 q1 q2 q3 q4 q5 : Nat) (K : ∀ q6 q7 q8 q9 q10 : Nat, cG X D [(h0, .inr (11, [.int 0, .int 0, .int 0, .ref q1, .ref q2, .ref q3, .ref q4, .ref q5, .int 0, .int 0, .int 0, .ref q6, .ref q7, .ref q8, .ref q9, .ref q10, .int 0, .int 0, .int 0, .null, .int 0, .int 0, .int 0, .int 0, .null, .null, .null, .null, .null, .null, .null, .null])), (q1, .inl (cA 0, 8, .inl (fun _ => 0))), (q2, .inl (cA 0, 8, .inl (fun _ => 0))), (q3, .inl (cA 0, 8, .inl (fun _ => 0))), (q4, .inl (cA 0, 8, .inl (fun _ => 0))), (q5, .inl (cA 0, 8, .inl (fun _ => 0))), (q6, .inl (cA 0, 8, .inl (fun _ => 0))), (q7, .inl (cA 0, 8, .inl (fun _ => 0))), (q8, .inl (cA 0, 8, .inl (fun _ => 0))), (q9, .inl (cA 0, 8, .inl (fun _ => 0))), (q10, .inl (cA 0, 336, .inl (fun _ => 0)))] 10 408 85 [(0, .ref h0)] []) : cG X D [(h0, .inr (11, [.int 0, .int 0, .int 0, .ref q1, .ref q2, .ref q3, .ref q4, .ref q5, .int 0, .int 0, .int 0, .null, .null, .null, .null, .null, .int 0, .int 0, .int 0, .null, .int 0, .int 0, .int 0, .int 0, .null, .null, .null, .null, .null, .null, .null, .null])), (q1, .inl (cA 0, 8, .inl (fun _ => 0))), (q2, .inl (cA 0, 8, .inl (fun _ => 0))), (q3, .inl (cA 0, 8, .inl (fun _ => 0))), (q4, .inl (cA 0, 8, .inl (fun _ => 0))), (q5, .inl (cA 0, 8, .inl (fun _ => 0)))] 5 40 44 [(0, .ref h0)] [] := by
  have inX : ∀ v ∈ u_ws RX11 TX11 32, v ∈ wsX11_init := by decide +kernel
  have arI : Cond.arrayClass (newarray.typeOf .int) ∈ wsX11_init := by decide +kernel
  have arB : Cond.arrayClass (newarray.typeOf .byte) ∈ wsX11_init := by decide +kernel
  have ln25 : Cond.fieldLink RX11 25 (TX11 11).1 (TX11 11).2.1 (TX11 11).2.2.1 ∈ wsX11_init := by decide +kernel
  have ln28 : Cond.fieldLink RX11 28 (TX11 12).1 (TX11 12).2.1 (TX11 12).2.2.1 ∈ wsX11_init := by decide +kernel
  have ln31 : Cond.fieldLink RX11 31 (TX11 13).1 (TX11 13).2.1 (TX11 13).2.2.1 ∈ wsX11_init := by decide +kernel
  have ln34 : Cond.fieldLink RX11 34 (TX11 14).1 (TX11 14).2.1 (TX11 14).2.2.1 ∈ wsX11_init := by decide +kernel
  have ln37 : Cond.fieldLink RX11 37 (TX11 15).1 (TX11 15).2.1 (TX11 15).2.2.1 ∈ wsX11_init := by decide +kernel
  refine cr_aload_n C 0 dX11_init_44 rfl rfl ?_
  refine cr_bipush C (v := 8) dX11_init_45 (by decide) ?_
  refine cr_newa C 0 (by decide) 8 dX11_init_47 rfl arI (by decide) rfl (Nat.le_of_ble_eq_true rfl) (Nat.le_of_ble_eq_true rfl) (Nat.le_of_ble_eq_true rfl) ?_
  intro q6
  refine cr_putF C I 11 (fs' := [.int 0, .int 0, .int 0, .ref q1, .ref q2, .ref q3, .ref q4, .ref q5, .int 0, .int 0, .int 0, .ref q6, .null, .null, .null, .null, .int 0, .int 0, .int 0, .null, .int 0, .int 0, .int 0, .int 0, .null, .null, .null, .null, .null, .null, .null, .null]) rfl rfl inX (by decide) ln25 tyX11 tyX11_ok nmX11 rfl rfl (.array .int) rfl rfl rfl (Nat.le_of_ble_eq_true rfl) rfl dX11_init_49 ?_
  refine cr_aload_n C 0 dX11_init_52 rfl rfl ?_
  refine cr_bipush C (v := 8) dX11_init_53 (by decide) ?_
  refine cr_newa C 0 (by decide) 8 dX11_init_55 rfl arI (by decide) rfl (Nat.le_of_ble_eq_true rfl) (Nat.le_of_ble_eq_true rfl) (Nat.le_of_ble_eq_true rfl) ?_
  intro q7
  refine cr_putF C I 12 (fs' := [.int 0, .int 0, .int 0, .ref q1, .ref q2, .ref q3, .ref q4, .ref q5, .int 0, .int 0, .int 0, .ref q6, .ref q7, .null, .null, .null, .int 0, .int 0, .int 0, .null, .int 0, .int 0, .int 0, .int 0, .null, .null, .null, .null, .null, .null, .null, .null]) rfl rfl inX (by decide) ln28 tyX11 tyX11_ok nmX11 rfl rfl (.array .int) rfl rfl rfl (Nat.le_of_ble_eq_true rfl) rfl dX11_init_57 ?_
  refine cr_aload_n C 0 dX11_init_60 rfl rfl ?_
  refine cr_bipush C (v := 8) dX11_init_61 (by decide) ?_
  refine cr_newa C 0 (by decide) 8 dX11_init_63 rfl arI (by decide) rfl (Nat.le_of_ble_eq_true rfl) (Nat.le_of_ble_eq_true rfl) (Nat.le_of_ble_eq_true rfl) ?_
  intro q8
  refine cr_putF C I 13 (fs' := [.int 0, .int 0, .int 0, .ref q1, .ref q2, .ref q3, .ref q4, .ref q5, .int 0, .int 0, .int 0, .ref q6, .ref q7, .ref q8, .null, .null, .int 0, .int 0, .int 0, .null, .int 0, .int 0, .int 0, .int 0, .null, .null, .null, .null, .null, .null, .null, .null]) rfl rfl inX (by decide) ln31 tyX11 tyX11_ok nmX11 rfl rfl (.array .int) rfl rfl rfl (Nat.le_of_ble_eq_true rfl) rfl dX11_init_65 ?_
  refine cr_aload_n C 0 dX11_init_68 rfl rfl ?_
  refine cr_bipush C (v := 8) dX11_init_69 (by decide) ?_
  refine cr_newa C 0 (by decide) 8 dX11_init_71 rfl arI (by decide) rfl (Nat.le_of_ble_eq_true rfl) (Nat.le_of_ble_eq_true rfl) (Nat.le_of_ble_eq_true rfl) ?_
  intro q9
  refine cr_putF C I 14 (fs' := [.int 0, .int 0, .int 0, .ref q1, .ref q2, .ref q3, .ref q4, .ref q5, .int 0, .int 0, .int 0, .ref q6, .ref q7, .ref q8, .ref q9, .null, .int 0, .int 0, .int 0, .null, .int 0, .int 0, .int 0, .int 0, .null, .null, .null, .null, .null, .null, .null, .null]) rfl rfl inX (by decide) ln34 tyX11 tyX11_ok nmX11 rfl rfl (.array .int) rfl rfl rfl (Nat.le_of_ble_eq_true rfl) rfl dX11_init_73 ?_
  refine cr_aload_n C 0 dX11_init_76 rfl rfl ?_
  refine cr_sipush C (v := 336) dX11_init_77 (by decide) ?_
  refine cr_newa C 0 (by decide) 336 dX11_init_80 rfl arI (by decide) rfl (Nat.le_of_ble_eq_true rfl) (Nat.le_of_ble_eq_true rfl) (Nat.le_of_ble_eq_true rfl) ?_
  intro q10
  refine cr_putF C I 15 (fs' := [.int 0, .int 0, .int 0, .ref q1, .ref q2, .ref q3, .ref q4, .ref q5, .int 0, .int 0, .int 0, .ref q6, .ref q7, .ref q8, .ref q9, .ref q10, .int 0, .int 0, .int 0, .null, .int 0, .int 0, .int 0, .int 0, .null, .null, .null, .null, .null, .null, .null, .null]) rfl rfl inX (by decide) ln37 tyX11 tyX11_ok nmX11 rfl rfl (.array .int) rfl rfl rfl (Nat.le_of_ble_eq_true rfl) rfl dX11_init_82 ?_
  exact K q6 q7 q8 q9 q10
set_option maxHeartbeats 4000000 in
theorem kMod_2 {X : CX} {D : va_G} {cA : Nat → ClassId} (C : cC X D cA cX11_init RX11 wsX11_init 1 2 46 19 3239) (I : cI X) (h0 q1 q2 q3 q4 q5 q6 q7 q8 q9 q10 : Nat) (K : ∀ q11 q12 q13 q14 q15 : Nat, cG X D [(h0, .inr (11, [.int 0, .int 0, .int 0, .ref q1, .ref q2, .ref q3, .ref q4, .ref q5, .int 0, .int 0, .int 0, .ref q6, .ref q7, .ref q8, .ref q9, .ref q10, .int 0, .int 0, .int 0, .ref q11, .int 0, .int 0, .int 0, .int 0, .ref q12, .ref q13, .ref q14, .ref q15, .null, .null, .null, .null])), (q1, .inl (cA 0, 8, .inl (fun _ => 0))), (q2, .inl (cA 0, 8, .inl (fun _ => 0))), (q3, .inl (cA 0, 8, .inl (fun _ => 0))), (q4, .inl (cA 0, 8, .inl (fun _ => 0))), (q5, .inl (cA 0, 8, .inl (fun _ => 0))), (q6, .inl (cA 0, 8, .inl (fun _ => 0))), (q7, .inl (cA 0, 8, .inl (fun _ => 0))), (q8, .inl (cA 0, 8, .inl (fun _ => 0))), (q9, .inl (cA 0, 8, .inl (fun _ => 0))), (q10, .inl (cA 0, 336, .inl (fun _ => 0))), (q11, .inl (cA 1, 200, .inl (fun _ => 0))), (q12, .inl (cA 0, 6, .inl (fun _ => 0))), (q13, .inl (cA 0, 6, .inl (fun _ => 0))), (q14, .inl (cA 0, 8, .inl (fun _ => 0))), (q15, .inl (cA 0, 512, .inl (fun _ => 0)))] 15 1140 127 [(0, .ref h0)] []) : cG X D [(h0, .inr (11, [.int 0, .int 0, .int 0, .ref q1, .ref q2, .ref q3, .ref q4, .ref q5, .int 0, .int 0, .int 0, .ref q6, .ref q7, .ref q8, .ref q9, .ref q10, .int 0, .int 0, .int 0, .null, .int 0, .int 0, .int 0, .int 0, .null, .null, .null, .null, .null, .null, .null, .null])), (q1, .inl (cA 0, 8, .inl (fun _ => 0))), (q2, .inl (cA 0, 8, .inl (fun _ => 0))), (q3, .inl (cA 0, 8, .inl (fun _ => 0))), (q4, .inl (cA 0, 8, .inl (fun _ => 0))), (q5, .inl (cA 0, 8, .inl (fun _ => 0))), (q6, .inl (cA 0, 8, .inl (fun _ => 0))), (q7, .inl (cA 0, 8, .inl (fun _ => 0))), (q8, .inl (cA 0, 8, .inl (fun _ => 0))), (q9, .inl (cA 0, 8, .inl (fun _ => 0))), (q10, .inl (cA 0, 336, .inl (fun _ => 0)))] 10 408 85 [(0, .ref h0)] [] := by
  have inX : ∀ v ∈ u_ws RX11 TX11 32, v ∈ wsX11_init := by decide +kernel
  have arI : Cond.arrayClass (newarray.typeOf .int) ∈ wsX11_init := by decide +kernel
  have arB : Cond.arrayClass (newarray.typeOf .byte) ∈ wsX11_init := by decide +kernel
  have ln40 : Cond.fieldLink RX11 40 (TX11 19).1 (TX11 19).2.1 (TX11 19).2.2.1 ∈ wsX11_init := by decide +kernel
  have ln44 : Cond.fieldLink RX11 44 (TX11 24).1 (TX11 24).2.1 (TX11 24).2.2.1 ∈ wsX11_init := by decide +kernel
  have ln47 : Cond.fieldLink RX11 47 (TX11 25).1 (TX11 25).2.1 (TX11 25).2.2.1 ∈ wsX11_init := by decide +kernel
  have ln50 : Cond.fieldLink RX11 50 (TX11 26).1 (TX11 26).2.1 (TX11 26).2.2.1 ∈ wsX11_init := by decide +kernel
  have ln53 : Cond.fieldLink RX11 53 (TX11 27).1 (TX11 27).2.1 (TX11 27).2.2.1 ∈ wsX11_init := by decide +kernel
  refine cr_aload_n C 0 dX11_init_85 rfl rfl ?_
  refine cr_sipush C (v := 200) dX11_init_86 (by decide) ?_
  refine cr_newa C 1 (by decide) 200 dX11_init_89 rfl arB (by decide) rfl (Nat.le_of_ble_eq_true rfl) (Nat.le_of_ble_eq_true rfl) (Nat.le_of_ble_eq_true rfl) ?_
  intro q11
  refine cr_putF C I 19 (fs' := [.int 0, .int 0, .int 0, .ref q1, .ref q2, .ref q3, .ref q4, .ref q5, .int 0, .int 0, .int 0, .ref q6, .ref q7, .ref q8, .ref q9, .ref q10, .int 0, .int 0, .int 0, .ref q11, .int 0, .int 0, .int 0, .int 0, .null, .null, .null, .null, .null, .null, .null, .null]) rfl rfl inX (by decide) ln40 tyX11 tyX11_ok nmX11 rfl rfl (.array .byte) rfl rfl rfl (Nat.le_of_ble_eq_true rfl) rfl dX11_init_91 ?_
  refine cr_aload_n C 0 dX11_init_94 rfl rfl ?_
  refine cr_bipush C (v := 6) dX11_init_95 (by decide) ?_
  refine cr_newa C 0 (by decide) 6 dX11_init_97 rfl arI (by decide) rfl (Nat.le_of_ble_eq_true rfl) (Nat.le_of_ble_eq_true rfl) (Nat.le_of_ble_eq_true rfl) ?_
  intro q12
  refine cr_putF C I 24 (fs' := [.int 0, .int 0, .int 0, .ref q1, .ref q2, .ref q3, .ref q4, .ref q5, .int 0, .int 0, .int 0, .ref q6, .ref q7, .ref q8, .ref q9, .ref q10, .int 0, .int 0, .int 0, .ref q11, .int 0, .int 0, .int 0, .int 0, .ref q12, .null, .null, .null, .null, .null, .null, .null]) rfl rfl inX (by decide) ln44 tyX11 tyX11_ok nmX11 rfl rfl (.array .int) rfl rfl rfl (Nat.le_of_ble_eq_true rfl) rfl dX11_init_99 ?_
  refine cr_aload_n C 0 dX11_init_102 rfl rfl ?_
  refine cr_bipush C (v := 6) dX11_init_103 (by decide) ?_
  refine cr_newa C 0 (by decide) 6 dX11_init_105 rfl arI (by decide) rfl (Nat.le_of_ble_eq_true rfl) (Nat.le_of_ble_eq_true rfl) (Nat.le_of_ble_eq_true rfl) ?_
  intro q13
  refine cr_putF C I 25 (fs' := [.int 0, .int 0, .int 0, .ref q1, .ref q2, .ref q3, .ref q4, .ref q5, .int 0, .int 0, .int 0, .ref q6, .ref q7, .ref q8, .ref q9, .ref q10, .int 0, .int 0, .int 0, .ref q11, .int 0, .int 0, .int 0, .int 0, .ref q12, .ref q13, .null, .null, .null, .null, .null, .null]) rfl rfl inX (by decide) ln47 tyX11 tyX11_ok nmX11 rfl rfl (.array .int) rfl rfl rfl (Nat.le_of_ble_eq_true rfl) rfl dX11_init_107 ?_
  refine cr_aload_n C 0 dX11_init_110 rfl rfl ?_
  refine cr_bipush C (v := 8) dX11_init_111 (by decide) ?_
  refine cr_newa C 0 (by decide) 8 dX11_init_113 rfl arI (by decide) rfl (Nat.le_of_ble_eq_true rfl) (Nat.le_of_ble_eq_true rfl) (Nat.le_of_ble_eq_true rfl) ?_
  intro q14
  refine cr_putF C I 26 (fs' := [.int 0, .int 0, .int 0, .ref q1, .ref q2, .ref q3, .ref q4, .ref q5, .int 0, .int 0, .int 0, .ref q6, .ref q7, .ref q8, .ref q9, .ref q10, .int 0, .int 0, .int 0, .ref q11, .int 0, .int 0, .int 0, .int 0, .ref q12, .ref q13, .ref q14, .null, .null, .null, .null, .null]) rfl rfl inX (by decide) ln50 tyX11 tyX11_ok nmX11 rfl rfl (.array .int) rfl rfl rfl (Nat.le_of_ble_eq_true rfl) rfl dX11_init_115 ?_
  refine cr_aload_n C 0 dX11_init_118 rfl rfl ?_
  refine cr_sipush C (v := 512) dX11_init_119 (by decide) ?_
  refine cr_newa C 0 (by decide) 512 dX11_init_122 rfl arI (by decide) rfl (Nat.le_of_ble_eq_true rfl) (Nat.le_of_ble_eq_true rfl) (Nat.le_of_ble_eq_true rfl) ?_
  intro q15
  refine cr_putF C I 27 (fs' := [.int 0, .int 0, .int 0, .ref q1, .ref q2, .ref q3, .ref q4, .ref q5, .int 0, .int 0, .int 0, .ref q6, .ref q7, .ref q8, .ref q9, .ref q10, .int 0, .int 0, .int 0, .ref q11, .int 0, .int 0, .int 0, .int 0, .ref q12, .ref q13, .ref q14, .ref q15, .null, .null, .null, .null]) rfl rfl inX (by decide) ln53 tyX11 tyX11_ok nmX11 rfl rfl (.array .int) rfl rfl rfl (Nat.le_of_ble_eq_true rfl) rfl dX11_init_124 ?_
  exact K q11 q12 q13 q14 q15
set_option maxHeartbeats 4000000 in
theorem kMod_3 {X : CX} {D : va_G} {cA : Nat → ClassId} (C : cC X D cA cX11_init RX11 wsX11_init 1 2 46 19 3239) (I : cI X) (h0 q1 q2 q3 q4 q5 q6 q7 q8 q9 q10 q11 q12 q13 q14 q15 : Nat) (K : ∀ q16 q17 q18 q19 : Nat, cG X D [(h0, .inr (11, [.int 0, .int 0, .int 0, .ref q1, .ref q2, .ref q3, .ref q4, .ref q5, .int 0, .int 0, .int 0, .ref q6, .ref q7, .ref q8, .ref q9, .ref q10, .int 0, .int 0, .int 0, .ref q11, .int 0, .int 0, .int 0, .int 0, .ref q12, .ref q13, .ref q14, .ref q15, .ref q16, .ref q17, .ref q18, .ref q19])), (q1, .inl (cA 0, 8, .inl (fun _ => 0))), (q2, .inl (cA 0, 8, .inl (fun _ => 0))), (q3, .inl (cA 0, 8, .inl (fun _ => 0))), (q4, .inl (cA 0, 8, .inl (fun _ => 0))), (q5, .inl (cA 0, 8, .inl (fun _ => 0))), (q6, .inl (cA 0, 8, .inl (fun _ => 0))), (q7, .inl (cA 0, 8, .inl (fun _ => 0))), (q8, .inl (cA 0, 8, .inl (fun _ => 0))), (q9, .inl (cA 0, 8, .inl (fun _ => 0))), (q10, .inl (cA 0, 336, .inl (fun _ => 0))), (q11, .inl (cA 1, 200, .inl (fun _ => 0))), (q12, .inl (cA 0, 6, .inl (fun _ => 0))), (q13, .inl (cA 0, 6, .inl (fun _ => 0))), (q14, .inl (cA 0, 8, .inl (fun _ => 0))), (q15, .inl (cA 0, 512, .inl (fun _ => 0))), (q16, .inl (cA 0, 90, .inl (fun _ => 0))), (q17, .inl (cA 0, 1000, .inl (fun _ => 0))), (q18, .inl (cA 0, 1000, .inl (fun _ => 0))), (q19, .inl (cA 0, 9, .inl (fun _ => 0)))] 19 3239 161 [(0, .ref h0)] []) : cG X D [(h0, .inr (11, [.int 0, .int 0, .int 0, .ref q1, .ref q2, .ref q3, .ref q4, .ref q5, .int 0, .int 0, .int 0, .ref q6, .ref q7, .ref q8, .ref q9, .ref q10, .int 0, .int 0, .int 0, .ref q11, .int 0, .int 0, .int 0, .int 0, .ref q12, .ref q13, .ref q14, .ref q15, .null, .null, .null, .null])), (q1, .inl (cA 0, 8, .inl (fun _ => 0))), (q2, .inl (cA 0, 8, .inl (fun _ => 0))), (q3, .inl (cA 0, 8, .inl (fun _ => 0))), (q4, .inl (cA 0, 8, .inl (fun _ => 0))), (q5, .inl (cA 0, 8, .inl (fun _ => 0))), (q6, .inl (cA 0, 8, .inl (fun _ => 0))), (q7, .inl (cA 0, 8, .inl (fun _ => 0))), (q8, .inl (cA 0, 8, .inl (fun _ => 0))), (q9, .inl (cA 0, 8, .inl (fun _ => 0))), (q10, .inl (cA 0, 336, .inl (fun _ => 0))), (q11, .inl (cA 1, 200, .inl (fun _ => 0))), (q12, .inl (cA 0, 6, .inl (fun _ => 0))), (q13, .inl (cA 0, 6, .inl (fun _ => 0))), (q14, .inl (cA 0, 8, .inl (fun _ => 0))), (q15, .inl (cA 0, 512, .inl (fun _ => 0)))] 15 1140 127 [(0, .ref h0)] [] := by
  have inX : ∀ v ∈ u_ws RX11 TX11 32, v ∈ wsX11_init := by decide +kernel
  have arI : Cond.arrayClass (newarray.typeOf .int) ∈ wsX11_init := by decide +kernel
  have arB : Cond.arrayClass (newarray.typeOf .byte) ∈ wsX11_init := by decide +kernel
  have ln56 : Cond.fieldLink RX11 56 (TX11 28).1 (TX11 28).2.1 (TX11 28).2.2.1 ∈ wsX11_init := by decide +kernel
  have ln59 : Cond.fieldLink RX11 59 (TX11 29).1 (TX11 29).2.1 (TX11 29).2.2.1 ∈ wsX11_init := by decide +kernel
  have ln62 : Cond.fieldLink RX11 62 (TX11 30).1 (TX11 30).2.1 (TX11 30).2.2.1 ∈ wsX11_init := by decide +kernel
  have ln65 : Cond.fieldLink RX11 65 (TX11 31).1 (TX11 31).2.1 (TX11 31).2.2.1 ∈ wsX11_init := by decide +kernel
  refine cr_aload_n C 0 dX11_init_127 rfl rfl ?_
  refine cr_bipush C (v := 90) dX11_init_128 (by decide) ?_
  refine cr_newa C 0 (by decide) 90 dX11_init_130 rfl arI (by decide) rfl (Nat.le_of_ble_eq_true rfl) (Nat.le_of_ble_eq_true rfl) (Nat.le_of_ble_eq_true rfl) ?_
  intro q16
  refine cr_putF C I 28 (fs' := [.int 0, .int 0, .int 0, .ref q1, .ref q2, .ref q3, .ref q4, .ref q5, .int 0, .int 0, .int 0, .ref q6, .ref q7, .ref q8, .ref q9, .ref q10, .int 0, .int 0, .int 0, .ref q11, .int 0, .int 0, .int 0, .int 0, .ref q12, .ref q13, .ref q14, .ref q15, .ref q16, .null, .null, .null]) rfl rfl inX (by decide) ln56 tyX11 tyX11_ok nmX11 rfl rfl (.array .int) rfl rfl rfl (Nat.le_of_ble_eq_true rfl) rfl dX11_init_132 ?_
  refine cr_aload_n C 0 dX11_init_135 rfl rfl ?_
  refine cr_sipush C (v := 1000) dX11_init_136 (by decide) ?_
  refine cr_newa C 0 (by decide) 1000 dX11_init_139 rfl arI (by decide) rfl (Nat.le_of_ble_eq_true rfl) (Nat.le_of_ble_eq_true rfl) (Nat.le_of_ble_eq_true rfl) ?_
  intro q17
  refine cr_putF C I 29 (fs' := [.int 0, .int 0, .int 0, .ref q1, .ref q2, .ref q3, .ref q4, .ref q5, .int 0, .int 0, .int 0, .ref q6, .ref q7, .ref q8, .ref q9, .ref q10, .int 0, .int 0, .int 0, .ref q11, .int 0, .int 0, .int 0, .int 0, .ref q12, .ref q13, .ref q14, .ref q15, .ref q16, .ref q17, .null, .null]) rfl rfl inX (by decide) ln59 tyX11 tyX11_ok nmX11 rfl rfl (.array .int) rfl rfl rfl (Nat.le_of_ble_eq_true rfl) rfl dX11_init_141 ?_
  refine cr_aload_n C 0 dX11_init_144 rfl rfl ?_
  refine cr_sipush C (v := 1000) dX11_init_145 (by decide) ?_
  refine cr_newa C 0 (by decide) 1000 dX11_init_148 rfl arI (by decide) rfl (Nat.le_of_ble_eq_true rfl) (Nat.le_of_ble_eq_true rfl) (Nat.le_of_ble_eq_true rfl) ?_
  intro q18
  refine cr_putF C I 30 (fs' := [.int 0, .int 0, .int 0, .ref q1, .ref q2, .ref q3, .ref q4, .ref q5, .int 0, .int 0, .int 0, .ref q6, .ref q7, .ref q8, .ref q9, .ref q10, .int 0, .int 0, .int 0, .ref q11, .int 0, .int 0, .int 0, .int 0, .ref q12, .ref q13, .ref q14, .ref q15, .ref q16, .ref q17, .ref q18, .null]) rfl rfl inX (by decide) ln62 tyX11 tyX11_ok nmX11 rfl rfl (.array .int) rfl rfl rfl (Nat.le_of_ble_eq_true rfl) rfl dX11_init_150 ?_
  refine cr_aload_n C 0 dX11_init_153 rfl rfl ?_
  refine cr_bipush C (v := 9) dX11_init_154 (by decide) ?_
  refine cr_newa C 0 (by decide) 9 dX11_init_156 rfl arI (by decide) rfl (Nat.le_of_ble_eq_true rfl) (Nat.le_of_ble_eq_true rfl) (Nat.le_of_ble_eq_true rfl) ?_
  intro q19
  refine cr_putF C I 31 (fs' := [.int 0, .int 0, .int 0, .ref q1, .ref q2, .ref q3, .ref q4, .ref q5, .int 0, .int 0, .int 0, .ref q6, .ref q7, .ref q8, .ref q9, .ref q10, .int 0, .int 0, .int 0, .ref q11, .int 0, .int 0, .int 0, .int 0, .ref q12, .ref q13, .ref q14, .ref q15, .ref q16, .ref q17, .ref q18, .ref q19]) rfl rfl inX (by decide) ln65 tyX11 tyX11_ok nmX11 rfl rfl (.array .int) rfl rfl rfl (Nat.le_of_ble_eq_true rfl) rfl dX11_init_158 ?_
  exact K q16 q17 q18 q19
set_option maxHeartbeats 4000000 in
theorem kMod_t {X : CX} {D : va_G} {cA : Nat → ClassId} (C : cC X D cA cX11_init RX11 wsX11_init 1 2 46 19 3239) (ad : Nat → Nat) (E : cE X D cX11_init 19 3239 (fun u => ∃ (ad' : Nat → Nat) (t : Sg), ad' 0 = ad 0 ∧ iniM t ∧ u = gWs (D, cA, ad', shM) t)) : cG X D (gWs (D, cA, ad, shM) z0) 19 3239 161 [(0, .ref (ad 0))] [] := by
  have inX : ∀ v ∈ u_ws RX11 TX11 32, v ∈ wsX11_init := by decide +kernel
  have arI : Cond.arrayClass (newarray.typeOf .int) ∈ wsX11_init := by decide +kernel
  have arB : Cond.arrayClass (newarray.typeOf .byte) ∈ wsX11_init := by decide +kernel
  have ln37 : Cond.fieldLink RX11 37 (TX11 15).1 (TX11 15).2.1 (TX11 15).2.2.1 ∈ wsX11_init := by decide +kernel
  have ln75 : Cond.fieldLink RX11 75 (TX11 9).1 (TX11 9).2.1 (TX11 9).2.2.1 ∈ wsX11_init := by decide +kernel
  obtain ⟨t1, t2, t3, t4, t5, t6, t7, t8, e1, e2, e3, e4, e5, e6, e7, f1, i8⟩ := ini_M
  have C2 : cC X ((D, cA, ad, shM) : Wl).1 ((D, cA, ad, shM) : Wl).2.1 cX11_init RX11 wsX11_init 1 2 46 19 3239 := C
  refine cr_aload_n C2 0 dX11_init_161 rfl rfl ?_
  refine cr_nil ?_
  refine cr_callVV C2 0 (nA := 0) (As := []) (rest := []) (mX11_clears X.2.1 (w := (D, cA, ad, shM)) rfl e1) gX11_init_X11_clears rfl ⟨rfl, rfl⟩ ⟨Nat.le_of_ble_eq_true rfl, Nat.le_of_ble_eq_true rfl⟩ rfl (Nat.le_of_ble_eq_true rfl) rfl (by decide +kernel) (scm_0 rfl) rfl ⟨Nat.le_of_ble_eq_true rfl, Nat.le_of_ble_eq_true rfl⟩ dX11_init_162 ?_
  refine cr_aload_n C2 0 dX11_init_165 rfl rfl ?_
  refine cr_iconst C2 (v := nI 0) dX11_init_166 rfl ?_
  refine cr_iconst C2 (v := nI 0) dX11_init_167 rfl ?_
  refine cr_bipush C2 (v := nI 9) dX11_init_168 rfl ?_
  refine cr_iconst C2 (v := nI 2) dX11_init_170 rfl ?_
  refine cr_bipush C2 (v := nI 8) dX11_init_171 rfl ?_
  refine cr_callVV C2 0 (nA := 5) (As := [.int (nI 0), .int (nI 0), .int (nI 9), .int (nI 2), .int (nI 8)]) (rest := []) (mX11_comes X.2.1 (w := (D, cA, ad, shM)) rfl e2) gX11_init_X11_comes rfl ⟨rfl, rfl⟩ ⟨Nat.le_of_ble_eq_true rfl, Nat.le_of_ble_eq_true rfl⟩ rfl (Nat.le_of_ble_eq_true rfl) rfl (by decide +kernel) (scm_0 rfl) rfl ⟨Nat.le_of_ble_eq_true rfl, Nat.le_of_ble_eq_true rfl⟩ dX11_init_173 ?_
  refine cr_aload_n C2 0 dX11_init_176 rfl rfl ?_
  refine cr_iconst C2 (v := nI 1) dX11_init_177 rfl ?_
  refine cr_iconst C2 (v := nI 0) dX11_init_178 rfl ?_
  refine cr_bipush C2 (v := nI 15) dX11_init_179 rfl ?_
  refine cr_iconst C2 (v := nI 4) dX11_init_181 rfl ?_
  refine cr_bipush C2 (v := nI 6) dX11_init_182 rfl ?_
  refine cr_callVV C2 0 (nA := 5) (As := [.int (nI 1), .int (nI 0), .int (nI 15), .int (nI 4), .int (nI 6)]) (rest := []) (mX11_comes X.2.1 (w := (D, cA, ad, shM)) rfl e3) gX11_init_X11_comes rfl ⟨rfl, rfl⟩ ⟨Nat.le_of_ble_eq_true rfl, Nat.le_of_ble_eq_true rfl⟩ rfl (Nat.le_of_ble_eq_true rfl) rfl (by decide +kernel) (scm_0 rfl) rfl ⟨Nat.le_of_ble_eq_true rfl, Nat.le_of_ble_eq_true rfl⟩ dX11_init_184 ?_
  refine cr_aload_n C2 0 dX11_init_187 rfl rfl ?_
  refine cr_iconst C2 (v := nI 2) dX11_init_188 rfl ?_
  refine cr_iconst C2 (v := nI 2) dX11_init_189 rfl ?_
  refine cr_bipush C2 (v := nI 7) dX11_init_190 rfl ?_
  refine cr_iconst C2 (v := nI 3) dX11_init_192 rfl ?_
  refine cr_iconst C2 (v := nI 5) dX11_init_193 rfl ?_
  refine cr_callVV C2 0 (nA := 5) (As := [.int (nI 2), .int (nI 2), .int (nI 7), .int (nI 3), .int (nI 5)]) (rest := []) (mX11_comes X.2.1 (w := (D, cA, ad, shM)) rfl e4) gX11_init_X11_comes rfl ⟨rfl, rfl⟩ ⟨Nat.le_of_ble_eq_true rfl, Nat.le_of_ble_eq_true rfl⟩ rfl (Nat.le_of_ble_eq_true rfl) rfl (by decide +kernel) (scm_0 rfl) rfl ⟨Nat.le_of_ble_eq_true rfl, Nat.le_of_ble_eq_true rfl⟩ dX11_init_194 ?_
  refine cr_aload_n C2 0 dX11_init_197 rfl rfl ?_
  refine cr_iconst C2 (v := nI 0) dX11_init_198 rfl ?_
  refine cr_iconst C2 (v := nI 2) dX11_init_199 rfl ?_
  refine cr_iconst C2 (v := nI 4) dX11_init_200 rfl ?_
  refine cr_iconst C2 (v := nI 1) dX11_init_201 rfl ?_
  refine cr_bipush C2 (v := nI 9) dX11_init_202 rfl ?_
  refine cr_callVV C2 0 (nA := 5) (As := [.int (nI 0), .int (nI 2), .int (nI 4), .int (nI 1), .int (nI 9)]) (rest := []) (mX11_comes X.2.1 (w := (D, cA, ad, shM)) rfl e5) gX11_init_X11_comes rfl ⟨rfl, rfl⟩ ⟨Nat.le_of_ble_eq_true rfl, Nat.le_of_ble_eq_true rfl⟩ rfl (Nat.le_of_ble_eq_true rfl) rfl (by decide +kernel) (scm_0 rfl) rfl ⟨Nat.le_of_ble_eq_true rfl, Nat.le_of_ble_eq_true rfl⟩ dX11_init_204 ?_
  refine cr_aload_n C2 0 dX11_init_207 rfl rfl ?_
  refine cr_iconst C2 (v := nI 3) dX11_init_208 rfl ?_
  refine cr_iconst C2 (v := nI 3) dX11_init_209 rfl ?_
  refine cr_bipush C2 (v := nI 11) dX11_init_210 rfl ?_
  refine cr_iconst C2 (v := nI 2) dX11_init_212 rfl ?_
  refine cr_bipush C2 (v := nI 7) dX11_init_213 rfl ?_
  refine cr_callVV C2 0 (nA := 5) (As := [.int (nI 3), .int (nI 3), .int (nI 11), .int (nI 2), .int (nI 7)]) (rest := []) (mX11_comes X.2.1 (w := (D, cA, ad, shM)) rfl e6) gX11_init_X11_comes rfl ⟨rfl, rfl⟩ ⟨Nat.le_of_ble_eq_true rfl, Nat.le_of_ble_eq_true rfl⟩ rfl (Nat.le_of_ble_eq_true rfl) rfl (by decide +kernel) (scm_0 rfl) rfl ⟨Nat.le_of_ble_eq_true rfl, Nat.le_of_ble_eq_true rfl⟩ dX11_init_215 ?_
  refine cr_aload_n C2 0 dX11_init_218 rfl rfl ?_
  refine cr_iconst C2 (v := nI 0) dX11_init_219 rfl ?_
  refine cr_iconst C2 (v := nI 4) dX11_init_220 rfl ?_
  refine cr_bipush C2 (v := nI 20) dX11_init_221 rfl ?_
  refine cr_iconst C2 (v := nI 5) dX11_init_223 rfl ?_
  refine cr_bipush C2 (v := nI 10) dX11_init_224 rfl ?_
  refine cr_callVV C2 0 (nA := 5) (As := [.int (nI 0), .int (nI 4), .int (nI 20), .int (nI 5), .int (nI 10)]) (rest := []) (mX11_comes X.2.1 (w := (D, cA, ad, shM)) rfl e7) gX11_init_X11_comes rfl ⟨rfl, rfl⟩ ⟨Nat.le_of_ble_eq_true rfl, Nat.le_of_ble_eq_true rfl⟩ rfl (Nat.le_of_ble_eq_true rfl) rfl (by decide +kernel) (scm_0 rfl) rfl ⟨Nat.le_of_ble_eq_true rfl, Nat.le_of_ble_eq_true rfl⟩ dX11_init_226 ?_
  refine cr_aload_n C2 0 dX11_init_229 rfl rfl ?_
  refine cr_unil ?_
  refine cr_getW C2 15 0 (scm_0 rfl) rfl inX (by decide) ln37 rfl dX11_init_230 ?_
  refine cr_sipush C2 (v := nI 328) dX11_init_233 rfl ?_
  refine cr_iconst C2 (v := nI 2) dX11_init_236 rfl ?_
  refine cr_p10 C2 (scm_10 rfl) (show 328 < 336 by decide) dX11_init_237 ?_
  refine cr_aload_n C2 0 dX11_init_238 rfl rfl ?_
  refine cr_getW C2 15 0 (scm_0 rfl) rfl inX (by decide) ln37 rfl dX11_init_239 ?_
  refine cr_sipush C2 (v := nI 329) dX11_init_242 rfl ?_
  refine cr_iconst C2 (v := nI 1) dX11_init_245 rfl ?_
  refine cr_p10 C2 (scm_10 rfl) (show 329 < 336 by decide) dX11_init_246 ?_
  refine cr_aload_n C2 0 dX11_init_247 rfl rfl ?_
  refine cr_getW C2 15 0 (scm_0 rfl) rfl inX (by decide) ln37 rfl dX11_init_248 ?_
  refine cr_sipush C2 (v := nI 317) dX11_init_251 rfl ?_
  refine cr_iconst C2 (v := nI 5) dX11_init_254 rfl ?_
  refine cr_p10 C2 (scm_10 rfl) (show 317 < 336 by decide) dX11_init_255 ?_
  refine cr_aload_n C2 0 dX11_init_256 rfl rfl ?_
  refine cr_getW C2 15 0 (scm_0 rfl) rfl inX (by decide) ln37 rfl dX11_init_257 ?_
  refine cr_sipush C2 (v := nI 319) dX11_init_260 rfl ?_
  refine cr_bipush C2 (v := nI 6) dX11_init_263 rfl ?_
  refine cr_p10 C2 (scm_10 rfl) (show 319 < 336 by decide) dX11_init_265 ?_
  refine cr_aload_n C2 0 dX11_init_266 rfl rfl ?_
  refine cr_getW C2 15 0 (scm_0 rfl) rfl inX (by decide) ln37 rfl dX11_init_267 ?_
  refine cr_sipush C2 (v := nI 320) dX11_init_270 rfl ?_
  refine cr_iconst C2 (v := nI 2) dX11_init_273 rfl ?_
  refine cr_p10 C2 (scm_10 rfl) (show 320 < 336 by decide) dX11_init_274 ?_
  refine cr_aload_n C2 0 dX11_init_275 rfl rfl ?_
  refine cr_getW C2 15 0 (scm_0 rfl) rfl inX (by decide) ln37 rfl dX11_init_276 ?_
  refine cr_sipush C2 (v := nI 321) dX11_init_279 rfl ?_
  refine cr_iconst C2 (v := nI 3) dX11_init_282 rfl ?_
  refine cr_p10 C2 (scm_10 rfl) (show 321 < 336 by decide) dX11_init_283 ?_
  refine cr_aload_n C2 0 dX11_init_284 rfl rfl ?_
  refine cr_bipush C2 (v := nI 9) dX11_init_285 rfl ?_
  refine cr_putW C2 9 0 (scm_0 rfl) rfl inX (by decide) ln75 rfl tyX11 tyX11_ok nmX11 rfl .int rfl rfl rfl dX11_init_287 ?_
  refine cr_aload_n C2 0 dX11_init_290 rfl rfl ?_
  refine cr_nil ?_
  refine cr_callVV C2 0 (nA := 0) (As := []) (rest := []) (mX11_settles X.2.1 (w := (D, cA, ad, shM)) rfl f1) gX11_init_X11_settles rfl ⟨rfl, rfl⟩ ⟨Nat.le_of_ble_eq_true rfl, Nat.le_of_ble_eq_true rfl⟩ rfl (Nat.le_of_ble_eq_true rfl) rfl (by decide +kernel) (scm_0 rfl) rfl ⟨Nat.le_of_ble_eq_true rfl, Nat.le_of_ble_eq_true rfl⟩ dX11_init_291 ?_
  refine cr_unil ?_
  exact E (gWs (D, cA, ad, shM) t8) _ _ _ _ (Nat.le_of_ble_eq_true rfl) (Nat.le_of_ble_eq_true rfl) ⟨ad, t8, rfl, i8, rfl⟩ dX11_init_294
