-- X2_leftOver: 61 instructions, frames 1, locals 24
set_option maxRecDepth 100000 in
set_option maxHeartbeats 4000000 in
theorem mX2_leftOver (l : Launch) {w : Wl} (hw : w.2.2.2 = shC) {σ : Sg} {a0 : Int32} {a1 : Int32} {a2 : Int32} {a3 : Int32}  {r : Int32} {σ' : Sg} (hF : fX2_leftOver σ a0 a1 a2 a3 = some (r, σ')) : gMI l w yX2_leftOver wsX2_leftOver ({ frames := 1, cells := 0, slots := 0, locals := 24 } : Room) [.ref (w.2.2.1 72), .int a0, .int a1, .int a2, .int a3] σ r σ' := by
  have inX2 : ∀ v ∈ u_ws RX2 TX2 2, v ∈ wsX2_leftOver := by decide +kernel
  have inX3 : ∀ v ∈ u_ws RX3 TX3 13, v ∈ wsX2_leftOver := by decide +kernel
  have ln9 : Cond.fieldLink RX2 9 (TX2 1).1 (TX2 1).2.1 (TX2 1).2.2.1 ∈ wsX2_leftOver := by decide +kernel
  have ln15 : Cond.fieldLink RX2 15 (TX2 0).1 (TX2 0).2.1 (TX2 0).2.2.1 ∈ wsX2_leftOver := by decide +kernel
  have ln19 : Cond.fieldLink RX2 19 (TX3 8).1 (TX3 8).2.1 (TX3 8).2.2.1 ∈ wsX2_leftOver := by decide +kernel
  have ln24 : Cond.fieldLink RX2 24 (TX3 7).1 (TX3 7).2.1 (TX3 7).2.2.1 ∈ wsX2_leftOver := by decide +kernel
  have kmin40 : Cond.methodLink RX2 40 Lib.Math.min.name ∈ wsX2_leftOver ∧ Cond.static Lib.Math.min.name ∈ wsX2_leftOver ∧ Cond.initialized "java/lang/Math" ∈ wsX2_leftOver ∧ Cond.code Lib.Math.min.name Lib.Math.min.code 2 (some .int) ∈ wsX2_leftOver := by decide +kernel
  refine gStartI cX2_leftOver 9 RX2 rfl (by decide) rfl (Nat.le_of_ble_eq_true rfl) ?_
  intro X hl C
  show gG X w σ 0 [(0, .ref (w.2.2.1 72)), (1, .int a0), (2, .int a1), (3, .int a2), (4, .int a3)] []
  unfold fX2_leftOver at hF
  refine gr_iload_n C 3 dX2_leftOver_0 rfl rfl ?_
  refine gr_iload_n C 2 dX2_leftOver_1 rfl rfl ?_
  refine gr_mmin C (st := []) dX2_leftOver_2 kmin40.1 kmin40.2.1 kmin40.2.2.1 kmin40.2.2.2 (by decide) (Nat.le_of_ble_eq_true rfl) ?_
  obtain ⟨x1, ex1, hF⟩ := gLet_e hF
  refine gr_nmI ex1 ?_
  refine gr_istore C [(5, .int x1), (0, .ref (w.2.2.1 72)), (1, .int a0), (2, .int a1), (3, .int a2), (4, .int a3)] dX2_leftOver_5 (by decide) rfl ?_
  refine gr_iload_n C 3 dX2_leftOver_7 rfl rfl ?_
  refine gr_iload C 0 dX2_leftOver_8 rfl ?_
  refine gr_isub C dX2_leftOver_10 ?_
  obtain ⟨x2, ex2, hF⟩ := gLet_e hF
  refine gr_nmI ex2 ?_
  refine gr_istore C [(6, .int x2), (5, .int x1), (0, .ref (w.2.2.1 72)), (1, .int a0), (2, .int a1), (3, .int a2), (4, .int a3)] dX2_leftOver_11 (by decide) rfl ?_
  refine gr_aload_n C 2 dX2_leftOver_13 rfl rfl ?_
  refine gr_getR C 72 0 4 dX2_leftOver_14 (sc_72 hw) rfl inX2 (by decide) ln15 rfl ?_
  refine gr_getR C 4 8 13 dX2_leftOver_17 (sc_4 hw) rfl inX3 (by decide) ln19 rfl ?_
  refine gr_iload_n C 3 dX2_leftOver_20 rfl rfl ?_
  obtain ⟨h4, x3, ex3, hF⟩ := gRd_e hF
  refine gr_iald C 13 10 dX2_leftOver_21 (sc_13 hw) h4 ?_
  refine gr_nmI ex3 ?_
  refine gr_istore C [(7, .int x3), (6, .int x2), (5, .int x1), (0, .ref (w.2.2.1 72)), (1, .int a0), (2, .int a1), (3, .int a2), (4, .int a3)] dX2_leftOver_22 (by decide) rfl ?_
  refine gr_sub [3, 4, 7, 2, 1, 0] [(0, .ref (w.2.2.1 72)), (1, .int a0), (4, .int a3), (5, .int x1), (6, .int x2), (7, .int x3)] rfl ?_
  have L33 : ∀ (n : Nat) (x5 : Int32) (x6 : Int32) (g7 : Sg) , fX2_leftOver_24 a0 a3 x1 n x5 x6 g7  = some (r, σ') → gG X w g7 24 [(0, .ref (w.2.2.1 72)), (1, .int a0), (4, .int a3), (5, .int x1), (6, .int x5), (7, .int x6)] [] := by
    intro n
    induction n with
    | zero =>
      intro x5 x6 g7 hF
      rw [fX2_leftOver_24] at hF
      cases hF
    | succ n ih =>
      intro x5 x6 g7 hF
      rw [fX2_leftOver_24] at hF
      refine gr_iload C 5 dX2_leftOver_24 rfl ?_
      refine gr_aload_n C 0 dX2_leftOver_26 rfl rfl ?_
      refine gr_getR C 72 0 4 dX2_leftOver_27 (sc_72 hw) rfl inX2 (by decide) ln15 rfl ?_
      refine gr_getR C 4 8 13 dX2_leftOver_30 (sc_4 hw) rfl inX3 (by decide) ln19 rfl ?_
      refine gr_iload_n C 1 dX2_leftOver_33 rfl rfl ?_
      refine gr_iconst C (v := 1) dX2_leftOver_34 (by decide) ?_
      refine gr_iadd C dX2_leftOver_35 ?_
      obtain ⟨h9, x8, ex8, hF⟩ := gRd_e hF
      refine gr_iald C 13 10 dX2_leftOver_36 (sc_13 hw) h9 ?_
      refine gr_nmI ex8 ?_
      refine gr_icmp_ge C 115 dX2_leftOver_37 (by decide) (fun c10 => ?_) (fun c10 => ?_)
      · rw [if_pos c10] at hF
        refine gr_sub [4] [(6, .int x5)] rfl ?_
        refine gr_iload C 0 dX2_leftOver_115 rfl ?_
        refine gr_sub [] [] rfl ?_
        cases hF
        exact gr_iret C dX2_leftOver_117 ⟨rfl, rfl⟩
      · rw [if_neg c10] at hF
        refine gr_aload_n C 0 dX2_leftOver_40 rfl rfl ?_
        refine gr_getR C 72 0 4 dX2_leftOver_41 (sc_72 hw) rfl inX2 (by decide) ln15 rfl ?_
        refine gr_getR C 4 7 12 dX2_leftOver_44 (sc_4 hw) rfl inX3 (by decide) ln24 rfl ?_
        refine gr_iload C 5 dX2_leftOver_47 rfl ?_
        obtain ⟨h12, x11, ex11, hF⟩ := gRd_e hF
        refine gr_iald C 12 8 dX2_leftOver_49 (sc_12 hw) h12 ?_
        refine gr_nmI ex11 ?_
        refine gr_istore C [(8, .int x11), (0, .ref (w.2.2.1 72)), (1, .int a0), (4, .int a3), (5, .int x1), (6, .int x5), (7, .int x6)] dX2_leftOver_50 (by decide) rfl ?_
        refine gr_aload_n C 1 dX2_leftOver_52 rfl rfl ?_
        refine gr_getR C 72 1 73 dX2_leftOver_53 (sc_72 hw) rfl inX2 (by decide) ln9 rfl ?_
        refine gr_iload C 0 dX2_leftOver_56 rfl ?_
        refine gr_iload C 3 dX2_leftOver_58 rfl ?_
        refine gr_iload C 0 dX2_leftOver_60 rfl ?_
        obtain ⟨r15, g14, hc13, hF⟩ := gCl_e hF
        refine gr_callNI C (n := 2) (As := [.int a3, .int x11]) (rest := [.int x11, .ref (w.2.2.1 73)]) (host := "YoungerMilk") (mX10_has X.2.1 hw  hc13) gX2_leftOver_X10_has_n46 rfl ⟨rfl, rfl⟩ ⟨by decide, by decide⟩ rfl (Nat.le_of_ble_eq_true rfl) rfl (by decide +kernel) (by decide +kernel) (by decide +kernel) (by decide +kernel) dX2_leftOver_62 ?_
        obtain ⟨K16, eK16, hF⟩ := gLet_e hF
        have JK16 : ∀ (x17 : Int32) (g18 : Sg), K16 x17 g18 = some (r, σ') → gG X w g18 96 [(0, .ref (w.2.2.1 72)), (1, .int a0), (4, .int a3), (5, .int x1), (6, .int x5), (7, .int x6), (8, .int x11)] [.int x17, .int x11, .ref (w.2.2.1 73)] := by
          intro x17 g18 hF
          rw [eK16] at hF
          try dsimp only at hF
          obtain ⟨h19, g20, eg20, hF⟩ := gWr_e hF
          refine gr_iast C 73 8 dX2_leftOver_96 (sc_73 hw) h19 ?_
          refine gr_nmS eg20 ?_
          refine gr_iload C 4 dX2_leftOver_97 rfl ?_
          refine gr_aload_n C 0 dX2_leftOver_99 rfl rfl ?_
          refine gr_getR C 72 1 73 dX2_leftOver_100 (sc_72 hw) rfl inX2 (by decide) ln9 rfl ?_
          refine gr_iload C 6 dX2_leftOver_103 rfl ?_
          obtain ⟨h22, x21, ex21, hF⟩ := gRd_e hF
          refine gr_iald C 73 8 dX2_leftOver_105 (sc_73 hw) h22 ?_
          refine gr_nmI ex21 ?_
          refine gr_isub C dX2_leftOver_106 ?_
          obtain ⟨x23, ex23, hF⟩ := gLet_e hF
          refine gr_nmI ex23 ?_
          refine gr_istore C [(6, .int x23), (0, .ref (w.2.2.1 72)), (1, .int a0), (4, .int a3), (5, .int x1), (7, .int x6), (8, .int x11)] dX2_leftOver_107 (by decide) rfl ?_
          obtain ⟨x24, ex24, hF⟩ := gLet_e hF
          refine gr_iinc C (v := x24) 5 [(7, .int x24), (6, .int x23), (0, .ref (w.2.2.1 72)), (1, .int a0), (4, .int a3), (5, .int x1), (8, .int x11)] dX2_leftOver_109 rfl (by rw [ex24]; rfl) (by decide) rfl ?_
          refine gr_goto C 24 dX2_leftOver_112 (by decide) ?_
          refine gr_sub [2, 3, 4, 5, 1, 0] [(0, .ref (w.2.2.1 72)), (1, .int a0), (4, .int a3), (5, .int x1), (6, .int x23), (7, .int x24)] rfl ?_
          exact ih x23 x24 g20   hF
        refine gr_if_eq C 95 dX2_leftOver_65 (by decide) (fun c25 => ?_) (fun c25 => ?_)
        · rw [if_pos c25] at hF
          refine gr_sub [1, 2, 3, 4, 5, 6, 0] [(0, .ref (w.2.2.1 72)), (1, .int a0), (4, .int a3), (5, .int x1), (6, .int x5), (7, .int x6), (8, .int x11)] rfl ?_
          refine gr_iconst C (v := 0) dX2_leftOver_95 (by decide) ?_
          exact JK16 (0 : Int32) g14 hF
        · rw [if_neg c25] at hF
          refine gr_sub [1, 2, 3, 4, 5, 6, 0] [(0, .ref (w.2.2.1 72)), (1, .int a0), (4, .int a3), (5, .int x1), (6, .int x5), (7, .int x6), (8, .int x11)] rfl ?_
          refine gr_aload_n C 0 dX2_leftOver_68 rfl rfl ?_
          refine gr_getR C 72 0 4 dX2_leftOver_69 (sc_72 hw) rfl inX2 (by decide) ln15 rfl ?_
          refine gr_iload C 6 dX2_leftOver_72 rfl ?_
          refine gr_iload C 3 dX2_leftOver_74 rfl ?_
          obtain ⟨K26, eK26, hF⟩ := gLet_e hF
          have JK26 : ∀ (x27 : Int32) (g28 : Sg), K26 x27 g28 = some (r, σ') → gG X w g28 84 [(0, .ref (w.2.2.1 72)), (1, .int a0), (4, .int a3), (5, .int x1), (6, .int x5), (7, .int x6), (8, .int x11)] [.int x27, .int x11, .ref (w.2.2.1 4), .int x11, .ref (w.2.2.1 73)] := by
            intro x27 g28 hF
            rw [eK26] at hF
            try dsimp only at hF
            obtain ⟨r31, g30, hc29, hF⟩ := gCl_e hF
            refine gr_callVI C (n := 2) (As := [.int x11, .int x27]) (rest := [.int x11, .ref (w.2.2.1 73)]) 4 (mX3_wants X.2.1 hw (pl_4 hw) hc29) gX2_leftOver_X3_wants rfl ⟨rfl, rfl⟩ ⟨by decide, by decide⟩ rfl (Nat.le_of_ble_eq_true rfl) rfl (by decide +kernel) (sc_4 hw) rfl dX2_leftOver_84 ?_
            refine gr_iload C 4 dX2_leftOver_87 rfl ?_
            refine gr_mmin C (st := [.int x11, .ref (w.2.2.1 73)]) dX2_leftOver_89 kmin40.1 kmin40.2.1 kmin40.2.2.1 kmin40.2.2.2 (by decide) (Nat.le_of_ble_eq_true rfl) ?_
            refine gr_goto C 96 dX2_leftOver_92 (by decide) ?_
            exact JK16 (if x5 < r31 then x5 else r31) g30 hF
          refine gr_if_le C 83 dX2_leftOver_76 (by decide) (fun c32 => ?_) (fun c32 => ?_)
          · rw [if_pos c32] at hF
            refine gr_iconst C (v := 0) dX2_leftOver_83 (by decide) ?_
            exact JK26 (0 : Int32) g14 hF
          · rw [if_neg c32] at hF
            refine gr_iconst C (v := 1) dX2_leftOver_79 (by decide) ?_
            refine gr_goto C 84 dX2_leftOver_80 (by decide) ?_
            exact JK26 (1 : Int32) g14 hF
  refine L33 _ x2 x3 σ   hF
-- X2_leftOverAt: 16 instructions, frames 2, locals 52
set_option maxRecDepth 100000 in
set_option maxHeartbeats 4000000 in
theorem mX2_leftOverAt (l : Launch) {w : Wl} (hw : w.2.2.2 = shC) {σ : Sg} {s0 : Nat} {a1 : Int32} (hs0 : gSt w s0) {r : Int32} {σ' : Sg} (hF : fX2_leftOverAt σ s0 a1 = some (r, σ')) : gMI l w yX2_leftOverAt wsX2_leftOverAt ({ frames := 2, cells := 0, slots := 0, locals := 52 } : Room) [.ref (w.2.2.1 72), .ref (w.2.2.1 s0), .int a1] σ r σ' := by
  have inX9 : ∀ v ∈ u_ws RX9 TX9 5, v ∈ wsX2_leftOverAt := by decide +kernel
  have ln54 : Cond.fieldLink RX2 54 (TX9 0).1 (TX9 0).2.1 (TX9 0).2.2.1 ∈ wsX2_leftOverAt := by decide +kernel
  have ln57 : Cond.fieldLink RX2 57 (TX9 1).1 (TX9 1).2.1 (TX9 1).2.2.1 ∈ wsX2_leftOverAt := by decide +kernel
  refine gStartI cX2_leftOverAt 3 RX2 rfl (by decide) rfl (Nat.le_of_ble_eq_true rfl) ?_
  intro X hl C
  show gG X w σ 0 [(0, .ref (w.2.2.1 72)), (1, .ref (w.2.2.1 s0)), (2, .int a1)] []
  unfold fX2_leftOverAt at hF
  refine gr_aload_n C 0 dX2_leftOverAt_0 rfl rfl ?_
  refine gr_iload_n C 2 dX2_leftOverAt_1 rfl rfl ?_
  refine gr_aload_n C 1 dX2_leftOverAt_2 rfl rfl ?_
  refine gr_getR C s0 0 (s0 + 1) dX2_leftOverAt_3 hs0.1 rfl inX9 (by decide) ln54 rfl ?_
  refine gr_iload_n C 2 dX2_leftOverAt_6 rfl rfl ?_
  obtain ⟨h2, x1, ex1, hF⟩ := gRd_e hF
  refine gr_iald C (s0 + 1) 9 dX2_leftOverAt_7 hs0.2.1 h2 ?_
  refine gr_nmI ex1 ?_
  refine gr_aload_n C 1 dX2_leftOverAt_8 rfl rfl ?_
  refine gr_getR C s0 1 (s0 + 2) dX2_leftOverAt_9 hs0.1 rfl inX9 (by decide) ln57 rfl ?_
  refine gr_iload_n C 2 dX2_leftOverAt_12 rfl rfl ?_
  obtain ⟨h4, x3, ex3, hF⟩ := gRd_e hF
  refine gr_iald C (s0 + 2) 9 dX2_leftOverAt_13 hs0.2.2.1 h4 ?_
  refine gr_nmI ex3 ?_
  refine gr_aload_n C 0 dX2_leftOverAt_14 rfl rfl ?_
  refine gr_aload_n C 1 dX2_leftOverAt_15 rfl rfl ?_
  refine gr_iload_n C 2 dX2_leftOverAt_16 rfl rfl ?_
  obtain ⟨r7, g6, hc5, hF⟩ := gCl_e hF
  refine gr_callVI C (n := 2) (As := [.ref (w.2.2.1 s0), .int a1]) (rest := [.int x3, .int x1, .int a1, .ref (w.2.2.1 72)]) 72 (mX2_drinkersAt X.2.1 hw hs0 hc5) gX2_leftOverAt_X2_drinkersAt rfl ⟨rfl, rfl⟩ ⟨by decide, by decide⟩ rfl (Nat.le_of_ble_eq_true rfl) rfl (by decide +kernel) (sc_72 hw) rfl dX2_leftOverAt_17 ?_
  obtain ⟨r10, g9, hc8, hF⟩ := gCl_e hF
  refine gr_callVI C (n := 4) (As := [.int a1, .int x1, .int x3, .int r7]) (rest := []) 72 (mX2_leftOver X.2.1 hw  hc8) gX2_leftOverAt_X2_leftOver rfl ⟨rfl, rfl⟩ ⟨by decide, by decide⟩ rfl (Nat.le_of_ble_eq_true rfl) rfl (by decide +kernel) (sc_72 hw) rfl dX2_leftOverAt_20 ?_
  cases hF
  exact gr_iret C dX2_leftOverAt_23 ⟨rfl, rfl⟩
-- X10_step: 39 instructions, frames 3, locals 74
set_option maxRecDepth 100000 in
set_option maxHeartbeats 4000000 in
theorem mX10_step (l : Launch) {w : Wl} (hw : w.2.2.2 = shC) {σ : Sg} {a0 : Int32} {a1 : Int32}  {r : Int32} {σ' : Sg} (hF : fX10_step σ a0 a1 = some (r, σ')) : gMI l w yX10_step wsX10_step ({ frames := 3, cells := 0, slots := 0, locals := 74 } : Room) [.ref (w.2.2.1 0), .int a0, .int a1] σ r σ' := by
  have inX10 : ∀ v ∈ u_ws RX10 TX10 12, v ∈ wsX10_step := by decide +kernel
  have inX9 : ∀ v ∈ u_ws RX9 TX9 5, v ∈ wsX10_step := by decide +kernel
  have ln29 : Cond.fieldLink RX10 29 (TX10 3).1 (TX10 3).2.1 (TX10 3).2.2.1 ∈ wsX10_step := by decide +kernel
  have ln50 : Cond.fieldLink RX10 50 (TX10 6).1 (TX10 6).2.1 (TX10 6).2.2.1 ∈ wsX10_step := by decide +kernel
  have ln130 : Cond.fieldLink RX10 130 (TX9 0).1 (TX9 0).2.1 (TX9 0).2.2.1 ∈ wsX10_step := by decide +kernel
  have ln134 : Cond.fieldLink RX10 134 (TX9 1).1 (TX9 1).2.1 (TX9 1).2.2.1 ∈ wsX10_step := by decide +kernel
  refine gStartI cX10_step 3 RX10 rfl (by decide) rfl (Nat.le_of_ble_eq_true rfl) ?_
  intro X hl C
  show gG X w σ 0 [(0, .ref (w.2.2.1 0)), (1, .int a0), (2, .int a1)] []
  unfold fX10_step at hF
  refine gr_aload_n C 0 dX10_step_0 rfl rfl ?_
  refine gr_iload_n C 1 dX10_step_1 rfl rfl ?_
  obtain ⟨r3, g2, hc1, hF⟩ := gCl_e hF
  refine gr_callVI C (n := 1) (As := [.int a0]) (rest := []) 0 (mX10_noStep X.2.1 hw  hc1) gX10_step_X10_noStep rfl ⟨rfl, rfl⟩ ⟨by decide, by decide⟩ rfl (Nat.le_of_ble_eq_true rfl) rfl (by decide +kernel) (sc_0 hw) rfl dX10_step_2 ?_
  refine gr_if_ne C 17 dX10_step_5 (by decide) (fun c4 => ?_) (fun c4 => ?_)
  · rw [if_neg c4] at hF
    refine gr_sub [] [] rfl ?_
    refine gr_iconst C (v := -1) dX10_step_17 (by decide) ?_
    cases hF
    exact gr_iret C dX10_step_18 ⟨rfl, rfl⟩
  · rw [if_pos c4] at hF
    refine gr_iload_n C 2 dX10_step_8 rfl rfl ?_
    refine gr_iconst C (v := 0) dX10_step_9 (by decide) ?_
    refine gr_iconst C (v := 3) dX10_step_10 (by decide) ?_
    obtain ⟨r7, g6, hc5, hF⟩ := gCl_e hF
    refine gr_callSI C (n := 3) (As := [.int a1, .int (0 : Int32), .int (3 : Int32)]) (rest := []) (mX10_outside X.2.1 hw  hc5) gX10_step_X10_outside rfl ⟨rfl, rfl⟩ ⟨by decide, by decide⟩ rfl (Nat.le_of_ble_eq_true rfl) rfl (by decide +kernel) dX10_step_11 ?_
    refine gr_if_eq C 19 dX10_step_14 (by decide) (fun c8 => ?_) (fun c8 => ?_)
    · rw [if_pos c8] at hF
      refine gr_iload_n C 2 dX10_step_19 rfl rfl ?_
      by_cases c9 : a1 = (0 : Int32)
      · rw [if_pos c9] at hF
        refine gr_tin C 0 28 48 dX10_step_20 (by rw [c9]; decide) (by decide) (by decide) rfl (by decide) ?_
        refine gr_sub [0, 1] [(0, .ref (w.2.2.1 0)), (1, .int a0)] rfl ?_
        refine gr_aload_n C 0 dX10_step_48 rfl rfl ?_
        refine gr_getR C 0 3 24 dX10_step_49 (sc_0 hw) rfl inX10 (by decide) ln29 rfl ?_
        refine gr_getR C 24 0 25 dX10_step_52 (sc_24 hw) rfl inX9 (by decide) ln130 rfl ?_
        refine gr_iload_n C 1 dX10_step_55 rfl rfl ?_
        obtain ⟨h11, x10, ex10, hF⟩ := gRd_e hF
        refine gr_iald C 25 9 dX10_step_56 (sc_25 hw) h11 ?_
        refine gr_nmI ex10 ?_
        cases hF
        exact gr_iret C dX10_step_57 ⟨rfl, rfl⟩
      · rw [if_neg c9] at hF
        by_cases c12 : a1 = (1 : Int32)
        · rw [if_pos c12] at hF
          refine gr_tin C 1 38 58 dX10_step_20 (by rw [c12]; decide) (by decide) (by decide) rfl (by decide) ?_
          refine gr_sub [0, 1] [(0, .ref (w.2.2.1 0)), (1, .int a0)] rfl ?_
          refine gr_aload_n C 0 dX10_step_58 rfl rfl ?_
          refine gr_getR C 0 3 24 dX10_step_59 (sc_0 hw) rfl inX10 (by decide) ln29 rfl ?_
          refine gr_getR C 24 1 26 dX10_step_62 (sc_24 hw) rfl inX9 (by decide) ln134 rfl ?_
          refine gr_iload_n C 1 dX10_step_65 rfl rfl ?_
          obtain ⟨h14, x13, ex13, hF⟩ := gRd_e hF
          refine gr_iald C 26 9 dX10_step_66 (sc_26 hw) h14 ?_
          refine gr_nmI ex13 ?_
          cases hF
          exact gr_iret C dX10_step_67 ⟨rfl, rfl⟩
        · rw [if_neg c12] at hF
          by_cases c15 : a1 = (2 : Int32)
          · rw [if_pos c15] at hF
            refine gr_tin C 2 48 68 dX10_step_20 (by rw [c15]; decide) (by decide) (by decide) rfl (by decide) ?_
            refine gr_sub [0, 1] [(0, .ref (w.2.2.1 0)), (1, .int a0)] rfl ?_
            refine gr_aload_n C 0 dX10_step_68 rfl rfl ?_
            refine gr_getR C 0 6 72 dX10_step_69 (sc_0 hw) rfl inX10 (by decide) ln50 rfl ?_
            refine gr_aload_n C 0 dX10_step_72 rfl rfl ?_
            refine gr_getR C 0 3 24 dX10_step_73 (sc_0 hw) rfl inX10 (by decide) ln29 rfl ?_
            refine gr_iload_n C 1 dX10_step_76 rfl rfl ?_
            obtain ⟨r18, g17, hc16, hF⟩ := gCl_e hF
            refine gr_callVI C (n := 2) (As := [.ref (w.2.2.1 24), .int a0]) (rest := []) 72 (mX2_leftOverAt X.2.1 hw (st_24 hw) hc16) gX10_step_X2_leftOverAt rfl ⟨rfl, rfl⟩ ⟨by decide, by decide⟩ rfl (Nat.le_of_ble_eq_true rfl) rfl (by decide +kernel) (sc_72 hw) rfl dX10_step_77 ?_
            cases hF
            exact gr_iret C dX10_step_80 ⟨rfl, rfl⟩
          · rw [if_neg c15] at hF
            have nc9 := i32_ne c9
            have nc12 := i32_ne c12
            have nc15 := i32_ne c15
            refine gr_tout C 81 dX10_step_20 (by have nc9 : a1.toInt ≠ 0 := nc9; have nc12 : a1.toInt ≠ 1 := nc12; have nc15 : a1.toInt ≠ 2 := nc15; omega) (by decide) ?_
            refine gr_sub [0, 1] [(0, .ref (w.2.2.1 0)), (1, .int a0)] rfl ?_
            refine gr_aload_n C 0 dX10_step_81 rfl rfl ?_
            refine gr_getR C 0 6 72 dX10_step_82 (sc_0 hw) rfl inX10 (by decide) ln50 rfl ?_
            refine gr_aload_n C 0 dX10_step_85 rfl rfl ?_
            refine gr_getR C 0 3 24 dX10_step_86 (sc_0 hw) rfl inX10 (by decide) ln29 rfl ?_
            refine gr_iload_n C 1 dX10_step_89 rfl rfl ?_
            obtain ⟨r21, g20, hc19, hF⟩ := gCl_e hF
            refine gr_callVI C (n := 2) (As := [.ref (w.2.2.1 24), .int a0]) (rest := []) 72 (mX2_notGoneAt X.2.1 hw (st_24 hw) hc19) gX10_step_X2_notGoneAt rfl ⟨rfl, rfl⟩ ⟨by decide, by decide⟩ rfl (Nat.le_of_ble_eq_true rfl) rfl (by decide +kernel) (sc_72 hw) rfl dX10_step_90 ?_
            cases hF
            exact gr_iret C dX10_step_93 ⟨rfl, rfl⟩
    · rw [if_neg c8] at hF
      refine gr_sub [] [] rfl ?_
      refine gr_iconst C (v := -1) dX10_step_17 (by decide) ?_
      cases hF
      exact gr_iret C dX10_step_18 ⟨rfl, rfl⟩
-- X10_noYounger: 9 instructions, frames 1, locals 22
set_option maxRecDepth 100000 in
set_option maxHeartbeats 4000000 in
theorem mX10_noYounger (l : Launch) {w : Wl} (hw : w.2.2.2 = shC) {σ : Sg} {a0 : Int32}  {r : Int32} {σ' : Sg} (hF : fX10_noYounger σ a0 = some (r, σ')) : gMI l w yX10_noYounger wsX10_noYounger ({ frames := 1, cells := 0, slots := 0, locals := 22 } : Room) [.ref (w.2.2.1 0), .int a0] σ r σ' := by
  have inX10 : ∀ v ∈ u_ws RX10 TX10 12, v ∈ wsX10_noYounger := by decide +kernel
  have inX3 : ∀ v ∈ u_ws RX3 TX3 13, v ∈ wsX10_noYounger := by decide +kernel
  have ln19 : Cond.fieldLink RX10 19 (TX10 1).1 (TX10 1).2.1 (TX10 1).2.2.1 ∈ wsX10_noYounger := by decide +kernel
  have ln123 : Cond.fieldLink RX10 123 (TX3 11).1 (TX3 11).2.1 (TX3 11).2.2.1 ∈ wsX10_noYounger := by decide +kernel
  refine gStartZ cX10_noYounger 2 RX10 rfl (by decide) rfl (Nat.le_of_ble_eq_true rfl) ?_
  intro X hl C
  show gG X w σ 0 [(0, .ref (w.2.2.1 0)), (1, .int a0)] []
  unfold fX10_noYounger at hF
  refine gr_iload_n C 1 dX10_noYounger_0 rfl rfl ?_
  refine gr_iconst C (v := 0) dX10_noYounger_1 (by decide) ?_
  refine gr_aload_n C 0 dX10_noYounger_2 rfl rfl ?_
  refine gr_getR C 0 1 4 dX10_noYounger_3 (sc_0 hw) rfl inX10 (by decide) ln19 rfl ?_
  refine gr_getI C 4 11 dX10_noYounger_6 (sc_4 hw) rfl inX3 (by decide) ln123 rfl ?_
  refine gr_iconst C (v := 1) dX10_noYounger_9 (by decide) ?_
  refine gr_isub C dX10_noYounger_10 ?_
  obtain ⟨r3, g2, hc1, hF⟩ := gCl_e hF
  refine gr_callSI C (n := 3) (As := [.int a0, .int (0 : Int32), .int ((σ 4 11) - (1 : Int32))]) (rest := []) (mX10_outside X.2.1 hw  hc1) gX10_noYounger_X10_outside rfl ⟨rfl, rfl⟩ ⟨by decide, by decide⟩ rfl (Nat.le_of_ble_eq_true rfl) rfl (by decide +kernel) dX10_noYounger_11 ?_
  obtain ⟨h4, hF⟩ := gZ_e hF
  cases hF
  exact gr_zret C dX10_noYounger_14 h4.1 ⟨rfl, rfl⟩
-- X9_hasQuarrelled: 5 instructions, frames 1, locals 21
set_option maxRecDepth 100000 in
set_option maxHeartbeats 4000000 in
theorem mX9_hasQuarrelled (l : Launch) {w : Wl} (hw : w.2.2.2 = shC) {σ : Sg} {t : Nat} {a0 : Int32} (ht : gSt w t) {r : Int32} {σ' : Sg} (hF : fX9_hasQuarrelled σ t a0 = some (r, σ')) : gMI l w yX9_hasQuarrelled wsX9_hasQuarrelled ({ frames := 1, cells := 0, slots := 0, locals := 21 } : Room) [.ref (w.2.2.1 t), .int a0] σ r σ' := by
  have inX9 : ∀ v ∈ u_ws RX9 TX9 5, v ∈ wsX9_hasQuarrelled := by decide +kernel
  have ln30 : Cond.fieldLink RX9 30 (TX9 3).1 (TX9 3).2.1 (TX9 3).2.2.1 ∈ wsX9_hasQuarrelled := by decide +kernel
  refine gStartZ cX9_hasQuarrelled 2 RX9 rfl (by decide) rfl (Nat.le_of_ble_eq_true rfl) ?_
  intro X hl C
  show gG X w σ 0 [(0, .ref (w.2.2.1 t)), (1, .int a0)] []
  unfold fX9_hasQuarrelled at hF
  refine gr_aload_n C 0 dX9_hasQuarrelled_0 rfl rfl ?_
  refine gr_getI C t 3 dX9_hasQuarrelled_1 ht.1 rfl inX9 (by decide) ln30 rfl ?_
  refine gr_iload_n C 1 dX9_hasQuarrelled_4 rfl rfl ?_
  obtain ⟨r3, g2, hc1, hF⟩ := gCl_e hF
  refine gr_callNI C (n := 2) (As := [.int (σ t 3), .int a0]) (rest := []) (host := "YoungerMilk") (mX10_has X.2.1 hw  hc1) gX9_hasQuarrelled_X10_has_n36 rfl ⟨rfl, rfl⟩ ⟨by decide, by decide⟩ rfl (Nat.le_of_ble_eq_true rfl) rfl (by decide +kernel) (by decide +kernel) (by decide +kernel) (by decide +kernel) dX9_hasQuarrelled_5 ?_
  obtain ⟨h4, hF⟩ := gZ_e hF
  cases hF
  exact gr_zret C dX9_hasQuarrelled_8 h4.1 ⟨rfl, rfl⟩
-- X10_younger: 69 instructions, frames 3, locals 74
set_option maxRecDepth 100000 in
set_option maxHeartbeats 4000000 in
theorem mX10_younger (l : Launch) {w : Wl} (hw : w.2.2.2 = shC) {σ : Sg} {a0 : Int32} {a1 : Int32}  {r : Int32} {σ' : Sg} (hF : fX10_younger σ a0 a1 = some (r, σ')) : gMI l w yX10_younger wsX10_younger ({ frames := 3, cells := 0, slots := 0, locals := 74 } : Room) [.ref (w.2.2.1 0), .int a0, .int a1] σ r σ' := by
  have inX10 : ∀ v ∈ u_ws RX10 TX10 12, v ∈ wsX10_younger := by decide +kernel
  have inX2 : ∀ v ∈ u_ws RX2 TX2 2, v ∈ wsX10_younger := by decide +kernel
  have inX3 : ∀ v ∈ u_ws RX3 TX3 13, v ∈ wsX10_younger := by decide +kernel
  have inX9 : ∀ v ∈ u_ws RX9 TX9 5, v ∈ wsX10_younger := by decide +kernel
  have ln19 : Cond.fieldLink RX10 19 (TX10 1).1 (TX10 1).2.1 (TX10 1).2.2.1 ∈ wsX10_younger := by decide +kernel
  have ln29 : Cond.fieldLink RX10 29 (TX10 3).1 (TX10 3).2.1 (TX10 3).2.2.1 ∈ wsX10_younger := by decide +kernel
  have ln50 : Cond.fieldLink RX10 50 (TX10 6).1 (TX10 6).2.1 (TX10 6).2.2.1 ∈ wsX10_younger := by decide +kernel
  have ln147 : Cond.fieldLink RX10 147 (TX3 0).1 (TX3 0).2.1 (TX3 0).2.2.1 ∈ wsX10_younger := by decide +kernel
  have ln150 : Cond.fieldLink RX10 150 (TX3 1).1 (TX3 1).2.1 (TX3 1).2.2.1 ∈ wsX10_younger := by decide +kernel
  have ln153 : Cond.fieldLink RX10 153 (TX3 2).1 (TX3 2).2.1 (TX3 2).2.2.1 ∈ wsX10_younger := by decide +kernel
  have ln156 : Cond.fieldLink RX10 156 (TX3 3).1 (TX3 3).2.1 (TX3 3).2.2.1 ∈ wsX10_younger := by decide +kernel
  have ln159 : Cond.fieldLink RX10 159 (TX9 2).1 (TX9 2).2.1 (TX9 2).2.2.1 ∈ wsX10_younger := by decide +kernel
  have ln165 : Cond.fieldLink RX10 165 (TX2 1).1 (TX2 1).2.1 (TX2 1).2.2.1 ∈ wsX10_younger := by decide +kernel
  refine gStartI cX10_younger 3 RX10 rfl (by decide) rfl (Nat.le_of_ble_eq_true rfl) ?_
  intro X hl C
  show gG X w σ 0 [(0, .ref (w.2.2.1 0)), (1, .int a0), (2, .int a1)] []
  unfold fX10_younger at hF
  refine gr_aload_n C 0 dX10_younger_0 rfl rfl ?_
  refine gr_iload_n C 1 dX10_younger_1 rfl rfl ?_
  obtain ⟨r3, g2, hc1, hF⟩ := gCl_e hF
  refine gr_callVI C (n := 1) (As := [.int a0]) (rest := []) 0 (mX10_noYounger X.2.1 hw  hc1) gX10_younger_X10_noYounger rfl ⟨rfl, rfl⟩ ⟨by decide, by decide⟩ rfl (Nat.le_of_ble_eq_true rfl) rfl (by decide +kernel) (sc_0 hw) rfl dX10_younger_2 ?_
  refine gr_if_ne C 18 dX10_younger_5 (by decide) (fun c4 => ?_) (fun c4 => ?_)
  · rw [if_neg c4] at hF
    refine gr_sub [] [] rfl ?_
    refine gr_iconst C (v := -1) dX10_younger_18 (by decide) ?_
    cases hF
    exact gr_iret C dX10_younger_19 ⟨rfl, rfl⟩
  · rw [if_pos c4] at hF
    refine gr_iload_n C 2 dX10_younger_8 rfl rfl ?_
    refine gr_iconst C (v := 0) dX10_younger_9 (by decide) ?_
    refine gr_bipush C (v := 6) dX10_younger_10 (by decide) ?_
    obtain ⟨r7, g6, hc5, hF⟩ := gCl_e hF
    refine gr_callSI C (n := 3) (As := [.int a1, .int (0 : Int32), .int (6 : Int32)]) (rest := []) (mX10_outside X.2.1 hw  hc5) gX10_younger_X10_outside rfl ⟨rfl, rfl⟩ ⟨by decide, by decide⟩ rfl (Nat.le_of_ble_eq_true rfl) rfl (by decide +kernel) dX10_younger_12 ?_
    refine gr_if_eq C 20 dX10_younger_15 (by decide) (fun c8 => ?_) (fun c8 => ?_)
    · rw [if_pos c8] at hF
      refine gr_iload_n C 2 dX10_younger_20 rfl rfl ?_
      by_cases c9 : a1 = (0 : Int32)
      · rw [if_pos c9] at hF
        refine gr_tin C 0 39 60 dX10_younger_21 (by rw [c9]; decide) (by decide) (by decide) rfl (by decide) ?_
        refine gr_sub [0, 1] [(0, .ref (w.2.2.1 0)), (1, .int a0)] rfl ?_
        refine gr_aload_n C 0 dX10_younger_60 rfl rfl ?_
        refine gr_getR C 0 1 4 dX10_younger_61 (sc_0 hw) rfl inX10 (by decide) ln19 rfl ?_
        refine gr_getR C 4 0 5 dX10_younger_64 (sc_4 hw) rfl inX3 (by decide) ln147 rfl ?_
        refine gr_iload_n C 1 dX10_younger_67 rfl rfl ?_
        obtain ⟨h11, x10, ex10, hF⟩ := gRd_e hF
        refine gr_iald C 5 8 dX10_younger_68 (sc_5 hw) h11 ?_
        refine gr_nmI ex10 ?_
        cases hF
        exact gr_iret C dX10_younger_69 ⟨rfl, rfl⟩
      · rw [if_neg c9] at hF
        by_cases c12 : a1 = (1 : Int32)
        · rw [if_pos c12] at hF
          refine gr_tin C 1 49 70 dX10_younger_21 (by rw [c12]; decide) (by decide) (by decide) rfl (by decide) ?_
          refine gr_sub [0, 1] [(0, .ref (w.2.2.1 0)), (1, .int a0)] rfl ?_
          refine gr_aload_n C 0 dX10_younger_70 rfl rfl ?_
          refine gr_getR C 0 1 4 dX10_younger_71 (sc_0 hw) rfl inX10 (by decide) ln19 rfl ?_
          refine gr_getR C 4 1 6 dX10_younger_74 (sc_4 hw) rfl inX3 (by decide) ln150 rfl ?_
          refine gr_iload_n C 1 dX10_younger_77 rfl rfl ?_
          obtain ⟨h14, x13, ex13, hF⟩ := gRd_e hF
          refine gr_iald C 6 8 dX10_younger_78 (sc_6 hw) h14 ?_
          refine gr_nmI ex13 ?_
          cases hF
          exact gr_iret C dX10_younger_79 ⟨rfl, rfl⟩
        · rw [if_neg c12] at hF
          by_cases c15 : a1 = (2 : Int32)
          · rw [if_pos c15] at hF
            refine gr_tin C 2 59 80 dX10_younger_21 (by rw [c15]; decide) (by decide) (by decide) rfl (by decide) ?_
            refine gr_sub [0, 1] [(0, .ref (w.2.2.1 0)), (1, .int a0)] rfl ?_
            refine gr_aload_n C 0 dX10_younger_80 rfl rfl ?_
            refine gr_getR C 0 1 4 dX10_younger_81 (sc_0 hw) rfl inX10 (by decide) ln19 rfl ?_
            refine gr_getR C 4 2 7 dX10_younger_84 (sc_4 hw) rfl inX3 (by decide) ln153 rfl ?_
            refine gr_iload_n C 1 dX10_younger_87 rfl rfl ?_
            obtain ⟨h17, x16, ex16, hF⟩ := gRd_e hF
            refine gr_iald C 7 8 dX10_younger_88 (sc_7 hw) h17 ?_
            refine gr_nmI ex16 ?_
            cases hF
            exact gr_iret C dX10_younger_89 ⟨rfl, rfl⟩
          · rw [if_neg c15] at hF
            by_cases c18 : a1 = (3 : Int32)
            · rw [if_pos c18] at hF
              refine gr_tin C 3 69 90 dX10_younger_21 (by rw [c18]; decide) (by decide) (by decide) rfl (by decide) ?_
              refine gr_sub [0, 1] [(0, .ref (w.2.2.1 0)), (1, .int a0)] rfl ?_
              refine gr_aload_n C 0 dX10_younger_90 rfl rfl ?_
              refine gr_getR C 0 1 4 dX10_younger_91 (sc_0 hw) rfl inX10 (by decide) ln19 rfl ?_
              refine gr_getR C 4 3 8 dX10_younger_94 (sc_4 hw) rfl inX3 (by decide) ln156 rfl ?_
              refine gr_iload_n C 1 dX10_younger_97 rfl rfl ?_
              obtain ⟨h20, x19, ex19, hF⟩ := gRd_e hF
              refine gr_iald C 8 8 dX10_younger_98 (sc_8 hw) h20 ?_
              refine gr_nmI ex19 ?_
              cases hF
              exact gr_iret C dX10_younger_99 ⟨rfl, rfl⟩
            · rw [if_neg c18] at hF
              by_cases c21 : a1 = (4 : Int32)
              · rw [if_pos c21] at hF
                refine gr_tin C 4 79 100 dX10_younger_21 (by rw [c21]; decide) (by decide) (by decide) rfl (by decide) ?_
                refine gr_sub [0, 1] [(0, .ref (w.2.2.1 0)), (1, .int a0)] rfl ?_
                refine gr_aload_n C 0 dX10_younger_100 rfl rfl ?_
                refine gr_getR C 0 3 24 dX10_younger_101 (sc_0 hw) rfl inX10 (by decide) ln29 rfl ?_
                refine gr_getR C 24 2 27 dX10_younger_104 (sc_24 hw) rfl inX9 (by decide) ln159 rfl ?_
                refine gr_iload_n C 1 dX10_younger_107 rfl rfl ?_
                obtain ⟨h23, x22, ex22, hF⟩ := gRd_e hF
                refine gr_iald C 27 8 dX10_younger_108 (sc_27 hw) h23 ?_
                refine gr_nmI ex22 ?_
                cases hF
                exact gr_iret C dX10_younger_109 ⟨rfl, rfl⟩
              · rw [if_neg c21] at hF
                by_cases c24 : a1 = (5 : Int32)
                · rw [if_pos c24] at hF
                  refine gr_tin C 5 89 110 dX10_younger_21 (by rw [c24]; decide) (by decide) (by decide) rfl (by decide) ?_
                  refine gr_sub [0, 1] [(0, .ref (w.2.2.1 0)), (1, .int a0)] rfl ?_
                  refine gr_aload_n C 0 dX10_younger_110 rfl rfl ?_
                  refine gr_getR C 0 3 24 dX10_younger_111 (sc_0 hw) rfl inX10 (by decide) ln29 rfl ?_
                  refine gr_iload_n C 1 dX10_younger_114 rfl rfl ?_
                  obtain ⟨r27, g26, hc25, hF⟩ := gCl_e hF
                  refine gr_callVI C (n := 1) (As := [.int a0]) (rest := []) 24 (mX9_hasQuarrelled X.2.1 hw (st_24 hw) hc25) gX10_younger_X9_hasQuarrelled rfl ⟨rfl, rfl⟩ ⟨by decide, by decide⟩ rfl (Nat.le_of_ble_eq_true rfl) rfl (by decide +kernel) (sc_24 hw) rfl dX10_younger_115 ?_
                  refine gr_if_eq C 125 dX10_younger_118 (by decide) (fun c28 => ?_) (fun c28 => ?_)
                  · rw [if_pos c28] at hF
                    refine gr_sub [] [] rfl ?_
                    refine gr_iconst C (v := 0) dX10_younger_125 (by decide) ?_
                    cases hF
                    exact gr_iret C dX10_younger_126 ⟨rfl, rfl⟩
                  · rw [if_neg c28] at hF
                    refine gr_sub [] [] rfl ?_
                    refine gr_iconst C (v := 1) dX10_younger_121 (by decide) ?_
                    refine gr_goto C 126 dX10_younger_122 (by decide) ?_
                    cases hF
                    exact gr_iret C dX10_younger_126 ⟨rfl, rfl⟩
                · rw [if_neg c24] at hF
                  have nc9 := i32_ne c9
                  have nc12 := i32_ne c12
                  have nc15 := i32_ne c15
                  have nc18 := i32_ne c18
                  have nc21 := i32_ne c21
                  have nc24 := i32_ne c24
                  refine gr_tout C 127 dX10_younger_21 (by have nc9 : a1.toInt ≠ 0 := nc9; have nc12 : a1.toInt ≠ 1 := nc12; have nc15 : a1.toInt ≠ 2 := nc15; have nc18 : a1.toInt ≠ 3 := nc18; have nc21 : a1.toInt ≠ 4 := nc21; have nc24 : a1.toInt ≠ 5 := nc24; omega) (by decide) ?_
                  refine gr_sub [0, 1] [(0, .ref (w.2.2.1 0)), (1, .int a0)] rfl ?_
                  refine gr_aload_n C 0 dX10_younger_127 rfl rfl ?_
                  refine gr_getR C 0 6 72 dX10_younger_128 (sc_0 hw) rfl inX10 (by decide) ln50 rfl ?_
                  refine gr_aload_n C 0 dX10_younger_131 rfl rfl ?_
                  refine gr_getR C 0 3 24 dX10_younger_132 (sc_0 hw) rfl inX10 (by decide) ln29 rfl ?_
                  refine gr_aload_n C 0 dX10_younger_135 rfl rfl ?_
                  refine gr_getR C 0 1 4 dX10_younger_136 (sc_0 hw) rfl inX10 (by decide) ln19 rfl ?_
                  refine gr_getR C 4 1 6 dX10_younger_139 (sc_4 hw) rfl inX3 (by decide) ln150 rfl ?_
                  refine gr_iload_n C 1 dX10_younger_142 rfl rfl ?_
                  obtain ⟨h30, x29, ex29, hF⟩ := gRd_e hF
                  refine gr_iald C 6 8 dX10_younger_143 (sc_6 hw) h30 ?_
                  refine gr_nmI ex29 ?_
                  obtain ⟨r33, g32, hc31, hF⟩ := gCl_e hF
                  refine gr_callVI C (n := 2) (As := [.ref (w.2.2.1 24), .int x29]) (rest := []) 72 (mX2_leftOverAt X.2.1 hw (st_24 hw) hc31) gX10_younger_X2_leftOverAt rfl ⟨rfl, rfl⟩ ⟨by decide, by decide⟩ rfl (Nat.le_of_ble_eq_true rfl) rfl (by decide +kernel) (sc_72 hw) rfl dX10_younger_144 ?_
                  refine gr_pop C dX10_younger_147 rfl ?_
                  refine gr_aload_n C 0 dX10_younger_148 rfl rfl ?_
                  refine gr_getR C 0 6 72 dX10_younger_149 (sc_0 hw) rfl inX10 (by decide) ln50 rfl ?_
                  refine gr_getR C 72 1 73 dX10_younger_152 (sc_72 hw) rfl inX2 (by decide) ln165 rfl ?_
                  refine gr_iload_n C 1 dX10_younger_155 rfl rfl ?_
                  obtain ⟨h35, x34, ex34, hF⟩ := gRd_e hF
                  refine gr_iald C 73 8 dX10_younger_156 (sc_73 hw) h35 ?_
                  refine gr_nmI ex34 ?_
                  cases hF
                  exact gr_iret C dX10_younger_157 ⟨rfl, rfl⟩
    · rw [if_neg c8] at hF
      refine gr_sub [] [] rfl ?_
      refine gr_iconst C (v := -1) dX10_younger_18 (by decide) ?_
      cases hF
      exact gr_iret C dX10_younger_19 ⟨rfl, rfl⟩
-- X9_become: 47 instructions, frames 0, locals 0
set_option maxRecDepth 100000 in
set_option maxHeartbeats 4000000 in
theorem mX9_become (l : Launch) {w : Wl} (hw : w.2.2.2 = shC) {σ : Sg} {t : Nat} {s0 : Nat} (ht : gSt w t) (hs0 : gSt w s0) {σ' : Sg} (hF : fX9_become σ t s0 = some σ') : gMV l w yX9_become wsX9_become ({ frames := 0, cells := 0, slots := 0, locals := 0 } : Room) [.ref (w.2.2.1 t), .ref (w.2.2.1 s0)] σ σ' := by
  have inX9 : ∀ v ∈ u_ws RX9 TX9 5, v ∈ wsX9_become := by decide +kernel
  have ln9 : Cond.fieldLink RX9 9 (TX9 0).1 (TX9 0).2.1 (TX9 0).2.2.1 ∈ wsX9_become := by decide +kernel
  have ln15 : Cond.fieldLink RX9 15 (TX9 1).1 (TX9 1).2.1 (TX9 1).2.2.1 ∈ wsX9_become := by decide +kernel
  have ln18 : Cond.fieldLink RX9 18 (TX9 2).1 (TX9 2).2.1 (TX9 2).2.2.1 ∈ wsX9_become := by decide +kernel
  have ln30 : Cond.fieldLink RX9 30 (TX9 3).1 (TX9 3).2.1 (TX9 3).2.2.1 ∈ wsX9_become := by decide +kernel
  have ln33 : Cond.fieldLink RX9 33 (TX9 4).1 (TX9 4).2.1 (TX9 4).2.2.1 ∈ wsX9_become := by decide +kernel
  refine gStartV cX9_become 3 RX9 rfl (by decide) rfl (Nat.le_of_ble_eq_true rfl) ?_
  intro X hl C
  show gG X w σ 0 [(0, .ref (w.2.2.1 t)), (1, .ref (w.2.2.1 s0))] []
  unfold fX9_become at hF
  refine gr_iconst C (v := 0) dX9_become_0 (by decide) ?_
  refine gr_istore_n C [(2, .int (0 : Int32)), (0, .ref (w.2.2.1 t)), (1, .ref (w.2.2.1 s0))] dX9_become_1 rfl (by decide) rfl ?_
  refine gr_sub [1, 2, 0] [(0, .ref (w.2.2.1 t)), (1, .ref (w.2.2.1 s0)), (2, .int (0 : Int32))] rfl ?_
  have L14 : ∀ (n : Nat) (x2 : Int32) (g3 : Sg) (K1 : Sg → Option Sg), (∀  (g15 : Sg), K1  g15 = some σ' → gG X w g15 38 [(0, .ref (w.2.2.1 t)), (1, .ref (w.2.2.1 s0))] []) → fX9_become_2 s0 t n x2 g3 K1 = some σ' → gG X w g3 2 [(0, .ref (w.2.2.1 t)), (1, .ref (w.2.2.1 s0)), (2, .int x2)] [] := by
    intro n
    induction n with
    | zero =>
      intro x2 g3 K1 hK1 hF
      rw [fX9_become_2] at hF
      cases hF
    | succ n ih =>
      intro x2 g3 K1 hK1 hF
      rw [fX9_become_2] at hF
      refine gr_iload_n C 2 dX9_become_2 rfl rfl ?_
      refine gr_bipush C (v := 9) dX9_become_3 (by decide) ?_
      refine gr_icmp_ge C 38 dX9_become_5 (by decide) (fun c4 => ?_) (fun c4 => ?_)
      · rw [if_pos c4] at hF
        refine gr_sub [0, 1] [(0, .ref (w.2.2.1 t)), (1, .ref (w.2.2.1 s0))] rfl ?_
        exact hK1  g3 hF
      · rw [if_neg c4] at hF
        refine gr_aload_n C 0 dX9_become_8 rfl rfl ?_
        refine gr_getR C t 0 (t + 1) dX9_become_9 ht.1 rfl inX9 (by decide) ln9 rfl ?_
        refine gr_iload_n C 2 dX9_become_12 rfl rfl ?_
        refine gr_aload_n C 1 dX9_become_13 rfl rfl ?_
        refine gr_getR C s0 0 (s0 + 1) dX9_become_14 hs0.1 rfl inX9 (by decide) ln9 rfl ?_
        refine gr_iload_n C 2 dX9_become_17 rfl rfl ?_
        obtain ⟨h6, x5, ex5, hF⟩ := gRd_e hF
        refine gr_iald C (s0 + 1) 9 dX9_become_18 hs0.2.1 h6 ?_
        refine gr_nmI ex5 ?_
        obtain ⟨h7, g8, eg8, hF⟩ := gWr_e hF
        refine gr_iast C (t + 1) 9 dX9_become_19 ht.2.1 h7 ?_
        refine gr_nmS eg8 ?_
        refine gr_aload_n C 0 dX9_become_20 rfl rfl ?_
        refine gr_getR C t 1 (t + 2) dX9_become_21 ht.1 rfl inX9 (by decide) ln15 rfl ?_
        refine gr_iload_n C 2 dX9_become_24 rfl rfl ?_
        refine gr_aload_n C 1 dX9_become_25 rfl rfl ?_
        refine gr_getR C s0 1 (s0 + 2) dX9_become_26 hs0.1 rfl inX9 (by decide) ln15 rfl ?_
        refine gr_iload_n C 2 dX9_become_29 rfl rfl ?_
        obtain ⟨h10, x9, ex9, hF⟩ := gRd_e hF
        refine gr_iald C (s0 + 2) 9 dX9_become_30 hs0.2.2.1 h10 ?_
        refine gr_nmI ex9 ?_
        obtain ⟨h11, g12, eg12, hF⟩ := gWr_e hF
        refine gr_iast C (t + 2) 9 dX9_become_31 ht.2.2.1 h11 ?_
        refine gr_nmS eg12 ?_
        obtain ⟨x13, ex13, hF⟩ := gLet_e hF
        refine gr_iinc C (v := x13) 2 [(2, .int x13), (0, .ref (w.2.2.1 t)), (1, .ref (w.2.2.1 s0))] dX9_become_32 rfl (by rw [ex13]; rfl) (by decide) rfl ?_
        refine gr_goto C 2 dX9_become_35 (by decide) ?_
        refine gr_sub [1, 2, 0] [(0, .ref (w.2.2.1 t)), (1, .ref (w.2.2.1 s0)), (2, .int x13)] rfl ?_
        exact ih x13 g12 K1 hK1 hF
  refine L14 _ (0 : Int32) σ _ ?_ hF
  intro g16 hF
  try dsimp only at hF
  refine gr_iconst C (v := 0) dX9_become_38 (by decide) ?_
  refine gr_istore_n C [(2, .int (0 : Int32)), (0, .ref (w.2.2.1 t)), (1, .ref (w.2.2.1 s0))] dX9_become_39 rfl (by decide) rfl ?_
  refine gr_sub [1, 2, 0] [(0, .ref (w.2.2.1 t)), (1, .ref (w.2.2.1 s0)), (2, .int (0 : Int32))] rfl ?_
  have L26 : ∀ (n : Nat) (x18 : Int32) (g19 : Sg) (K17 : Sg → Option Sg), (∀  (g27 : Sg), K17  g27 = some σ' → gG X w g27 64 [(0, .ref (w.2.2.1 t)), (1, .ref (w.2.2.1 s0))] []) → fX9_become_40 s0 t n x18 g19 K17 = some σ' → gG X w g19 40 [(0, .ref (w.2.2.1 t)), (1, .ref (w.2.2.1 s0)), (2, .int x18)] [] := by
    intro n
    induction n with
    | zero =>
      intro x18 g19 K17 hK17 hF
      rw [fX9_become_40] at hF
      cases hF
    | succ n ih =>
      intro x18 g19 K17 hK17 hF
      rw [fX9_become_40] at hF
      refine gr_iload_n C 2 dX9_become_40 rfl rfl ?_
      refine gr_bipush C (v := 8) dX9_become_41 (by decide) ?_
      refine gr_icmp_ge C 64 dX9_become_43 (by decide) (fun c20 => ?_) (fun c20 => ?_)
      · rw [if_pos c20] at hF
        refine gr_sub [0, 1] [(0, .ref (w.2.2.1 t)), (1, .ref (w.2.2.1 s0))] rfl ?_
        exact hK17  g19 hF
      · rw [if_neg c20] at hF
        refine gr_aload_n C 0 dX9_become_46 rfl rfl ?_
        refine gr_getR C t 2 (t + 3) dX9_become_47 ht.1 rfl inX9 (by decide) ln18 rfl ?_
        refine gr_iload_n C 2 dX9_become_50 rfl rfl ?_
        refine gr_aload_n C 1 dX9_become_51 rfl rfl ?_
        refine gr_getR C s0 2 (s0 + 3) dX9_become_52 hs0.1 rfl inX9 (by decide) ln18 rfl ?_
        refine gr_iload_n C 2 dX9_become_55 rfl rfl ?_
        obtain ⟨h22, x21, ex21, hF⟩ := gRd_e hF
        refine gr_iald C (s0 + 3) 8 dX9_become_56 hs0.2.2.2 h22 ?_
        refine gr_nmI ex21 ?_
        obtain ⟨h23, g24, eg24, hF⟩ := gWr_e hF
        refine gr_iast C (t + 3) 8 dX9_become_57 ht.2.2.2 h23 ?_
        refine gr_nmS eg24 ?_
        obtain ⟨x25, ex25, hF⟩ := gLet_e hF
        refine gr_iinc C (v := x25) 2 [(2, .int x25), (0, .ref (w.2.2.1 t)), (1, .ref (w.2.2.1 s0))] dX9_become_58 rfl (by rw [ex25]; rfl) (by decide) rfl ?_
        refine gr_goto C 40 dX9_become_61 (by decide) ?_
        refine gr_sub [1, 2, 0] [(0, .ref (w.2.2.1 t)), (1, .ref (w.2.2.1 s0)), (2, .int x25)] rfl ?_
        exact ih x25 g24 K17 hK17 hF
  refine L26 _ (0 : Int32) g16 _ ?_ hF
  intro g28 hF
  try dsimp only at hF
  refine gr_aload_n C 0 dX9_become_64 rfl rfl ?_
  refine gr_aload_n C 1 dX9_become_65 rfl rfl ?_
  refine gr_getI C s0 3 dX9_become_66 hs0.1 rfl inX9 (by decide) ln30 rfl ?_
  obtain ⟨g29, eg29, hF⟩ := gLet_e hF
  refine gr_putI C t 3 dX9_become_69 ht.1 rfl inX9 (by decide) ln30 rfl tyX9 tyX9_ok nmX9 rfl .int rfl rfl rfl ?_
  refine gr_nmS eg29 ?_
  refine gr_aload_n C 0 dX9_become_72 rfl rfl ?_
  refine gr_aload_n C 1 dX9_become_73 rfl rfl ?_
  refine gr_getI C s0 4 dX9_become_74 hs0.1 rfl inX9 (by decide) ln33 rfl ?_
  obtain ⟨g30, eg30, hF⟩ := gLet_e hF
  refine gr_putI C t 4 dX9_become_77 ht.1 rfl inX9 (by decide) ln33 rfl tyX9 tyX9_ok nmX9 rfl .int rfl rfl rfl ?_
  refine gr_nmS eg30 ?_
  cases hF
  exact gr_vret C dX9_become_80 ⟨rfl, rfl⟩
-- X7_push: 43 instructions, frames 1, locals 24
set_option maxRecDepth 100000 in
set_option maxHeartbeats 4000000 in
theorem mX7_push (l : Launch) {w : Wl} (hw : w.2.2.2 = shC) {σ : Sg} {t : Nat} {nt : Nat} {bt : Nat} (ht : gSh w t nt bt) {σ' : Sg} (hF : fX7_push σ t nt bt = some σ') : gMV l w yX7_push wsX7_push ({ frames := 1, cells := 0, slots := 0, locals := 24 } : Room) [.ref (w.2.2.1 t), .ref (w.2.2.1 24)] σ σ' := by
  have inX7 : ∀ v ∈ u_ws RX7 TX7 3, v ∈ wsX7_push := by decide +kernel
  have ln9 : Cond.fieldLink RX7 9 (TX7 0).1 (TX7 0).2.1 (TX7 0).2.2.1 ∈ wsX7_push := by decide +kernel
  have ln16 : Cond.fieldLink RX7 16 (TX7 2).1 (TX7 2).2.1 (TX7 2).2.2.1 ∈ wsX7_push := by decide +kernel
  have ln20 : Cond.fieldLink RX7 20 (TX7 1).1 (TX7 1).2.1 (TX7 1).2.2.1 ∈ wsX7_push := by decide +kernel
  have kmin27 : Cond.methodLink RX7 27 Lib.Math.min.name ∈ wsX7_push ∧ Cond.static Lib.Math.min.name ∈ wsX7_push ∧ Cond.initialized "java/lang/Math" ∈ wsX7_push ∧ Cond.code Lib.Math.min.name Lib.Math.min.code 2 (some .int) ∈ wsX7_push := by decide +kernel
  refine gStartV cX7_push 2 RX7 rfl (by decide) rfl (Nat.le_of_ble_eq_true rfl) ?_
  intro X hl C
  show gG X w σ 0 [(0, .ref (w.2.2.1 t)), (1, .ref (w.2.2.1 24))] []
  unfold fX7_push at hF
  refine gr_aload_n C 0 dX7_push_0 rfl rfl ?_
  refine gr_getI C t 1 dX7_push_1 ht.1 rfl inX7 (by decide) ln20 rfl ?_
  refine gr_if_lt C 78 dX7_push_4 (by decide) (fun c1 => ?_) (fun c1 => ?_)
  · rw [if_pos c1] at hF
    refine gr_sub [] [] rfl ?_
    cases hF
    exact gr_vret C dX7_push_78 ⟨rfl, rfl⟩
  · rw [if_neg c1] at hF
    refine gr_aload_n C 0 dX7_push_7 rfl rfl ?_
    refine gr_getI C t 1 dX7_push_8 ht.1 rfl inX7 (by decide) ln20 rfl ?_
    refine gr_aload_n C 0 dX7_push_11 rfl rfl ?_
    refine gr_getR C t 0 (t + 1) dX7_push_12 ht.1 rfl inX7 (by decide) ln9 rfl ?_
    refine gr_alenS C (t + 1) nt bt 4 dX7_push_15 ht.2.1 rfl ?_
    refine gr_icmp_ge C 78 dX7_push_16 (by decide) (fun c2 => ?_) (fun c2 => ?_)
    · rw [if_pos c2] at hF
      refine gr_sub [] [] rfl ?_
      cases hF
      exact gr_vret C dX7_push_78 ⟨rfl, rfl⟩
    · rw [if_neg c2] at hF
      refine gr_aload_n C 0 dX7_push_19 rfl rfl ?_
      refine gr_getR C t 0 (t + 1) dX7_push_20 ht.1 rfl inX7 (by decide) ln9 rfl ?_
      refine gr_aload_n C 0 dX7_push_23 rfl rfl ?_
      refine gr_getI C t 1 dX7_push_24 ht.1 rfl inX7 (by decide) ln20 rfl ?_
      obtain ⟨h4, j3, ej3, h5, hF⟩ := gIx_e hF
      refine gr_aldS C (t + 1) nt bt 4 dX7_push_27 ht.2.1 h4 ?_
      refine gr_nmR (show (bt + 4 * j3) = _ by rw [ej3]) ?_
      have hs6 : gSt w (bt + 4 * j3) := ht.2.2 j3 h5
      refine gr_aload_n C 1 dX7_push_28 rfl rfl ?_
      obtain ⟨g8, hc7, hF⟩ := gCv_e hF
      refine gr_callVV C (n := 1) (As := [.ref (w.2.2.1 24)]) (rest := []) (bt + 4 * j3) (mX9_become X.2.1 hw hs6 (st_24 hw) hc7) gX7_push_X9_become rfl ⟨rfl, rfl⟩ ⟨by decide, by decide⟩ rfl (Nat.le_of_ble_eq_true rfl) rfl (by decide +kernel) hs6.1 rfl dX7_push_29 ?_
      refine gr_aload_n C 0 dX7_push_32 rfl rfl ?_
      refine gr_aload_n C 0 dX7_push_33 rfl rfl ?_
      refine gr_getI C t 1 dX7_push_34 ht.1 rfl inX7 (by decide) ln20 rfl ?_
      refine gr_iconst C (v := 1) dX7_push_37 (by decide) ?_
      refine gr_iadd C dX7_push_38 ?_
      refine gr_aload_n C 0 dX7_push_39 rfl rfl ?_
      refine gr_getR C t 0 (t + 1) dX7_push_40 ht.1 rfl inX7 (by decide) ln9 rfl ?_
      refine gr_alenS C (t + 1) nt bt 4 dX7_push_43 ht.2.1 rfl ?_
      obtain ⟨K9, eK9, hF⟩ := gLet_e hF
      have JK9 : ∀ (x10 : Int32) (g11 : Sg), K9 x10 g11 = some σ' → gG X w g11 57 [(0, .ref (w.2.2.1 t))] [.int x10, .ref (w.2.2.1 t)] := by
        intro x10 g11 hF
        rw [eK9] at hF
        try dsimp only at hF
        obtain ⟨g12, eg12, hF⟩ := gLet_e hF
        refine gr_putI C t 1 dX7_push_57 ht.1 rfl inX7 (by decide) ln20 rfl tyX7 tyX7_ok nmX7 rfl .int rfl rfl rfl ?_
        refine gr_nmS eg12 ?_
        refine gr_aload_n C 0 dX7_push_60 rfl rfl ?_
        refine gr_aload_n C 0 dX7_push_61 rfl rfl ?_
        refine gr_getI C t 2 dX7_push_62 ht.1 rfl inX7 (by decide) ln16 rfl ?_
        refine gr_iconst C (v := 1) dX7_push_65 (by decide) ?_
        refine gr_iadd C dX7_push_66 ?_
        refine gr_aload_n C 0 dX7_push_67 rfl rfl ?_
        refine gr_getR C t 0 (t + 1) dX7_push_68 ht.1 rfl inX7 (by decide) ln9 rfl ?_
        refine gr_alenS C (t + 1) nt bt 4 dX7_push_71 ht.2.1 rfl ?_
        refine gr_mmin C (st := [.ref (w.2.2.1 t)]) dX7_push_72 kmin27.1 kmin27.2.1 kmin27.2.2.1 kmin27.2.2.2 (by decide) (Nat.le_of_ble_eq_true rfl) ?_
        obtain ⟨g13, eg13, hF⟩ := gLet_e hF
        refine gr_putI C t 2 dX7_push_75 ht.1 rfl inX7 (by decide) ln16 rfl tyX7 tyX7_ok nmX7 rfl .int rfl rfl rfl ?_
        refine gr_nmS eg13 ?_
        cases hF
        exact gr_vret C dX7_push_78 ⟨rfl, rfl⟩
      refine gr_icmp_ne C 51 dX7_push_44 (by decide) (fun c14 => ?_) (fun c14 => ?_)
      · rw [if_neg c14] at hF
        refine gr_sub [0] [(0, .ref (w.2.2.1 t))] rfl ?_
        refine gr_aload_n C 0 dX7_push_51 rfl rfl ?_
        refine gr_getI C t 1 dX7_push_52 ht.1 rfl inX7 (by decide) ln20 rfl ?_
        refine gr_iconst C (v := 1) dX7_push_55 (by decide) ?_
        refine gr_iadd C dX7_push_56 ?_
        exact JK9 ((g8 t 1) + (1 : Int32)) g8 hF
      · rw [if_pos c14] at hF
        refine gr_sub [0] [(0, .ref (w.2.2.1 t))] rfl ?_
        refine gr_iconst C (v := 0) dX7_push_47 (by decide) ?_
        refine gr_goto C 57 dX7_push_48 (by decide) ?_
        exact JK9 (0 : Int32) g8 hF
-- X3_gains: 38 instructions, frames 1, locals 22
set_option maxRecDepth 100000 in
set_option maxHeartbeats 4000000 in
theorem mX3_gains (l : Launch) {w : Wl} (hw : w.2.2.2 = shC) {σ : Sg} {t : Nat} {a0 : Int32} {a1 : Int32} (ht : gPl w t) {r : Int32} {σ' : Sg} (hF : fX3_gains σ t a0 a1 = some (r, σ')) : gMI l w yX3_gains wsX3_gains ({ frames := 1, cells := 0, slots := 0, locals := 22 } : Room) [.ref (w.2.2.1 t), .int a0, .int a1] σ r σ' := by
  have inX3 : ∀ v ∈ u_ws RX3 TX3 13, v ∈ wsX3_gains := by decide +kernel
  have ln9 : Cond.fieldLink RX3 9 (TX3 0).1 (TX3 0).2.1 (TX3 0).2.2.1 ∈ wsX3_gains := by decide +kernel
  have ln21 : Cond.fieldLink RX3 21 (TX3 3).1 (TX3 3).2.1 (TX3 3).2.2.1 ∈ wsX3_gains := by decide +kernel
  refine gStartI cX3_gains 5 RX3 rfl (by decide) rfl (Nat.le_of_ble_eq_true rfl) ?_
  intro X hl C
  show gG X w σ 0 [(0, .ref (w.2.2.1 t)), (1, .int a0), (2, .int a1)] []
  unfold fX3_gains at hF
  refine gr_aload_n C 0 dX3_gains_0 rfl rfl ?_
  refine gr_getR C t 0 (t + 1) dX3_gains_1 ht.1 rfl inX3 (by decide) ln9 rfl ?_
  refine gr_iload_n C 1 dX3_gains_4 rfl rfl ?_
  obtain ⟨h2, x1, ex1, hF⟩ := gRd_e hF
  refine gr_iald C (t + 1) 8 dX3_gains_5 ht.2.1 h2 ?_
  refine gr_nmI ex1 ?_
  refine gr_iconst C (v := 1) dX3_gains_6 (by decide) ?_
  obtain ⟨K3, eK3, hF⟩ := gLet_e hF
  have JK3 : ∀ (x4 : Int32) (g5 : Sg), K3 x4 g5 = some (r, σ') → gG X w g5 15 [(0, .ref (w.2.2.1 t)), (1, .int a0), (2, .int a1)] [.int x4] := by
    intro x4 g5 hF
    rw [eK3] at hF
    try dsimp only at hF
    refine gr_istore_n C [(3, .int x4), (0, .ref (w.2.2.1 t)), (1, .int a0), (2, .int a1)] dX3_gains_15 rfl (by decide) rfl ?_
    refine gr_iload_n C 0 dX3_gains_16 rfl rfl ?_
    obtain ⟨K6, eK6, hF⟩ := gLet_e hF
    have JK6 : ∀ (x7 : Int32) (g8 : Sg), K6 x7 g8 = some (r, σ') → gG X w g8 35 [(0, .ref (w.2.2.1 t)), (1, .int a0), (2, .int a1), (3, .int x4)] [.int x7] := by
      intro x7 g8 hF
      rw [eK6] at hF
      try dsimp only at hF
      refine gr_istore C [(4, .int x7), (0, .ref (w.2.2.1 t)), (1, .int a0), (2, .int a1), (3, .int x4)] dX3_gains_35 (by decide) rfl ?_
      refine gr_iload_n C 3 dX3_gains_37 rfl rfl ?_
      refine gr_iload C 0 dX3_gains_38 rfl ?_
      refine gr_icmp_lt C 45 dX3_gains_40 (by decide) (fun c9 => ?_) (fun c9 => ?_)
      · rw [if_pos c9] at hF
        refine gr_sub [1, 2, 3, 4] [(0, .ref (w.2.2.1 t)), (1, .int a0), (2, .int a1), (3, .int x4)] rfl ?_
        refine gr_iload_n C 3 dX3_gains_45 rfl rfl ?_
        refine gr_if_eq C 53 dX3_gains_46 (by decide) (fun c10 => ?_) (fun c10 => ?_)
        · rw [if_pos c10] at hF
          refine gr_sub [0, 1, 2] [(0, .ref (w.2.2.1 t)), (1, .int a0), (2, .int a1)] rfl ?_
          refine gr_iload_n C 2 dX3_gains_53 rfl rfl ?_
          refine gr_aload_n C 0 dX3_gains_54 rfl rfl ?_
          refine gr_getR C t 3 (t + 4) dX3_gains_55 ht.1 rfl inX3 (by decide) ln21 rfl ?_
          refine gr_iload_n C 1 dX3_gains_58 rfl rfl ?_
          obtain ⟨h12, x11, ex11, hF⟩ := gRd_e hF
          refine gr_iald C (t + 4) 8 dX3_gains_59 ht.2.2.2.2.1 h12 ?_
          refine gr_nmI ex11 ?_
          refine gr_isub C dX3_gains_60 ?_
          cases hF
          exact gr_iret C dX3_gains_61 ⟨rfl, rfl⟩
        · rw [if_neg c10] at hF
          refine gr_sub [] [] rfl ?_
          refine gr_iconst C (v := -1) dX3_gains_49 (by decide) ?_
          refine gr_goto C 61 dX3_gains_50 (by decide) ?_
          cases hF
          exact gr_iret C dX3_gains_61 ⟨rfl, rfl⟩
      · rw [if_neg c9] at hF
        refine gr_sub [] [] rfl ?_
        refine gr_iconst C (v := 1) dX3_gains_43 (by decide) ?_
        cases hF
        exact gr_iret C dX3_gains_44 ⟨rfl, rfl⟩
    refine gr_if_eq C 29 dX3_gains_17 (by decide) (fun c13 => ?_) (fun c13 => ?_)
    · rw [if_pos c13] at hF
      refine gr_sub [1, 2, 3, 0] [(0, .ref (w.2.2.1 t)), (1, .int a0), (2, .int a1), (3, .int x4)] rfl ?_
      refine gr_aload_n C 0 dX3_gains_29 rfl rfl ?_
      refine gr_getR C t 3 (t + 4) dX3_gains_30 ht.1 rfl inX3 (by decide) ln21 rfl ?_
      refine gr_iload_n C 1 dX3_gains_33 rfl rfl ?_
      obtain ⟨h15, x14, ex14, hF⟩ := gRd_e hF
      refine gr_iald C (t + 4) 8 dX3_gains_34 ht.2.2.2.2.1 h15 ?_
      refine gr_nmI ex14 ?_
      exact JK6 x14 g5 hF
    · rw [if_neg c13] at hF
      refine gr_sub [1, 2, 3, 0] [(0, .ref (w.2.2.1 t)), (1, .int a0), (2, .int a1), (3, .int x4)] rfl ?_
      refine gr_aload_n C 0 dX3_gains_20 rfl rfl ?_
      refine gr_iload_n C 1 dX3_gains_21 rfl rfl ?_
      refine gr_iconst C (v := 0) dX3_gains_22 (by decide) ?_
      obtain ⟨r18, g17, hc16, hF⟩ := gCl_e hF
      refine gr_callVI C (n := 2) (As := [.int a0, .int (0 : Int32)]) (rest := []) t (mX3_wants X.2.1 hw ht hc16) gX3_gains_X3_wants rfl ⟨rfl, rfl⟩ ⟨by decide, by decide⟩ rfl (Nat.le_of_ble_eq_true rfl) rfl (by decide +kernel) ht.1 rfl dX3_gains_23 ?_
      refine gr_goto C 35 dX3_gains_26 (by decide) ?_
      exact JK6 r18 g17 hF
  refine gr_icmp_ne C 14 dX3_gains_7 (by decide) (fun c19 => ?_) (fun c19 => ?_)
  · rw [if_neg c19] at hF
    refine gr_iconst C (v := 0) dX3_gains_14 (by decide) ?_
    exact JK3 (0 : Int32) σ hF
  · rw [if_pos c19] at hF
    refine gr_iconst C (v := 1) dX3_gains_10 (by decide) ?_
    refine gr_goto C 15 dX3_gains_11 (by decide) ?_
    exact JK3 (1 : Int32) σ hF
-- X2_goByAt: 72 instructions, frames 2, locals 52
set_option maxRecDepth 100000 in
set_option maxHeartbeats 4000000 in
theorem mX2_goByAt (l : Launch) {w : Wl} (hw : w.2.2.2 = shC) {σ : Sg} {s0 : Nat} {a1 : Int32} {a2 : Int32} (hs0 : gSt w s0) {r : Int32} {σ' : Sg} (hF : fX2_goByAt σ s0 a1 a2 = some (r, σ')) : gMI l w yX2_goByAt wsX2_goByAt ({ frames := 2, cells := 0, slots := 0, locals := 52 } : Room) [.ref (w.2.2.1 72), .ref (w.2.2.1 s0), .int a1, .int a2] σ r σ' := by
  have inX2 : ∀ v ∈ u_ws RX2 TX2 2, v ∈ wsX2_goByAt := by decide +kernel
  have inX3 : ∀ v ∈ u_ws RX3 TX3 13, v ∈ wsX2_goByAt := by decide +kernel
  have inX9 : ∀ v ∈ u_ws RX9 TX9 5, v ∈ wsX2_goByAt := by decide +kernel
  have ln9 : Cond.fieldLink RX2 9 (TX2 1).1 (TX2 1).2.1 (TX2 1).2.2.1 ∈ wsX2_goByAt := by decide +kernel
  have ln15 : Cond.fieldLink RX2 15 (TX2 0).1 (TX2 0).2.1 (TX2 0).2.2.1 ∈ wsX2_goByAt := by decide +kernel
  have ln19 : Cond.fieldLink RX2 19 (TX3 8).1 (TX3 8).2.1 (TX3 8).2.2.1 ∈ wsX2_goByAt := by decide +kernel
  have ln24 : Cond.fieldLink RX2 24 (TX3 7).1 (TX3 7).2.1 (TX3 7).2.2.1 ∈ wsX2_goByAt := by decide +kernel
  have ln27 : Cond.fieldLink RX2 27 (TX9 2).1 (TX9 2).2.1 (TX9 2).2.2.1 ∈ wsX2_goByAt := by decide +kernel
  have ln57 : Cond.fieldLink RX2 57 (TX9 1).1 (TX9 1).2.1 (TX9 1).2.2.1 ∈ wsX2_goByAt := by decide +kernel
  have kmax74 : Cond.methodLink RX2 74 Lib.Math.max.name ∈ wsX2_goByAt ∧ Cond.static Lib.Math.max.name ∈ wsX2_goByAt ∧ Cond.initialized "java/lang/Math" ∈ wsX2_goByAt ∧ Cond.code Lib.Math.max.name Lib.Math.max.code 2 (some .int) ∈ wsX2_goByAt := by decide +kernel
  have kmin40 : Cond.methodLink RX2 40 Lib.Math.min.name ∈ wsX2_goByAt ∧ Cond.static Lib.Math.min.name ∈ wsX2_goByAt ∧ Cond.initialized "java/lang/Math" ∈ wsX2_goByAt ∧ Cond.code Lib.Math.min.name Lib.Math.min.code 2 (some .int) ∈ wsX2_goByAt := by decide +kernel
  refine gStartI cX2_goByAt 8 RX2 rfl (by decide) rfl (Nat.le_of_ble_eq_true rfl) ?_
  intro X hl C
  show gG X w σ 0 [(0, .ref (w.2.2.1 72)), (1, .ref (w.2.2.1 s0)), (2, .int a1), (3, .int a2)] []
  unfold fX2_goByAt at hF
  refine gr_aload_n C 0 dX2_goByAt_0 rfl rfl ?_
  refine gr_iload_n C 2 dX2_goByAt_1 rfl rfl ?_
  refine gr_iload_n C 3 dX2_goByAt_2 rfl rfl ?_
  refine gr_aload_n C 1 dX2_goByAt_3 rfl rfl ?_
  refine gr_getR C s0 1 (s0 + 2) dX2_goByAt_4 hs0.1 rfl inX9 (by decide) ln57 rfl ?_
  refine gr_iload_n C 2 dX2_goByAt_7 rfl rfl ?_
  obtain ⟨h2, x1, ex1, hF⟩ := gRd_e hF
  refine gr_iald C (s0 + 2) 9 dX2_goByAt_8 hs0.2.2.1 h2 ?_
  refine gr_nmI ex1 ?_
  refine gr_aload_n C 0 dX2_goByAt_9 rfl rfl ?_
  refine gr_aload_n C 1 dX2_goByAt_10 rfl rfl ?_
  refine gr_iload_n C 2 dX2_goByAt_11 rfl rfl ?_
  obtain ⟨r5, g4, hc3, hF⟩ := gCl_e hF
  refine gr_callVI C (n := 2) (As := [.ref (w.2.2.1 s0), .int a1]) (rest := [.int x1, .int a2, .int a1, .ref (w.2.2.1 72)]) 72 (mX2_drinkersAt X.2.1 hw hs0 hc3) gX2_goByAt_X2_drinkersAt rfl ⟨rfl, rfl⟩ ⟨by decide, by decide⟩ rfl (Nat.le_of_ble_eq_true rfl) rfl (by decide +kernel) (sc_72 hw) rfl dX2_goByAt_12 ?_
  obtain ⟨r8, g7, hc6, hF⟩ := gCl_e hF
  refine gr_callVI C (n := 4) (As := [.int a1, .int a2, .int x1, .int r5]) (rest := []) 72 (mX2_leftOver X.2.1 hw  hc6) gX2_goByAt_X2_leftOver rfl ⟨rfl, rfl⟩ ⟨by decide, by decide⟩ rfl (Nat.le_of_ble_eq_true rfl) rfl (by decide +kernel) (sc_72 hw) rfl dX2_goByAt_15 ?_
  refine gr_istore C [(4, .int r8), (0, .ref (w.2.2.1 72)), (1, .ref (w.2.2.1 s0)), (2, .int a1), (3, .int a2)] dX2_goByAt_18 (by decide) rfl ?_
  refine gr_aload_n C 1 dX2_goByAt_20 rfl rfl ?_
  refine gr_getR C 72 0 4 dX2_goByAt_21 (sc_72 hw) rfl inX2 (by decide) ln15 rfl ?_
  refine gr_getR C 4 8 13 dX2_goByAt_24 (sc_4 hw) rfl inX3 (by decide) ln19 rfl ?_
  refine gr_iload_n C 3 dX2_goByAt_27 rfl rfl ?_
  obtain ⟨h10, x9, ex9, hF⟩ := gRd_e hF
  refine gr_iald C 13 10 dX2_goByAt_28 (sc_13 hw) h10 ?_
  refine gr_nmI ex9 ?_
  refine gr_istore C [(5, .int x9), (4, .int r8), (0, .ref (w.2.2.1 72)), (1, .ref (w.2.2.1 s0)), (2, .int a1), (3, .int a2)] dX2_goByAt_29 (by decide) rfl ?_
  refine gr_sub [2, 3, 4, 1, 0] [(0, .ref (w.2.2.1 72)), (1, .ref (w.2.2.1 s0)), (2, .int a1), (4, .int r8), (5, .int x9)] rfl ?_
  have L40 : ∀ (n : Nat) (x11 : Int32) (g12 : Sg) , fX2_goByAt_31 a1 r8 s0 n x11 g12  = some (r, σ') → gG X w g12 31 [(0, .ref (w.2.2.1 72)), (1, .ref (w.2.2.1 s0)), (2, .int a1), (4, .int r8), (5, .int x11)] [] := by
    intro n
    induction n with
    | zero =>
      intro x11 g12 hF
      rw [fX2_goByAt_31] at hF
      cases hF
    | succ n ih =>
      intro x11 g12 hF
      rw [fX2_goByAt_31] at hF
      refine gr_iload C 4 dX2_goByAt_31 rfl ?_
      refine gr_aload_n C 0 dX2_goByAt_33 rfl rfl ?_
      refine gr_getR C 72 0 4 dX2_goByAt_34 (sc_72 hw) rfl inX2 (by decide) ln15 rfl ?_
      refine gr_getR C 4 8 13 dX2_goByAt_37 (sc_4 hw) rfl inX3 (by decide) ln19 rfl ?_
      refine gr_iload_n C 2 dX2_goByAt_40 rfl rfl ?_
      refine gr_iconst C (v := 1) dX2_goByAt_41 (by decide) ?_
      refine gr_iadd C dX2_goByAt_42 ?_
      obtain ⟨h14, x13, ex13, hF⟩ := gRd_e hF
      refine gr_iald C 13 10 dX2_goByAt_43 (sc_13 hw) h14 ?_
      refine gr_nmI ex13 ?_
      refine gr_icmp_ge C 132 dX2_goByAt_44 (by decide) (fun c15 => ?_) (fun c15 => ?_)
      · rw [if_pos c15] at hF
        refine gr_sub [3] [(4, .int r8)] rfl ?_
        refine gr_iload C 0 dX2_goByAt_132 rfl ?_
        refine gr_sub [] [] rfl ?_
        cases hF
        exact gr_iret C dX2_goByAt_134 ⟨rfl, rfl⟩
      · rw [if_neg c15] at hF
        refine gr_aload_n C 0 dX2_goByAt_47 rfl rfl ?_
        refine gr_getR C 72 0 4 dX2_goByAt_48 (sc_72 hw) rfl inX2 (by decide) ln15 rfl ?_
        refine gr_getR C 4 7 12 dX2_goByAt_51 (sc_4 hw) rfl inX3 (by decide) ln24 rfl ?_
        refine gr_iload C 4 dX2_goByAt_54 rfl ?_
        obtain ⟨h17, x16, ex16, hF⟩ := gRd_e hF
        refine gr_iald C 12 8 dX2_goByAt_56 (sc_12 hw) h17 ?_
        refine gr_nmI ex16 ?_
        refine gr_istore C [(6, .int x16), (0, .ref (w.2.2.1 72)), (1, .ref (w.2.2.1 s0)), (2, .int a1), (4, .int r8), (5, .int x11)] dX2_goByAt_57 (by decide) rfl ?_
        refine gr_aload_n C 2 dX2_goByAt_59 rfl rfl ?_
        refine gr_getR C s0 2 (s0 + 3) dX2_goByAt_60 hs0.1 rfl inX9 (by decide) ln27 rfl ?_
        refine gr_iload C 0 dX2_goByAt_63 rfl ?_
        obtain ⟨h19, x18, ex18, hF⟩ := gRd_e hF
        refine gr_iald C (s0 + 3) 8 dX2_goByAt_65 hs0.2.2.2 h19 ?_
        refine gr_nmI ex18 ?_
        obtain ⟨K20, eK20, hF⟩ := gLet_e hF
        have JK20 : ∀  (g21 : Sg), K20  g21 = some (r, σ') → gG X w g21 126 [(0, .ref (w.2.2.1 72)), (1, .ref (w.2.2.1 s0)), (2, .int a1), (4, .int r8), (5, .int x11)] [] := by
          intro g21 hF
          rw [eK20] at hF
          try dsimp only at hF
          obtain ⟨x22, ex22, hF⟩ := gLet_e hF
          refine gr_iinc C (v := x22) 4 [(5, .int x22), (0, .ref (w.2.2.1 72)), (1, .ref (w.2.2.1 s0)), (2, .int a1), (4, .int r8)] dX2_goByAt_126 rfl (by rw [ex22]; rfl) (by decide) rfl ?_
          refine gr_goto C 31 dX2_goByAt_129 (by decide) ?_
          refine gr_sub [1, 2, 3, 4, 0] [(0, .ref (w.2.2.1 72)), (1, .ref (w.2.2.1 s0)), (2, .int a1), (4, .int r8), (5, .int x22)] rfl ?_
          exact ih x22 g21   hF
        refine gr_if_le C 126 dX2_goByAt_66 (by decide) (fun c23 => ?_) (fun c23 => ?_)
        · rw [if_pos c23] at hF
          refine gr_sub [1, 2, 3, 4, 5] [(0, .ref (w.2.2.1 72)), (1, .ref (w.2.2.1 s0)), (2, .int a1), (4, .int r8), (5, .int x11)] rfl ?_
          exact JK20  g12 hF
        · rw [if_neg c23] at hF
          refine gr_sub [1, 2, 3, 4, 5, 0] [(0, .ref (w.2.2.1 72)), (1, .ref (w.2.2.1 s0)), (2, .int a1), (4, .int r8), (5, .int x11), (6, .int x16)] rfl ?_
          refine gr_aload_n C 1 dX2_goByAt_69 rfl rfl ?_
          refine gr_iload C 5 dX2_goByAt_70 rfl ?_
          obtain ⟨r26, g25, hc24, hF⟩ := gCl_e hF
          refine gr_callVI C (n := 1) (As := [.int x16]) (rest := []) s0 (mX9_hasQuarrelled X.2.1 hw hs0 hc24) gX2_goByAt_X9_hasQuarrelled rfl ⟨rfl, rfl⟩ ⟨by decide, by decide⟩ rfl (Nat.le_of_ble_eq_true rfl) rfl (by decide +kernel) hs0.1 rfl dX2_goByAt_72 ?_
          obtain ⟨K27, eK27, hF⟩ := gLet_e hF
          have JK27 : ∀ (x28 : Int32) (g29 : Sg), K27 x28 g29 = some (r, σ') → gG X w g29 98 [(0, .ref (w.2.2.1 72)), (1, .ref (w.2.2.1 s0)), (2, .int a1), (4, .int r8), (5, .int x11), (6, .int x16)] [.int x28] := by
            intro x28 g29 hF
            rw [eK27] at hF
            try dsimp only at hF
            refine gr_istore C [(7, .int x28), (0, .ref (w.2.2.1 72)), (1, .ref (w.2.2.1 s0)), (2, .int a1), (4, .int r8), (5, .int x11), (6, .int x16)] dX2_goByAt_98 (by decide) rfl ?_
            refine gr_aload_n C 2 dX2_goByAt_100 rfl rfl ?_
            refine gr_getR C s0 2 (s0 + 3) dX2_goByAt_101 hs0.1 rfl inX9 (by decide) ln27 rfl ?_
            refine gr_iload C 6 dX2_goByAt_104 rfl ?_
            refine gr_iconst C (v := 0) dX2_goByAt_106 (by decide) ?_
            refine gr_bipush C (v := 20) dX2_goByAt_107 (by decide) ?_
            refine gr_aload_n C 2 dX2_goByAt_109 rfl rfl ?_
            refine gr_getR C s0 2 (s0 + 3) dX2_goByAt_110 hs0.1 rfl inX9 (by decide) ln27 rfl ?_
            refine gr_iload C 6 dX2_goByAt_113 rfl ?_
            obtain ⟨h31, x30, ex30, hF⟩ := gRd_e hF
            refine gr_iald C (s0 + 3) 8 dX2_goByAt_115 hs0.2.2.2 h31 ?_
            refine gr_nmI ex30 ?_
            refine gr_iload C 0 dX2_goByAt_116 rfl ?_
            refine gr_iadd C dX2_goByAt_118 ?_
            refine gr_mmin C (st := [.int (0 : Int32), .int x16, .ref (w.2.2.1 (s0 + 3))]) dX2_goByAt_119 kmin40.1 kmin40.2.1 kmin40.2.2.1 kmin40.2.2.2 (by decide) (Nat.le_of_ble_eq_true rfl) ?_
            refine gr_mmax C (st := [.int x16, .ref (w.2.2.1 (s0 + 3))]) dX2_goByAt_122 kmax74.1 kmax74.2.1 kmax74.2.2.1 kmax74.2.2.2 (by decide) (Nat.le_of_ble_eq_true rfl) ?_
            obtain ⟨h32, g33, eg33, hF⟩ := gWr_e hF
            refine gr_iast C (s0 + 3) 8 dX2_goByAt_125 hs0.2.2.2 h32 ?_
            refine gr_nmS eg33 ?_
            refine gr_sub [1, 2, 3, 4, 5] [(0, .ref (w.2.2.1 72)), (1, .ref (w.2.2.1 s0)), (2, .int a1), (4, .int r8), (5, .int x11)] rfl ?_
            exact JK20  g33 hF
          refine gr_if_eq C 82 dX2_goByAt_75 (by decide) (fun c34 => ?_) (fun c34 => ?_)
          · rw [if_pos c34] at hF
            refine gr_aload_n C 0 dX2_goByAt_82 rfl rfl ?_
            refine gr_getR C 72 0 4 dX2_goByAt_83 (sc_72 hw) rfl inX2 (by decide) ln15 rfl ?_
            refine gr_iload C 5 dX2_goByAt_86 rfl ?_
            refine gr_aload_n C 0 dX2_goByAt_88 rfl rfl ?_
            refine gr_getR C 72 1 73 dX2_goByAt_89 (sc_72 hw) rfl inX2 (by decide) ln9 rfl ?_
            refine gr_iload C 5 dX2_goByAt_92 rfl ?_
            obtain ⟨h36, x35, ex35, hF⟩ := gRd_e hF
            refine gr_iald C 73 8 dX2_goByAt_94 (sc_73 hw) h36 ?_
            refine gr_nmI ex35 ?_
            obtain ⟨r39, g38, hc37, hF⟩ := gCl_e hF
            refine gr_callVI C (n := 2) (As := [.int x16, .int x35]) (rest := []) 4 (mX3_gains X.2.1 hw (pl_4 hw) hc37) gX2_goByAt_X3_gains rfl ⟨rfl, rfl⟩ ⟨by decide, by decide⟩ rfl (Nat.le_of_ble_eq_true rfl) rfl (by decide +kernel) (sc_4 hw) rfl dX2_goByAt_95 ?_
            exact JK27 r39 g38 hF
          · rw [if_neg c34] at hF
            refine gr_iconst C (v := -1) dX2_goByAt_78 (by decide) ?_
            refine gr_goto C 98 dX2_goByAt_79 (by decide) ?_
            exact JK27 (-1 : Int32) g25 hF
  refine L40 _ x9 g7   hF
