-- X11_younger: 80 instructions, frames 3, locals 73
set_option maxRecDepth 100000 in
set_option maxHeartbeats 4000000 in
theorem mX11_younger (l : Launch) {w : Wl} (hw : w.2.2.2 = shM) {σ : Sg} {a0 : Int32} {a1 : Int32}  {r : Int32} {σ' : Sg} (hF : fX11_younger σ a0 a1 = some (r, σ')) : gMI l w yX11_younger wsX11_younger ({ frames := 3, cells := 0, slots := 0, locals := 73 } : Room) [.ref (w.2.2.1 0), .int a0, .int a1] σ r σ' := by
  have inX11 : ∀ v ∈ u_ws RX11 TX11 32, v ∈ wsX11_younger := by decide +kernel
  have ln7 : Cond.fieldLink RX11 7 (TX11 3).1 (TX11 3).2.1 (TX11 3).2.2.1 ∈ wsX11_younger := by decide +kernel
  have ln13 : Cond.fieldLink RX11 13 (TX11 4).1 (TX11 4).2.1 (TX11 4).2.2.1 ∈ wsX11_younger := by decide +kernel
  have ln16 : Cond.fieldLink RX11 16 (TX11 5).1 (TX11 5).2.1 (TX11 5).2.2.1 ∈ wsX11_younger := by decide +kernel
  have ln19 : Cond.fieldLink RX11 19 (TX11 6).1 (TX11 6).2.1 (TX11 6).2.2.1 ∈ wsX11_younger := by decide +kernel
  have ln37 : Cond.fieldLink RX11 37 (TX11 15).1 (TX11 15).2.1 (TX11 15).2.2.1 ∈ wsX11_younger := by decide +kernel
  have ln50 : Cond.fieldLink RX11 50 (TX11 26).1 (TX11 26).2.1 (TX11 26).2.2.1 ∈ wsX11_younger := by decide +kernel
  have k187 : Cond.constantLong RX11 187 (6) ∈ wsX11_younger := by decide +kernel
  refine gStartI cX11_younger 4 RX11 rfl (by decide) rfl (Nat.le_of_ble_eq_true rfl) ?_
  intro X hl C
  show gG X w σ 0 [(0, .ref (w.2.2.1 0)), (1, .int a0), (2, .int a1)] []
  unfold fX11_younger at hF
  refine gr_aload_n C 0 dX11_younger_0 rfl rfl ?_
  refine gr_iload_n C 1 dX11_younger_1 rfl rfl ?_
  obtain ⟨r3, g2, hc1, hF⟩ := gCl_e hF
  refine gr_callVI C (n := 1) (As := [.int a0]) (rest := []) 0 (mX11_isOne X.2.1 hw  hc1) gX11_younger_X11_isOne rfl ⟨rfl, rfl⟩ ⟨by decide, by decide⟩ rfl (Nat.le_of_ble_eq_true rfl) rfl (by decide +kernel) (scm_0 hw) rfl dX11_younger_2 ?_
  refine gr_if_eq C 20 dX11_younger_5 (by decide) (fun c4 => ?_) (fun c4 => ?_)
  · rw [if_pos c4] at hF
    refine gr_sub [] [] rfl ?_
    refine gr_iconst C (v := -1) dX11_younger_20 (by decide) ?_
    cases hF
    exact gr_iret C dX11_younger_21 ⟨rfl, rfl⟩
  · rw [if_neg c4] at hF
    refine gr_iload_n C 2 dX11_younger_8 rfl rfl ?_
    refine gr_i2l C dX11_younger_9 ?_
    refine gr_lconst C (v := 0) dX11_younger_10 (by decide) ?_
    refine gr_ldc2 C (v := 6) dX11_younger_11 k187 ?_
    obtain ⟨r7, g6, hc5, hF⟩ := gCl_e hF
    refine gr_callSI C (n := 3) (As := [.long (a1.toInt64), .long (0 : Int64), .long (6 : Int64)]) (rest := []) (mX11_in X.2.1 hw  hc5) gX11_younger_X11_in rfl ⟨rfl, rfl⟩ ⟨by decide, by decide⟩ rfl (Nat.le_of_ble_eq_true rfl) rfl (by decide +kernel) dX11_younger_14 ?_
    refine gr_if_ne C 22 dX11_younger_17 (by decide) (fun c8 => ?_) (fun c8 => ?_)
    · rw [if_neg c8] at hF
      refine gr_aload_n C 0 dX11_younger_22 rfl rfl ?_
      refine gr_iconst C (v := 0) dX11_younger_23 (by decide) ?_
      refine gr_aload_n C 0 dX11_younger_24 rfl rfl ?_
      refine gr_getR C 0 4 2 dX11_younger_25 (scm_0 hw) rfl inX11 (by decide) ln13 rfl ?_
      refine gr_iload_n C 1 dX11_younger_28 rfl rfl ?_
      obtain ⟨h10, x9, ex9, hF⟩ := gRd_e hF
      refine gr_iald C 2 8 dX11_younger_29 (scm_2 hw) h10 ?_
      refine gr_nmI ex9 ?_
      obtain ⟨r13, g12, hc11, hF⟩ := gCl_e hF
      refine gr_callVI C (n := 2) (As := [.int (0 : Int32), .int x9]) (rest := []) 0 (mX11_leftAt X.2.1 hw  hc11) gX11_younger_X11_leftAt rfl ⟨rfl, rfl⟩ ⟨by decide, by decide⟩ rfl (Nat.le_of_ble_eq_true rfl) rfl (by decide +kernel) (scm_0 hw) rfl dX11_younger_30 ?_
      refine gr_istore_n C [(3, .int r13), (0, .ref (w.2.2.1 0)), (1, .int a0), (2, .int a1)] dX11_younger_33 rfl (by decide) rfl ?_
      refine gr_iload_n C 3 dX11_younger_34 rfl rfl ?_
      refine gr_if_ne C 47 dX11_younger_35 (by decide) (fun c14 => ?_) (fun c14 => ?_)
      · rw [if_neg c14] at hF
        refine gr_sub [1, 2, 3, 0] [(0, .ref (w.2.2.1 0)), (1, .int a0), (2, .int a1), (3, .int r13)] rfl ?_
        refine gr_iload_n C 2 dX11_younger_47 rfl rfl ?_
        refine gr_iconst C (v := 1) dX11_younger_48 (by decide) ?_
        refine gr_icmp_ne C 61 dX11_younger_49 (by decide) (fun c15 => ?_) (fun c15 => ?_)
        · rw [if_neg c15] at hF
          refine gr_iload_n C 2 dX11_younger_61 rfl rfl ?_
          refine gr_iconst C (v := 2) dX11_younger_62 (by decide) ?_
          refine gr_icmp_ne C 75 dX11_younger_63 (by decide) (fun c16 => ?_) (fun c16 => ?_)
          · rw [if_neg c16] at hF
            refine gr_iload_n C 2 dX11_younger_75 rfl rfl ?_
            refine gr_iconst C (v := 3) dX11_younger_76 (by decide) ?_
            refine gr_icmp_ne C 89 dX11_younger_77 (by decide) (fun c17 => ?_) (fun c17 => ?_)
            · rw [if_neg c17] at hF
              refine gr_iload_n C 2 dX11_younger_89 rfl rfl ?_
              refine gr_iconst C (v := 4) dX11_younger_90 (by decide) ?_
              refine gr_icmp_ne C 103 dX11_younger_91 (by decide) (fun c18 => ?_) (fun c18 => ?_)
              · rw [if_neg c18] at hF
                refine gr_iload_n C 2 dX11_younger_103 rfl rfl ?_
                refine gr_iconst C (v := 5) dX11_younger_104 (by decide) ?_
                refine gr_icmp_ne C 122 dX11_younger_105 (by decide) (fun c19 => ?_) (fun c19 => ?_)
                · rw [if_neg c19] at hF
                  refine gr_sub [0, 1, 3] [(0, .ref (w.2.2.1 0)), (1, .int a0), (3, .int r13)] rfl ?_
                  refine gr_iload_n C 2 dX11_younger_122 rfl rfl ?_
                  refine gr_if_ge C 130 dX11_younger_123 (by decide) (fun c20 => ?_) (fun c20 => ?_)
                  · rw [if_pos c20] at hF
                    refine gr_sub [0, 1] [(0, .ref (w.2.2.1 0)), (1, .int a0)] rfl ?_
                    refine gr_aload_n C 0 dX11_younger_130 rfl rfl ?_
                    refine gr_getR C 0 26 14 dX11_younger_131 (scm_0 hw) rfl inX11 (by decide) ln50 rfl ?_
                    refine gr_iload_n C 1 dX11_younger_134 rfl rfl ?_
                    obtain ⟨h22, x21, ex21, hF⟩ := gRd_e hF
                    refine gr_iald C 14 8 dX11_younger_135 (scm_14 hw) h22 ?_
                    refine gr_nmI ex21 ?_
                    cases hF
                    exact gr_iret C dX11_younger_136 ⟨rfl, rfl⟩
                  · rw [if_neg c20] at hF
                    refine gr_sub [] [] rfl ?_
                    refine gr_iconst C (v := 0) dX11_younger_126 (by decide) ?_
                    refine gr_goto C 136 dX11_younger_127 (by decide) ?_
                    cases hF
                    exact gr_iret C dX11_younger_136 ⟨rfl, rfl⟩
                · rw [if_pos c19] at hF
                  refine gr_sub [0, 1] [(0, .ref (w.2.2.1 0)), (1, .int a0)] rfl ?_
                  refine gr_aload_n C 0 dX11_younger_108 rfl rfl ?_
                  refine gr_getR C 0 15 10 dX11_younger_109 (scm_0 hw) rfl inX11 (by decide) ln37 rfl ?_
                  refine gr_bipush C (v := 8) dX11_younger_112 (by decide) ?_
                  obtain ⟨h24, x23, ex23, hF⟩ := gRd_e hF
                  refine gr_iald C 10 336 dX11_younger_114 (scm_10 hw) h24 ?_
                  refine gr_nmI ex23 ?_
                  refine gr_iload_n C 1 dX11_younger_115 rfl rfl ?_
                  refine gr_ishr C dX11_younger_116 ?_
                  refine gr_iconst C (v := 1) dX11_younger_117 (by decide) ?_
                  refine gr_iand C dX11_younger_118 ?_
                  refine gr_goto C 136 dX11_younger_119 (by decide) ?_
                  refine gr_sub [] [] rfl ?_
                  cases hF
                  exact gr_iret C dX11_younger_136 ⟨rfl, rfl⟩
              · rw [if_pos c18] at hF
                refine gr_sub [0, 1] [(0, .ref (w.2.2.1 0)), (1, .int a0)] rfl ?_
                refine gr_aload_n C 0 dX11_younger_94 rfl rfl ?_
                refine gr_getR C 0 15 10 dX11_younger_95 (scm_0 hw) rfl inX11 (by decide) ln37 rfl ?_
                refine gr_iload_n C 1 dX11_younger_98 rfl rfl ?_
                obtain ⟨h26, x25, ex25, hF⟩ := gRd_e hF
                refine gr_iald C 10 336 dX11_younger_99 (scm_10 hw) h26 ?_
                refine gr_nmI ex25 ?_
                refine gr_goto C 136 dX11_younger_100 (by decide) ?_
                refine gr_sub [] [] rfl ?_
                cases hF
                exact gr_iret C dX11_younger_136 ⟨rfl, rfl⟩
            · rw [if_pos c17] at hF
              refine gr_sub [0, 1] [(0, .ref (w.2.2.1 0)), (1, .int a0)] rfl ?_
              refine gr_aload_n C 0 dX11_younger_80 rfl rfl ?_
              refine gr_getR C 0 6 4 dX11_younger_81 (scm_0 hw) rfl inX11 (by decide) ln19 rfl ?_
              refine gr_iload_n C 1 dX11_younger_84 rfl rfl ?_
              obtain ⟨h28, x27, ex27, hF⟩ := gRd_e hF
              refine gr_iald C 4 8 dX11_younger_85 (scm_4 hw) h28 ?_
              refine gr_nmI ex27 ?_
              refine gr_goto C 136 dX11_younger_86 (by decide) ?_
              refine gr_sub [] [] rfl ?_
              cases hF
              exact gr_iret C dX11_younger_136 ⟨rfl, rfl⟩
          · rw [if_pos c16] at hF
            refine gr_sub [0, 1] [(0, .ref (w.2.2.1 0)), (1, .int a0)] rfl ?_
            refine gr_aload_n C 0 dX11_younger_66 rfl rfl ?_
            refine gr_getR C 0 5 3 dX11_younger_67 (scm_0 hw) rfl inX11 (by decide) ln16 rfl ?_
            refine gr_iload_n C 1 dX11_younger_70 rfl rfl ?_
            obtain ⟨h30, x29, ex29, hF⟩ := gRd_e hF
            refine gr_iald C 3 8 dX11_younger_71 (scm_3 hw) h30 ?_
            refine gr_nmI ex29 ?_
            refine gr_goto C 136 dX11_younger_72 (by decide) ?_
            refine gr_sub [] [] rfl ?_
            cases hF
            exact gr_iret C dX11_younger_136 ⟨rfl, rfl⟩
        · rw [if_pos c15] at hF
          refine gr_sub [0, 1] [(0, .ref (w.2.2.1 0)), (1, .int a0)] rfl ?_
          refine gr_aload_n C 0 dX11_younger_52 rfl rfl ?_
          refine gr_getR C 0 4 2 dX11_younger_53 (scm_0 hw) rfl inX11 (by decide) ln13 rfl ?_
          refine gr_iload_n C 1 dX11_younger_56 rfl rfl ?_
          obtain ⟨h32, x31, ex31, hF⟩ := gRd_e hF
          refine gr_iald C 2 8 dX11_younger_57 (scm_2 hw) h32 ?_
          refine gr_nmI ex31 ?_
          refine gr_goto C 136 dX11_younger_58 (by decide) ?_
          refine gr_sub [] [] rfl ?_
          cases hF
          exact gr_iret C dX11_younger_136 ⟨rfl, rfl⟩
      · rw [if_pos c14] at hF
        refine gr_sub [1, 2] [(0, .ref (w.2.2.1 0)), (1, .int a0)] rfl ?_
        refine gr_aload_n C 0 dX11_younger_38 rfl rfl ?_
        refine gr_getR C 0 3 1 dX11_younger_39 (scm_0 hw) rfl inX11 (by decide) ln7 rfl ?_
        refine gr_iload_n C 1 dX11_younger_42 rfl rfl ?_
        obtain ⟨h34, x33, ex33, hF⟩ := gRd_e hF
        refine gr_iald C 1 8 dX11_younger_43 (scm_1 hw) h34 ?_
        refine gr_nmI ex33 ?_
        refine gr_goto C 136 dX11_younger_44 (by decide) ?_
        refine gr_sub [] [] rfl ?_
        cases hF
        exact gr_iret C dX11_younger_136 ⟨rfl, rfl⟩
    · rw [if_pos c8] at hF
      refine gr_sub [] [] rfl ?_
      refine gr_iconst C (v := -1) dX11_younger_20 (by decide) ?_
      cases hF
      exact gr_iret C dX11_younger_21 ⟨rfl, rfl⟩
-- X11_wellThen: 54 instructions, frames 1, locals 23
set_option maxRecDepth 100000 in
set_option maxHeartbeats 4000000 in
theorem mX11_wellThen (l : Launch) {w : Wl} (hw : w.2.2.2 = shM) {σ : Sg} {a0 : Int32} {a1 : Int32} {a2 : Int32} {a3 : Int32} {a4 : Int32}  {r : Int32} {σ' : Sg} (hF : fX11_wellThen σ a0 a1 a2 a3 a4 = some (r, σ')) : gMI l w yX11_wellThen wsX11_wellThen ({ frames := 1, cells := 0, slots := 0, locals := 23 } : Room) [.ref (w.2.2.1 0), .int a0, .int a1, .int a2, .int a3, .int a4] σ r σ' := by
  have inX11 : ∀ v ∈ u_ws RX11 TX11 32, v ∈ wsX11_wellThen := by decide +kernel
  have ln7 : Cond.fieldLink RX11 7 (TX11 3).1 (TX11 3).2.1 (TX11 3).2.2.1 ∈ wsX11_wellThen := by decide +kernel
  have ln19 : Cond.fieldLink RX11 19 (TX11 6).1 (TX11 6).2.1 (TX11 6).2.2.1 ∈ wsX11_wellThen := by decide +kernel
  refine gStartI cX11_wellThen 8 RX11 rfl (by decide) rfl (Nat.le_of_ble_eq_true rfl) ?_
  intro X hl C
  show gG X w σ 0 [(0, .ref (w.2.2.1 0)), (1, .int a0), (2, .int a1), (3, .int a2), (4, .int a3), (5, .int a4)] []
  unfold fX11_wellThen at hF
  refine gr_iload_n C 2 dX11_wellThen_0 rfl rfl ?_
  refine gr_if_gt C 6 dX11_wellThen_1 (by decide) (fun c1 => ?_) (fun c1 => ?_)
  · rw [if_pos c1] at hF
    refine gr_aload_n C 0 dX11_wellThen_6 rfl rfl ?_
    refine gr_getR C 0 3 1 dX11_wellThen_7 (scm_0 hw) rfl inX11 (by decide) ln7 rfl ?_
    refine gr_iload_n C 1 dX11_wellThen_10 rfl rfl ?_
    obtain ⟨h3, x2, ex2, hF⟩ := gRd_e hF
    refine gr_iald C 1 8 dX11_wellThen_11 (scm_1 hw) h3 ?_
    refine gr_nmI ex2 ?_
    refine gr_iconst C (v := 1) dX11_wellThen_12 (by decide) ?_
    obtain ⟨K4, eK4, hF⟩ := gLet_e hF
    have JK4 : ∀ (x5 : Int32) (g6 : Sg), K4 x5 g6 = some (r, σ') → gG X w g6 32 [(0, .ref (w.2.2.1 0)), (1, .int a0), (2, .int a1), (3, .int a2), (4, .int a3)] [.int x5] := by
      intro x5 g6 hF
      rw [eK4] at hF
      try dsimp only at hF
      refine gr_istore C [(6, .int x5), (0, .ref (w.2.2.1 0)), (1, .int a0), (2, .int a1), (3, .int a2), (4, .int a3)] dX11_wellThen_32 (by decide) rfl ?_
      refine gr_iload C 5 dX11_wellThen_34 rfl ?_
      obtain ⟨K7, eK7, hF⟩ := gLet_e hF
      have JK7 : ∀ (x8 : Int32) (g9 : Sg), K7 x8 g9 = some (r, σ') → gG X w g9 61 [(2, .int a1), (3, .int a2), (4, .int a3), (6, .int x5)] [.int x8] := by
        intro x8 g9 hF
        rw [eK7] at hF
        try dsimp only at hF
        refine gr_istore C [(7, .int x8), (2, .int a1), (3, .int a2), (4, .int a3), (6, .int x5)] dX11_wellThen_61 (by decide) rfl ?_
        refine gr_iload C 3 dX11_wellThen_63 rfl ?_
        obtain ⟨K10, eK10, hF⟩ := gLet_e hF
        have JK10 : ∀  (g11 : Sg), K10  g11 = some (r, σ') → gG X w g11 85 [(2, .int a1), (7, .int x8)] [] := by
          intro g11 hF
          rw [eK10] at hF
          try dsimp only at hF
          refine gr_iconst C (v := 0) dX11_wellThen_85 (by decide) ?_
          refine gr_iload_n C 0 dX11_wellThen_86 rfl rfl ?_
          refine gr_iload C 1 dX11_wellThen_87 rfl ?_
          refine gr_isub C dX11_wellThen_89 ?_
          obtain ⟨r14, g13, hc12, hF⟩ := gCl_e hF
          refine gr_callSI C (n := 2) (As := [.int (0 : Int32), .int (a1 - x8)]) (rest := []) (mX11_larger X.2.1 hw  hc12) gX11_wellThen_X11_larger rfl ⟨rfl, rfl⟩ ⟨by decide, by decide⟩ rfl (Nat.le_of_ble_eq_true rfl) rfl (by decide +kernel) dX11_wellThen_90 ?_
          cases hF
          exact gr_iret C dX11_wellThen_93 ⟨rfl, rfl⟩
        refine gr_if_ne C 85 dX11_wellThen_65 (by decide) (fun c15 => ?_) (fun c15 => ?_)
        · rw [if_neg c15] at hF
          refine gr_sub [1, 0] [(2, .int a1), (7, .int x8)] rfl ?_
          exact JK10  g9 hF
        · rw [if_pos c15] at hF
          refine gr_sub [1, 2, 4, 0] [(2, .int a1), (3, .int a2), (6, .int x5), (7, .int x8)] rfl ?_
          refine gr_iload_n C 1 dX11_wellThen_68 rfl rfl ?_
          refine gr_iload C 2 dX11_wellThen_69 rfl ?_
          refine gr_icmp_lt C 85 dX11_wellThen_71 (by decide) (fun c16 => ?_) (fun c16 => ?_)
          · rw [if_pos c16] at hF
            refine gr_sub [0, 3] [(2, .int a1), (7, .int x8)] rfl ?_
            exact JK10  g9 hF
          · rw [if_neg c16] at hF
            refine gr_sub [0] [(2, .int a1)] rfl ?_
            refine gr_bipush C (v := 20) dX11_wellThen_74 (by decide) ?_
            refine gr_iload_n C 0 dX11_wellThen_76 rfl rfl ?_
            refine gr_iconst C (v := 1) dX11_wellThen_77 (by decide) ?_
            refine gr_iadd C dX11_wellThen_78 ?_
            obtain ⟨r19, g18, hc17, hF⟩ := gCl_e hF
            refine gr_callSI C (n := 2) (As := [.int (20 : Int32), .int (a1 + (1 : Int32))]) (rest := []) (mX11_smaller X.2.1 hw  hc17) gX11_wellThen_X11_smaller rfl ⟨rfl, rfl⟩ ⟨by decide, by decide⟩ rfl (Nat.le_of_ble_eq_true rfl) rfl (by decide +kernel) dX11_wellThen_79 ?_
            refine gr_goto C 93 dX11_wellThen_82 (by decide) ?_
            refine gr_sub [] [] rfl ?_
            cases hF
            exact gr_iret C dX11_wellThen_93 ⟨rfl, rfl⟩
      obtain ⟨K20, eK20, hF⟩ := gLet_e hF
      have JK20 : ∀  (g21 : Sg), K20  g21 = some (r, σ') → gG X w g21 49 [(2, .int a1), (3, .int a2), (4, .int a3), (6, .int x5)] [] := by
        intro g21 hF
        rw [eK20] at hF
        try dsimp only at hF
        refine gr_iconst C (v := 1) dX11_wellThen_49 (by decide) ?_
        refine gr_goto C 61 dX11_wellThen_50 (by decide) ?_
        exact JK7 (1 : Int32) g21 hF
      refine gr_if_ne C 49 dX11_wellThen_36 (by decide) (fun c22 => ?_) (fun c22 => ?_)
      · rw [if_neg c22] at hF
        refine gr_sub [3, 4, 5, 0] [(2, .int a1), (3, .int a2), (4, .int a3), (6, .int x5)] rfl ?_
        exact JK20  g6 hF
      · rw [if_pos c22] at hF
        refine gr_sub [1, 2, 3, 4, 5, 0] [(0, .ref (w.2.2.1 0)), (1, .int a0), (2, .int a1), (3, .int a2), (4, .int a3), (6, .int x5)] rfl ?_
        refine gr_aload_n C 0 dX11_wellThen_39 rfl rfl ?_
        refine gr_getR C 0 3 1 dX11_wellThen_40 (scm_0 hw) rfl inX11 (by decide) ln7 rfl ?_
        refine gr_iload_n C 1 dX11_wellThen_43 rfl rfl ?_
        obtain ⟨h24, x23, ex23, hF⟩ := gRd_e hF
        refine gr_iald C 1 8 dX11_wellThen_44 (scm_1 hw) h24 ?_
        refine gr_nmI ex23 ?_
        refine gr_iconst C (v := 1) dX11_wellThen_45 (by decide) ?_
        refine gr_icmp_ne C 53 dX11_wellThen_46 (by decide) (fun c25 => ?_) (fun c25 => ?_)
        · rw [if_neg c25] at hF
          refine gr_aload_n C 0 dX11_wellThen_53 rfl rfl ?_
          refine gr_getR C 0 6 4 dX11_wellThen_54 (scm_0 hw) rfl inX11 (by decide) ln19 rfl ?_
          refine gr_iload_n C 1 dX11_wellThen_57 rfl rfl ?_
          obtain ⟨h27, x26, ex26, hF⟩ := gRd_e hF
          refine gr_iald C 4 8 dX11_wellThen_58 (scm_4 hw) h27 ?_
          refine gr_nmI ex26 ?_
          refine gr_iload_n C 3 dX11_wellThen_59 rfl rfl ?_
          refine gr_isub C dX11_wellThen_60 ?_
          refine gr_sub [2, 3, 4, 5] [(2, .int a1), (3, .int a2), (4, .int a3), (6, .int x5)] rfl ?_
          exact JK7 (x26 - a2) g6 hF
        · rw [if_pos c25] at hF
          refine gr_sub [2, 3, 4, 5] [(2, .int a1), (3, .int a2), (4, .int a3), (6, .int x5)] rfl ?_
          exact JK20  g6 hF
    refine gr_icmp_ne C 26 dX11_wellThen_13 (by decide) (fun c28 => ?_) (fun c28 => ?_)
    · rw [if_neg c28] at hF
      refine gr_sub [0, 1, 2, 3, 4] [(0, .ref (w.2.2.1 0)), (1, .int a0), (2, .int a1), (3, .int a2), (4, .int a3)] rfl ?_
      refine gr_aload_n C 0 dX11_wellThen_26 rfl rfl ?_
      refine gr_getR C 0 6 4 dX11_wellThen_27 (scm_0 hw) rfl inX11 (by decide) ln19 rfl ?_
      refine gr_iload_n C 1 dX11_wellThen_30 rfl rfl ?_
      obtain ⟨h30, x29, ex29, hF⟩ := gRd_e hF
      refine gr_iald C 4 8 dX11_wellThen_31 (scm_4 hw) h30 ?_
      refine gr_nmI ex29 ?_
      exact JK4 x29 σ hF
    · rw [if_pos c28] at hF
      refine gr_aload_n C 0 dX11_wellThen_16 rfl rfl ?_
      refine gr_iload_n C 1 dX11_wellThen_17 rfl rfl ?_
      refine gr_iload C 5 dX11_wellThen_18 rfl ?_
      obtain ⟨r33, g32, hc31, hF⟩ := gCl_e hF
      refine gr_callVI C (n := 2) (As := [.int a0, .int a4]) (rest := []) 0 (mX11_wants X.2.1 hw  hc31) gX11_wellThen_X11_wants rfl ⟨rfl, rfl⟩ ⟨by decide, by decide⟩ rfl (Nat.le_of_ble_eq_true rfl) rfl (by decide +kernel) (scm_0 hw) rfl dX11_wellThen_20 ?_
      refine gr_goto C 32 dX11_wellThen_23 (by decide) ?_
      refine gr_sub [0, 1, 2, 3, 4] [(0, .ref (w.2.2.1 0)), (1, .int a0), (2, .int a1), (3, .int a2), (4, .int a3)] rfl ?_
      exact JK4 r33 g32 hF
  · rw [if_neg c1] at hF
    refine gr_sub [] [] rfl ?_
    refine gr_iconst C (v := 0) dX11_wellThen_4 (by decide) ?_
    cases hF
    exact gr_iret C dX11_wellThen_5 ⟨rfl, rfl⟩
-- X11_goesOn: 117 instructions, frames 2, locals 51
set_option maxRecDepth 100000 in
set_option maxHeartbeats 4000000 in
theorem mX11_goesOn (l : Launch) {w : Wl} (hw : w.2.2.2 = shM) {σ : Sg} {a0 : Int32} {a1 : Int32}  {r : Int32} {σ' : Sg} (hF : fX11_goesOn σ a0 a1 = some (r, σ')) : gMI l w yX11_goesOn wsX11_goesOn ({ frames := 2, cells := 0, slots := 0, locals := 51 } : Room) [.ref (w.2.2.1 0), .int a0, .int a1] σ r σ' := by
  have inX11 : ∀ v ∈ u_ws RX11 TX11 32, v ∈ wsX11_goesOn := by decide +kernel
  have ln13 : Cond.fieldLink RX11 13 (TX11 4).1 (TX11 4).2.1 (TX11 4).2.2.1 ∈ wsX11_goesOn := by decide +kernel
  have ln37 : Cond.fieldLink RX11 37 (TX11 15).1 (TX11 15).2.1 (TX11 15).2.2.1 ∈ wsX11_goesOn := by decide +kernel
  have ln50 : Cond.fieldLink RX11 50 (TX11 26).1 (TX11 26).2.1 (TX11 26).2.2.1 ∈ wsX11_goesOn := by decide +kernel
  have ln88 : Cond.fieldLink RX11 88 (TX11 0).1 (TX11 0).2.1 (TX11 0).2.2.1 ∈ wsX11_goesOn := by decide +kernel
  have ln94 : Cond.fieldLink RX11 94 (TX11 2).1 (TX11 2).2.1 (TX11 2).2.2.1 ∈ wsX11_goesOn := by decide +kernel
  refine gStartI cX11_goesOn 9 RX11 rfl (by decide) rfl (Nat.le_of_ble_eq_true rfl) ?_
  intro X hl C
  show gG X w σ 0 [(0, .ref (w.2.2.1 0)), (1, .int a0), (2, .int a1)] []
  unfold fX11_goesOn at hF
  refine gr_iconst C (v := 0) dX11_goesOn_0 (by decide) ?_
  refine gr_istore_n C [(3, .int (0 : Int32)), (0, .ref (w.2.2.1 0)), (1, .int a0), (2, .int a1)] dX11_goesOn_1 rfl (by decide) rfl ?_
  refine gr_iconst C (v := 0) dX11_goesOn_2 (by decide) ?_
  refine gr_istore C [(4, .int (0 : Int32)), (3, .int (0 : Int32)), (0, .ref (w.2.2.1 0)), (1, .int a0), (2, .int a1)] dX11_goesOn_3 (by decide) rfl ?_
  refine gr_sub [2, 3, 4, 1, 0] [(0, .ref (w.2.2.1 0)), (1, .int a0), (2, .int a1), (3, .int (0 : Int32)), (4, .int (0 : Int32))] rfl ?_
  have L58 : ∀ (n : Nat) (x2 : Int32) (x3 : Int32) (g4 : Sg) (K1 : Int32 → Sg → Option (Int32 × Sg)), (∀ (x59 : Int32) (g60 : Sg), K1 x59 g60 = some (r, σ') → gG X w g60 185 [(0, .ref (w.2.2.1 0)), (1, .int a0), (3, .int x59)] []) → fX11_goesOn_5 a0 a1 n x2 x3 g4 K1 = some (r, σ') → gG X w g4 5 [(0, .ref (w.2.2.1 0)), (1, .int a0), (2, .int a1), (3, .int x2), (4, .int x3)] [] := by
    intro n
    induction n with
    | zero =>
      intro x2 x3 g4 K1 hK1 hF
      rw [fX11_goesOn_5] at hF
      cases hF
    | succ n ih =>
      intro x2 x3 g4 K1 hK1 hF
      rw [fX11_goesOn_5] at hF
      refine gr_iload C 4 dX11_goesOn_5 rfl ?_
      refine gr_aload_n C 0 dX11_goesOn_7 rfl rfl ?_
      refine gr_getI C 0 0 dX11_goesOn_8 (scm_0 hw) rfl inX11 (by decide) ln88 rfl ?_
      refine gr_icmp_ge C 185 dX11_goesOn_11 (by decide) (fun c5 => ?_) (fun c5 => ?_)
      · rw [if_pos c5] at hF
        refine gr_sub [0, 1, 3] [(0, .ref (w.2.2.1 0)), (1, .int a0), (3, .int x2)] rfl ?_
        exact hK1 x2 g4 hF
      · rw [if_neg c5] at hF
        refine gr_iload_n C 2 dX11_goesOn_14 rfl rfl ?_
        obtain ⟨K6, eK6, hF⟩ := gLet_e hF
        have JK6 : ∀ (x7 : Int32) (g8 : Sg), K6 x7 g8 = some (r, σ') → gG X w g8 34 [(0, .ref (w.2.2.1 0)), (1, .int a0), (2, .int a1), (3, .int x2), (4, .int x3)] [.int x7] := by
          intro x7 g8 hF
          rw [eK6] at hF
          try dsimp only at hF
          refine gr_istore C [(5, .int x7), (0, .ref (w.2.2.1 0)), (1, .int a0), (2, .int a1), (3, .int x2), (4, .int x3)] dX11_goesOn_34 (by decide) rfl ?_
          refine gr_aload_n C 1 dX11_goesOn_36 rfl rfl ?_
          refine gr_getR C 0 15 10 dX11_goesOn_37 (scm_0 hw) rfl inX11 (by decide) ln37 rfl ?_
          refine gr_iload_n C 2 dX11_goesOn_40 rfl rfl ?_
          refine gr_bipush C (v := 8) dX11_goesOn_41 (by decide) ?_
          refine gr_iadd C dX11_goesOn_43 ?_
          obtain ⟨h10, x9, ex9, hF⟩ := gRd_e hF
          refine gr_iald C 10 336 dX11_goesOn_44 (scm_10 hw) h10 ?_
          refine gr_nmI ex9 ?_
          refine gr_istore C [(6, .int x9), (5, .int x7), (0, .ref (w.2.2.1 0)), (1, .int a0), (2, .int a1), (3, .int x2), (4, .int x3)] dX11_goesOn_45 (by decide) rfl ?_
          refine gr_iload C 1 dX11_goesOn_47 rfl ?_
          refine gr_aload_n C 2 dX11_goesOn_49 rfl rfl ?_
          refine gr_getR C 0 15 10 dX11_goesOn_50 (scm_0 hw) rfl inX11 (by decide) ln37 rfl ?_
          refine gr_iload_n C 3 dX11_goesOn_53 rfl rfl ?_
          refine gr_bipush C (v := 18) dX11_goesOn_54 (by decide) ?_
          refine gr_iadd C dX11_goesOn_56 ?_
          refine gr_iload C 6 dX11_goesOn_57 rfl ?_
          refine gr_iadd C dX11_goesOn_59 ?_
          obtain ⟨h12, x11, ex11, hF⟩ := gRd_e hF
          refine gr_iald C 10 336 dX11_goesOn_60 (scm_10 hw) h12 ?_
          refine gr_nmI ex11 ?_
          obtain ⟨r15, g14, hc13, hF⟩ := gCl_e hF
          refine gr_callSI C (n := 2) (As := [.int x7, .int x11]) (rest := []) (mX11_smaller X.2.1 hw  hc13) gX11_goesOn_X11_smaller rfl ⟨rfl, rfl⟩ ⟨by decide, by decide⟩ rfl (Nat.le_of_ble_eq_true rfl) rfl (by decide +kernel) dX11_goesOn_61 ?_
          obtain ⟨K16, eK16, hF⟩ := gLet_e hF
          have JK16 : ∀ (x17 : Int32) (g18 : Sg), K16 x17 g18 = some (r, σ') → gG X w g18 72 [(0, .ref (w.2.2.1 0)), (1, .int a0), (2, .int a1), (3, .int x2), (4, .int x3), (5, .int x7), (6, .int x9)] [.int x17] := by
            intro x17 g18 hF
            rw [eK16] at hF
            try dsimp only at hF
            refine gr_istore C [(7, .int x17), (0, .ref (w.2.2.1 0)), (1, .int a0), (2, .int a1), (3, .int x2), (4, .int x3), (5, .int x7), (6, .int x9)] dX11_goesOn_72 (by decide) rfl ?_
            refine gr_iload_n C 4 dX11_goesOn_74 rfl rfl ?_
            refine gr_aload_n C 1 dX11_goesOn_75 rfl rfl ?_
            refine gr_iload C 5 dX11_goesOn_76 rfl ?_
            refine gr_iload C 6 dX11_goesOn_78 rfl ?_
            refine gr_aload_n C 1 dX11_goesOn_80 rfl rfl ?_
            refine gr_getR C 0 15 10 dX11_goesOn_81 (scm_0 hw) rfl inX11 (by decide) ln37 rfl ?_
            refine gr_iload_n C 2 dX11_goesOn_84 rfl rfl ?_
            refine gr_bipush C (v := 18) dX11_goesOn_85 (by decide) ?_
            refine gr_iadd C dX11_goesOn_87 ?_
            refine gr_iload C 5 dX11_goesOn_88 rfl ?_
            refine gr_iadd C dX11_goesOn_90 ?_
            obtain ⟨h20, x19, ex19, hF⟩ := gRd_e hF
            refine gr_iald C 10 336 dX11_goesOn_91 (scm_10 hw) h20 ?_
            refine gr_nmI ex19 ?_
            refine gr_aload_n C 1 dX11_goesOn_92 rfl rfl ?_
            refine gr_iload_n C 2 dX11_goesOn_93 rfl rfl ?_
            refine gr_iload C 5 dX11_goesOn_94 rfl ?_
            obtain ⟨r23, g22, hc21, hF⟩ := gCl_e hF
            refine gr_callVI C (n := 2) (As := [.int a0, .int x3]) (rest := [.int x19, .int x7, .int x3, .ref (w.2.2.1 0), .int x2]) 0 (mX11_thereAt X.2.1 hw  hc21) gX11_goesOn_X11_thereAt rfl ⟨rfl, rfl⟩ ⟨by decide, by decide⟩ rfl (Nat.le_of_ble_eq_true rfl) rfl (by decide +kernel) (scm_0 hw) rfl dX11_goesOn_96 ?_
            refine gr_iload C 7 dX11_goesOn_99 rfl ?_
            refine gr_iconst C (v := -1) dX11_goesOn_101 (by decide) ?_
            refine gr_ixor C dX11_goesOn_102 ?_
            refine gr_iand C dX11_goesOn_103 ?_
            obtain ⟨r26, g25, hc24, hF⟩ := gCl_e hF
            refine gr_callVI C (n := 4) (As := [.int x3, .int x7, .int x19, .int (r23 &&& (x9 ^^^ (-1 : Int32)))]) (rest := [.int x2]) 0 (mX11_pours X.2.1 hw  hc24) gX11_goesOn_X11_pours rfl ⟨rfl, rfl⟩ ⟨by decide, by decide⟩ rfl (Nat.le_of_ble_eq_true rfl) rfl (by decide +kernel) (scm_0 hw) rfl dX11_goesOn_104 ?_
            refine gr_iadd C dX11_goesOn_107 ?_
            obtain ⟨x27, ex27, hF⟩ := gLet_e hF
            refine gr_nmI ex27 ?_
            refine gr_istore_n C [(3, .int x27), (7, .int x17), (0, .ref (w.2.2.1 0)), (1, .int a0), (2, .int a1), (4, .int x3), (5, .int x7), (6, .int x9)] dX11_goesOn_108 rfl (by decide) rfl ?_
            refine gr_iconst C (v := 0) dX11_goesOn_109 (by decide) ?_
            refine gr_istore C [(8, .int (0 : Int32)), (3, .int x27), (7, .int x17), (0, .ref (w.2.2.1 0)), (1, .int a0), (2, .int a1), (4, .int x3), (5, .int x7), (6, .int x9)] dX11_goesOn_110 (by decide) rfl ?_
            refine gr_sub [3, 4, 5, 1, 6, 8, 2, 0] [(0, .ref (w.2.2.1 0)), (1, .int a0), (2, .int a1), (3, .int x27), (4, .int x3), (6, .int x9), (7, .int x17), (8, .int (0 : Int32))] rfl ?_
            have L50 : ∀ (n : Nat) (x29 : Int32) (g30 : Sg) (K28 : Sg → Option (Int32 × Sg)), (∀  (g51 : Sg), K28  g51 = some (r, σ') → gG X w g51 179 [(0, .ref (w.2.2.1 0)), (1, .int a0), (2, .int a1), (3, .int x27), (4, .int x3)] []) → fX11_goesOn_112 a0 x17 x3 x9 n x29 g30 K28 = some (r, σ') → gG X w g30 112 [(0, .ref (w.2.2.1 0)), (1, .int a0), (2, .int a1), (3, .int x27), (4, .int x3), (6, .int x9), (7, .int x17), (8, .int x29)] [] := by
              intro n
              induction n with
              | zero =>
                intro x29 g30 K28 hK28 hF
                rw [fX11_goesOn_112] at hF
                cases hF
              | succ n ih =>
                intro x29 g30 K28 hK28 hF
                rw [fX11_goesOn_112] at hF
                refine gr_iload C 7 dX11_goesOn_112 rfl ?_
                refine gr_aload_n C 0 dX11_goesOn_114 rfl rfl ?_
                refine gr_getI C 0 2 dX11_goesOn_115 (scm_0 hw) rfl inX11 (by decide) ln94 rfl ?_
                refine gr_icmp_ge C 179 dX11_goesOn_118 (by decide) (fun c31 => ?_) (fun c31 => ?_)
                · rw [if_pos c31] at hF
                  refine gr_sub [0, 1, 2, 3, 4] [(0, .ref (w.2.2.1 0)), (1, .int a0), (2, .int a1), (3, .int x27), (4, .int x3)] rfl ?_
                  exact hK28  g30 hF
                · rw [if_neg c31] at hF
                  refine gr_aload_n C 0 dX11_goesOn_121 rfl rfl ?_
                  refine gr_getR C 0 4 2 dX11_goesOn_122 (scm_0 hw) rfl inX11 (by decide) ln13 rfl ?_
                  refine gr_iload C 7 dX11_goesOn_125 rfl ?_
                  obtain ⟨h33, x32, ex32, hF⟩ := gRd_e hF
                  refine gr_iald C 2 8 dX11_goesOn_127 (scm_2 hw) h33 ?_
                  refine gr_nmI ex32 ?_
                  refine gr_iload C 4 dX11_goesOn_128 rfl ?_
                  obtain ⟨K34, eK34, hF⟩ := gLet_e hF
                  have JK34 : ∀  (g35 : Sg), K34  g35 = some (r, σ') → gG X w g35 173 [(0, .ref (w.2.2.1 0)), (1, .int a0), (2, .int a1), (3, .int x27), (4, .int x3), (6, .int x9), (7, .int x17), (8, .int x29)] [] := by
                    intro g35 hF
                    rw [eK34] at hF
                    try dsimp only at hF
                    obtain ⟨x36, ex36, hF⟩ := gLet_e hF
                    refine gr_iinc C (v := x36) 7 [(8, .int x36), (0, .ref (w.2.2.1 0)), (1, .int a0), (2, .int a1), (3, .int x27), (4, .int x3), (6, .int x9), (7, .int x17)] dX11_goesOn_173 rfl (by rw [ex36]; rfl) (by decide) rfl ?_
                    refine gr_goto C 112 dX11_goesOn_176 (by decide) ?_
                    refine gr_sub [1, 2, 3, 4, 5, 6, 7, 0] [(0, .ref (w.2.2.1 0)), (1, .int a0), (2, .int a1), (3, .int x27), (4, .int x3), (6, .int x9), (7, .int x17), (8, .int x36)] rfl ?_
                    exact ih x36 g35 K28 hK28 hF
                  refine gr_icmp_ne C 173 dX11_goesOn_130 (by decide) (fun c37 => ?_) (fun c37 => ?_)
                  · rw [if_neg c37] at hF
                    exact JK34  g30 hF
                  · rw [if_pos c37] at hF
                    refine gr_aload_n C 0 dX11_goesOn_133 rfl rfl ?_
                    refine gr_getR C 0 15 10 dX11_goesOn_134 (scm_0 hw) rfl inX11 (by decide) ln37 rfl ?_
                    refine gr_iload_n C 1 dX11_goesOn_137 rfl rfl ?_
                    refine gr_iload C 7 dX11_goesOn_138 rfl ?_
                    refine gr_iadd C dX11_goesOn_140 ?_
                    refine gr_aload_n C 0 dX11_goesOn_141 rfl rfl ?_
                    refine gr_iload C 7 dX11_goesOn_142 rfl ?_
                    refine gr_aload_n C 0 dX11_goesOn_144 rfl rfl ?_
                    refine gr_getR C 0 15 10 dX11_goesOn_145 (scm_0 hw) rfl inX11 (by decide) ln37 rfl ?_
                    refine gr_iload_n C 1 dX11_goesOn_148 rfl rfl ?_
                    refine gr_iload C 7 dX11_goesOn_149 rfl ?_
                    refine gr_iadd C dX11_goesOn_151 ?_
                    obtain ⟨h39, x38, ex38, hF⟩ := gRd_e hF
                    refine gr_iald C 10 336 dX11_goesOn_152 (scm_10 hw) h39 ?_
                    refine gr_nmI ex38 ?_
                    refine gr_aload_n C 0 dX11_goesOn_153 rfl rfl ?_
                    refine gr_getR C 0 26 14 dX11_goesOn_154 (scm_0 hw) rfl inX11 (by decide) ln50 rfl ?_
                    refine gr_iload C 7 dX11_goesOn_157 rfl ?_
                    obtain ⟨h41, x40, ex40, hF⟩ := gRd_e hF
                    refine gr_iald C 14 8 dX11_goesOn_159 (scm_14 hw) h41 ?_
                    refine gr_nmI ex40 ?_
                    refine gr_iload C 5 dX11_goesOn_160 rfl ?_
                    refine gr_iload C 7 dX11_goesOn_162 rfl ?_
                    obtain ⟨r44, g43, hc42, hF⟩ := gCl_e hF
                    refine gr_callSI C (n := 2) (As := [.int x9, .int x29]) (rest := [.int x40, .int x38, .int x29, .ref (w.2.2.1 0), .int (a0 + x29), .ref (w.2.2.1 10)]) (mX11_has X.2.1 hw  hc42) gX11_goesOn_X11_has rfl ⟨rfl, rfl⟩ ⟨by decide, by decide⟩ rfl (Nat.le_of_ble_eq_true rfl) rfl (by decide +kernel) dX11_goesOn_164 ?_
                    refine gr_iload C 6 dX11_goesOn_167 rfl ?_
                    obtain ⟨r47, g46, hc45, hF⟩ := gCl_e hF
                    refine gr_callVI C (n := 5) (As := [.int x29, .int x38, .int x40, .int r44, .int x17]) (rest := [.int (a0 + x29), .ref (w.2.2.1 10)]) 0 (mX11_wellThen X.2.1 hw  hc45) gX11_goesOn_X11_wellThen rfl ⟨rfl, rfl⟩ ⟨by decide, by decide⟩ rfl (Nat.le_of_ble_eq_true rfl) rfl (by decide +kernel) (scm_0 hw) rfl dX11_goesOn_169 ?_
                    obtain ⟨h48, g49, eg49, hF⟩ := gWr_e hF
                    refine gr_iast C 10 336 dX11_goesOn_172 (scm_10 hw) h48 ?_
                    refine gr_nmS eg49 ?_
                    exact JK34  g49 hF
            refine L50 _ (0 : Int32) g25 _ ?_ hF
            intro g52 hF
            try dsimp only at hF
            obtain ⟨x53, ex53, hF⟩ := gLet_e hF
            refine gr_iinc C (v := x53) 4 [(4, .int x53), (0, .ref (w.2.2.1 0)), (1, .int a0), (2, .int a1), (3, .int x27)] dX11_goesOn_179 rfl (by rw [ex53]; rfl) (by decide) rfl ?_
            refine gr_goto C 5 dX11_goesOn_182 (by decide) ?_
            refine gr_sub [1, 2, 3, 4, 0] [(0, .ref (w.2.2.1 0)), (1, .int a0), (2, .int a1), (3, .int x27), (4, .int x53)] rfl ?_
            exact ih x27 x53 g52 K1 hK1 hF
          refine gr_if_le C 71 dX11_goesOn_64 (by decide) (fun c54 => ?_) (fun c54 => ?_)
          · rw [if_pos c54] at hF
            refine gr_sub [2, 3, 4, 5, 6, 1, 0] [(0, .ref (w.2.2.1 0)), (1, .int a0), (2, .int a1), (3, .int x2), (4, .int x3), (5, .int x7), (6, .int x9)] rfl ?_
            refine gr_iconst C (v := 0) dX11_goesOn_71 (by decide) ?_
            exact JK16 (0 : Int32) g14 hF
          · rw [if_neg c54] at hF
            refine gr_sub [2, 3, 4, 5, 6, 1, 0] [(0, .ref (w.2.2.1 0)), (1, .int a0), (2, .int a1), (3, .int x2), (4, .int x3), (5, .int x7), (6, .int x9)] rfl ?_
            refine gr_iconst C (v := 1) dX11_goesOn_67 (by decide) ?_
            refine gr_goto C 72 dX11_goesOn_68 (by decide) ?_
            exact JK16 (1 : Int32) g14 hF
        refine gr_if_eq C 22 dX11_goesOn_15 (by decide) (fun c55 => ?_) (fun c55 => ?_)
        · rw [if_pos c55] at hF
          refine gr_aload_n C 0 dX11_goesOn_22 rfl rfl ?_
          refine gr_getR C 0 15 10 dX11_goesOn_23 (scm_0 hw) rfl inX11 (by decide) ln37 rfl ?_
          refine gr_iload_n C 1 dX11_goesOn_26 rfl rfl ?_
          refine gr_bipush C (v := 9) dX11_goesOn_27 (by decide) ?_
          refine gr_iadd C dX11_goesOn_29 ?_
          refine gr_iload C 4 dX11_goesOn_30 rfl ?_
          refine gr_iadd C dX11_goesOn_32 ?_
          obtain ⟨h57, x56, ex56, hF⟩ := gRd_e hF
          refine gr_iald C 10 336 dX11_goesOn_33 (scm_10 hw) h57 ?_
          refine gr_nmI ex56 ?_
          exact JK6 x56 g4 hF
        · rw [if_neg c55] at hF
          refine gr_iconst C (v := 0) dX11_goesOn_18 (by decide) ?_
          refine gr_goto C 34 dX11_goesOn_19 (by decide) ?_
          exact JK6 (0 : Int32) g4 hF
  refine L58 _ (0 : Int32) (0 : Int32) σ _ ?_ hF
  intro x61 g62 hF
  try dsimp only at hF
  refine gr_aload_n C 0 dX11_goesOn_185 rfl rfl ?_
  refine gr_getR C 0 15 10 dX11_goesOn_186 (scm_0 hw) rfl inX11 (by decide) ln37 rfl ?_
  refine gr_iload_n C 1 dX11_goesOn_189 rfl rfl ?_
  refine gr_bipush C (v := 27) dX11_goesOn_190 (by decide) ?_
  refine gr_iadd C dX11_goesOn_192 ?_
  refine gr_dup2 C dX11_goesOn_193 rfl rfl ?_
  obtain ⟨h64, x63, ex63, hF⟩ := gRd_e hF
  refine gr_iald C 10 336 dX11_goesOn_194 (scm_10 hw) h64 ?_
  refine gr_nmI ex63 ?_
  refine gr_iconst C (v := 1) dX11_goesOn_195 (by decide) ?_
  refine gr_iadd C dX11_goesOn_196 ?_
  obtain ⟨h65, g66, eg66, hF⟩ := gWr_e hF
  refine gr_iast C 10 336 dX11_goesOn_197 (scm_10 hw) h65 ?_
  refine gr_nmS eg66 ?_
  refine gr_iload_n C 2 dX11_goesOn_198 rfl rfl ?_
  cases hF
  exact gr_iret C dX11_goesOn_199 ⟨rfl, rfl⟩
-- X11_known: 38 instructions, frames 1, locals 23
set_option maxRecDepth 100000 in
set_option maxHeartbeats 4000000 in
theorem mX11_known (l : Launch) {w : Wl} (hw : w.2.2.2 = shM) {σ : Sg}   {σ' : Sg} (hF : fX11_known σ  = some σ') : gMV l w yX11_known wsX11_known ({ frames := 1, cells := 0, slots := 0, locals := 23 } : Room) [.ref (w.2.2.1 0)] σ σ' := by
  have inX11 : ∀ v ∈ u_ws RX11 TX11 32, v ∈ wsX11_known := by decide +kernel
  have ln37 : Cond.fieldLink RX11 37 (TX11 15).1 (TX11 15).2.1 (TX11 15).2.2.1 ∈ wsX11_known := by decide +kernel
  have ln148 : Cond.fieldLink RX11 148 (TX11 16).1 (TX11 16).2.1 (TX11 16).2.2.1 ∈ wsX11_known := by decide +kernel
  refine gStartV cX11_known 2 RX11 rfl (by decide) rfl (Nat.le_of_ble_eq_true rfl) ?_
  intro X hl C
  show gG X w σ 0 [(0, .ref (w.2.2.1 0))] []
  unfold fX11_known at hF
  refine gr_aload_n C 0 dX11_known_0 rfl rfl ?_
  refine gr_getI C 0 16 dX11_known_1 (scm_0 hw) rfl inX11 (by decide) ln148 rfl ?_
  refine gr_bipush C (v := 8) dX11_known_4 (by decide) ?_
  obtain ⟨K1, eK1, hF⟩ := gLet_e hF
  have JK1 : ∀  (g2 : Sg), K1  g2 = some σ' → gG X w g2 46 [(0, .ref (w.2.2.1 0))] [] := by
    intro g2 hF
    rw [eK1] at hF
    try dsimp only at hF
    refine gr_aload_n C 0 dX11_known_46 rfl rfl ?_
    refine gr_dup C dX11_known_47 rfl ?_
    refine gr_getI C 0 16 dX11_known_48 (scm_0 hw) rfl inX11 (by decide) ln148 rfl ?_
    refine gr_iconst C (v := 1) dX11_known_51 (by decide) ?_
    refine gr_iadd C dX11_known_52 ?_
    obtain ⟨g3, eg3, hF⟩ := gLet_e hF
    refine gr_putI C 0 16 dX11_known_53 (scm_0 hw) rfl inX11 (by decide) ln148 rfl tyX11 tyX11_ok nmX11 rfl .int rfl rfl rfl ?_
    refine gr_nmS eg3 ?_
    refine gr_aload_n C 0 dX11_known_56 rfl rfl ?_
    refine gr_iconst C (v := 0) dX11_known_57 (by decide) ?_
    refine gr_aload_n C 0 dX11_known_58 rfl rfl ?_
    refine gr_getI C 0 16 dX11_known_59 (scm_0 hw) rfl inX11 (by decide) ln148 rfl ?_
    refine gr_bipush C (v := 28) dX11_known_62 (by decide) ?_
    refine gr_imul C dX11_known_64 ?_
    obtain ⟨g5, hc4, hF⟩ := gCv_e hF
    refine gr_callVV C (n := 2) (As := [.int (0 : Int32), .int ((g3 0 16) * (28 : Int32))]) (rest := []) 0 (mX11_copies X.2.1 hw  hc4) gX11_known_X11_copies rfl ⟨rfl, rfl⟩ ⟨by decide, by decide⟩ rfl (Nat.le_of_ble_eq_true rfl) rfl (by decide +kernel) (scm_0 hw) rfl dX11_known_65 ?_
    cases hF
    exact gr_vret C dX11_known_68 ⟨rfl, rfl⟩
  refine gr_icmp_ne C 46 dX11_known_6 (by decide) (fun c6 => ?_) (fun c6 => ?_)
  · rw [if_neg c6] at hF
    exact JK1  σ hF
  · rw [if_pos c6] at hF
    refine gr_bipush C (v := 28) dX11_known_9 (by decide) ?_
    refine gr_istore_n C [(1, .int (28 : Int32)), (0, .ref (w.2.2.1 0))] dX11_known_11 rfl (by decide) rfl ?_
    refine gr_sub [1, 0] [(0, .ref (w.2.2.1 0)), (1, .int (28 : Int32))] rfl ?_
    have L16 : ∀ (n : Nat) (x8 : Int32) (g9 : Sg) (K7 : Sg → Option Sg), (∀  (g17 : Sg), K7  g17 = some σ' → gG X w g17 40 [(0, .ref (w.2.2.1 0))] []) → fX11_known_12  n x8 g9 K7 = some σ' → gG X w g9 12 [(0, .ref (w.2.2.1 0)), (1, .int x8)] [] := by
      intro n
      induction n with
      | zero =>
        intro x8 g9 K7 hK7 hF
        rw [fX11_known_12] at hF
        cases hF
      | succ n ih =>
        intro x8 g9 K7 hK7 hF
        rw [fX11_known_12] at hF
        refine gr_iload_n C 1 dX11_known_12 rfl rfl ?_
        refine gr_sipush C (v := 224) dX11_known_13 (by decide) ?_
        refine gr_icmp_ge C 40 dX11_known_16 (by decide) (fun c10 => ?_) (fun c10 => ?_)
        · rw [if_pos c10] at hF
          refine gr_sub [0] [(0, .ref (w.2.2.1 0))] rfl ?_
          exact hK7  g9 hF
        · rw [if_neg c10] at hF
          refine gr_aload_n C 0 dX11_known_19 rfl rfl ?_
          refine gr_getR C 0 15 10 dX11_known_20 (scm_0 hw) rfl inX11 (by decide) ln37 rfl ?_
          refine gr_iload_n C 1 dX11_known_23 rfl rfl ?_
          refine gr_aload_n C 0 dX11_known_24 rfl rfl ?_
          refine gr_getR C 0 15 10 dX11_known_25 (scm_0 hw) rfl inX11 (by decide) ln37 rfl ?_
          refine gr_iload_n C 1 dX11_known_28 rfl rfl ?_
          refine gr_bipush C (v := 28) dX11_known_29 (by decide) ?_
          refine gr_iadd C dX11_known_31 ?_
          obtain ⟨h12, x11, ex11, hF⟩ := gRd_e hF
          refine gr_iald C 10 336 dX11_known_32 (scm_10 hw) h12 ?_
          refine gr_nmI ex11 ?_
          obtain ⟨h13, g14, eg14, hF⟩ := gWr_e hF
          refine gr_iast C 10 336 dX11_known_33 (scm_10 hw) h13 ?_
          refine gr_nmS eg14 ?_
          obtain ⟨x15, ex15, hF⟩ := gLet_e hF
          refine gr_iinc C (v := x15) 1 [(1, .int x15), (0, .ref (w.2.2.1 0))] dX11_known_34 rfl (by rw [ex15]; rfl) (by decide) rfl ?_
          refine gr_goto C 12 dX11_known_37 (by decide) ?_
          refine gr_sub [1, 0] [(0, .ref (w.2.2.1 0)), (1, .int x15)] rfl ?_
          exact ih x15 g14 K7 hK7 hF
    refine L16 _ (28 : Int32) σ _ ?_ hF
    intro g18 hF
    try dsimp only at hF
    refine gr_aload_n C 0 dX11_known_40 rfl rfl ?_
    refine gr_bipush C (v := 7) dX11_known_41 (by decide) ?_
    obtain ⟨g19, eg19, hF⟩ := gLet_e hF
    refine gr_putI C 0 16 dX11_known_43 (scm_0 hw) rfl inX11 (by decide) ln148 rfl tyX11 tyX11_ok nmX11 rfl .int rfl rfl rfl ?_
    refine gr_nmS eg19 ?_
    exact JK1  g19 hF
-- X11_pass: 35 instructions, frames 3, locals 79
set_option maxRecDepth 100000 in
set_option maxHeartbeats 4000000 in
theorem mX11_pass (l : Launch) {w : Wl} (hw : w.2.2.2 = shM) {σ : Sg} {a0 : Int32}  {r : Int32} {σ' : Sg} (hF : fX11_pass σ a0 = some (r, σ')) : gMI l w yX11_pass wsX11_pass ({ frames := 3, cells := 0, slots := 0, locals := 79 } : Room) [.ref (w.2.2.1 0), .int a0] σ r σ' := by
  have inX11 : ∀ v ∈ u_ws RX11 TX11 32, v ∈ wsX11_pass := by decide +kernel
  have ln37 : Cond.fieldLink RX11 37 (TX11 15).1 (TX11 15).2.1 (TX11 15).2.2.1 ∈ wsX11_pass := by decide +kernel
  have k196 : Cond.constantLong RX11 196 (20) ∈ wsX11_pass := by decide +kernel
  refine gStartI cX11_pass 4 RX11 rfl (by decide) rfl (Nat.le_of_ble_eq_true rfl) ?_
  intro X hl C
  show gG X w σ 0 [(0, .ref (w.2.2.1 0)), (1, .int a0)] []
  unfold fX11_pass at hF
  refine gr_iload_n C 1 dX11_pass_0 rfl rfl ?_
  refine gr_i2l C dX11_pass_1 ?_
  refine gr_lconst C (v := 1) dX11_pass_2 (by decide) ?_
  refine gr_ldc2 C (v := 20) dX11_pass_3 k196 ?_
  obtain ⟨r3, g2, hc1, hF⟩ := gCl_e hF
  refine gr_callSI C (n := 3) (As := [.long (a0.toInt64), .long (1 : Int64), .long (20 : Int64)]) (rest := []) (mX11_in X.2.1 hw  hc1) gX11_pass_X11_in rfl ⟨rfl, rfl⟩ ⟨by decide, by decide⟩ rfl (Nat.le_of_ble_eq_true rfl) rfl (by decide +kernel) dX11_pass_6 ?_
  refine gr_if_ne C 14 dX11_pass_9 (by decide) (fun c4 => ?_) (fun c4 => ?_)
  · rw [if_neg c4] at hF
    refine gr_aload_n C 0 dX11_pass_14 rfl rfl ?_
    obtain ⟨g6, hc5, hF⟩ := gCv_e hF
    refine gr_callVV C (n := 0) (As := []) (rest := []) 0 (mX11_known X.2.1 hw  hc5) gX11_pass_X11_known rfl ⟨rfl, rfl⟩ ⟨by decide, by decide⟩ rfl (Nat.le_of_ble_eq_true rfl) rfl (by decide +kernel) (scm_0 hw) rfl dX11_pass_15 ?_
    refine gr_iconst C (v := 0) dX11_pass_18 (by decide) ?_
    refine gr_istore_n C [(2, .int (0 : Int32)), (0, .ref (w.2.2.1 0)), (1, .int a0)] dX11_pass_19 rfl (by decide) rfl ?_
    refine gr_iconst C (v := 0) dX11_pass_20 (by decide) ?_
    refine gr_istore_n C [(3, .int (0 : Int32)), (2, .int (0 : Int32)), (0, .ref (w.2.2.1 0)), (1, .int a0)] dX11_pass_21 rfl (by decide) rfl ?_
    refine gr_sub [2, 3, 1, 0] [(0, .ref (w.2.2.1 0)), (1, .int a0), (2, .int (0 : Int32)), (3, .int (0 : Int32))] rfl ?_
    have L17 : ∀ (n : Nat) (x8 : Int32) (x9 : Int32) (g10 : Sg) (K7 : Int32 → Sg → Option (Int32 × Sg)), (∀ (x18 : Int32) (g19 : Sg), K7 x18 g19 = some (r, σ') → gG X w g19 42 [(0, .ref (w.2.2.1 0)), (2, .int x18)] []) → fX11_pass_22 a0 n x8 x9 g10 K7 = some (r, σ') → gG X w g10 22 [(0, .ref (w.2.2.1 0)), (1, .int a0), (2, .int x8), (3, .int x9)] [] := by
      intro n
      induction n with
      | zero =>
        intro x8 x9 g10 K7 hK7 hF
        rw [fX11_pass_22] at hF
        cases hF
      | succ n ih =>
        intro x8 x9 g10 K7 hK7 hF
        rw [fX11_pass_22] at hF
        refine gr_iload_n C 3 dX11_pass_22 rfl rfl ?_
        refine gr_iload_n C 1 dX11_pass_23 rfl rfl ?_
        refine gr_icmp_ge C 42 dX11_pass_24 (by decide) (fun c11 => ?_) (fun c11 => ?_)
        · rw [if_pos c11] at hF
          refine gr_sub [0, 2] [(0, .ref (w.2.2.1 0)), (2, .int x8)] rfl ?_
          exact hK7 x8 g10 hF
        · rw [if_neg c11] at hF
          refine gr_iload_n C 2 dX11_pass_27 rfl rfl ?_
          refine gr_aload_n C 0 dX11_pass_28 rfl rfl ?_
          refine gr_iconst C (v := 0) dX11_pass_29 (by decide) ?_
          refine gr_iconst C (v := 0) dX11_pass_30 (by decide) ?_
          obtain ⟨r14, g13, hc12, hF⟩ := gCl_e hF
          refine gr_callVI C (n := 2) (As := [.int (0 : Int32), .int (0 : Int32)]) (rest := [.int x8]) 0 (mX11_goesOn X.2.1 hw  hc12) gX11_pass_X11_goesOn rfl ⟨rfl, rfl⟩ ⟨by decide, by decide⟩ rfl (Nat.le_of_ble_eq_true rfl) rfl (by decide +kernel) (scm_0 hw) rfl dX11_pass_31 ?_
          refine gr_iadd C dX11_pass_34 ?_
          obtain ⟨x15, ex15, hF⟩ := gLet_e hF
          refine gr_nmI ex15 ?_
          refine gr_istore_n C [(2, .int x15), (0, .ref (w.2.2.1 0)), (1, .int a0), (3, .int x9)] dX11_pass_35 rfl (by decide) rfl ?_
          obtain ⟨x16, ex16, hF⟩ := gLet_e hF
          refine gr_iinc C (v := x16) 3 [(3, .int x16), (2, .int x15), (0, .ref (w.2.2.1 0)), (1, .int a0)] dX11_pass_36 rfl (by rw [ex16]; rfl) (by decide) rfl ?_
          refine gr_goto C 22 dX11_pass_39 (by decide) ?_
          refine gr_sub [2, 3, 1, 0] [(0, .ref (w.2.2.1 0)), (1, .int a0), (2, .int x15), (3, .int x16)] rfl ?_
          exact ih x15 x16 g13 K7 hK7 hF
    refine L17 _ (0 : Int32) (0 : Int32) g6 _ ?_ hF
    intro x20 g21 hF
    try dsimp only at hF
    refine gr_iload_n C 1 dX11_pass_42 rfl rfl ?_
    refine gr_if_ge C 51 dX11_pass_43 (by decide) (fun c22 => ?_) (fun c22 => ?_)
    · rw [if_pos c22] at hF
      refine gr_sub [0] [(0, .ref (w.2.2.1 0))] rfl ?_
      refine gr_aload_n C 0 dX11_pass_51 rfl rfl ?_
      refine gr_getR C 0 15 10 dX11_pass_52 (scm_0 hw) rfl inX11 (by decide) ln37 rfl ?_
      refine gr_bipush C (v := 27) dX11_pass_55 (by decide) ?_
      obtain ⟨h24, x23, ex23, hF⟩ := gRd_e hF
      refine gr_iald C 10 336 dX11_pass_57 (scm_10 hw) h24 ?_
      refine gr_nmI ex23 ?_
      cases hF
      exact gr_iret C dX11_pass_58 ⟨rfl, rfl⟩
    · rw [if_neg c22] at hF
      refine gr_sub [] [] rfl ?_
      refine gr_bipush C (v := -4) dX11_pass_46 (by decide) ?_
      refine gr_goto C 58 dX11_pass_48 (by decide) ?_
      cases hF
      exact gr_iret C dX11_pass_58 ⟨rfl, rfl⟩
  · rw [if_pos c4] at hF
    refine gr_sub [] [] rfl ?_
    refine gr_iconst C (v := -1) dX11_pass_12 (by decide) ?_
    cases hF
    exact gr_iret C dX11_pass_13 ⟨rfl, rfl⟩
-- X11_put: 30 instructions, frames 2, locals 46
set_option maxRecDepth 100000 in
set_option maxHeartbeats 4000000 in
theorem mX11_put (l : Launch) {w : Wl} (hw : w.2.2.2 = shM) {σ : Sg} {a0 : Int32} {a1 : Int32}  {r : Int32} {σ' : Sg} (hF : fX11_put σ a0 a1 = some (r, σ')) : gMI l w yX11_put wsX11_put ({ frames := 2, cells := 0, slots := 0, locals := 46 } : Room) [.ref (w.2.2.1 0), .int a0, .int a1] σ r σ' := by
  have inX11 : ∀ v ∈ u_ws RX11 TX11 32, v ∈ wsX11_put := by decide +kernel
  have ln37 : Cond.fieldLink RX11 37 (TX11 15).1 (TX11 15).2.1 (TX11 15).2.2.1 ∈ wsX11_put := by decide +kernel
  have k204 : Cond.constantLong RX11 204 (40) ∈ wsX11_put := by decide +kernel
  refine gStartI cX11_put 4 RX11 rfl (by decide) rfl (Nat.le_of_ble_eq_true rfl) ?_
  intro X hl C
  show gG X w σ 0 [(0, .ref (w.2.2.1 0)), (1, .int a0), (2, .int a1)] []
  unfold fX11_put at hF
  refine gr_aload_n C 0 dX11_put_0 rfl rfl ?_
  refine gr_iload_n C 1 dX11_put_1 rfl rfl ?_
  obtain ⟨r3, g2, hc1, hF⟩ := gCl_e hF
  refine gr_callVI C (n := 1) (As := [.int a0]) (rest := []) 0 (mX11_isStep X.2.1 hw  hc1) gX11_put_X11_isStep rfl ⟨rfl, rfl⟩ ⟨by decide, by decide⟩ rfl (Nat.le_of_ble_eq_true rfl) rfl (by decide +kernel) (scm_0 hw) rfl dX11_put_2 ?_
  refine gr_if_eq C 20 dX11_put_5 (by decide) (fun c4 => ?_) (fun c4 => ?_)
  · rw [if_pos c4] at hF
    refine gr_sub [] [] rfl ?_
    refine gr_iconst C (v := -1) dX11_put_20 (by decide) ?_
    cases hF
    exact gr_iret C dX11_put_21 ⟨rfl, rfl⟩
  · rw [if_neg c4] at hF
    refine gr_iload_n C 2 dX11_put_8 rfl rfl ?_
    refine gr_i2l C dX11_put_9 ?_
    refine gr_lconst C (v := 0) dX11_put_10 (by decide) ?_
    refine gr_ldc2 C (v := 40) dX11_put_11 k204 ?_
    obtain ⟨r7, g6, hc5, hF⟩ := gCl_e hF
    refine gr_callSI C (n := 3) (As := [.long (a1.toInt64), .long (0 : Int64), .long (40 : Int64)]) (rest := []) (mX11_in X.2.1 hw  hc5) gX11_put_X11_in rfl ⟨rfl, rfl⟩ ⟨by decide, by decide⟩ rfl (Nat.le_of_ble_eq_true rfl) rfl (by decide +kernel) dX11_put_14 ?_
    refine gr_if_ne C 22 dX11_put_17 (by decide) (fun c8 => ?_) (fun c8 => ?_)
    · rw [if_neg c8] at hF
      refine gr_aload_n C 0 dX11_put_22 rfl rfl ?_
      obtain ⟨g10, hc9, hF⟩ := gCv_e hF
      refine gr_callVV C (n := 0) (As := []) (rest := []) 0 (mX11_known X.2.1 hw  hc9) gX11_put_X11_known rfl ⟨rfl, rfl⟩ ⟨by decide, by decide⟩ rfl (Nat.le_of_ble_eq_true rfl) rfl (by decide +kernel) (scm_0 hw) rfl dX11_put_23 ?_
      refine gr_aload_n C 0 dX11_put_26 rfl rfl ?_
      refine gr_getR C 0 15 10 dX11_put_27 (scm_0 hw) rfl inX11 (by decide) ln37 rfl ?_
      refine gr_bipush C (v := 9) dX11_put_30 (by decide) ?_
      refine gr_iload_n C 1 dX11_put_32 rfl rfl ?_
      refine gr_iadd C dX11_put_33 ?_
      obtain ⟨h12, x11, ex11, hF⟩ := gRd_e hF
      refine gr_iald C 10 336 dX11_put_34 (scm_10 hw) h12 ?_
      refine gr_nmI ex11 ?_
      refine gr_istore_n C [(3, .int x11), (0, .ref (w.2.2.1 0)), (1, .int a0), (2, .int a1)] dX11_put_35 rfl (by decide) rfl ?_
      refine gr_aload_n C 1 dX11_put_36 rfl rfl ?_
      refine gr_getR C 0 15 10 dX11_put_37 (scm_0 hw) rfl inX11 (by decide) ln37 rfl ?_
      refine gr_bipush C (v := 9) dX11_put_40 (by decide) ?_
      refine gr_iload_n C 2 dX11_put_42 rfl rfl ?_
      refine gr_iadd C dX11_put_43 ?_
      refine gr_iload_n C 3 dX11_put_44 rfl rfl ?_
      obtain ⟨h13, g14, eg14, hF⟩ := gWr_e hF
      refine gr_iast C 10 336 dX11_put_45 (scm_10 hw) h13 ?_
      refine gr_nmS eg14 ?_
      refine gr_iload_n C 0 dX11_put_46 rfl rfl ?_
      cases hF
      exact gr_iret C dX11_put_47 ⟨rfl, rfl⟩
    · rw [if_pos c8] at hF
      refine gr_sub [] [] rfl ?_
      refine gr_iconst C (v := -1) dX11_put_20 (by decide) ?_
      cases hF
      exact gr_iret C dX11_put_21 ⟨rfl, rfl⟩
-- X11_bits: 19 instructions, frames 0, locals 0
set_option maxRecDepth 100000 in
set_option maxHeartbeats 4000000 in
theorem mX11_bits (l : Launch) {w : Wl} (hw : w.2.2.2 = shM) {σ : Sg} {a0 : Int32}  {r : Int32} {σ' : Sg} (hF : fX11_bits σ a0 = some (r, σ')) : gMI l w yX11_bits wsX11_bits ({ frames := 0, cells := 0, slots := 0, locals := 0 } : Room) [.int a0] σ r σ' := by
  refine gStartI cX11_bits 3 RX11 rfl (by decide) rfl (Nat.le_of_ble_eq_true rfl) ?_
  intro X hl C
  show gG X w σ 0 [(0, .int a0)] []
  unfold fX11_bits at hF
  refine gr_iconst C (v := 0) dX11_bits_0 (by decide) ?_
  refine gr_istore_n C [(1, .int (0 : Int32)), (0, .int a0)] dX11_bits_1 rfl (by decide) rfl ?_
  refine gr_iconst C (v := 0) dX11_bits_2 (by decide) ?_
  refine gr_istore_n C [(2, .int (0 : Int32)), (1, .int (0 : Int32)), (0, .int a0)] dX11_bits_3 rfl (by decide) rfl ?_
  refine gr_sub [2, 1, 0] [(0, .int a0), (1, .int (0 : Int32)), (2, .int (0 : Int32))] rfl ?_
  have L7 : ∀ (n : Nat) (x1 : Int32) (x2 : Int32) (g3 : Sg) , fX11_bits_4 a0 n x1 x2 g3  = some (r, σ') → gG X w g3 4 [(0, .int a0), (1, .int x1), (2, .int x2)] [] := by
    intro n
    induction n with
    | zero =>
      intro x1 x2 g3 hF
      rw [fX11_bits_4] at hF
      cases hF
    | succ n ih =>
      intro x1 x2 g3 hF
      rw [fX11_bits_4] at hF
      refine gr_iload_n C 2 dX11_bits_4 rfl rfl ?_
      refine gr_bipush C (v := 9) dX11_bits_5 (by decide) ?_
      refine gr_icmp_ge C 24 dX11_bits_7 (by decide) (fun c4 => ?_) (fun c4 => ?_)
      · rw [if_pos c4] at hF
        refine gr_sub [1] [(1, .int x1)] rfl ?_
        refine gr_iload_n C 0 dX11_bits_24 rfl rfl ?_
        refine gr_sub [] [] rfl ?_
        cases hF
        exact gr_iret C dX11_bits_25 ⟨rfl, rfl⟩
      · rw [if_neg c4] at hF
        refine gr_iload_n C 1 dX11_bits_10 rfl rfl ?_
        refine gr_iload_n C 0 dX11_bits_11 rfl rfl ?_
        refine gr_iload_n C 2 dX11_bits_12 rfl rfl ?_
        refine gr_ishr C dX11_bits_13 ?_
        refine gr_iconst C (v := 1) dX11_bits_14 (by decide) ?_
        refine gr_iand C dX11_bits_15 ?_
        refine gr_iadd C dX11_bits_16 ?_
        obtain ⟨x5, ex5, hF⟩ := gLet_e hF
        refine gr_nmI ex5 ?_
        refine gr_istore_n C [(1, .int x5), (0, .int a0), (2, .int x2)] dX11_bits_17 rfl (by decide) rfl ?_
        obtain ⟨x6, ex6, hF⟩ := gLet_e hF
        refine gr_iinc C (v := x6) 2 [(2, .int x6), (1, .int x5), (0, .int a0)] dX11_bits_18 rfl (by rw [ex6]; rfl) (by decide) rfl ?_
        refine gr_goto C 4 dX11_bits_21 (by decide) ?_
        refine gr_sub [2, 1, 0] [(0, .int a0), (1, .int x5), (2, .int x6)] rfl ?_
        exact ih x5 x6 g3   hF
  refine L7 _ (0 : Int32) (0 : Int32) σ   hF
-- X11_quarrel: 47 instructions, frames 2, locals 46
set_option maxRecDepth 100000 in
set_option maxHeartbeats 4000000 in
theorem mX11_quarrel (l : Launch) {w : Wl} (hw : w.2.2.2 = shM) {σ : Sg} {a0 : Int32} {a1 : Int32}  {r : Int32} {σ' : Sg} (hF : fX11_quarrel σ a0 a1 = some (r, σ')) : gMI l w yX11_quarrel wsX11_quarrel ({ frames := 2, cells := 0, slots := 0, locals := 46 } : Room) [.ref (w.2.2.1 0), .int a0, .int a1] σ r σ' := by
  have inX11 : ∀ v ∈ u_ws RX11 TX11 32, v ∈ wsX11_quarrel := by decide +kernel
  have ln37 : Cond.fieldLink RX11 37 (TX11 15).1 (TX11 15).2.1 (TX11 15).2.2.1 ∈ wsX11_quarrel := by decide +kernel
  refine gStartI cX11_quarrel 3 RX11 rfl (by decide) rfl (Nat.le_of_ble_eq_true rfl) ?_
  intro X hl C
  show gG X w σ 0 [(0, .ref (w.2.2.1 0)), (1, .int a0), (2, .int a1)] []
  unfold fX11_quarrel at hF
  refine gr_aload_n C 0 dX11_quarrel_0 rfl rfl ?_
  refine gr_iload_n C 1 dX11_quarrel_1 rfl rfl ?_
  obtain ⟨r3, g2, hc1, hF⟩ := gCl_e hF
  refine gr_callVI C (n := 1) (As := [.int a0]) (rest := []) 0 (mX11_isOne X.2.1 hw  hc1) gX11_quarrel_X11_isOne rfl ⟨rfl, rfl⟩ ⟨by decide, by decide⟩ rfl (Nat.le_of_ble_eq_true rfl) rfl (by decide +kernel) (scm_0 hw) rfl dX11_quarrel_2 ?_
  refine gr_if_eq C 18 dX11_quarrel_5 (by decide) (fun c4 => ?_) (fun c4 => ?_)
  · rw [if_pos c4] at hF
    refine gr_sub [] [] rfl ?_
    refine gr_iconst C (v := -1) dX11_quarrel_18 (by decide) ?_
    cases hF
    exact gr_iret C dX11_quarrel_19 ⟨rfl, rfl⟩
  · rw [if_neg c4] at hF
    refine gr_iload_n C 2 dX11_quarrel_8 rfl rfl ?_
    refine gr_i2l C dX11_quarrel_9 ?_
    refine gr_lconst C (v := 0) dX11_quarrel_10 (by decide) ?_
    refine gr_lconst C (v := 1) dX11_quarrel_11 (by decide) ?_
    obtain ⟨r7, g6, hc5, hF⟩ := gCl_e hF
    refine gr_callSI C (n := 3) (As := [.long (a1.toInt64), .long (0 : Int64), .long (1 : Int64)]) (rest := []) (mX11_in X.2.1 hw  hc5) gX11_quarrel_X11_in rfl ⟨rfl, rfl⟩ ⟨by decide, by decide⟩ rfl (Nat.le_of_ble_eq_true rfl) rfl (by decide +kernel) dX11_quarrel_12 ?_
    refine gr_if_ne C 20 dX11_quarrel_15 (by decide) (fun c8 => ?_) (fun c8 => ?_)
    · rw [if_neg c8] at hF
      refine gr_aload_n C 0 dX11_quarrel_20 rfl rfl ?_
      refine gr_getR C 0 15 10 dX11_quarrel_21 (scm_0 hw) rfl inX11 (by decide) ln37 rfl ?_
      refine gr_iload_n C 1 dX11_quarrel_24 rfl rfl ?_
      obtain ⟨h10, x9, ex9, hF⟩ := gRd_e hF
      refine gr_iald C 10 336 dX11_quarrel_25 (scm_10 hw) h10 ?_
      refine gr_nmI ex9 ?_
      refine gr_if_eq C 44 dX11_quarrel_26 (by decide) (fun c11 => ?_) (fun c11 => ?_)
      · rw [if_pos c11] at hF
        refine gr_sub [] [] rfl ?_
        refine gr_bipush C (v := -2) dX11_quarrel_44 (by decide) ?_
        cases hF
        exact gr_iret C dX11_quarrel_46 ⟨rfl, rfl⟩
      · rw [if_neg c11] at hF
        refine gr_aload_n C 0 dX11_quarrel_29 rfl rfl ?_
        refine gr_getR C 0 15 10 dX11_quarrel_30 (scm_0 hw) rfl inX11 (by decide) ln37 rfl ?_
        refine gr_bipush C (v := 8) dX11_quarrel_33 (by decide) ?_
        obtain ⟨h13, x12, ex12, hF⟩ := gRd_e hF
        refine gr_iald C 10 336 dX11_quarrel_35 (scm_10 hw) h13 ?_
        refine gr_nmI ex12 ?_
        refine gr_iload_n C 1 dX11_quarrel_36 rfl rfl ?_
        refine gr_ishr C dX11_quarrel_37 ?_
        refine gr_iconst C (v := 1) dX11_quarrel_38 (by decide) ?_
        refine gr_iand C dX11_quarrel_39 ?_
        refine gr_iload_n C 2 dX11_quarrel_40 rfl rfl ?_
        refine gr_icmp_ne C 47 dX11_quarrel_41 (by decide) (fun c14 => ?_) (fun c14 => ?_)
        · rw [if_neg c14] at hF
          refine gr_sub [0, 1] [(0, .ref (w.2.2.1 0)), (1, .int a0)] rfl ?_
          refine gr_aload_n C 0 dX11_quarrel_47 rfl rfl ?_
          obtain ⟨g16, hc15, hF⟩ := gCv_e hF
          refine gr_callVV C (n := 0) (As := []) (rest := []) 0 (mX11_known X.2.1 hw  hc15) gX11_quarrel_X11_known rfl ⟨rfl, rfl⟩ ⟨by decide, by decide⟩ rfl (Nat.le_of_ble_eq_true rfl) rfl (by decide +kernel) (scm_0 hw) rfl dX11_quarrel_48 ?_
          refine gr_aload_n C 0 dX11_quarrel_51 rfl rfl ?_
          refine gr_getR C 0 15 10 dX11_quarrel_52 (scm_0 hw) rfl inX11 (by decide) ln37 rfl ?_
          refine gr_bipush C (v := 8) dX11_quarrel_55 (by decide) ?_
          refine gr_dup2 C dX11_quarrel_57 rfl rfl ?_
          obtain ⟨h18, x17, ex17, hF⟩ := gRd_e hF
          refine gr_iald C 10 336 dX11_quarrel_58 (scm_10 hw) h18 ?_
          refine gr_nmI ex17 ?_
          refine gr_iconst C (v := 1) dX11_quarrel_59 (by decide) ?_
          refine gr_iload_n C 1 dX11_quarrel_60 rfl rfl ?_
          refine gr_ishl C dX11_quarrel_61 ?_
          refine gr_ixor C dX11_quarrel_62 ?_
          obtain ⟨h19, g20, eg20, hF⟩ := gWr_e hF
          refine gr_iast C 10 336 dX11_quarrel_63 (scm_10 hw) h19 ?_
          refine gr_nmS eg20 ?_
          refine gr_aload_n C 0 dX11_quarrel_64 rfl rfl ?_
          refine gr_getR C 0 15 10 dX11_quarrel_65 (scm_0 hw) rfl inX11 (by decide) ln37 rfl ?_
          refine gr_bipush C (v := 8) dX11_quarrel_68 (by decide) ?_
          obtain ⟨h22, x21, ex21, hF⟩ := gRd_e hF
          refine gr_iald C 10 336 dX11_quarrel_70 (scm_10 hw) h22 ?_
          refine gr_nmI ex21 ?_
          obtain ⟨r25, g24, hc23, hF⟩ := gCl_e hF
          refine gr_callSI C (n := 1) (As := [.int x21]) (rest := []) (mX11_bits X.2.1 hw  hc23) gX11_quarrel_X11_bits rfl ⟨rfl, rfl⟩ ⟨by decide, by decide⟩ rfl (Nat.le_of_ble_eq_true rfl) rfl (by decide +kernel) dX11_quarrel_71 ?_
          cases hF
          exact gr_iret C dX11_quarrel_74 ⟨rfl, rfl⟩
        · rw [if_pos c14] at hF
          refine gr_sub [] [] rfl ?_
          refine gr_bipush C (v := -2) dX11_quarrel_44 (by decide) ?_
          cases hF
          exact gr_iret C dX11_quarrel_46 ⟨rfl, rfl⟩
    · rw [if_pos c8] at hF
      refine gr_sub [] [] rfl ?_
      refine gr_iconst C (v := -1) dX11_quarrel_18 (by decide) ?_
      cases hF
      exact gr_iret C dX11_quarrel_19 ⟨rfl, rfl⟩
