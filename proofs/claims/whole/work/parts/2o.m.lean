-- X11_does: 69 instructions, frames 0, locals 0
set_option maxRecDepth 100000 in
set_option maxHeartbeats 4000000 in
theorem mX11_does (l : Launch) {w : Wl} (hw : w.2.2.2 = shM) {σ : Sg} {a0 : Int32} {a1 : Int32}  {σ' : Sg} (hF : fX11_does σ a0 a1 = some σ') : gMV l w yX11_does wsX11_does ({ frames := 0, cells := 0, slots := 0, locals := 0 } : Room) [.ref (w.2.2.1 0), .int a0, .int a1] σ σ' := by
  have inX11 : ∀ v ∈ u_ws RX11 TX11 32, v ∈ wsX11_does := by decide +kernel
  have ln37 : Cond.fieldLink RX11 37 (TX11 15).1 (TX11 15).2.1 (TX11 15).2.2.1 ∈ wsX11_does := by decide +kernel
  have ln88 : Cond.fieldLink RX11 88 (TX11 0).1 (TX11 0).2.1 (TX11 0).2.2.1 ∈ wsX11_does := by decide +kernel
  have ln94 : Cond.fieldLink RX11 94 (TX11 2).1 (TX11 2).2.1 (TX11 2).2.2.1 ∈ wsX11_does := by decide +kernel
  refine gStartV cX11_does 4 RX11 rfl (by decide) rfl (Nat.le_of_ble_eq_true rfl) ?_
  intro X hl C
  show gG X w σ 0 [(0, .ref (w.2.2.1 0)), (1, .int a0), (2, .int a1)] []
  unfold fX11_does at hF
  refine gr_iload_n C 2 dX11_does_0 rfl rfl ?_
  refine gr_bipush C (v := 8) dX11_does_1 (by decide) ?_
  refine gr_irem C dX11_does_3 (by decide) ?_
  obtain ⟨x2, ex2, hF⟩ := gLet_e hF
  refine gr_nmI ex2 ?_
  refine gr_istore_n C [(3, .int x2), (0, .ref (w.2.2.1 0)), (1, .int a0), (2, .int a1)] dX11_does_4 rfl (by decide) rfl ?_
  refine gr_iload_n C 0 dX11_does_5 rfl rfl ?_
  refine gr_iconst C (v := 2) dX11_does_6 (by decide) ?_
  refine gr_icmp_ge C 39 dX11_does_7 (by decide) (fun c3 => ?_) (fun c3 => ?_)
  · rw [if_pos c3] at hF
    refine gr_sub [1, 2, 3, 0] [(0, .ref (w.2.2.1 0)), (1, .int a0), (2, .int a1), (3, .int x2)] rfl ?_
    refine gr_iload_n C 3 dX11_does_39 rfl rfl ?_
    refine gr_iconst C (v := 2) dX11_does_40 (by decide) ?_
    refine gr_icmp_ne C 70 dX11_does_41 (by decide) (fun c4 => ?_) (fun c4 => ?_)
    · rw [if_neg c4] at hF
      refine gr_iload_n C 3 dX11_does_70 rfl rfl ?_
      refine gr_iconst C (v := 3) dX11_does_71 (by decide) ?_
      refine gr_icmp_ne C 101 dX11_does_72 (by decide) (fun c5 => ?_) (fun c5 => ?_)
      · rw [if_neg c5] at hF
        refine gr_sub [] [] rfl ?_
        cases hF
        exact gr_vret C dX11_does_101 ⟨rfl, rfl⟩
      · rw [if_pos c5] at hF
        refine gr_sub [0, 1, 2] [(0, .ref (w.2.2.1 0)), (1, .int a0), (2, .int a1)] rfl ?_
        refine gr_aload_n C 0 dX11_does_75 rfl rfl ?_
        refine gr_getR C 0 15 10 dX11_does_76 (scm_0 hw) rfl inX11 (by decide) ln37 rfl ?_
        refine gr_iload_n C 1 dX11_does_79 rfl rfl ?_
        refine gr_bipush C (v := 18) dX11_does_80 (by decide) ?_
        refine gr_iadd C dX11_does_82 ?_
        refine gr_iload_n C 2 dX11_does_83 rfl rfl ?_
        refine gr_bipush C (v := 8) dX11_does_84 (by decide) ?_
        refine gr_idiv C dX11_does_86 (by decide) ?_
        refine gr_aload_n C 0 dX11_does_87 rfl rfl ?_
        refine gr_getI C 0 0 dX11_does_88 (scm_0 hw) rfl inX11 (by decide) ln88 rfl ?_
        obtain ⟨h7, hF⟩ := gNz_e hF
        refine gr_irem C dX11_does_91 h7 ?_
        refine gr_iadd C dX11_does_92 ?_
        refine gr_iload_n C 2 dX11_does_93 rfl rfl ?_
        refine gr_bipush C (v := 64) dX11_does_94 (by decide) ?_
        refine gr_idiv C dX11_does_96 (by decide) ?_
        refine gr_bipush C (v := 10) dX11_does_97 (by decide) ?_
        refine gr_irem C dX11_does_99 (by decide) ?_
        obtain ⟨h10, g11, eg11, hF⟩ := gWr_e hF
        refine gr_iast C 10 336 dX11_does_100 (scm_10 hw) h10 ?_
        refine gr_nmS eg11 ?_
        cases hF
        exact gr_vret C dX11_does_101 ⟨rfl, rfl⟩
    · rw [if_pos c4] at hF
      refine gr_sub [0, 1, 2] [(0, .ref (w.2.2.1 0)), (1, .int a0), (2, .int a1)] rfl ?_
      refine gr_aload_n C 0 dX11_does_44 rfl rfl ?_
      refine gr_getR C 0 15 10 dX11_does_45 (scm_0 hw) rfl inX11 (by decide) ln37 rfl ?_
      refine gr_iload_n C 1 dX11_does_48 rfl rfl ?_
      refine gr_bipush C (v := 8) dX11_does_49 (by decide) ?_
      refine gr_iadd C dX11_does_51 ?_
      refine gr_dup2 C dX11_does_52 rfl rfl ?_
      obtain ⟨h13, x12, ex12, hF⟩ := gRd_e hF
      refine gr_iald C 10 336 dX11_does_53 (scm_10 hw) h13 ?_
      refine gr_nmI ex12 ?_
      refine gr_iconst C (v := 1) dX11_does_54 (by decide) ?_
      refine gr_iload_n C 2 dX11_does_55 rfl rfl ?_
      refine gr_bipush C (v := 8) dX11_does_56 (by decide) ?_
      refine gr_idiv C dX11_does_58 (by decide) ?_
      refine gr_aload_n C 0 dX11_does_59 rfl rfl ?_
      refine gr_getI C 0 2 dX11_does_60 (scm_0 hw) rfl inX11 (by decide) ln94 rfl ?_
      obtain ⟨h15, hF⟩ := gNz_e hF
      refine gr_irem C dX11_does_63 h15 ?_
      refine gr_ishl C dX11_does_64 ?_
      refine gr_ixor C dX11_does_65 ?_
      obtain ⟨h16, g17, eg17, hF⟩ := gWr_e hF
      refine gr_iast C 10 336 dX11_does_66 (scm_10 hw) h16 ?_
      refine gr_nmS eg17 ?_
      refine gr_goto C 101 dX11_does_67 (by decide) ?_
      refine gr_sub [] [] rfl ?_
      cases hF
      exact gr_vret C dX11_does_101 ⟨rfl, rfl⟩
  · rw [if_neg c3] at hF
    refine gr_sub [1, 2, 3] [(0, .ref (w.2.2.1 0)), (1, .int a0), (2, .int a1)] rfl ?_
    refine gr_aload_n C 0 dX11_does_10 rfl rfl ?_
    refine gr_getR C 0 15 10 dX11_does_11 (scm_0 hw) rfl inX11 (by decide) ln37 rfl ?_
    refine gr_iload_n C 1 dX11_does_14 rfl rfl ?_
    refine gr_bipush C (v := 9) dX11_does_15 (by decide) ?_
    refine gr_iadd C dX11_does_17 ?_
    refine gr_iload_n C 2 dX11_does_18 rfl rfl ?_
    refine gr_bipush C (v := 8) dX11_does_19 (by decide) ?_
    refine gr_idiv C dX11_does_21 (by decide) ?_
    refine gr_aload_n C 0 dX11_does_22 rfl rfl ?_
    refine gr_getI C 0 0 dX11_does_23 (scm_0 hw) rfl inX11 (by decide) ln88 rfl ?_
    obtain ⟨h19, hF⟩ := gNz_e hF
    refine gr_irem C dX11_does_26 h19 ?_
    refine gr_iadd C dX11_does_27 ?_
    refine gr_iload_n C 2 dX11_does_28 rfl rfl ?_
    refine gr_bipush C (v := 64) dX11_does_29 (by decide) ?_
    refine gr_idiv C dX11_does_31 (by decide) ?_
    refine gr_bipush C (v := 41) dX11_does_32 (by decide) ?_
    refine gr_irem C dX11_does_34 (by decide) ?_
    obtain ⟨h22, g23, eg23, hF⟩ := gWr_e hF
    refine gr_iast C 10 336 dX11_does_35 (scm_10 hw) h22 ?_
    refine gr_nmS eg23 ?_
    refine gr_goto C 101 dX11_does_36 (by decide) ?_
    refine gr_sub [] [] rfl ?_
    cases hF
    exact gr_vret C dX11_does_101 ⟨rfl, rfl⟩
-- X11_year: 69 instructions, frames 3, locals 79
set_option maxRecDepth 100000 in
set_option maxHeartbeats 4000000 in
theorem mX11_year (l : Launch) {w : Wl} (hw : w.2.2.2 = shM) {σ : Sg} {a0 : Int32} {a1 : Int32} {a2 : Int32}  {r : Int32} {σ' : Sg} (hF : fX11_year σ a0 a1 a2 = some (r, σ')) : gMI l w yX11_year wsX11_year ({ frames := 3, cells := 0, slots := 0, locals := 79 } : Room) [.ref (w.2.2.1 0), .int a0, .int a1, .int a2] σ r σ' := by
  have k245 : Cond.constantLong RX11 245 (9999) ∈ wsX11_year := by decide +kernel
  have k247 : Cond.constantLong RX11 247 (60) ∈ wsX11_year := by decide +kernel
  have k249 : Cond.constantLong RX11 249 (7919) ∈ wsX11_year := by decide +kernel
  have k251 : Cond.constantLong RX11 251 (6151) ∈ wsX11_year := by decide +kernel
  have k253 : Cond.constantLong RX11 253 (65521) ∈ wsX11_year := by decide +kernel
  refine gStartI cX11_year 8 RX11 rfl (by decide) rfl (Nat.le_of_ble_eq_true rfl) ?_
  intro X hl C
  show gG X w σ 0 [(0, .ref (w.2.2.1 0)), (1, .int a0), (2, .int a1), (3, .int a2)] []
  unfold fX11_year at hF
  refine gr_iload_n C 1 dX11_year_0 rfl rfl ?_
  refine gr_i2l C dX11_year_1 ?_
  refine gr_lconst C (v := 0) dX11_year_2 (by decide) ?_
  refine gr_ldc2 C (v := 9999) dX11_year_3 k245 ?_
  obtain ⟨r3, g2, hc1, hF⟩ := gCl_e hF
  refine gr_callSI C (n := 3) (As := [.long (a0.toInt64), .long (0 : Int64), .long (9999 : Int64)]) (rest := []) (mX11_in X.2.1 hw  hc1) gX11_year_X11_in rfl ⟨rfl, rfl⟩ ⟨by decide, by decide⟩ rfl (Nat.le_of_ble_eq_true rfl) rfl (by decide +kernel) dX11_year_6 ?_
  refine gr_if_eq C 34 dX11_year_9 (by decide) (fun c4 => ?_) (fun c4 => ?_)
  · rw [if_pos c4] at hF
    refine gr_sub [] [] rfl ?_
    refine gr_iconst C (v := -1) dX11_year_34 (by decide) ?_
    cases hF
    exact gr_iret C dX11_year_35 ⟨rfl, rfl⟩
  · rw [if_neg c4] at hF
    refine gr_iload_n C 2 dX11_year_12 rfl rfl ?_
    refine gr_i2l C dX11_year_13 ?_
    refine gr_lconst C (v := 1) dX11_year_14 (by decide) ?_
    refine gr_ldc2 C (v := 60) dX11_year_15 k247 ?_
    obtain ⟨r7, g6, hc5, hF⟩ := gCl_e hF
    refine gr_callSI C (n := 3) (As := [.long (a1.toInt64), .long (1 : Int64), .long (60 : Int64)]) (rest := []) (mX11_in X.2.1 hw  hc5) gX11_year_X11_in rfl ⟨rfl, rfl⟩ ⟨by decide, by decide⟩ rfl (Nat.le_of_ble_eq_true rfl) rfl (by decide +kernel) dX11_year_18 ?_
    refine gr_if_eq C 34 dX11_year_21 (by decide) (fun c8 => ?_) (fun c8 => ?_)
    · rw [if_pos c8] at hF
      refine gr_sub [] [] rfl ?_
      refine gr_iconst C (v := -1) dX11_year_34 (by decide) ?_
      cases hF
      exact gr_iret C dX11_year_35 ⟨rfl, rfl⟩
    · rw [if_neg c8] at hF
      refine gr_iload_n C 3 dX11_year_24 rfl rfl ?_
      refine gr_i2l C dX11_year_25 ?_
      refine gr_lconst C (v := 0) dX11_year_26 (by decide) ?_
      refine gr_lconst C (v := 1) dX11_year_27 (by decide) ?_
      obtain ⟨r11, g10, hc9, hF⟩ := gCl_e hF
      refine gr_callSI C (n := 3) (As := [.long (a2.toInt64), .long (0 : Int64), .long (1 : Int64)]) (rest := []) (mX11_in X.2.1 hw  hc9) gX11_year_X11_in rfl ⟨rfl, rfl⟩ ⟨by decide, by decide⟩ rfl (Nat.le_of_ble_eq_true rfl) rfl (by decide +kernel) dX11_year_28 ?_
      refine gr_if_ne C 36 dX11_year_31 (by decide) (fun c12 => ?_) (fun c12 => ?_)
      · rw [if_neg c12] at hF
        refine gr_aload_n C 0 dX11_year_36 rfl rfl ?_
        refine gr_iconst C (v := 0) dX11_year_37 (by decide) ?_
        refine gr_sipush C (v := 308) dX11_year_38 (by decide) ?_
        obtain ⟨g14, hc13, hF⟩ := gCv_e hF
        refine gr_callVV C (n := 2) (As := [.int (0 : Int32), .int (308 : Int32)]) (rest := []) 0 (mX11_copies X.2.1 hw  hc13) gX11_year_X11_copies rfl ⟨rfl, rfl⟩ ⟨by decide, by decide⟩ rfl (Nat.le_of_ble_eq_true rfl) rfl (by decide +kernel) (scm_0 hw) rfl dX11_year_41 ?_
        refine gr_iconst C (v := 0) dX11_year_44 (by decide) ?_
        refine gr_istore C [(4, .int (0 : Int32)), (0, .ref (w.2.2.1 0)), (1, .int a0), (2, .int a1), (3, .int a2)] dX11_year_45 (by decide) rfl ?_
        refine gr_iconst C (v := 0) dX11_year_47 (by decide) ?_
        refine gr_istore C [(5, .int (0 : Int32)), (4, .int (0 : Int32)), (0, .ref (w.2.2.1 0)), (1, .int a0), (2, .int a1), (3, .int a2)] dX11_year_48 (by decide) rfl ?_
        refine gr_sub [2, 3, 4, 5, 1, 0] [(0, .ref (w.2.2.1 0)), (1, .int a0), (2, .int a1), (3, .int a2), (4, .int (0 : Int32)), (5, .int (0 : Int32))] rfl ?_
        have L29 : ∀ (n : Nat) (x16 : Int32) (x17 : Int32) (g18 : Sg) (K15 : Int32 → Sg → Option (Int32 × Sg)), (∀ (x30 : Int32) (g31 : Sg), K15 x30 g31 = some (r, σ') → gG X w g31 110 [(0, .ref (w.2.2.1 0)), (3, .int a2), (4, .int x30)] []) → fX11_year_50 a0 a1 n x16 x17 g18 K15 = some (r, σ') → gG X w g18 50 [(0, .ref (w.2.2.1 0)), (1, .int a0), (2, .int a1), (3, .int a2), (4, .int x16), (5, .int x17)] [] := by
          intro n
          induction n with
          | zero =>
            intro x16 x17 g18 K15 hK15 hF
            rw [fX11_year_50] at hF
            cases hF
          | succ n ih =>
            intro x16 x17 g18 K15 hK15 hF
            rw [fX11_year_50] at hF
            refine gr_iload C 5 dX11_year_50 rfl ?_
            refine gr_iload_n C 2 dX11_year_52 rfl rfl ?_
            refine gr_icmp_ge C 110 dX11_year_53 (by decide) (fun c19 => ?_) (fun c19 => ?_)
            · rw [if_pos c19] at hF
              refine gr_sub [0, 3, 4] [(0, .ref (w.2.2.1 0)), (3, .int a2), (4, .int x16)] rfl ?_
              exact hK15 x16 g18 hF
            · rw [if_neg c19] at hF
              refine gr_ldc2 C (v := 7919) dX11_year_56 k249 ?_
              refine gr_iload_n C 1 dX11_year_59 rfl rfl ?_
              refine gr_i2l C dX11_year_60 ?_
              refine gr_lmul C dX11_year_61 ?_
              refine gr_ldc2 C (v := 6151) dX11_year_62 k251 ?_
              refine gr_iload C 5 dX11_year_65 rfl ?_
              refine gr_i2l C dX11_year_67 ?_
              refine gr_lmul C dX11_year_68 ?_
              refine gr_ladd C dX11_year_69 ?_
              refine gr_lconst C (v := 1) dX11_year_70 (by decide) ?_
              refine gr_ladd C dX11_year_71 ?_
              obtain ⟨x20, ex20, hF⟩ := gLet_e hF
              refine gr_nmL ex20 ?_
              refine gr_lstore C [(6, .long x20), (0, .ref (w.2.2.1 0)), (1, .int a0), (2, .int a1), (3, .int a2), (4, .int x16), (5, .int x17)] dX11_year_72 (by decide) rfl ?_
              refine gr_aload_n C 1 dX11_year_74 rfl rfl ?_
              refine gr_sipush C (v := 308) dX11_year_75 (by decide) ?_
              refine gr_lload C 0 dX11_year_78 rfl ?_
              refine gr_lload C 0 dX11_year_80 rfl ?_
              refine gr_lmul C dX11_year_82 ?_
              refine gr_ldc2 C (v := 65521) dX11_year_83 k253 ?_
              refine gr_lrem C dX11_year_86 (by decide) ?_
              refine gr_l2i C dX11_year_87 ?_
              obtain ⟨g23, hc22, hF⟩ := gCv_e hF
              refine gr_callVV C (n := 2) (As := [.int (308 : Int32), .int (((x20 * x20) - (x20 * x20) / (65521 : Int64) * (65521 : Int64)).toInt32)]) (rest := []) 0 (mX11_does X.2.1 hw  hc22) gX11_year_X11_does rfl ⟨rfl, rfl⟩ ⟨by decide, by decide⟩ rfl (Nat.le_of_ble_eq_true rfl) rfl (by decide +kernel) (scm_0 hw) rfl dX11_year_88 ?_
              refine gr_iload C 5 dX11_year_91 rfl ?_
              refine gr_aload_n C 1 dX11_year_93 rfl rfl ?_
              refine gr_sipush C (v := 308) dX11_year_94 (by decide) ?_
              refine gr_iconst C (v := 0) dX11_year_97 (by decide) ?_
              obtain ⟨r26, g25, hc24, hF⟩ := gCl_e hF
              refine gr_callVI C (n := 2) (As := [.int (308 : Int32), .int (0 : Int32)]) (rest := [.int x16]) 0 (mX11_goesOn X.2.1 hw  hc24) gX11_year_X11_goesOn rfl ⟨rfl, rfl⟩ ⟨by decide, by decide⟩ rfl (Nat.le_of_ble_eq_true rfl) rfl (by decide +kernel) (scm_0 hw) rfl dX11_year_98 ?_
              refine gr_iadd C dX11_year_101 ?_
              obtain ⟨x27, ex27, hF⟩ := gLet_e hF
              refine gr_nmI ex27 ?_
              refine gr_istore C [(4, .int x27), (6, .long x20), (0, .ref (w.2.2.1 0)), (1, .int a0), (2, .int a1), (3, .int a2), (5, .int x17)] dX11_year_102 (by decide) rfl ?_
              obtain ⟨x28, ex28, hF⟩ := gLet_e hF
              refine gr_iinc C (v := x28) 6 [(5, .int x28), (4, .int x27), (6, .long x20), (0, .ref (w.2.2.1 0)), (1, .int a0), (2, .int a1), (3, .int a2)] dX11_year_104 rfl (by rw [ex28]; rfl) (by decide) rfl ?_
              refine gr_goto C 50 dX11_year_107 (by decide) ?_
              refine gr_sub [3, 4, 5, 6, 1, 0] [(0, .ref (w.2.2.1 0)), (1, .int a0), (2, .int a1), (3, .int a2), (4, .int x27), (5, .int x28)] rfl ?_
              exact ih x27 x28 g25 K15 hK15 hF
        refine L29 _ (0 : Int32) (0 : Int32) g14 _ ?_ hF
        intro x32 g33 hF
        try dsimp only at hF
        refine gr_iload_n C 1 dX11_year_110 rfl rfl ?_
        refine gr_if_ne C 124 dX11_year_111 (by decide) (fun c34 => ?_) (fun c34 => ?_)
        · rw [if_neg c34] at hF
          refine gr_sub [2] [(4, .int x32)] rfl ?_
          refine gr_iload C 0 dX11_year_124 rfl ?_
          cases hF
          exact gr_iret C dX11_year_126 ⟨rfl, rfl⟩
        · rw [if_pos c34] at hF
          refine gr_sub [0] [(0, .ref (w.2.2.1 0))] rfl ?_
          refine gr_aload_n C 0 dX11_year_114 rfl rfl ?_
          refine gr_sipush C (v := 308) dX11_year_115 (by decide) ?_
          obtain ⟨r37, g36, hc35, hF⟩ := gCl_e hF
          refine gr_callVI C (n := 1) (As := [.int (308 : Int32)]) (rest := []) 0 (mX11_alive X.2.1 hw  hc35) gX11_year_X11_alive rfl ⟨rfl, rfl⟩ ⟨by decide, by decide⟩ rfl (Nat.le_of_ble_eq_true rfl) rfl (by decide +kernel) (scm_0 hw) rfl dX11_year_118 ?_
          refine gr_goto C 126 dX11_year_121 (by decide) ?_
          refine gr_sub [] [] rfl ?_
          cases hF
          exact gr_iret C dX11_year_126 ⟨rfl, rfl⟩
      · rw [if_pos c12] at hF
        refine gr_sub [] [] rfl ?_
        refine gr_iconst C (v := -1) dX11_year_34 (by decide) ?_
        cases hF
        exact gr_iret C dX11_year_35 ⟨rfl, rfl⟩
-- X11_keep: 24 instructions, frames 1, locals 23
set_option maxRecDepth 100000 in
set_option maxHeartbeats 4000000 in
theorem mX11_keep (l : Launch) {w : Wl} (hw : w.2.2.2 = shM) {σ : Sg}   {r : Int32} {σ' : Sg} (hF : fX11_keep σ  = some (r, σ')) : gMI l w yX11_keep wsX11_keep ({ frames := 1, cells := 0, slots := 0, locals := 23 } : Room) [.ref (w.2.2.1 0)] σ r σ' := by
  have inX11 : ∀ v ∈ u_ws RX11 TX11 32, v ∈ wsX11_keep := by decide +kernel
  have ln151 : Cond.fieldLink RX11 151 (TX11 17).1 (TX11 17).2.1 (TX11 17).2.2.1 ∈ wsX11_keep := by decide +kernel
  refine gStartI cX11_keep 1 RX11 rfl (by decide) rfl (Nat.le_of_ble_eq_true rfl) ?_
  intro X hl C
  show gG X w σ 0 [(0, .ref (w.2.2.1 0))] []
  unfold fX11_keep at hF
  refine gr_aload_n C 0 dX11_keep_0 rfl rfl ?_
  refine gr_getI C 0 17 dX11_keep_1 (scm_0 hw) rfl inX11 (by decide) ln151 rfl ?_
  refine gr_iconst C (v := 2) dX11_keep_4 (by decide) ?_
  refine gr_icmp_ne C 11 dX11_keep_5 (by decide) (fun c1 => ?_) (fun c1 => ?_)
  · rw [if_neg c1] at hF
    refine gr_aload_n C 0 dX11_keep_11 rfl rfl ?_
    refine gr_iconst C (v := 0) dX11_keep_12 (by decide) ?_
    refine gr_bipush C (v := 9) dX11_keep_13 (by decide) ?_
    refine gr_aload_n C 0 dX11_keep_15 rfl rfl ?_
    refine gr_getI C 0 17 dX11_keep_16 (scm_0 hw) rfl inX11 (by decide) ln151 rfl ?_
    refine gr_iadd C dX11_keep_19 ?_
    refine gr_bipush C (v := 28) dX11_keep_20 (by decide) ?_
    refine gr_imul C dX11_keep_22 ?_
    obtain ⟨g3, hc2, hF⟩ := gCv_e hF
    refine gr_callVV C (n := 2) (As := [.int (0 : Int32), .int (((9 : Int32) + (σ 0 17)) * (28 : Int32))]) (rest := []) 0 (mX11_copies X.2.1 hw  hc2) gX11_keep_X11_copies rfl ⟨rfl, rfl⟩ ⟨by decide, by decide⟩ rfl (Nat.le_of_ble_eq_true rfl) rfl (by decide +kernel) (scm_0 hw) rfl dX11_keep_23 ?_
    refine gr_aload_n C 0 dX11_keep_26 rfl rfl ?_
    refine gr_dup C dX11_keep_27 rfl ?_
    refine gr_getI C 0 17 dX11_keep_28 (scm_0 hw) rfl inX11 (by decide) ln151 rfl ?_
    refine gr_iconst C (v := 1) dX11_keep_31 (by decide) ?_
    refine gr_iadd C dX11_keep_32 ?_
    obtain ⟨g4, eg4, hF⟩ := gLet_e hF
    refine gr_putI C 0 17 dX11_keep_33 (scm_0 hw) rfl inX11 (by decide) ln151 rfl tyX11 tyX11_ok nmX11 rfl .int rfl rfl rfl ?_
    refine gr_nmS eg4 ?_
    refine gr_aload_n C 0 dX11_keep_36 rfl rfl ?_
    refine gr_getI C 0 17 dX11_keep_37 (scm_0 hw) rfl inX11 (by decide) ln151 rfl ?_
    cases hF
    exact gr_iret C dX11_keep_40 ⟨rfl, rfl⟩
  · rw [if_pos c1] at hF
    refine gr_sub [] [] rfl ?_
    refine gr_bipush C (v := -3) dX11_keep_8 (by decide) ?_
    cases hF
    exact gr_iret C dX11_keep_10 ⟨rfl, rfl⟩
-- X11_back: 26 instructions, frames 1, locals 23
set_option maxRecDepth 100000 in
set_option maxHeartbeats 4000000 in
theorem mX11_back (l : Launch) {w : Wl} (hw : w.2.2.2 = shM) {σ : Sg}   {r : Int32} {σ' : Sg} (hF : fX11_back σ  = some (r, σ')) : gMI l w yX11_back wsX11_back ({ frames := 1, cells := 0, slots := 0, locals := 23 } : Room) [.ref (w.2.2.1 0)] σ r σ' := by
  have inX11 : ∀ v ∈ u_ws RX11 TX11 32, v ∈ wsX11_back := by decide +kernel
  have ln148 : Cond.fieldLink RX11 148 (TX11 16).1 (TX11 16).2.1 (TX11 16).2.2.1 ∈ wsX11_back := by decide +kernel
  have ln151 : Cond.fieldLink RX11 151 (TX11 17).1 (TX11 17).2.1 (TX11 17).2.2.1 ∈ wsX11_back := by decide +kernel
  refine gStartI cX11_back 1 RX11 rfl (by decide) rfl (Nat.le_of_ble_eq_true rfl) ?_
  intro X hl C
  show gG X w σ 0 [(0, .ref (w.2.2.1 0))] []
  unfold fX11_back at hF
  refine gr_aload_n C 0 dX11_back_0 rfl rfl ?_
  refine gr_getI C 0 17 dX11_back_1 (scm_0 hw) rfl inX11 (by decide) ln151 rfl ?_
  refine gr_if_ne C 10 dX11_back_4 (by decide) (fun c1 => ?_) (fun c1 => ?_)
  · rw [if_neg c1] at hF
    refine gr_aload_n C 0 dX11_back_10 rfl rfl ?_
    refine gr_dup C dX11_back_11 rfl ?_
    refine gr_getI C 0 17 dX11_back_12 (scm_0 hw) rfl inX11 (by decide) ln151 rfl ?_
    refine gr_iconst C (v := 1) dX11_back_15 (by decide) ?_
    refine gr_isub C dX11_back_16 ?_
    obtain ⟨g2, eg2, hF⟩ := gLet_e hF
    refine gr_putI C 0 17 dX11_back_17 (scm_0 hw) rfl inX11 (by decide) ln151 rfl tyX11 tyX11_ok nmX11 rfl .int rfl rfl rfl ?_
    refine gr_nmS eg2 ?_
    refine gr_aload_n C 0 dX11_back_20 rfl rfl ?_
    refine gr_bipush C (v := 9) dX11_back_21 (by decide) ?_
    refine gr_aload_n C 0 dX11_back_23 rfl rfl ?_
    refine gr_getI C 0 17 dX11_back_24 (scm_0 hw) rfl inX11 (by decide) ln151 rfl ?_
    refine gr_iadd C dX11_back_27 ?_
    refine gr_bipush C (v := 28) dX11_back_28 (by decide) ?_
    refine gr_imul C dX11_back_30 ?_
    refine gr_iconst C (v := 0) dX11_back_31 (by decide) ?_
    obtain ⟨g4, hc3, hF⟩ := gCv_e hF
    refine gr_callVV C (n := 2) (As := [.int (((9 : Int32) + (g2 0 17)) * (28 : Int32)), .int (0 : Int32)]) (rest := []) 0 (mX11_copies X.2.1 hw  hc3) gX11_back_X11_copies rfl ⟨rfl, rfl⟩ ⟨by decide, by decide⟩ rfl (Nat.le_of_ble_eq_true rfl) rfl (by decide +kernel) (scm_0 hw) rfl dX11_back_32 ?_
    refine gr_aload_n C 0 dX11_back_35 rfl rfl ?_
    refine gr_iconst C (v := 0) dX11_back_36 (by decide) ?_
    obtain ⟨g5, eg5, hF⟩ := gLet_e hF
    refine gr_putI C 0 16 dX11_back_37 (scm_0 hw) rfl inX11 (by decide) ln148 rfl tyX11 tyX11_ok nmX11 rfl .int rfl rfl rfl ?_
    refine gr_nmS eg5 ?_
    refine gr_aload_n C 0 dX11_back_40 rfl rfl ?_
    refine gr_getI C 0 17 dX11_back_41 (scm_0 hw) rfl inX11 (by decide) ln151 rfl ?_
    cases hF
    exact gr_iret C dX11_back_44 ⟨rfl, rfl⟩
  · rw [if_pos c1] at hF
    refine gr_sub [] [] rfl ?_
    refine gr_bipush C (v := -2) dX11_back_7 (by decide) ?_
    cases hF
    exact gr_iret C dX11_back_9 ⟨rfl, rfl⟩
-- X11_sumOf: 28 instructions, frames 3, locals 73
set_option maxRecDepth 100000 in
set_option maxHeartbeats 4000000 in
theorem mX11_sumOf (l : Launch) {w : Wl} (hw : w.2.2.2 = shM) {σ : Sg} {a0 : Int32}  {r : Int32} {σ' : Sg} (hF : fX11_sumOf σ a0 = some (r, σ')) : gMI l w yX11_sumOf wsX11_sumOf ({ frames := 3, cells := 0, slots := 0, locals := 73 } : Room) [.ref (w.2.2.1 0), .int a0] σ r σ' := by
  have inX11 : ∀ v ∈ u_ws RX11 TX11 32, v ∈ wsX11_sumOf := by decide +kernel
  have ln37 : Cond.fieldLink RX11 37 (TX11 15).1 (TX11 15).2.1 (TX11 15).2.2.1 ∈ wsX11_sumOf := by decide +kernel
  have ln88 : Cond.fieldLink RX11 88 (TX11 0).1 (TX11 0).2.1 (TX11 0).2.2.1 ∈ wsX11_sumOf := by decide +kernel
  refine gStartI cX11_sumOf 4 RX11 rfl (by decide) rfl (Nat.le_of_ble_eq_true rfl) ?_
  intro X hl C
  show gG X w σ 0 [(0, .ref (w.2.2.1 0)), (1, .int a0)] []
  unfold fX11_sumOf at hF
  refine gr_iconst C (v := 0) dX11_sumOf_0 (by decide) ?_
  refine gr_istore_n C [(2, .int (0 : Int32)), (0, .ref (w.2.2.1 0)), (1, .int a0)] dX11_sumOf_1 rfl (by decide) rfl ?_
  refine gr_iconst C (v := 0) dX11_sumOf_2 (by decide) ?_
  refine gr_istore_n C [(3, .int (0 : Int32)), (2, .int (0 : Int32)), (0, .ref (w.2.2.1 0)), (1, .int a0)] dX11_sumOf_3 rfl (by decide) rfl ?_
  refine gr_sub [2, 3, 1, 0] [(0, .ref (w.2.2.1 0)), (1, .int a0), (2, .int (0 : Int32)), (3, .int (0 : Int32))] rfl ?_
  have L16 : ∀ (n : Nat) (x1 : Int32) (x2 : Int32) (g3 : Sg) , fX11_sumOf_4 a0 n x1 x2 g3  = some (r, σ') → gG X w g3 4 [(0, .ref (w.2.2.1 0)), (1, .int a0), (2, .int x1), (3, .int x2)] [] := by
    intro n
    induction n with
    | zero =>
      intro x1 x2 g3 hF
      rw [fX11_sumOf_4] at hF
      cases hF
    | succ n ih =>
      intro x1 x2 g3 hF
      rw [fX11_sumOf_4] at hF
      refine gr_iload_n C 3 dX11_sumOf_4 rfl rfl ?_
      refine gr_aload_n C 0 dX11_sumOf_5 rfl rfl ?_
      refine gr_getI C 0 0 dX11_sumOf_6 (scm_0 hw) rfl inX11 (by decide) ln88 rfl ?_
      refine gr_icmp_ge C 43 dX11_sumOf_9 (by decide) (fun c4 => ?_) (fun c4 => ?_)
      · rw [if_pos c4] at hF
        refine gr_sub [2] [(2, .int x1)] rfl ?_
        refine gr_iload_n C 0 dX11_sumOf_43 rfl rfl ?_
        refine gr_sub [] [] rfl ?_
        cases hF
        exact gr_iret C dX11_sumOf_44 ⟨rfl, rfl⟩
      · rw [if_neg c4] at hF
        refine gr_iload_n C 2 dX11_sumOf_12 rfl rfl ?_
        refine gr_iload_n C 1 dX11_sumOf_13 rfl rfl ?_
        obtain ⟨K5, eK5, hF⟩ := gLet_e hF
        have JK5 : ∀ (x6 : Int32) (g7 : Sg), K5 x6 g7 = some (r, σ') → gG X w g7 35 [(0, .ref (w.2.2.1 0)), (1, .int a0), (3, .int x2)] [.int x6, .int x1] := by
          intro x6 g7 hF
          rw [eK5] at hF
          try dsimp only at hF
          refine gr_iadd C dX11_sumOf_35 ?_
          obtain ⟨x8, ex8, hF⟩ := gLet_e hF
          refine gr_nmI ex8 ?_
          refine gr_istore_n C [(2, .int x8), (0, .ref (w.2.2.1 0)), (1, .int a0), (3, .int x2)] dX11_sumOf_36 rfl (by decide) rfl ?_
          obtain ⟨x9, ex9, hF⟩ := gLet_e hF
          refine gr_iinc C (v := x9) 3 [(3, .int x9), (2, .int x8), (0, .ref (w.2.2.1 0)), (1, .int a0)] dX11_sumOf_37 rfl (by rw [ex9]; rfl) (by decide) rfl ?_
          refine gr_goto C 4 dX11_sumOf_40 (by decide) ?_
          refine gr_sub [2, 3, 1, 0] [(0, .ref (w.2.2.1 0)), (1, .int a0), (2, .int x8), (3, .int x9)] rfl ?_
          exact ih x8 x9 g7   hF
        refine gr_if_eq C 26 dX11_sumOf_14 (by decide) (fun c10 => ?_) (fun c10 => ?_)
        · rw [if_pos c10] at hF
          refine gr_sub [0, 1, 3] [(0, .ref (w.2.2.1 0)), (1, .int a0), (3, .int x2)] rfl ?_
          refine gr_aload_n C 0 dX11_sumOf_26 rfl rfl ?_
          refine gr_getR C 0 15 10 dX11_sumOf_27 (scm_0 hw) rfl inX11 (by decide) ln37 rfl ?_
          refine gr_bipush C (v := 9) dX11_sumOf_30 (by decide) ?_
          refine gr_iload_n C 2 dX11_sumOf_32 rfl rfl ?_
          refine gr_iadd C dX11_sumOf_33 ?_
          obtain ⟨h12, x11, ex11, hF⟩ := gRd_e hF
          refine gr_iald C 10 336 dX11_sumOf_34 (scm_10 hw) h12 ?_
          refine gr_nmI ex11 ?_
          exact JK5 x11 g3 hF
        · rw [if_neg c10] at hF
          refine gr_sub [0, 1, 3] [(0, .ref (w.2.2.1 0)), (1, .int a0), (3, .int x2)] rfl ?_
          refine gr_aload_n C 0 dX11_sumOf_17 rfl rfl ?_
          refine gr_iconst C (v := 0) dX11_sumOf_18 (by decide) ?_
          refine gr_iload_n C 2 dX11_sumOf_19 rfl rfl ?_
          obtain ⟨r15, g14, hc13, hF⟩ := gCl_e hF
          refine gr_callVI C (n := 2) (As := [.int (0 : Int32), .int x2]) (rest := [.int x1]) 0 (mX11_leftAt X.2.1 hw  hc13) gX11_sumOf_X11_leftAt rfl ⟨rfl, rfl⟩ ⟨by decide, by decide⟩ rfl (Nat.le_of_ble_eq_true rfl) rfl (by decide +kernel) (scm_0 hw) rfl dX11_sumOf_20 ?_
          refine gr_goto C 35 dX11_sumOf_23 (by decide) ?_
          exact JK5 r15 g14 hF
  refine L16 _ (0 : Int32) (0 : Int32) σ   hF
-- X11_count: 84 instructions, frames 4, locals 96
set_option maxRecDepth 100000 in
set_option maxHeartbeats 4000000 in
theorem mX11_count (l : Launch) {w : Wl} (hw : w.2.2.2 = shM) {σ : Sg} {a0 : Int32}  {r : Int32} {σ' : Sg} (hF : fX11_count σ a0 = some (r, σ')) : gMI l w yX11_count wsX11_count ({ frames := 4, cells := 0, slots := 0, locals := 96 } : Room) [.ref (w.2.2.1 0), .int a0] σ r σ' := by
  have inX11 : ∀ v ∈ u_ws RX11 TX11 32, v ∈ wsX11_count := by decide +kernel
  have ln37 : Cond.fieldLink RX11 37 (TX11 15).1 (TX11 15).2.1 (TX11 15).2.2.1 ∈ wsX11_count := by decide +kernel
  have ln88 : Cond.fieldLink RX11 88 (TX11 0).1 (TX11 0).2.1 (TX11 0).2.2.1 ∈ wsX11_count := by decide +kernel
  have ln91 : Cond.fieldLink RX11 91 (TX11 1).1 (TX11 1).2.1 (TX11 1).2.2.1 ∈ wsX11_count := by decide +kernel
  have ln94 : Cond.fieldLink RX11 94 (TX11 2).1 (TX11 2).2.1 (TX11 2).2.2.1 ∈ wsX11_count := by decide +kernel
  have ln109 : Cond.fieldLink RX11 109 (TX11 18).1 (TX11 18).2.1 (TX11 18).2.2.1 ∈ wsX11_count := by decide +kernel
  have ln148 : Cond.fieldLink RX11 148 (TX11 16).1 (TX11 16).2.1 (TX11 16).2.2.1 ∈ wsX11_count := by decide +kernel
  have ln151 : Cond.fieldLink RX11 151 (TX11 17).1 (TX11 17).2.1 (TX11 17).2.2.1 ∈ wsX11_count := by decide +kernel
  have ln154 : Cond.fieldLink RX11 154 (TX11 23).1 (TX11 23).2.1 (TX11 23).2.2.1 ∈ wsX11_count := by decide +kernel
  refine gStartI cX11_count 2 RX11 rfl (by decide) rfl (Nat.le_of_ble_eq_true rfl) ?_
  intro X hl C
  show gG X w σ 0 [(0, .ref (w.2.2.1 0)), (1, .int a0)] []
  unfold fX11_count at hF
  refine gr_iload_n C 1 dX11_count_0 rfl rfl ?_
  refine gr_if_ne C 11 dX11_count_1 (by decide) (fun c1 => ?_) (fun c1 => ?_)
  · rw [if_neg c1] at hF
    refine gr_iload_n C 1 dX11_count_11 rfl rfl ?_
    refine gr_iconst C (v := 1) dX11_count_12 (by decide) ?_
    refine gr_icmp_ne C 23 dX11_count_13 (by decide) (fun c2 => ?_) (fun c2 => ?_)
    · rw [if_neg c2] at hF
      refine gr_iload_n C 1 dX11_count_23 rfl rfl ?_
      refine gr_iconst C (v := 2) dX11_count_24 (by decide) ?_
      refine gr_icmp_ne C 35 dX11_count_25 (by decide) (fun c3 => ?_) (fun c3 => ?_)
      · rw [if_neg c3] at hF
        refine gr_iload_n C 1 dX11_count_35 rfl rfl ?_
        refine gr_iconst C (v := 3) dX11_count_36 (by decide) ?_
        refine gr_icmp_ne C 50 dX11_count_37 (by decide) (fun c4 => ?_) (fun c4 => ?_)
        · rw [if_neg c4] at hF
          refine gr_iload_n C 1 dX11_count_50 rfl rfl ?_
          refine gr_iconst C (v := 4) dX11_count_51 (by decide) ?_
          refine gr_icmp_ne C 68 dX11_count_52 (by decide) (fun c5 => ?_) (fun c5 => ?_)
          · rw [if_neg c5] at hF
            refine gr_iload_n C 1 dX11_count_68 rfl rfl ?_
            refine gr_iconst C (v := 5) dX11_count_69 (by decide) ?_
            refine gr_icmp_ne C 86 dX11_count_70 (by decide) (fun c6 => ?_) (fun c6 => ?_)
            · rw [if_neg c6] at hF
              refine gr_iload_n C 1 dX11_count_86 rfl rfl ?_
              refine gr_bipush C (v := 6) dX11_count_87 (by decide) ?_
              refine gr_icmp_ne C 100 dX11_count_89 (by decide) (fun c7 => ?_) (fun c7 => ?_)
              · rw [if_neg c7] at hF
                refine gr_iload_n C 1 dX11_count_100 rfl rfl ?_
                refine gr_bipush C (v := 7) dX11_count_101 (by decide) ?_
                refine gr_icmp_ne C 114 dX11_count_103 (by decide) (fun c8 => ?_) (fun c8 => ?_)
                · rw [if_neg c8] at hF
                  refine gr_iload_n C 1 dX11_count_114 rfl rfl ?_
                  refine gr_bipush C (v := 8) dX11_count_115 (by decide) ?_
                  refine gr_icmp_ne C 127 dX11_count_117 (by decide) (fun c9 => ?_) (fun c9 => ?_)
                  · rw [if_neg c9] at hF
                    refine gr_iload_n C 1 dX11_count_127 rfl rfl ?_
                    refine gr_bipush C (v := 9) dX11_count_128 (by decide) ?_
                    refine gr_icmp_ne C 140 dX11_count_130 (by decide) (fun c10 => ?_) (fun c10 => ?_)
                    · rw [if_neg c10] at hF
                      refine gr_iload_n C 1 dX11_count_140 rfl rfl ?_
                      refine gr_bipush C (v := 10) dX11_count_141 (by decide) ?_
                      refine gr_icmp_ne C 153 dX11_count_143 (by decide) (fun c11 => ?_) (fun c11 => ?_)
                      · rw [if_neg c11] at hF
                        refine gr_iload_n C 1 dX11_count_153 rfl rfl ?_
                        refine gr_bipush C (v := 11) dX11_count_154 (by decide) ?_
                        refine gr_icmp_ne C 166 dX11_count_156 (by decide) (fun c12 => ?_) (fun c12 => ?_)
                        · rw [if_neg c12] at hF
                          refine gr_sub [] [] rfl ?_
                          refine gr_iconst C (v := -1) dX11_count_166 (by decide) ?_
                          cases hF
                          exact gr_iret C dX11_count_167 ⟨rfl, rfl⟩
                        · rw [if_pos c12] at hF
                          refine gr_sub [0] [(0, .ref (w.2.2.1 0))] rfl ?_
                          refine gr_aload_n C 0 dX11_count_159 rfl rfl ?_
                          refine gr_getI C 0 18 dX11_count_160 (scm_0 hw) rfl inX11 (by decide) ln109 rfl ?_
                          refine gr_goto C 167 dX11_count_163 (by decide) ?_
                          refine gr_sub [] [] rfl ?_
                          cases hF
                          exact gr_iret C dX11_count_167 ⟨rfl, rfl⟩
                      · rw [if_pos c11] at hF
                        refine gr_sub [0] [(0, .ref (w.2.2.1 0))] rfl ?_
                        refine gr_aload_n C 0 dX11_count_146 rfl rfl ?_
                        refine gr_getI C 0 17 dX11_count_147 (scm_0 hw) rfl inX11 (by decide) ln151 rfl ?_
                        refine gr_goto C 167 dX11_count_150 (by decide) ?_
                        refine gr_sub [] [] rfl ?_
                        cases hF
                        exact gr_iret C dX11_count_167 ⟨rfl, rfl⟩
                    · rw [if_pos c10] at hF
                      refine gr_sub [0] [(0, .ref (w.2.2.1 0))] rfl ?_
                      refine gr_aload_n C 0 dX11_count_133 rfl rfl ?_
                      refine gr_getI C 0 16 dX11_count_134 (scm_0 hw) rfl inX11 (by decide) ln148 rfl ?_
                      refine gr_goto C 167 dX11_count_137 (by decide) ?_
                      refine gr_sub [] [] rfl ?_
                      cases hF
                      exact gr_iret C dX11_count_167 ⟨rfl, rfl⟩
                  · rw [if_pos c9] at hF
                    refine gr_sub [0] [(0, .ref (w.2.2.1 0))] rfl ?_
                    refine gr_aload_n C 0 dX11_count_120 rfl rfl ?_
                    refine gr_getI C 0 23 dX11_count_121 (scm_0 hw) rfl inX11 (by decide) ln154 rfl ?_
                    refine gr_goto C 167 dX11_count_124 (by decide) ?_
                    refine gr_sub [] [] rfl ?_
                    cases hF
                    exact gr_iret C dX11_count_167 ⟨rfl, rfl⟩
                · rw [if_pos c8] at hF
                  refine gr_sub [0] [(0, .ref (w.2.2.1 0))] rfl ?_
                  refine gr_aload_n C 0 dX11_count_106 rfl rfl ?_
                  refine gr_iconst C (v := 1) dX11_count_107 (by decide) ?_
                  obtain ⟨r15, g14, hc13, hF⟩ := gCl_e hF
                  refine gr_callVI C (n := 1) (As := [.int (1 : Int32)]) (rest := []) 0 (mX11_sumOf X.2.1 hw  hc13) gX11_count_X11_sumOf rfl ⟨rfl, rfl⟩ ⟨by decide, by decide⟩ rfl (Nat.le_of_ble_eq_true rfl) rfl (by decide +kernel) (scm_0 hw) rfl dX11_count_108 ?_
                  refine gr_goto C 167 dX11_count_111 (by decide) ?_
                  refine gr_sub [] [] rfl ?_
                  cases hF
                  exact gr_iret C dX11_count_167 ⟨rfl, rfl⟩
              · rw [if_pos c7] at hF
                refine gr_sub [0] [(0, .ref (w.2.2.1 0))] rfl ?_
                refine gr_aload_n C 0 dX11_count_92 rfl rfl ?_
                refine gr_iconst C (v := 0) dX11_count_93 (by decide) ?_
                obtain ⟨r18, g17, hc16, hF⟩ := gCl_e hF
                refine gr_callVI C (n := 1) (As := [.int (0 : Int32)]) (rest := []) 0 (mX11_sumOf X.2.1 hw  hc16) gX11_count_X11_sumOf rfl ⟨rfl, rfl⟩ ⟨by decide, by decide⟩ rfl (Nat.le_of_ble_eq_true rfl) rfl (by decide +kernel) (scm_0 hw) rfl dX11_count_94 ?_
                refine gr_goto C 167 dX11_count_97 (by decide) ?_
                refine gr_sub [] [] rfl ?_
                cases hF
                exact gr_iret C dX11_count_167 ⟨rfl, rfl⟩
            · rw [if_pos c6] at hF
              refine gr_sub [0] [(0, .ref (w.2.2.1 0))] rfl ?_
              refine gr_aload_n C 0 dX11_count_73 rfl rfl ?_
              refine gr_getR C 0 15 10 dX11_count_74 (scm_0 hw) rfl inX11 (by decide) ln37 rfl ?_
              refine gr_bipush C (v := 8) dX11_count_77 (by decide) ?_
              obtain ⟨h20, x19, ex19, hF⟩ := gRd_e hF
              refine gr_iald C 10 336 dX11_count_79 (scm_10 hw) h20 ?_
              refine gr_nmI ex19 ?_
              obtain ⟨r23, g22, hc21, hF⟩ := gCl_e hF
              refine gr_callSI C (n := 1) (As := [.int x19]) (rest := []) (mX11_bits X.2.1 hw  hc21) gX11_count_X11_bits rfl ⟨rfl, rfl⟩ ⟨by decide, by decide⟩ rfl (Nat.le_of_ble_eq_true rfl) rfl (by decide +kernel) dX11_count_80 ?_
              refine gr_goto C 167 dX11_count_83 (by decide) ?_
              refine gr_sub [] [] rfl ?_
              cases hF
              exact gr_iret C dX11_count_167 ⟨rfl, rfl⟩
          · rw [if_pos c5] at hF
            refine gr_sub [0] [(0, .ref (w.2.2.1 0))] rfl ?_
            refine gr_aload_n C 0 dX11_count_55 rfl rfl ?_
            refine gr_getI C 0 2 dX11_count_56 (scm_0 hw) rfl inX11 (by decide) ln94 rfl ?_
            refine gr_aload_n C 0 dX11_count_59 rfl rfl ?_
            refine gr_iconst C (v := 0) dX11_count_60 (by decide) ?_
            obtain ⟨r26, g25, hc24, hF⟩ := gCl_e hF
            refine gr_callVI C (n := 1) (As := [.int (0 : Int32)]) (rest := [.int (σ 0 2)]) 0 (mX11_alive X.2.1 hw  hc24) gX11_count_X11_alive rfl ⟨rfl, rfl⟩ ⟨by decide, by decide⟩ rfl (Nat.le_of_ble_eq_true rfl) rfl (by decide +kernel) (scm_0 hw) rfl dX11_count_61 ?_
            refine gr_isub C dX11_count_64 ?_
            refine gr_goto C 167 dX11_count_65 (by decide) ?_
            refine gr_sub [] [] rfl ?_
            cases hF
            exact gr_iret C dX11_count_167 ⟨rfl, rfl⟩
        · rw [if_pos c4] at hF
          refine gr_sub [0] [(0, .ref (w.2.2.1 0))] rfl ?_
          refine gr_aload_n C 0 dX11_count_40 rfl rfl ?_
          refine gr_getR C 0 15 10 dX11_count_41 (scm_0 hw) rfl inX11 (by decide) ln37 rfl ?_
          refine gr_bipush C (v := 27) dX11_count_44 (by decide) ?_
          obtain ⟨h28, x27, ex27, hF⟩ := gRd_e hF
          refine gr_iald C 10 336 dX11_count_46 (scm_10 hw) h28 ?_
          refine gr_nmI ex27 ?_
          refine gr_goto C 167 dX11_count_47 (by decide) ?_
          refine gr_sub [] [] rfl ?_
          cases hF
          exact gr_iret C dX11_count_167 ⟨rfl, rfl⟩
      · rw [if_pos c3] at hF
        refine gr_sub [0] [(0, .ref (w.2.2.1 0))] rfl ?_
        refine gr_aload_n C 0 dX11_count_28 rfl rfl ?_
        refine gr_getI C 0 1 dX11_count_29 (scm_0 hw) rfl inX11 (by decide) ln91 rfl ?_
        refine gr_goto C 167 dX11_count_32 (by decide) ?_
        refine gr_sub [] [] rfl ?_
        cases hF
        exact gr_iret C dX11_count_167 ⟨rfl, rfl⟩
    · rw [if_pos c2] at hF
      refine gr_sub [0] [(0, .ref (w.2.2.1 0))] rfl ?_
      refine gr_aload_n C 0 dX11_count_16 rfl rfl ?_
      refine gr_getI C 0 2 dX11_count_17 (scm_0 hw) rfl inX11 (by decide) ln94 rfl ?_
      refine gr_goto C 167 dX11_count_20 (by decide) ?_
      refine gr_sub [] [] rfl ?_
      cases hF
      exact gr_iret C dX11_count_167 ⟨rfl, rfl⟩
  · rw [if_pos c1] at hF
    refine gr_sub [0] [(0, .ref (w.2.2.1 0))] rfl ?_
    refine gr_aload_n C 0 dX11_count_4 rfl rfl ?_
    refine gr_getI C 0 0 dX11_count_5 (scm_0 hw) rfl inX11 (by decide) ln88 rfl ?_
    refine gr_goto C 167 dX11_count_8 (by decide) ?_
    refine gr_sub [] [] rfl ?_
    cases hF
    exact gr_iret C dX11_count_167 ⟨rfl, rfl⟩
