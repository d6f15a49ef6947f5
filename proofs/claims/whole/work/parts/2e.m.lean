-- X0_bringTo: 67 instructions, frames 1, locals 24
set_option maxRecDepth 100000 in
set_option maxHeartbeats 4000000 in
theorem mX0_bringTo (l : Launch) {w : Wl} (hw : w.2.2.2 = shC) {σ : Sg} {a0 : Int32} {a1 : Int32} {a2 : Int32} {a3 : Int32}  {σ' : Sg} (hF : fX0_bringTo σ a0 a1 a2 a3 = some σ') : gMV l w yX0_bringTo wsX0_bringTo ({ frames := 1, cells := 0, slots := 0, locals := 24 } : Room) [.ref (w.2.2.1 147), .int a0, .int a1, .int a2, .int a3] σ σ' := by
  have inX0 : ∀ v ∈ u_ws RX0 TX0 2, v ∈ wsX0_bringTo := by decide +kernel
  have ln9 : Cond.fieldLink RX0 9 (TX0 0).1 (TX0 0).2.1 (TX0 0).2.2.1 ∈ wsX0_bringTo := by decide +kernel
  have ln15 : Cond.fieldLink RX0 15 (TX0 1).1 (TX0 1).2.1 (TX0 1).2.2.1 ∈ wsX0_bringTo := by decide +kernel
  have kmin18 : Cond.methodLink RX0 18 Lib.Math.min.name ∈ wsX0_bringTo ∧ Cond.static Lib.Math.min.name ∈ wsX0_bringTo ∧ Cond.initialized "java/lang/Math" ∈ wsX0_bringTo ∧ Cond.code Lib.Math.min.name Lib.Math.min.code 2 (some .int) ∈ wsX0_bringTo := by decide +kernel
  refine gStartV cX0_bringTo 8 RX0 rfl (by decide) rfl (Nat.le_of_ble_eq_true rfl) ?_
  intro X hl C
  show gG X w σ 0 [(0, .ref (w.2.2.1 147)), (1, .int a0), (2, .int a1), (3, .int a2), (4, .int a3)] []
  unfold fX0_bringTo at hF
  refine gr_iconst C (v := 2) dX0_bringTo_0 (by decide) ?_
  refine gr_iload_n C 1 dX0_bringTo_1 rfl rfl ?_
  refine gr_iconst C (v := 1) dX0_bringTo_2 (by decide) ?_
  refine gr_iadd C dX0_bringTo_3 ?_
  refine gr_imul C dX0_bringTo_4 ?_
  obtain ⟨x1, ex1, hF⟩ := gLet_e hF
  refine gr_nmI ex1 ?_
  refine gr_istore C [(5, .int x1), (0, .ref (w.2.2.1 147)), (1, .int a0), (2, .int a1), (3, .int a2), (4, .int a3)] dX0_bringTo_5 (by decide) rfl ?_
  refine gr_iload C 0 dX0_bringTo_7 rfl ?_
  refine gr_aload_n C 1 dX0_bringTo_9 rfl rfl ?_
  refine gr_getR C 147 1 149 dX0_bringTo_10 (sc_147 hw) rfl inX0 (by decide) ln15 rfl ?_
  refine gr_iload_n C 3 dX0_bringTo_13 rfl rfl ?_
  obtain ⟨h3, x2, ex2, hF⟩ := gRd_e hF
  refine gr_iald C 149 512 dX0_bringTo_14 (sc_149 hw) h3 ?_
  refine gr_nmI ex2 ?_
  refine gr_iadd C dX0_bringTo_15 ?_
  obtain ⟨x4, ex4, hF⟩ := gLet_e hF
  refine gr_nmI ex4 ?_
  refine gr_istore C [(6, .int x4), (5, .int x1), (0, .ref (w.2.2.1 147)), (1, .int a0), (2, .int a1), (3, .int a2), (4, .int a3)] dX0_bringTo_16 (by decide) rfl ?_
  refine gr_iload_n C 4 dX0_bringTo_18 rfl rfl ?_
  refine gr_istore C [(7, .int a1), (6, .int x4), (5, .int x1), (0, .ref (w.2.2.1 147)), (1, .int a0), (2, .int a1), (3, .int a2), (4, .int a3)] dX0_bringTo_19 (by decide) rfl ?_
  refine gr_sub [3, 4, 5, 6, 7, 2, 1, 0] [(0, .ref (w.2.2.1 147)), (1, .int a0), (2, .int a1), (3, .int a2), (4, .int a3), (5, .int x1), (6, .int x4), (7, .int a1)] rfl ?_
  have L20 : ∀ (n : Nat) (x6 : Int32) (x7 : Int32) (g8 : Sg) (K5 : Int32 → Sg → Option Sg), (∀ (x21 : Int32) (g22 : Sg), K5 x21 g22 = some σ' → gG X w g22 70 [(0, .ref (w.2.2.1 147)), (1, .int a0), (2, .int a1), (3, .int a2), (6, .int x21)] []) → fX0_bringTo_21 a1 a2 a3 x1 n x6 x7 g8 K5 = some σ' → gG X w g8 21 [(0, .ref (w.2.2.1 147)), (1, .int a0), (2, .int a1), (3, .int a2), (4, .int a3), (5, .int x1), (6, .int x6), (7, .int x7)] [] := by
    intro n
    induction n with
    | zero =>
      intro x6 x7 g8 K5 hK5 hF
      rw [fX0_bringTo_21] at hF
      cases hF
    | succ n ih =>
      intro x6 x7 g8 K5 hK5 hF
      rw [fX0_bringTo_21] at hF
      refine gr_iload C 7 dX0_bringTo_21 rfl ?_
      refine gr_if_le C 70 dX0_bringTo_23 (by decide) (fun c9 => ?_) (fun c9 => ?_)
      · rw [if_pos c9] at hF
        refine gr_sub [0, 1, 2, 3, 6] [(0, .ref (w.2.2.1 147)), (1, .int a0), (2, .int a1), (3, .int a2), (6, .int x6)] rfl ?_
        exact hK5 x6 g8 hF
      · rw [if_neg c9] at hF
        refine gr_aload_n C 0 dX0_bringTo_26 rfl rfl ?_
        refine gr_getR C 147 0 148 dX0_bringTo_27 (sc_147 hw) rfl inX0 (by decide) ln9 rfl ?_
        refine gr_iload C 7 dX0_bringTo_30 rfl ?_
        obtain ⟨h11, x10, ex10, hF⟩ := gRd_e hF
        refine gr_iald C 148 512 dX0_bringTo_32 (sc_148 hw) h11 ?_
        refine gr_nmI ex10 ?_
        refine gr_iload_n C 3 dX0_bringTo_33 rfl rfl ?_
        refine gr_iadd C dX0_bringTo_34 ?_
        refine gr_iload C 4 dX0_bringTo_35 rfl ?_
        obtain ⟨K12, eK12, hF⟩ := gLet_e hF
        have JK12 : ∀ (x13 : Int32) (g14 : Sg), K12 x13 g14 = some σ' → gG X w g14 59 [(0, .ref (w.2.2.1 147)), (1, .int a0), (2, .int a1), (3, .int a2), (4, .int a3), (5, .int x1), (6, .int x13), (7, .int x7)] [] := by
          intro x13 g14 hF
          rw [eK12] at hF
          try dsimp only at hF
          refine gr_iload C 7 dX0_bringTo_59 rfl ?_
          refine gr_iconst C (v := 1) dX0_bringTo_61 (by decide) ?_
          refine gr_isub C dX0_bringTo_62 ?_
          refine gr_iload_n C 2 dX0_bringTo_63 rfl rfl ?_
          refine gr_iand C dX0_bringTo_64 ?_
          obtain ⟨x15, ex15, hF⟩ := gLet_e hF
          refine gr_nmI ex15 ?_
          refine gr_istore C [(7, .int x15), (0, .ref (w.2.2.1 147)), (1, .int a0), (2, .int a1), (3, .int a2), (4, .int a3), (5, .int x1), (6, .int x13)] dX0_bringTo_65 (by decide) rfl ?_
          refine gr_goto C 21 dX0_bringTo_67 (by decide) ?_
          refine gr_sub [1, 2, 3, 4, 5, 6, 7, 0] [(0, .ref (w.2.2.1 147)), (1, .int a0), (2, .int a1), (3, .int a2), (4, .int a3), (5, .int x1), (6, .int x13), (7, .int x15)] rfl ?_
          exact ih x13 x15 g14 K5 hK5 hF
        refine gr_icmp_gt C 59 dX0_bringTo_37 (by decide) (fun c16 => ?_) (fun c16 => ?_)
        · rw [if_pos c16] at hF
          exact JK12 x6 g8 hF
        · rw [if_neg c16] at hF
          refine gr_iload C 6 dX0_bringTo_40 rfl ?_
          refine gr_iload C 5 dX0_bringTo_42 rfl ?_
          refine gr_aload_n C 0 dX0_bringTo_44 rfl rfl ?_
          refine gr_getR C 147 1 149 dX0_bringTo_45 (sc_147 hw) rfl inX0 (by decide) ln15 rfl ?_
          refine gr_iload_n C 2 dX0_bringTo_48 rfl rfl ?_
          refine gr_iload C 7 dX0_bringTo_49 rfl ?_
          refine gr_ixor C dX0_bringTo_51 ?_
          obtain ⟨h18, x17, ex17, hF⟩ := gRd_e hF
          refine gr_iald C 149 512 dX0_bringTo_52 (sc_149 hw) h18 ?_
          refine gr_nmI ex17 ?_
          refine gr_iadd C dX0_bringTo_53 ?_
          refine gr_mmin C (st := []) dX0_bringTo_54 kmin18.1 kmin18.2.1 kmin18.2.2.1 kmin18.2.2.2 (by decide) (Nat.le_of_ble_eq_true rfl) ?_
          obtain ⟨x19, ex19, hF⟩ := gLet_e hF
          refine gr_nmI ex19 ?_
          refine gr_istore C [(6, .int x19), (0, .ref (w.2.2.1 147)), (1, .int a0), (2, .int a1), (3, .int a2), (4, .int a3), (5, .int x1), (7, .int x7)] dX0_bringTo_57 (by decide) rfl ?_
          refine gr_sub [1, 2, 3, 4, 5, 6, 0, 7] [(0, .ref (w.2.2.1 147)), (1, .int a0), (2, .int a1), (3, .int a2), (4, .int a3), (5, .int x1), (6, .int x19), (7, .int x7)] rfl ?_
          exact JK12 x19 g8 hF
  refine L20 _ x4 a1 σ _ ?_ hF
  intro x23 g24 hF
  try dsimp only at hF
  refine gr_aload_n C 0 dX0_bringTo_70 rfl rfl ?_
  refine gr_getR C 147 0 148 dX0_bringTo_71 (sc_147 hw) rfl inX0 (by decide) ln9 rfl ?_
  refine gr_iload_n C 2 dX0_bringTo_74 rfl rfl ?_
  refine gr_iconst C (v := 1) dX0_bringTo_75 (by decide) ?_
  refine gr_iload_n C 1 dX0_bringTo_76 rfl rfl ?_
  refine gr_ishl C dX0_bringTo_77 ?_
  refine gr_ior C dX0_bringTo_78 ?_
  refine gr_aload_n C 0 dX0_bringTo_79 rfl rfl ?_
  refine gr_getR C 147 0 148 dX0_bringTo_80 (sc_147 hw) rfl inX0 (by decide) ln9 rfl ?_
  refine gr_iload_n C 2 dX0_bringTo_83 rfl rfl ?_
  obtain ⟨h26, x25, ex25, hF⟩ := gRd_e hF
  refine gr_iald C 148 512 dX0_bringTo_84 (sc_148 hw) h26 ?_
  refine gr_nmI ex25 ?_
  refine gr_iload_n C 3 dX0_bringTo_85 rfl rfl ?_
  refine gr_iadd C dX0_bringTo_86 ?_
  obtain ⟨h27, g28, eg28, hF⟩ := gWr_e hF
  refine gr_iast C 148 512 dX0_bringTo_87 (sc_148 hw) h27 ?_
  refine gr_nmS eg28 ?_
  refine gr_aload_n C 0 dX0_bringTo_88 rfl rfl ?_
  refine gr_getR C 147 1 149 dX0_bringTo_89 (sc_147 hw) rfl inX0 (by decide) ln15 rfl ?_
  refine gr_iload_n C 2 dX0_bringTo_92 rfl rfl ?_
  refine gr_iconst C (v := 1) dX0_bringTo_93 (by decide) ?_
  refine gr_iload_n C 1 dX0_bringTo_94 rfl rfl ?_
  refine gr_ishl C dX0_bringTo_95 ?_
  refine gr_ior C dX0_bringTo_96 ?_
  refine gr_iload C 4 dX0_bringTo_97 rfl ?_
  obtain ⟨h29, g30, eg30, hF⟩ := gWr_e hF
  refine gr_iast C 149 512 dX0_bringTo_99 (sc_149 hw) h29 ?_
  refine gr_nmS eg30 ?_
  cases hF
  exact gr_vret C dX0_bringTo_100 ⟨rfl, rfl⟩
-- X0_leastWay: 54 instructions, frames 2, locals 51
set_option maxRecDepth 100000 in
set_option maxHeartbeats 4000000 in
theorem mX0_leastWay (l : Launch) {w : Wl} (hw : w.2.2.2 = shC) {σ : Sg} {a1 : Int32}  {r : Int32} {σ' : Sg} (hF : fX0_leastWay σ a1 = some (r, σ')) : gMI l w yX0_leastWay wsX0_leastWay ({ frames := 2, cells := 0, slots := 0, locals := 51 } : Room) [.ref (w.2.2.1 147), .ref (w.2.2.1 25), .int a1] σ r σ' := by
  have inX0 : ∀ v ∈ u_ws RX0 TX0 2, v ∈ wsX0_leastWay := by decide +kernel
  have ln15 : Cond.fieldLink RX0 15 (TX0 1).1 (TX0 1).2.1 (TX0 1).2.2.1 ∈ wsX0_leastWay := by decide +kernel
  have kmin18 : Cond.methodLink RX0 18 Lib.Math.min.name ∈ wsX0_leastWay ∧ Cond.static Lib.Math.min.name ∈ wsX0_leastWay ∧ Cond.initialized "java/lang/Math" ∈ wsX0_leastWay ∧ Cond.code Lib.Math.min.name Lib.Math.min.code 2 (some .int) ∈ wsX0_leastWay := by decide +kernel
  refine gStartI cX0_leastWay 6 RX0 rfl (by decide) rfl (Nat.le_of_ble_eq_true rfl) ?_
  intro X hl C
  show gG X w σ 0 [(0, .ref (w.2.2.1 147)), (1, .ref (w.2.2.1 25)), (2, .int a1)] []
  unfold fX0_leastWay at hF
  refine gr_iconst C (v := 0) dX0_leastWay_0 (by decide) ?_
  refine gr_istore_n C [(3, .int (0 : Int32)), (0, .ref (w.2.2.1 147)), (1, .ref (w.2.2.1 25)), (2, .int a1)] dX0_leastWay_1 rfl (by decide) rfl ?_
  refine gr_iconst C (v := 0) dX0_leastWay_2 (by decide) ?_
  refine gr_istore C [(4, .int (0 : Int32)), (3, .int (0 : Int32)), (0, .ref (w.2.2.1 147)), (1, .ref (w.2.2.1 25)), (2, .int a1)] dX0_leastWay_3 (by decide) rfl ?_
  refine gr_sub [2, 3, 4, 1, 0] [(0, .ref (w.2.2.1 147)), (1, .ref (w.2.2.1 25)), (2, .int a1), (3, .int (0 : Int32)), (4, .int (0 : Int32))] rfl ?_
  have L33 : ∀ (n : Nat) (x1 : Int32) (x2 : Int32) (g3 : Sg) , fX0_leastWay_5 a1 n x1 x2 g3  = some (r, σ') → gG X w g3 5 [(0, .ref (w.2.2.1 147)), (1, .ref (w.2.2.1 25)), (2, .int a1), (3, .int x1), (4, .int x2)] [] := by
    intro n
    induction n with
    | zero =>
      intro x1 x2 g3 hF
      rw [fX0_leastWay_5] at hF
      cases hF
    | succ n ih =>
      intro x1 x2 g3 hF
      rw [fX0_leastWay_5] at hF
      refine gr_iload C 4 dX0_leastWay_5 rfl ?_
      refine gr_bipush C (v := 9) dX0_leastWay_7 (by decide) ?_
      refine gr_icmp_ge C 86 dX0_leastWay_9 (by decide) (fun c4 => ?_) (fun c4 => ?_)
      · rw [if_pos c4] at hF
        refine gr_sub [0, 3] [(0, .ref (w.2.2.1 147)), (3, .int x1)] rfl ?_
        refine gr_aload_n C 0 dX0_leastWay_86 rfl rfl ?_
        refine gr_sub [1] [(3, .int x1)] rfl ?_
        refine gr_getR C 147 1 149 dX0_leastWay_87 (sc_147 hw) rfl inX0 (by decide) ln15 rfl ?_
        refine gr_iload_n C 0 dX0_leastWay_90 rfl rfl ?_
        refine gr_sub [] [] rfl ?_
        obtain ⟨h6, x5, ex5, hF⟩ := gRd_e hF
        refine gr_iald C 149 512 dX0_leastWay_91 (sc_149 hw) h6 ?_
        refine gr_nmI ex5 ?_
        cases hF
        exact gr_iret C dX0_leastWay_92 ⟨rfl, rfl⟩
      · rw [if_neg c4] at hF
        refine gr_iload C 4 dX0_leastWay_12 rfl ?_
        refine gr_aload_n C 1 dX0_leastWay_14 rfl rfl ?_
        refine gr_alenI C 25 9 (v := 9) dX0_leastWay_15 (sc_25 hw) rfl ?_
        refine gr_icmp_ge C 86 dX0_leastWay_16 (by decide) (fun c7 => ?_) (fun c7 => ?_)
        · rw [if_pos c7] at hF
          refine gr_sub [0, 3] [(0, .ref (w.2.2.1 147)), (3, .int x1)] rfl ?_
          refine gr_aload_n C 0 dX0_leastWay_86 rfl rfl ?_
          refine gr_sub [1] [(3, .int x1)] rfl ?_
          refine gr_getR C 147 1 149 dX0_leastWay_87 (sc_147 hw) rfl inX0 (by decide) ln15 rfl ?_
          refine gr_iload_n C 0 dX0_leastWay_90 rfl rfl ?_
          refine gr_sub [] [] rfl ?_
          obtain ⟨h9, x8, ex8, hF⟩ := gRd_e hF
          refine gr_iald C 149 512 dX0_leastWay_91 (sc_149 hw) h9 ?_
          refine gr_nmI ex8 ?_
          cases hF
          exact gr_iret C dX0_leastWay_92 ⟨rfl, rfl⟩
        · rw [if_neg c7] at hF
          refine gr_aload_n C 1 dX0_leastWay_19 rfl rfl ?_
          refine gr_iload C 4 dX0_leastWay_20 rfl ?_
          obtain ⟨h11, x10, ex10, hF⟩ := gRd_e hF
          refine gr_iald C 25 9 dX0_leastWay_22 (sc_25 hw) h11 ?_
          refine gr_nmI ex10 ?_
          obtain ⟨K12, eK12, hF⟩ := gLet_e hF
          have JK12 : ∀ (x13 : Int32) (g14 : Sg), K12 x13 g14 = some (r, σ') → gG X w g14 80 [(0, .ref (w.2.2.1 147)), (1, .ref (w.2.2.1 25)), (2, .int a1), (3, .int x13), (4, .int x2)] [] := by
            intro x13 g14 hF
            rw [eK12] at hF
            try dsimp only at hF
            obtain ⟨x15, ex15, hF⟩ := gLet_e hF
            refine gr_iinc C (v := x15) 4 [(4, .int x15), (0, .ref (w.2.2.1 147)), (1, .ref (w.2.2.1 25)), (2, .int a1), (3, .int x13)] dX0_leastWay_80 rfl (by rw [ex15]; rfl) (by decide) rfl ?_
            refine gr_goto C 5 dX0_leastWay_83 (by decide) ?_
            refine gr_sub [1, 2, 3, 4, 0] [(0, .ref (w.2.2.1 147)), (1, .ref (w.2.2.1 25)), (2, .int a1), (3, .int x13), (4, .int x15)] rfl ?_
            exact ih x13 x15 g14   hF
          refine gr_if_ne C 29 dX0_leastWay_23 (by decide) (fun c16 => ?_) (fun c16 => ?_)
          · rw [if_neg c16] at hF
            refine gr_iconst C (v := 0) dX0_leastWay_29 (by decide) ?_
            refine gr_istore C [(5, .int (0 : Int32)), (0, .ref (w.2.2.1 147)), (1, .ref (w.2.2.1 25)), (2, .int a1), (3, .int x1), (4, .int x2)] dX0_leastWay_30 (by decide) rfl ?_
            refine gr_sub [1, 2, 3, 4, 5, 0] [(0, .ref (w.2.2.1 147)), (1, .ref (w.2.2.1 25)), (2, .int a1), (3, .int x1), (4, .int x2), (5, .int (0 : Int32))] rfl ?_
            have L29 : ∀ (n : Nat) (x18 : Int32) (g19 : Sg) (K17 : Sg → Option (Int32 × Sg)), (∀  (g30 : Sg), K17  g30 = some (r, σ') → gG X w g30 73 [(0, .ref (w.2.2.1 147)), (1, .ref (w.2.2.1 25)), (2, .int a1), (3, .int x1), (4, .int x2)] []) → fX0_leastWay_32 a1 x1 x2 n x18 g19 K17 = some (r, σ') → gG X w g19 32 [(0, .ref (w.2.2.1 147)), (1, .ref (w.2.2.1 25)), (2, .int a1), (3, .int x1), (4, .int x2), (5, .int x18)] [] := by
              intro n
              induction n with
              | zero =>
                intro x18 g19 K17 hK17 hF
                rw [fX0_leastWay_32] at hF
                cases hF
              | succ n ih =>
                intro x18 g19 K17 hK17 hF
                rw [fX0_leastWay_32] at hF
                refine gr_iload C 5 dX0_leastWay_32 rfl ?_
                refine gr_iconst C (v := 1) dX0_leastWay_34 (by decide) ?_
                refine gr_iload C 4 dX0_leastWay_35 rfl ?_
                refine gr_ishl C dX0_leastWay_37 ?_
                refine gr_icmp_ge C 73 dX0_leastWay_38 (by decide) (fun c20 => ?_) (fun c20 => ?_)
                · rw [if_pos c20] at hF
                  refine gr_sub [0, 1, 2, 3, 4] [(0, .ref (w.2.2.1 147)), (1, .ref (w.2.2.1 25)), (2, .int a1), (3, .int x1), (4, .int x2)] rfl ?_
                  exact hK17  g19 hF
                · rw [if_neg c20] at hF
                  refine gr_iload C 5 dX0_leastWay_41 rfl ?_
                  refine gr_iload_n C 3 dX0_leastWay_43 rfl rfl ?_
                  refine gr_iconst C (v := -1) dX0_leastWay_44 (by decide) ?_
                  refine gr_ixor C dX0_leastWay_45 ?_
                  refine gr_iand C dX0_leastWay_46 ?_
                  obtain ⟨K21, eK21, hF⟩ := gLet_e hF
                  have JK21 : ∀  (g22 : Sg), K21  g22 = some (r, σ') → gG X w g22 67 [(0, .ref (w.2.2.1 147)), (1, .ref (w.2.2.1 25)), (2, .int a1), (3, .int x1), (4, .int x2), (5, .int x18)] [] := by
                    intro g22 hF
                    rw [eK21] at hF
                    try dsimp only at hF
                    obtain ⟨x23, ex23, hF⟩ := gLet_e hF
                    refine gr_iinc C (v := x23) 5 [(5, .int x23), (0, .ref (w.2.2.1 147)), (1, .ref (w.2.2.1 25)), (2, .int a1), (3, .int x1), (4, .int x2)] dX0_leastWay_67 rfl (by rw [ex23]; rfl) (by decide) rfl ?_
                    refine gr_goto C 32 dX0_leastWay_70 (by decide) ?_
                    refine gr_sub [1, 2, 3, 4, 5, 0] [(0, .ref (w.2.2.1 147)), (1, .ref (w.2.2.1 25)), (2, .int a1), (3, .int x1), (4, .int x2), (5, .int x23)] rfl ?_
                    exact ih x23 g22 K17 hK17 hF
                  refine gr_if_ne C 67 dX0_leastWay_47 (by decide) (fun c24 => ?_) (fun c24 => ?_)
                  · rw [if_neg c24] at hF
                    exact JK21  g19 hF
                  · rw [if_pos c24] at hF
                    refine gr_aload_n C 0 dX0_leastWay_50 rfl rfl ?_
                    refine gr_iload C 4 dX0_leastWay_51 rfl ?_
                    refine gr_iload C 5 dX0_leastWay_53 rfl ?_
                    refine gr_aload_n C 1 dX0_leastWay_55 rfl rfl ?_
                    refine gr_iload C 4 dX0_leastWay_56 rfl ?_
                    obtain ⟨h26, x25, ex25, hF⟩ := gRd_e hF
                    refine gr_iald C 25 9 dX0_leastWay_58 (sc_25 hw) h26 ?_
                    refine gr_nmI ex25 ?_
                    refine gr_iload_n C 2 dX0_leastWay_59 rfl rfl ?_
                    refine gr_mmin C (st := [.int x18, .int x2, .ref (w.2.2.1 147)]) dX0_leastWay_60 kmin18.1 kmin18.2.1 kmin18.2.2.1 kmin18.2.2.2 (by decide) (Nat.le_of_ble_eq_true rfl) ?_
                    refine gr_iload_n C 2 dX0_leastWay_63 rfl rfl ?_
                    obtain ⟨g28, hc27, hF⟩ := gCv_e hF
                    refine gr_callVV C (n := 4) (As := [.int x2, .int x18, .int (if a1 < x25 then a1 else x25), .int a1]) (rest := []) 147 (mX0_bringTo X.2.1 hw  hc27) gX0_leastWay_X0_bringTo rfl ⟨rfl, rfl⟩ ⟨by decide, by decide⟩ rfl (Nat.le_of_ble_eq_true rfl) rfl (by decide +kernel) (sc_147 hw) rfl dX0_leastWay_64 ?_
                    exact JK21  g28 hF
            refine L29 _ (0 : Int32) g3 _ ?_ hF
            intro g31 hF
            try dsimp only at hF
            refine gr_iload_n C 3 dX0_leastWay_73 rfl rfl ?_
            refine gr_iconst C (v := 1) dX0_leastWay_74 (by decide) ?_
            refine gr_iload C 4 dX0_leastWay_75 rfl ?_
            refine gr_ishl C dX0_leastWay_77 ?_
            refine gr_ior C dX0_leastWay_78 ?_
            obtain ⟨x32, ex32, hF⟩ := gLet_e hF
            refine gr_nmI ex32 ?_
            refine gr_istore_n C [(3, .int x32), (0, .ref (w.2.2.1 147)), (1, .ref (w.2.2.1 25)), (2, .int a1), (4, .int x2)] dX0_leastWay_79 rfl (by decide) rfl ?_
            refine gr_sub [1, 2, 3, 0, 4] [(0, .ref (w.2.2.1 147)), (1, .ref (w.2.2.1 25)), (2, .int a1), (3, .int x32), (4, .int x2)] rfl ?_
            exact JK12 x32 g31 hF
          · rw [if_pos c16] at hF
            refine gr_goto C 80 dX0_leastWay_26 (by decide) ?_
            exact JK12 x1 g3 hF
  refine L33 _ (0 : Int32) (0 : Int32) σ   hF
-- X10_round: 10 instructions, frames 3, locals 76
set_option maxRecDepth 100000 in
set_option maxHeartbeats 4000000 in
theorem mX10_round (l : Launch) {w : Wl} (hw : w.2.2.2 = shC) {σ : Sg}   {r : Int32} {σ' : Sg} (hF : fX10_round σ  = some (r, σ')) : gMI l w yX10_round wsX10_round ({ frames := 3, cells := 0, slots := 0, locals := 76 } : Room) [.ref (w.2.2.1 0)] σ r σ' := by
  have inX10 : ∀ v ∈ u_ws RX10 TX10 12, v ∈ wsX10_round := by decide +kernel
  have inX3 : ∀ v ∈ u_ws RX3 TX3 13, v ∈ wsX10_round := by decide +kernel
  have inX9 : ∀ v ∈ u_ws RX9 TX9 5, v ∈ wsX10_round := by decide +kernel
  have ln19 : Cond.fieldLink RX10 19 (TX10 1).1 (TX10 1).2.1 (TX10 1).2.2.1 ∈ wsX10_round := by decide +kernel
  have ln29 : Cond.fieldLink RX10 29 (TX10 3).1 (TX10 3).2.1 (TX10 3).2.2.1 ∈ wsX10_round := by decide +kernel
  have ln87 : Cond.fieldLink RX10 87 (TX10 11).1 (TX10 11).2.1 (TX10 11).2.2.1 ∈ wsX10_round := by decide +kernel
  have ln130 : Cond.fieldLink RX10 130 (TX9 0).1 (TX9 0).2.1 (TX9 0).2.2.1 ∈ wsX10_round := by decide +kernel
  have ln207 : Cond.fieldLink RX10 207 (TX3 10).1 (TX3 10).2.1 (TX3 10).2.2.1 ∈ wsX10_round := by decide +kernel
  refine gStartI cX10_round 1 RX10 rfl (by decide) rfl (Nat.le_of_ble_eq_true rfl) ?_
  intro X hl C
  show gG X w σ 0 [(0, .ref (w.2.2.1 0))] []
  unfold fX10_round at hF
  refine gr_aload_n C 0 dX10_round_0 rfl rfl ?_
  refine gr_getR C 0 11 147 dX10_round_1 (sc_0 hw) rfl inX10 (by decide) ln87 rfl ?_
  refine gr_aload_n C 0 dX10_round_4 rfl rfl ?_
  refine gr_getR C 0 3 24 dX10_round_5 (sc_0 hw) rfl inX10 (by decide) ln29 rfl ?_
  refine gr_getR C 24 0 25 dX10_round_8 (sc_24 hw) rfl inX9 (by decide) ln130 rfl ?_
  refine gr_aload_n C 0 dX10_round_11 rfl rfl ?_
  refine gr_getR C 0 1 4 dX10_round_12 (sc_0 hw) rfl inX10 (by decide) ln19 rfl ?_
  refine gr_getI C 4 10 dX10_round_15 (sc_4 hw) rfl inX3 (by decide) ln207 rfl ?_
  obtain ⟨r3, g2, hc1, hF⟩ := gCl_e hF
  refine gr_callVI C (n := 2) (As := [.ref (w.2.2.1 25), .int (σ 4 10)]) (rest := []) 147 (mX0_leastWay X.2.1 hw  hc1) gX10_round_X0_leastWay rfl ⟨rfl, rfl⟩ ⟨by decide, by decide⟩ rfl (Nat.le_of_ble_eq_true rfl) rfl (by decide +kernel) (sc_147 hw) rfl dX10_round_18 ?_
  cases hF
  exact gr_iret C dX10_round_21 ⟨rfl, rfl⟩
-- X6_stayBy: 42 instructions, frames 3, locals 79
set_option maxRecDepth 100000 in
set_option maxHeartbeats 4000000 in
theorem mX6_stayBy (l : Launch) {w : Wl} (hw : w.2.2.2 = shC) {σ : Sg} {a1 : Int32} {a2 : Int32}  {σ' : Sg} (hF : fX6_stayBy σ a1 a2 = some σ') : gMV l w yX6_stayBy wsX6_stayBy ({ frames := 3, cells := 0, slots := 0, locals := 79 } : Room) [.ref (w.2.2.1 82), .ref (w.2.2.1 24), .int a1, .int a2] σ σ' := by
  have inX3 : ∀ v ∈ u_ws RX3 TX3 13, v ∈ wsX6_stayBy := by decide +kernel
  have inX6 : ∀ v ∈ u_ws RX6 TX6 7, v ∈ wsX6_stayBy := by decide +kernel
  have ln12 : Cond.fieldLink RX6 12 (TX6 2).1 (TX6 2).2.1 (TX6 2).2.2.1 ∈ wsX6_stayBy := by decide +kernel
  have ln20 : Cond.fieldLink RX6 20 (TX6 3).1 (TX6 3).2.1 (TX6 3).2.2.1 ∈ wsX6_stayBy := by decide +kernel
  have ln30 : Cond.fieldLink RX6 30 (TX6 0).1 (TX6 0).2.1 (TX6 0).2.2.1 ∈ wsX6_stayBy := by decide +kernel
  have ln34 : Cond.fieldLink RX6 34 (TX6 1).1 (TX6 1).2.1 (TX6 1).2.2.1 ∈ wsX6_stayBy := by decide +kernel
  have ln42 : Cond.fieldLink RX6 42 (TX3 9).1 (TX3 9).2.1 (TX3 9).2.2.1 ∈ wsX6_stayBy := by decide +kernel
  refine gStartV cX6_stayBy 6 RX6 rfl (by decide) rfl (Nat.le_of_ble_eq_true rfl) ?_
  intro X hl C
  show gG X w σ 0 [(0, .ref (w.2.2.1 82)), (1, .ref (w.2.2.1 24)), (2, .int a1), (3, .int a2)] []
  unfold fX6_stayBy at hF
  refine gr_aload_n C 0 dX6_stayBy_0 rfl rfl ?_
  refine gr_getR C 82 2 83 dX6_stayBy_1 (sc_82 hw) rfl inX6 (by decide) ln12 rfl ?_
  refine gr_aload_n C 1 dX6_stayBy_4 rfl rfl ?_
  obtain ⟨g2, hc1, hF⟩ := gCv_e hF
  refine gr_callVV C (n := 1) (As := [.ref (w.2.2.1 24)]) (rest := []) 83 (mX9_become X.2.1 hw (st_83 hw) (st_24 hw) hc1) gX6_stayBy_X9_become rfl ⟨rfl, rfl⟩ ⟨by decide, by decide⟩ rfl (Nat.le_of_ble_eq_true rfl) rfl (by decide +kernel) (sc_83 hw) rfl dX6_stayBy_5 ?_
  refine gr_iconst C (v := 0) dX6_stayBy_8 (by decide) ?_
  refine gr_istore C [(4, .int (0 : Int32)), (0, .ref (w.2.2.1 82)), (1, .ref (w.2.2.1 24)), (2, .int a1), (3, .int a2)] dX6_stayBy_9 (by decide) rfl ?_
  refine gr_sub [1, 3, 4, 0] [(0, .ref (w.2.2.1 82)), (2, .int a1), (3, .int a2), (4, .int (0 : Int32))] rfl ?_
  have L30 : ∀ (n : Nat) (x3 : Int32) (g4 : Sg) , fX6_stayBy_11 a1 a2 n x3 g4  = some σ' → gG X w g4 11 [(0, .ref (w.2.2.1 82)), (2, .int a1), (3, .int a2), (4, .int x3)] [] := by
    intro n
    induction n with
    | zero =>
      intro x3 g4 hF
      rw [fX6_stayBy_11] at hF
      cases hF
    | succ n ih =>
      intro x3 g4 hF
      rw [fX6_stayBy_11] at hF
      refine gr_iload C 3 dX6_stayBy_11 rfl ?_
      refine gr_aload_n C 0 dX6_stayBy_13 rfl rfl ?_
      refine gr_getR C 82 0 4 dX6_stayBy_14 (sc_82 hw) rfl inX6 (by decide) ln30 rfl ?_
      refine gr_getI C 4 9 dX6_stayBy_17 (sc_4 hw) rfl inX3 (by decide) ln42 rfl ?_
      refine gr_icmp_ge C 84 dX6_stayBy_20 (by decide) (fun c5 => ?_) (fun c5 => ?_)
      · rw [if_pos c5] at hF
        refine gr_sub [] [] rfl ?_
        cases hF
        exact gr_vret C dX6_stayBy_84 ⟨rfl, rfl⟩
      · rw [if_neg c5] at hF
        refine gr_iconst C (v := 0) dX6_stayBy_23 (by decide) ?_
        refine gr_istore C [(5, .int (0 : Int32)), (0, .ref (w.2.2.1 82)), (2, .int a1), (3, .int a2), (4, .int x3)] dX6_stayBy_24 (by decide) rfl ?_
        refine gr_sub [1, 2, 3, 4, 0] [(0, .ref (w.2.2.1 82)), (2, .int a1), (3, .int a2), (4, .int x3), (5, .int (0 : Int32))] rfl ?_
        have L14 : ∀ (n : Nat) (x7 : Int32) (g8 : Sg) (K6 : Sg → Option Sg), (∀  (g15 : Sg), K6  g15 = some σ' → gG X w g15 53 [(0, .ref (w.2.2.1 82)), (2, .int a1), (3, .int a2), (4, .int x3)] []) → fX6_stayBy_26 a1 a2 x3 n x7 g8 K6 = some σ' → gG X w g8 26 [(0, .ref (w.2.2.1 82)), (2, .int a1), (3, .int a2), (4, .int x3), (5, .int x7)] [] := by
          intro n
          induction n with
          | zero =>
            intro x7 g8 K6 hK6 hF
            rw [fX6_stayBy_26] at hF
            cases hF
          | succ n ih =>
            intro x7 g8 K6 hK6 hF
            rw [fX6_stayBy_26] at hF
            refine gr_iload C 4 dX6_stayBy_26 rfl ?_
            refine gr_iload_n C 2 dX6_stayBy_28 rfl rfl ?_
            refine gr_icmp_ge C 53 dX6_stayBy_29 (by decide) (fun c9 => ?_) (fun c9 => ?_)
            · rw [if_pos c9] at hF
              refine gr_sub [0, 1, 2, 3] [(0, .ref (w.2.2.1 82)), (2, .int a1), (3, .int a2), (4, .int x3)] rfl ?_
              exact hK6  g8 hF
            · rw [if_neg c9] at hF
              refine gr_aload_n C 0 dX6_stayBy_32 rfl rfl ?_
              refine gr_getR C 82 1 72 dX6_stayBy_33 (sc_82 hw) rfl inX6 (by decide) ln34 rfl ?_
              refine gr_aload_n C 0 dX6_stayBy_36 rfl rfl ?_
              refine gr_getR C 82 2 83 dX6_stayBy_37 (sc_82 hw) rfl inX6 (by decide) ln12 rfl ?_
              refine gr_iload C 3 dX6_stayBy_40 rfl ?_
              refine gr_iload_n C 1 dX6_stayBy_42 rfl rfl ?_
              obtain ⟨r12, g11, hc10, hF⟩ := gCl_e hF
              refine gr_callVI C (n := 3) (As := [.ref (w.2.2.1 83), .int x3, .int a1]) (rest := []) 72 (mX2_goByAt X.2.1 hw (st_83 hw) hc10) gX6_stayBy_X2_goByAt rfl ⟨rfl, rfl⟩ ⟨by decide, by decide⟩ rfl (Nat.le_of_ble_eq_true rfl) rfl (by decide +kernel) (sc_72 hw) rfl dX6_stayBy_43 ?_
              refine gr_pop C dX6_stayBy_46 rfl ?_
              obtain ⟨x13, ex13, hF⟩ := gLet_e hF
              refine gr_iinc C (v := x13) 4 [(5, .int x13), (0, .ref (w.2.2.1 82)), (2, .int a1), (3, .int a2), (4, .int x3)] dX6_stayBy_47 rfl (by rw [ex13]; rfl) (by decide) rfl ?_
              refine gr_goto C 26 dX6_stayBy_50 (by decide) ?_
              refine gr_sub [1, 2, 3, 4, 0] [(0, .ref (w.2.2.1 82)), (2, .int a1), (3, .int a2), (4, .int x3), (5, .int x13)] rfl ?_
              exact ih x13 g11 K6 hK6 hF
        refine L14 _ (0 : Int32) g4 _ ?_ hF
        intro g16 hF
        try dsimp only at hF
        refine gr_aload_n C 0 dX6_stayBy_53 rfl rfl ?_
        refine gr_getR C 82 3 87 dX6_stayBy_54 (sc_82 hw) rfl inX6 (by decide) ln20 rfl ?_
        refine gr_iload C 3 dX6_stayBy_57 rfl ?_
        obtain ⟨h18, j17, ej17, h19, hF⟩ := gIx_e hF
        refine gr_aldA C 87 9 88 1 dX6_stayBy_59 (sc_87 hw) h18 ?_
        refine gr_nmR (show (88 + 1 * j17) = _ by rw [ej17]) ?_
        have hs20 : w.2.2.2[(88 + 1 * j17)]? = some (.inl (0, 10)) := ar_87 hw j17 h19
        refine gr_iload_n C 1 dX6_stayBy_60 rfl rfl ?_
        refine gr_aload_n C 0 dX6_stayBy_61 rfl rfl ?_
        refine gr_getR C 82 1 72 dX6_stayBy_62 (sc_82 hw) rfl inX6 (by decide) ln34 rfl ?_
        refine gr_aload_n C 0 dX6_stayBy_65 rfl rfl ?_
        refine gr_getR C 82 2 83 dX6_stayBy_66 (sc_82 hw) rfl inX6 (by decide) ln12 rfl ?_
        refine gr_iload C 3 dX6_stayBy_69 rfl ?_
        obtain ⟨r23, g22, hc21, hF⟩ := gCl_e hF
        refine gr_callVI C (n := 2) (As := [.ref (w.2.2.1 83), .int x3]) (rest := [.int a1, .ref (w.2.2.1 (88 + 1 * j17))]) 72 (mX2_notGoneAt X.2.1 hw (st_83 hw) hc21) gX6_stayBy_X2_notGoneAt rfl ⟨rfl, rfl⟩ ⟨by decide, by decide⟩ rfl (Nat.le_of_ble_eq_true rfl) rfl (by decide +kernel) (sc_72 hw) rfl dX6_stayBy_71 ?_
        obtain ⟨r26, g25, hc24, hF⟩ := gCl_e hF
        refine gr_callSI C (n := 1) (As := [.int r23]) (rest := [.int a1, .ref (w.2.2.1 (88 + 1 * j17))]) (mJ6_bitCount_0f7a4 X.2.1 hw  hc24) gX6_stayBy_J6_bitCount_0f7a4 rfl ⟨rfl, rfl⟩ ⟨by decide, by decide⟩ rfl (Nat.le_of_ble_eq_true rfl) rfl (by decide +kernel) dX6_stayBy_74 ?_
        obtain ⟨h27, g28, eg28, hF⟩ := gWr_e hF
        refine gr_iast C (88 + 1 * j17) 10 dX6_stayBy_77 hs20 h27 ?_
        refine gr_nmS eg28 ?_
        obtain ⟨x29, ex29, hF⟩ := gLet_e hF
        refine gr_iinc C (v := x29) 3 [(4, .int x29), (0, .ref (w.2.2.1 82)), (2, .int a1), (3, .int a2)] dX6_stayBy_78 rfl (by rw [ex29]; rfl) (by decide) rfl ?_
        refine gr_goto C 11 dX6_stayBy_81 (by decide) ?_
        refine gr_sub [1, 2, 3, 0] [(0, .ref (w.2.2.1 82)), (2, .int a1), (3, .int a2), (4, .int x29)] rfl ?_
        exact ih x29 g28   hF
  refine L30 _ (0 : Int32) g2   hF
-- X6_worthOf: 33 instructions, frames 0, locals 0
set_option maxRecDepth 100000 in
set_option maxHeartbeats 4000000 in
theorem mX6_worthOf (l : Launch) {w : Wl} (hw : w.2.2.2 = shC) {σ : Sg} {a0 : Int32} {a1 : Int32} {a2 : Int32}  {r : Int32} {σ' : Sg} (hF : fX6_worthOf σ a0 a1 a2 = some (r, σ')) : gMI l w yX6_worthOf wsX6_worthOf ({ frames := 0, cells := 0, slots := 0, locals := 0 } : Room) [.ref (w.2.2.1 82), .int a0, .int a1, .int a2] σ r σ' := by
  have inX3 : ∀ v ∈ u_ws RX3 TX3 13, v ∈ wsX6_worthOf := by decide +kernel
  have inX6 : ∀ v ∈ u_ws RX6 TX6 7, v ∈ wsX6_worthOf := by decide +kernel
  have ln20 : Cond.fieldLink RX6 20 (TX6 3).1 (TX6 3).2.1 (TX6 3).2.2.1 ∈ wsX6_worthOf := by decide +kernel
  have ln23 : Cond.fieldLink RX6 23 (TX6 4).1 (TX6 4).2.1 (TX6 4).2.2.1 ∈ wsX6_worthOf := by decide +kernel
  have ln30 : Cond.fieldLink RX6 30 (TX6 0).1 (TX6 0).2.1 (TX6 0).2.2.1 ∈ wsX6_worthOf := by decide +kernel
  have ln42 : Cond.fieldLink RX6 42 (TX3 9).1 (TX3 9).2.1 (TX3 9).2.2.1 ∈ wsX6_worthOf := by decide +kernel
  refine gStartI cX6_worthOf 5 RX6 rfl (by decide) rfl (Nat.le_of_ble_eq_true rfl) ?_
  intro X hl C
  show gG X w σ 0 [(0, .ref (w.2.2.1 82)), (1, .int a0), (2, .int a1), (3, .int a2)] []
  unfold fX6_worthOf at hF
  refine gr_iload_n C 1 dX6_worthOf_0 rfl rfl ?_
  refine gr_iconst C (v := 1) dX6_worthOf_1 (by decide) ?_
  refine gr_iadd C dX6_worthOf_2 ?_
  refine gr_aload_n C 0 dX6_worthOf_3 rfl rfl ?_
  refine gr_getR C 82 0 4 dX6_worthOf_4 (sc_82 hw) rfl inX6 (by decide) ln30 rfl ?_
  refine gr_getI C 4 9 dX6_worthOf_7 (sc_4 hw) rfl inX3 (by decide) ln42 rfl ?_
  obtain ⟨K1, eK1, hF⟩ := gLet_e hF
  have JK1 : ∀ (x2 : Int32) (g3 : Sg), K1 x2 g3 = some (r, σ') → gG X w g3 29 [(0, .ref (w.2.2.1 82)), (1, .int a0), (3, .int a2)] [.int x2] := by
    intro x2 g3 hF
    rw [eK1] at hF
    try dsimp only at hF
    refine gr_istore C [(4, .int x2), (0, .ref (w.2.2.1 82)), (1, .int a0), (3, .int a2)] dX6_worthOf_29 (by decide) rfl ?_
    refine gr_bipush C (v := 100) dX6_worthOf_31 (by decide) ?_
    refine gr_aload_n C 1 dX6_worthOf_33 rfl rfl ?_
    refine gr_getR C 82 3 87 dX6_worthOf_34 (sc_82 hw) rfl inX6 (by decide) ln20 rfl ?_
    refine gr_iload_n C 2 dX6_worthOf_37 rfl rfl ?_
    obtain ⟨h5, j4, ej4, h6, hF⟩ := gIx_e hF
    refine gr_aldA C 87 9 88 1 dX6_worthOf_38 (sc_87 hw) h5 ?_
    refine gr_nmR (show (88 + 1 * j4) = _ by rw [ej4]) ?_
    have hs7 : w.2.2.2[(88 + 1 * j4)]? = some (.inl (0, 10)) := ar_87 hw j4 h6
    refine gr_iload_n C 3 dX6_worthOf_39 rfl rfl ?_
    obtain ⟨h9, x8, ex8, hF⟩ := gRd_e hF
    refine gr_iald C (88 + 1 * j4) 10 dX6_worthOf_40 hs7 h9 ?_
    refine gr_nmI ex8 ?_
    refine gr_imul C dX6_worthOf_41 ?_
    refine gr_iload_n C 3 dX6_worthOf_42 rfl rfl ?_
    refine gr_isub C dX6_worthOf_43 ?_
    refine gr_iload C 0 dX6_worthOf_44 rfl ?_
    refine gr_iadd C dX6_worthOf_46 ?_
    cases hF
    exact gr_iret C dX6_worthOf_47 ⟨rfl, rfl⟩
  refine gr_icmp_ge C 28 dX6_worthOf_10 (by decide) (fun c10 => ?_) (fun c10 => ?_)
  · rw [if_pos c10] at hF
    refine gr_sub [0, 1, 3] [(0, .ref (w.2.2.1 82)), (1, .int a0), (3, .int a2)] rfl ?_
    refine gr_iconst C (v := 0) dX6_worthOf_28 (by decide) ?_
    exact JK1 (0 : Int32) σ hF
  · rw [if_neg c10] at hF
    refine gr_aload_n C 0 dX6_worthOf_13 rfl rfl ?_
    refine gr_getR C 82 4 97 dX6_worthOf_14 (sc_82 hw) rfl inX6 (by decide) ln23 rfl ?_
    refine gr_iload_n C 1 dX6_worthOf_17 rfl rfl ?_
    refine gr_iconst C (v := 1) dX6_worthOf_18 (by decide) ?_
    refine gr_iadd C dX6_worthOf_19 ?_
    obtain ⟨h12, j11, ej11, h13, hF⟩ := gIx_e hF
    refine gr_aldA C 97 9 98 1 dX6_worthOf_20 (sc_97 hw) h12 ?_
    refine gr_nmR (show (98 + 1 * j11) = _ by rw [ej11]) ?_
    have hs14 : w.2.2.2[(98 + 1 * j11)]? = some (.inl (0, 100)) := ar_97 hw j11 h13
    refine gr_iload_n C 2 dX6_worthOf_21 rfl rfl ?_
    refine gr_iload_n C 3 dX6_worthOf_22 rfl rfl ?_
    refine gr_isub C dX6_worthOf_23 ?_
    obtain ⟨h16, x15, ex15, hF⟩ := gRd_e hF
    refine gr_iald C (98 + 1 * j11) 100 dX6_worthOf_24 hs14 h16 ?_
    refine gr_nmI ex15 ?_
    refine gr_goto C 29 dX6_worthOf_25 (by decide) ?_
    refine gr_sub [0, 1, 3] [(0, .ref (w.2.2.1 82)), (1, .int a0), (3, .int a2)] rfl ?_
    exact JK1 x15 σ hF
-- X6_bestShare: 33 instructions, frames 1, locals 24
set_option maxRecDepth 100000 in
set_option maxHeartbeats 4000000 in
theorem mX6_bestShare (l : Launch) {w : Wl} (hw : w.2.2.2 = shC) {σ : Sg} {a0 : Int32} {a1 : Int32}  {r : Int32} {σ' : Sg} (hF : fX6_bestShare σ a0 a1 = some (r, σ')) : gMI l w yX6_bestShare wsX6_bestShare ({ frames := 1, cells := 0, slots := 0, locals := 24 } : Room) [.ref (w.2.2.1 82), .int a0, .int a1] σ r σ' := by
  refine gStartI cX6_bestShare 7 RX6 rfl (by decide) rfl (Nat.le_of_ble_eq_true rfl) ?_
  intro X hl C
  show gG X w σ 0 [(0, .ref (w.2.2.1 82)), (1, .int a0), (2, .int a1)] []
  unfold fX6_bestShare at hF
  refine gr_iconst C (v := 0) dX6_bestShare_0 (by decide) ?_
  refine gr_istore_n C [(3, .int (0 : Int32)), (0, .ref (w.2.2.1 82)), (1, .int a0), (2, .int a1)] dX6_bestShare_1 rfl (by decide) rfl ?_
  refine gr_aload_n C 1 dX6_bestShare_2 rfl rfl ?_
  refine gr_iload_n C 2 dX6_bestShare_3 rfl rfl ?_
  refine gr_iload_n C 3 dX6_bestShare_4 rfl rfl ?_
  refine gr_iconst C (v := 0) dX6_bestShare_5 (by decide) ?_
  obtain ⟨r3, g2, hc1, hF⟩ := gCl_e hF
  refine gr_callVI C (n := 3) (As := [.int a0, .int a1, .int (0 : Int32)]) (rest := []) 82 (mX6_worthOf X.2.1 hw  hc1) gX6_bestShare_X6_worthOf rfl ⟨rfl, rfl⟩ ⟨by decide, by decide⟩ rfl (Nat.le_of_ble_eq_true rfl) rfl (by decide +kernel) (sc_82 hw) rfl dX6_bestShare_6 ?_
  refine gr_istore C [(4, .int r3), (3, .int (0 : Int32)), (0, .ref (w.2.2.1 82)), (1, .int a0), (2, .int a1)] dX6_bestShare_9 (by decide) rfl ?_
  refine gr_iconst C (v := 1) dX6_bestShare_11 (by decide) ?_
  refine gr_istore C [(5, .int (1 : Int32)), (4, .int r3), (3, .int (0 : Int32)), (0, .ref (w.2.2.1 82)), (1, .int a0), (2, .int a1)] dX6_bestShare_12 (by decide) rfl ?_
  refine gr_sub [3, 4, 5, 2, 1, 0] [(0, .ref (w.2.2.1 82)), (1, .int a0), (2, .int a1), (3, .int (0 : Int32)), (4, .int r3), (5, .int (1 : Int32))] rfl ?_
  have L19 : ∀ (n : Nat) (x4 : Int32) (x5 : Int32) (x6 : Int32) (g7 : Sg) , fX6_bestShare_14 a0 a1 n x4 x5 x6 g7  = some (r, σ') → gG X w g7 14 [(0, .ref (w.2.2.1 82)), (1, .int a0), (2, .int a1), (3, .int x4), (4, .int x5), (5, .int x6)] [] := by
    intro n
    induction n with
    | zero =>
      intro x4 x5 x6 g7 hF
      rw [fX6_bestShare_14] at hF
      cases hF
    | succ n ih =>
      intro x4 x5 x6 g7 hF
      rw [fX6_bestShare_14] at hF
      refine gr_iload C 5 dX6_bestShare_14 rfl ?_
      refine gr_bipush C (v := 9) dX6_bestShare_16 (by decide) ?_
      refine gr_icmp_gt C 57 dX6_bestShare_18 (by decide) (fun c8 => ?_) (fun c8 => ?_)
      · rw [if_pos c8] at hF
        refine gr_sub [3] [(3, .int x4)] rfl ?_
        refine gr_iload_n C 0 dX6_bestShare_57 rfl rfl ?_
        refine gr_sub [] [] rfl ?_
        cases hF
        exact gr_iret C dX6_bestShare_58 ⟨rfl, rfl⟩
      · rw [if_neg c8] at hF
        refine gr_iload C 5 dX6_bestShare_21 rfl ?_
        refine gr_iload_n C 2 dX6_bestShare_23 rfl rfl ?_
        refine gr_icmp_gt C 57 dX6_bestShare_24 (by decide) (fun c9 => ?_) (fun c9 => ?_)
        · rw [if_pos c9] at hF
          refine gr_sub [3] [(3, .int x4)] rfl ?_
          refine gr_iload_n C 0 dX6_bestShare_57 rfl rfl ?_
          refine gr_sub [] [] rfl ?_
          cases hF
          exact gr_iret C dX6_bestShare_58 ⟨rfl, rfl⟩
        · rw [if_neg c9] at hF
          refine gr_aload_n C 0 dX6_bestShare_27 rfl rfl ?_
          refine gr_iload_n C 1 dX6_bestShare_28 rfl rfl ?_
          refine gr_iload_n C 2 dX6_bestShare_29 rfl rfl ?_
          refine gr_iload C 5 dX6_bestShare_30 rfl ?_
          obtain ⟨r12, g11, hc10, hF⟩ := gCl_e hF
          refine gr_callVI C (n := 3) (As := [.int a0, .int a1, .int x6]) (rest := []) 82 (mX6_worthOf X.2.1 hw  hc10) gX6_bestShare_X6_worthOf rfl ⟨rfl, rfl⟩ ⟨by decide, by decide⟩ rfl (Nat.le_of_ble_eq_true rfl) rfl (by decide +kernel) (sc_82 hw) rfl dX6_bestShare_32 ?_
          refine gr_istore C [(6, .int r12), (0, .ref (w.2.2.1 82)), (1, .int a0), (2, .int a1), (3, .int x4), (4, .int x5), (5, .int x6)] dX6_bestShare_35 (by decide) rfl ?_
          refine gr_iload C 0 dX6_bestShare_37 rfl ?_
          refine gr_iload C 5 dX6_bestShare_39 rfl ?_
          obtain ⟨K13, eK13, hF⟩ := gLet_e hF
          have JK13 : ∀ (x14 : Int32) (x15 : Int32) (g16 : Sg), K13 x14 x15 g16 = some (r, σ') → gG X w g16 51 [(0, .ref (w.2.2.1 82)), (1, .int a0), (2, .int a1), (3, .int x14), (4, .int x15), (5, .int x6)] [] := by
            intro x14 x15 g16 hF
            rw [eK13] at hF
            try dsimp only at hF
            obtain ⟨x17, ex17, hF⟩ := gLet_e hF
            refine gr_iinc C (v := x17) 5 [(5, .int x17), (0, .ref (w.2.2.1 82)), (1, .int a0), (2, .int a1), (3, .int x14), (4, .int x15)] dX6_bestShare_51 rfl (by rw [ex17]; rfl) (by decide) rfl ?_
            refine gr_goto C 14 dX6_bestShare_54 (by decide) ?_
            refine gr_sub [1, 2, 3, 4, 5, 0] [(0, .ref (w.2.2.1 82)), (1, .int a0), (2, .int a1), (3, .int x14), (4, .int x15), (5, .int x17)] rfl ?_
            exact ih x14 x15 x17 g16   hF
          refine gr_icmp_le C 51 dX6_bestShare_41 (by decide) (fun c18 => ?_) (fun c18 => ?_)
          · rw [if_pos c18] at hF
            refine gr_sub [1, 2, 3, 4, 5, 6] [(0, .ref (w.2.2.1 82)), (1, .int a0), (2, .int a1), (3, .int x4), (4, .int x5), (5, .int x6)] rfl ?_
            exact JK13 x4 x5 g11 hF
          · rw [if_neg c18] at hF
            refine gr_sub [1, 2, 3, 6, 0] [(0, .ref (w.2.2.1 82)), (1, .int a0), (2, .int a1), (5, .int x6), (6, .int r12)] rfl ?_
            refine gr_iload C 4 dX6_bestShare_44 rfl ?_
            refine gr_istore C [(4, .int r12), (0, .ref (w.2.2.1 82)), (1, .int a0), (2, .int a1), (5, .int x6), (6, .int r12)] dX6_bestShare_46 (by decide) rfl ?_
            refine gr_iload C 4 dX6_bestShare_48 rfl ?_
            refine gr_istore_n C [(3, .int x6), (4, .int r12), (0, .ref (w.2.2.1 82)), (1, .int a0), (2, .int a1), (5, .int x6), (6, .int r12)] dX6_bestShare_50 rfl (by decide) rfl ?_
            refine gr_sub [2, 3, 4, 0, 1, 5] [(0, .ref (w.2.2.1 82)), (1, .int a0), (2, .int a1), (3, .int x6), (4, .int r12), (5, .int x6)] rfl ?_
            exact JK13 x6 r12 g11 hF
  refine L19 _ (0 : Int32) r3 (1 : Int32) g2   hF
-- X6_deal: 44 instructions, frames 2, locals 50
set_option maxRecDepth 100000 in
set_option maxHeartbeats 4000000 in
theorem mX6_deal (l : Launch) {w : Wl} (hw : w.2.2.2 = shC) {σ : Sg} {a0 : Int32}  {σ' : Sg} (hF : fX6_deal σ a0 = some σ') : gMV l w yX6_deal wsX6_deal ({ frames := 2, cells := 0, slots := 0, locals := 50 } : Room) [.ref (w.2.2.1 82), .int a0] σ σ' := by
  have inX3 : ∀ v ∈ u_ws RX3 TX3 13, v ∈ wsX6_deal := by decide +kernel
  have inX6 : ∀ v ∈ u_ws RX6 TX6 7, v ∈ wsX6_deal := by decide +kernel
  have ln20 : Cond.fieldLink RX6 20 (TX6 3).1 (TX6 3).2.1 (TX6 3).2.2.1 ∈ wsX6_deal := by decide +kernel
  have ln26 : Cond.fieldLink RX6 26 (TX6 5).1 (TX6 5).2.1 (TX6 5).2.2.1 ∈ wsX6_deal := by decide +kernel
  have ln30 : Cond.fieldLink RX6 30 (TX6 0).1 (TX6 0).2.1 (TX6 0).2.2.1 ∈ wsX6_deal := by decide +kernel
  have ln42 : Cond.fieldLink RX6 42 (TX3 9).1 (TX3 9).2.1 (TX3 9).2.2.1 ∈ wsX6_deal := by decide +kernel
  have ln80 : Cond.fieldLink RX6 80 (TX6 6).1 (TX6 6).2.1 (TX6 6).2.2.1 ∈ wsX6_deal := by decide +kernel
  refine gStartV cX6_deal 4 RX6 rfl (by decide) rfl (Nat.le_of_ble_eq_true rfl) ?_
  intro X hl C
  show gG X w σ 0 [(0, .ref (w.2.2.1 82)), (1, .int a0)] []
  unfold fX6_deal at hF
  refine gr_iload_n C 1 dX6_deal_0 rfl rfl ?_
  refine gr_istore_n C [(2, .int a0), (0, .ref (w.2.2.1 82)), (1, .int a0)] dX6_deal_1 rfl (by decide) rfl ?_
  refine gr_aload_n C 1 dX6_deal_2 rfl rfl ?_
  refine gr_iconst C (v := 0) dX6_deal_3 (by decide) ?_
  obtain ⟨g1, eg1, hF⟩ := gLet_e hF
  refine gr_putI C 82 6 dX6_deal_4 (sc_82 hw) rfl inX6 (by decide) ln80 rfl tyX6 tyX6_ok nmX6 rfl .int rfl rfl rfl ?_
  refine gr_nmS eg1 ?_
  refine gr_iconst C (v := 0) dX6_deal_7 (by decide) ?_
  refine gr_istore_n C [(3, .int (0 : Int32)), (2, .int a0), (0, .ref (w.2.2.1 82)), (1, .int a0)] dX6_deal_8 rfl (by decide) rfl ?_
  refine gr_sub [2, 1, 0] [(0, .ref (w.2.2.1 82)), (2, .int a0), (3, .int (0 : Int32))] rfl ?_
  have L24 : ∀ (n : Nat) (x2 : Int32) (x3 : Int32) (g4 : Sg) , fX6_deal_9  n x2 x3 g4  = some σ' → gG X w g4 9 [(0, .ref (w.2.2.1 82)), (2, .int x2), (3, .int x3)] [] := by
    intro n
    induction n with
    | zero =>
      intro x2 x3 g4 hF
      rw [fX6_deal_9] at hF
      cases hF
    | succ n ih =>
      intro x2 x3 g4 hF
      rw [fX6_deal_9] at hF
      refine gr_iload_n C 2 dX6_deal_9 rfl rfl ?_
      refine gr_aload_n C 0 dX6_deal_10 rfl rfl ?_
      refine gr_getR C 82 0 4 dX6_deal_11 (sc_82 hw) rfl inX6 (by decide) ln30 rfl ?_
      refine gr_getI C 4 9 dX6_deal_14 (sc_4 hw) rfl inX3 (by decide) ln42 rfl ?_
      refine gr_icmp_ge C 69 dX6_deal_17 (by decide) (fun c5 => ?_) (fun c5 => ?_)
      · rw [if_pos c5] at hF
        refine gr_sub [] [] rfl ?_
        cases hF
        exact gr_vret C dX6_deal_69 ⟨rfl, rfl⟩
      · rw [if_neg c5] at hF
        refine gr_aload_n C 0 dX6_deal_20 rfl rfl ?_
        refine gr_getR C 82 5 107 dX6_deal_21 (sc_82 hw) rfl inX6 (by decide) ln26 rfl ?_
        refine gr_iload_n C 2 dX6_deal_24 rfl rfl ?_
        refine gr_aload_n C 0 dX6_deal_25 rfl rfl ?_
        refine gr_iload_n C 2 dX6_deal_26 rfl rfl ?_
        refine gr_iload_n C 1 dX6_deal_27 rfl rfl ?_
        obtain ⟨r8, g7, hc6, hF⟩ := gCl_e hF
        refine gr_callVI C (n := 2) (As := [.int x3, .int x2]) (rest := [.int x3, .ref (w.2.2.1 107)]) 82 (mX6_bestShare X.2.1 hw  hc6) gX6_deal_X6_bestShare rfl ⟨rfl, rfl⟩ ⟨by decide, by decide⟩ rfl (Nat.le_of_ble_eq_true rfl) rfl (by decide +kernel) (sc_82 hw) rfl dX6_deal_28 ?_
        obtain ⟨h9, g10, eg10, hF⟩ := gWr_e hF
        refine gr_iast C 107 9 dX6_deal_31 (sc_107 hw) h9 ?_
        refine gr_nmS eg10 ?_
        refine gr_iload_n C 1 dX6_deal_32 rfl rfl ?_
        refine gr_aload_n C 0 dX6_deal_33 rfl rfl ?_
        refine gr_getR C 82 5 107 dX6_deal_34 (sc_82 hw) rfl inX6 (by decide) ln26 rfl ?_
        refine gr_iload_n C 2 dX6_deal_37 rfl rfl ?_
        obtain ⟨h12, x11, ex11, hF⟩ := gRd_e hF
        refine gr_iald C 107 9 dX6_deal_38 (sc_107 hw) h12 ?_
        refine gr_nmI ex11 ?_
        refine gr_isub C dX6_deal_39 ?_
        obtain ⟨x13, ex13, hF⟩ := gLet_e hF
        refine gr_nmI ex13 ?_
        refine gr_istore_n C [(2, .int x13), (0, .ref (w.2.2.1 82)), (3, .int x3)] dX6_deal_40 rfl (by decide) rfl ?_
        refine gr_aload_n C 1 dX6_deal_41 rfl rfl ?_
        refine gr_dup C dX6_deal_42 rfl ?_
        refine gr_getI C 82 6 dX6_deal_43 (sc_82 hw) rfl inX6 (by decide) ln80 rfl ?_
        refine gr_aload_n C 1 dX6_deal_46 rfl rfl ?_
        refine gr_getR C 82 3 87 dX6_deal_47 (sc_82 hw) rfl inX6 (by decide) ln20 rfl ?_
        refine gr_iload_n C 2 dX6_deal_50 rfl rfl ?_
        obtain ⟨h15, j14, ej14, h16, hF⟩ := gIx_e hF
        refine gr_aldA C 87 9 88 1 dX6_deal_51 (sc_87 hw) h15 ?_
        refine gr_nmR (show (88 + 1 * j14) = _ by rw [ej14]) ?_
        have hs17 : w.2.2.2[(88 + 1 * j14)]? = some (.inl (0, 10)) := ar_87 hw j14 h16
        refine gr_aload_n C 1 dX6_deal_52 rfl rfl ?_
        refine gr_getR C 82 5 107 dX6_deal_53 (sc_82 hw) rfl inX6 (by decide) ln26 rfl ?_
        refine gr_iload_n C 2 dX6_deal_56 rfl rfl ?_
        obtain ⟨h19, x18, ex18, hF⟩ := gRd_e hF
        refine gr_iald C 107 9 dX6_deal_57 (sc_107 hw) h19 ?_
        refine gr_nmI ex18 ?_
        obtain ⟨h21, x20, ex20, hF⟩ := gRd_e hF
        refine gr_iald C (88 + 1 * j14) 10 dX6_deal_58 hs17 h21 ?_
        refine gr_nmI ex20 ?_
        refine gr_iadd C dX6_deal_59 ?_
        obtain ⟨g22, eg22, hF⟩ := gLet_e hF
        refine gr_putI C 82 6 dX6_deal_60 (sc_82 hw) rfl inX6 (by decide) ln80 rfl tyX6 tyX6_ok nmX6 rfl .int rfl rfl rfl ?_
        refine gr_nmS eg22 ?_
        obtain ⟨x23, ex23, hF⟩ := gLet_e hF
        refine gr_iinc C (v := x23) 2 [(3, .int x23), (2, .int x13), (0, .ref (w.2.2.1 82))] dX6_deal_63 rfl (by rw [ex23]; rfl) (by decide) rfl ?_
        refine gr_goto C 9 dX6_deal_66 (by decide) ?_
        refine gr_sub [2, 1, 0] [(0, .ref (w.2.2.1 82)), (2, .int x13), (3, .int x23)] rfl ?_
        exact ih x13 x23 g22   hF
  refine L24 _ a0 (0 : Int32) g1   hF
-- X6_dealOut: 47 instructions, frames 4, locals 104
set_option maxRecDepth 100000 in
set_option maxHeartbeats 4000000 in
theorem mX6_dealOut (l : Launch) {w : Wl} (hw : w.2.2.2 = shC) {σ : Sg} {a1 : Int32} {a2 : Int32}  {σ' : Sg} (hF : fX6_dealOut σ a1 a2 = some σ') : gMV l w yX6_dealOut wsX6_dealOut ({ frames := 4, cells := 0, slots := 0, locals := 104 } : Room) [.ref (w.2.2.1 82), .ref (w.2.2.1 24), .int a1, .int a2] σ σ' := by
  have inX3 : ∀ v ∈ u_ws RX3 TX3 13, v ∈ wsX6_dealOut := by decide +kernel
  have inX6 : ∀ v ∈ u_ws RX6 TX6 7, v ∈ wsX6_dealOut := by decide +kernel
  have ln23 : Cond.fieldLink RX6 23 (TX6 4).1 (TX6 4).2.1 (TX6 4).2.2.1 ∈ wsX6_dealOut := by decide +kernel
  have ln30 : Cond.fieldLink RX6 30 (TX6 0).1 (TX6 0).2.1 (TX6 0).2.2.1 ∈ wsX6_dealOut := by decide +kernel
  have ln42 : Cond.fieldLink RX6 42 (TX3 9).1 (TX3 9).2.1 (TX3 9).2.2.1 ∈ wsX6_dealOut := by decide +kernel
  refine gStartV cX6_dealOut 6 RX6 rfl (by decide) rfl (Nat.le_of_ble_eq_true rfl) ?_
  intro X hl C
  show gG X w σ 0 [(0, .ref (w.2.2.1 82)), (1, .ref (w.2.2.1 24)), (2, .int a1), (3, .int a2)] []
  unfold fX6_dealOut at hF
  refine gr_iconst C (v := 0) dX6_dealOut_0 (by decide) ?_
  refine gr_istore C [(4, .int (0 : Int32)), (0, .ref (w.2.2.1 82)), (1, .ref (w.2.2.1 24)), (2, .int a1), (3, .int a2)] dX6_dealOut_1 (by decide) rfl ?_
  refine gr_sub [1, 2, 3, 4, 0] [(0, .ref (w.2.2.1 82)), (1, .ref (w.2.2.1 24)), (2, .int a1), (3, .int a2), (4, .int (0 : Int32))] rfl ?_
  have L8 : ∀ (n : Nat) (x2 : Int32) (g3 : Sg) (K1 : Sg → Option Sg), (∀  (g9 : Sg), K1  g9 = some σ' → gG X w g9 24 [(0, .ref (w.2.2.1 82)), (2, .int a1)] []) → fX6_dealOut_3 a2 n x2 g3 K1 = some σ' → gG X w g3 3 [(0, .ref (w.2.2.1 82)), (1, .ref (w.2.2.1 24)), (2, .int a1), (3, .int a2), (4, .int x2)] [] := by
    intro n
    induction n with
    | zero =>
      intro x2 g3 K1 hK1 hF
      rw [fX6_dealOut_3] at hF
      cases hF
    | succ n ih =>
      intro x2 g3 K1 hK1 hF
      rw [fX6_dealOut_3] at hF
      refine gr_iload C 4 dX6_dealOut_3 rfl ?_
      refine gr_bipush C (v := 9) dX6_dealOut_5 (by decide) ?_
      refine gr_icmp_gt C 24 dX6_dealOut_7 (by decide) (fun c4 => ?_) (fun c4 => ?_)
      · rw [if_pos c4] at hF
        refine gr_sub [0, 2] [(0, .ref (w.2.2.1 82)), (2, .int a1)] rfl ?_
        exact hK1  g3 hF
      · rw [if_neg c4] at hF
        refine gr_aload_n C 0 dX6_dealOut_10 rfl rfl ?_
        refine gr_aload_n C 1 dX6_dealOut_11 rfl rfl ?_
        refine gr_iload C 4 dX6_dealOut_12 rfl ?_
        refine gr_iload_n C 3 dX6_dealOut_14 rfl rfl ?_
        obtain ⟨g6, hc5, hF⟩ := gCv_e hF
        refine gr_callVV C (n := 3) (As := [.ref (w.2.2.1 24), .int x2, .int a2]) (rest := []) 82 (mX6_stayBy X.2.1 hw  hc5) gX6_dealOut_X6_stayBy rfl ⟨rfl, rfl⟩ ⟨by decide, by decide⟩ rfl (Nat.le_of_ble_eq_true rfl) rfl (by decide +kernel) (sc_82 hw) rfl dX6_dealOut_15 ?_
        obtain ⟨x7, ex7, hF⟩ := gLet_e hF
        refine gr_iinc C (v := x7) 4 [(4, .int x7), (0, .ref (w.2.2.1 82)), (1, .ref (w.2.2.1 24)), (2, .int a1), (3, .int a2)] dX6_dealOut_18 rfl (by rw [ex7]; rfl) (by decide) rfl ?_
        refine gr_goto C 3 dX6_dealOut_21 (by decide) ?_
        refine gr_sub [1, 2, 3, 4, 0] [(0, .ref (w.2.2.1 82)), (1, .ref (w.2.2.1 24)), (2, .int a1), (3, .int a2), (4, .int x7)] rfl ?_
        exact ih x7 g6 K1 hK1 hF
  refine L8 _ (0 : Int32) σ _ ?_ hF
  intro g10 hF
  try dsimp only at hF
  refine gr_aload_n C 0 dX6_dealOut_24 rfl rfl ?_
  refine gr_getR C 82 0 4 dX6_dealOut_25 (sc_82 hw) rfl inX6 (by decide) ln30 rfl ?_
  refine gr_getI C 4 9 dX6_dealOut_28 (sc_4 hw) rfl inX3 (by decide) ln42 rfl ?_
  refine gr_iconst C (v := 1) dX6_dealOut_31 (by decide) ?_
  refine gr_isub C dX6_dealOut_32 ?_
  obtain ⟨x11, ex11, hF⟩ := gLet_e hF
  refine gr_nmI ex11 ?_
  refine gr_istore C [(4, .int x11), (0, .ref (w.2.2.1 82)), (2, .int a1)] dX6_dealOut_33 (by decide) rfl ?_
  refine gr_sub [1, 2, 0] [(0, .ref (w.2.2.1 82)), (2, .int a1), (4, .int x11)] rfl ?_
  have L37 : ∀ (n : Nat) (x13 : Int32) (g14 : Sg) (K12 : Sg → Option Sg), (∀  (g38 : Sg), K12  g38 = some σ' → gG X w g38 87 [(0, .ref (w.2.2.1 82)), (2, .int a1)] []) → fX6_dealOut_35 a1 n x13 g14 K12 = some σ' → gG X w g14 35 [(0, .ref (w.2.2.1 82)), (2, .int a1), (4, .int x13)] [] := by
    intro n
    induction n with
    | zero =>
      intro x13 g14 K12 hK12 hF
      rw [fX6_dealOut_35] at hF
      cases hF
    | succ n ih =>
      intro x13 g14 K12 hK12 hF
      rw [fX6_dealOut_35] at hF
      refine gr_iload C 2 dX6_dealOut_35 rfl ?_
      refine gr_if_le C 87 dX6_dealOut_37 (by decide) (fun c15 => ?_) (fun c15 => ?_)
      · rw [if_pos c15] at hF
        refine gr_sub [0, 1] [(0, .ref (w.2.2.1 82)), (2, .int a1)] rfl ?_
        exact hK12  g14 hF
      · rw [if_neg c15] at hF
        refine gr_iconst C (v := 0) dX6_dealOut_40 (by decide) ?_
        refine gr_istore C [(5, .int (0 : Int32)), (0, .ref (w.2.2.1 82)), (2, .int a1), (4, .int x13)] dX6_dealOut_41 (by decide) rfl ?_
        refine gr_sub [1, 2, 3, 0] [(0, .ref (w.2.2.1 82)), (2, .int a1), (4, .int x13), (5, .int (0 : Int32))] rfl ?_
        have L33 : ∀ (n : Nat) (x17 : Int32) (g18 : Sg) (K16 : Sg → Option Sg), (∀  (g34 : Sg), K16  g34 = some σ' → gG X w g34 81 [(0, .ref (w.2.2.1 82)), (2, .int a1), (4, .int x13)] []) → fX6_dealOut_43 a1 x13 n x17 g18 K16 = some σ' → gG X w g18 43 [(0, .ref (w.2.2.1 82)), (2, .int a1), (4, .int x13), (5, .int x17)] [] := by
          intro n
          induction n with
          | zero =>
            intro x17 g18 K16 hK16 hF
            rw [fX6_dealOut_43] at hF
            cases hF
          | succ n ih =>
            intro x17 g18 K16 hK16 hF
            rw [fX6_dealOut_43] at hF
            refine gr_iload C 3 dX6_dealOut_43 rfl ?_
            refine gr_iload_n C 1 dX6_dealOut_45 rfl rfl ?_
            refine gr_icmp_gt C 81 dX6_dealOut_46 (by decide) (fun c19 => ?_) (fun c19 => ?_)
            · rw [if_pos c19] at hF
              refine gr_sub [0, 1, 2] [(0, .ref (w.2.2.1 82)), (2, .int a1), (4, .int x13)] rfl ?_
              exact hK16  g18 hF
            · rw [if_neg c19] at hF
              refine gr_aload_n C 0 dX6_dealOut_49 rfl rfl ?_
              refine gr_getR C 82 4 97 dX6_dealOut_50 (sc_82 hw) rfl inX6 (by decide) ln23 rfl ?_
              refine gr_iload C 2 dX6_dealOut_53 rfl ?_
              obtain ⟨h21, j20, ej20, h22, hF⟩ := gIx_e hF
              refine gr_aldA C 97 9 98 1 dX6_dealOut_55 (sc_97 hw) h21 ?_
              refine gr_nmR (show (98 + 1 * j20) = _ by rw [ej20]) ?_
              have hs23 : w.2.2.2[(98 + 1 * j20)]? = some (.inl (0, 100)) := ar_97 hw j20 h22
              refine gr_iload C 3 dX6_dealOut_56 rfl ?_
              refine gr_aload_n C 0 dX6_dealOut_58 rfl rfl ?_
              refine gr_iload C 2 dX6_dealOut_59 rfl ?_
              refine gr_iload C 3 dX6_dealOut_61 rfl ?_
              refine gr_aload_n C 0 dX6_dealOut_63 rfl rfl ?_
              refine gr_iload C 2 dX6_dealOut_64 rfl ?_
              refine gr_iload C 3 dX6_dealOut_66 rfl ?_
              obtain ⟨r26, g25, hc24, hF⟩ := gCl_e hF
              refine gr_callVI C (n := 2) (As := [.int x13, .int x17]) (rest := [.int x17, .int x13, .ref (w.2.2.1 82), .int x17, .ref (w.2.2.1 (98 + 1 * j20))]) 82 (mX6_bestShare X.2.1 hw  hc24) gX6_dealOut_X6_bestShare rfl ⟨rfl, rfl⟩ ⟨by decide, by decide⟩ rfl (Nat.le_of_ble_eq_true rfl) rfl (by decide +kernel) (sc_82 hw) rfl dX6_dealOut_68 ?_
              obtain ⟨r29, g28, hc27, hF⟩ := gCl_e hF
              refine gr_callVI C (n := 3) (As := [.int x13, .int x17, .int r26]) (rest := [.int x17, .ref (w.2.2.1 (98 + 1 * j20))]) 82 (mX6_worthOf X.2.1 hw  hc27) gX6_dealOut_X6_worthOf rfl ⟨rfl, rfl⟩ ⟨by decide, by decide⟩ rfl (Nat.le_of_ble_eq_true rfl) rfl (by decide +kernel) (sc_82 hw) rfl dX6_dealOut_71 ?_
              obtain ⟨h30, g31, eg31, hF⟩ := gWr_e hF
              refine gr_iast C (98 + 1 * j20) 100 dX6_dealOut_74 hs23 h30 ?_
              refine gr_nmS eg31 ?_
              obtain ⟨x32, ex32, hF⟩ := gLet_e hF
              refine gr_iinc C (v := x32) 3 [(5, .int x32), (0, .ref (w.2.2.1 82)), (2, .int a1), (4, .int x13)] dX6_dealOut_75 rfl (by rw [ex32]; rfl) (by decide) rfl ?_
              refine gr_goto C 43 dX6_dealOut_78 (by decide) ?_
              refine gr_sub [1, 2, 3, 0] [(0, .ref (w.2.2.1 82)), (2, .int a1), (4, .int x13), (5, .int x32)] rfl ?_
              exact ih x32 g31 K16 hK16 hF
        refine L33 _ (0 : Int32) g14 _ ?_ hF
        intro g35 hF
        try dsimp only at hF
        obtain ⟨x36, ex36, hF⟩ := gLet_e hF
        refine gr_iinc C (v := x36) 2 [(4, .int x36), (0, .ref (w.2.2.1 82)), (2, .int a1)] dX6_dealOut_81 rfl (by rw [ex36]; rfl) (by decide) rfl ?_
        refine gr_goto C 35 dX6_dealOut_84 (by decide) ?_
        refine gr_sub [1, 2, 0] [(0, .ref (w.2.2.1 82)), (2, .int a1), (4, .int x36)] rfl ?_
        exact ih x36 g35 K12 hK12 hF
  refine L37 _ x11 g10 _ ?_ hF
  intro g39 hF
  try dsimp only at hF
  refine gr_aload_n C 0 dX6_dealOut_87 rfl rfl ?_
  refine gr_iload_n C 1 dX6_dealOut_88 rfl rfl ?_
  obtain ⟨g41, hc40, hF⟩ := gCv_e hF
  refine gr_callVV C (n := 1) (As := [.int a1]) (rest := []) 82 (mX6_deal X.2.1 hw  hc40) gX6_dealOut_X6_deal rfl ⟨rfl, rfl⟩ ⟨by decide, by decide⟩ rfl (Nat.le_of_ble_eq_true rfl) rfl (by decide +kernel) (sc_82 hw) rfl dX6_dealOut_89 ?_
  cases hF
  exact gr_vret C dX6_dealOut_92 ⟨rfl, rfl⟩
-- X10_best: 39 instructions, frames 5, locals 129
set_option maxRecDepth 100000 in
set_option maxHeartbeats 4000000 in
theorem mX10_best (l : Launch) {w : Wl} (hw : w.2.2.2 = shC) {σ : Sg} {a0 : Int32} {a1 : Int32} {a2 : Int32}  {r : Int32} {σ' : Sg} (hF : fX10_best σ a0 a1 a2 = some (r, σ')) : gMI l w yX10_best wsX10_best ({ frames := 5, cells := 0, slots := 0, locals := 129 } : Room) [.ref (w.2.2.1 0), .int a0, .int a1, .int a2] σ r σ' := by
  have inX10 : ∀ v ∈ u_ws RX10 TX10 12, v ∈ wsX10_best := by decide +kernel
  have inX6 : ∀ v ∈ u_ws RX6 TX6 7, v ∈ wsX10_best := by decide +kernel
  have ln29 : Cond.fieldLink RX10 29 (TX10 3).1 (TX10 3).2.1 (TX10 3).2.2.1 ∈ wsX10_best := by decide +kernel
  have ln73 : Cond.fieldLink RX10 73 (TX10 9).1 (TX10 9).2.1 (TX10 9).2.2.1 ∈ wsX10_best := by decide +kernel
  have ln218 : Cond.fieldLink RX10 218 (TX6 6).1 (TX6 6).2.1 (TX6 6).2.2.1 ∈ wsX10_best := by decide +kernel
  have ln221 : Cond.fieldLink RX10 221 (TX6 5).1 (TX6 5).2.1 (TX6 5).2.2.1 ∈ wsX10_best := by decide +kernel
  refine gStartI cX10_best 4 RX10 rfl (by decide) rfl (Nat.le_of_ble_eq_true rfl) ?_
  intro X hl C
  show gG X w σ 0 [(0, .ref (w.2.2.1 0)), (1, .int a0), (2, .int a1), (3, .int a2)] []
  unfold fX10_best at hF
  refine gr_iload_n C 1 dX10_best_0 rfl rfl ?_
  refine gr_iconst C (v := 0) dX10_best_1 (by decide) ?_
  refine gr_bipush C (v := 99) dX10_best_2 (by decide) ?_
  obtain ⟨r3, g2, hc1, hF⟩ := gCl_e hF
  refine gr_callSI C (n := 3) (As := [.int a0, .int (0 : Int32), .int (99 : Int32)]) (rest := []) (mX10_outside X.2.1 hw  hc1) gX10_best_X10_outside rfl ⟨rfl, rfl⟩ ⟨by decide, by decide⟩ rfl (Nat.le_of_ble_eq_true rfl) rfl (by decide +kernel) dX10_best_4 ?_
  refine gr_if_ne C 33 dX10_best_7 (by decide) (fun c4 => ?_) (fun c4 => ?_)
  · rw [if_neg c4] at hF
    refine gr_sub [] [] rfl ?_
    refine gr_iconst C (v := -1) dX10_best_33 (by decide) ?_
    cases hF
    exact gr_iret C dX10_best_34 ⟨rfl, rfl⟩
  · rw [if_pos c4] at hF
    refine gr_iload_n C 2 dX10_best_10 rfl rfl ?_
    refine gr_iconst C (v := 1) dX10_best_11 (by decide) ?_
    refine gr_bipush C (v := 20) dX10_best_12 (by decide) ?_
    obtain ⟨r7, g6, hc5, hF⟩ := gCl_e hF
    refine gr_callSI C (n := 3) (As := [.int a1, .int (1 : Int32), .int (20 : Int32)]) (rest := []) (mX10_outside X.2.1 hw  hc5) gX10_best_X10_outside rfl ⟨rfl, rfl⟩ ⟨by decide, by decide⟩ rfl (Nat.le_of_ble_eq_true rfl) rfl (by decide +kernel) dX10_best_14 ?_
    refine gr_if_ne C 33 dX10_best_17 (by decide) (fun c8 => ?_) (fun c8 => ?_)
    · rw [if_neg c8] at hF
      refine gr_sub [] [] rfl ?_
      refine gr_iconst C (v := -1) dX10_best_33 (by decide) ?_
      cases hF
      exact gr_iret C dX10_best_34 ⟨rfl, rfl⟩
    · rw [if_pos c8] at hF
      refine gr_iload_n C 3 dX10_best_20 rfl rfl ?_
      refine gr_iconst C (v := -1) dX10_best_21 (by decide) ?_
      obtain ⟨K9, eK9, hF⟩ := gLet_e hF
      have JK9 : ∀  (g10 : Sg), K9  g10 = some (r, σ') → gG X w g10 35 [(0, .ref (w.2.2.1 0)), (1, .int a0), (2, .int a1), (3, .int a2)] [] := by
        intro g10 hF
        rw [eK9] at hF
        try dsimp only at hF
        refine gr_aload_n C 0 dX10_best_35 rfl rfl ?_
        refine gr_getR C 0 9 82 dX10_best_36 (sc_0 hw) rfl inX10 (by decide) ln73 rfl ?_
        refine gr_aload_n C 0 dX10_best_39 rfl rfl ?_
        refine gr_getR C 0 3 24 dX10_best_40 (sc_0 hw) rfl inX10 (by decide) ln29 rfl ?_
        refine gr_iload_n C 1 dX10_best_43 rfl rfl ?_
        refine gr_iload_n C 2 dX10_best_44 rfl rfl ?_
        obtain ⟨g12, hc11, hF⟩ := gCv_e hF
        refine gr_callVV C (n := 3) (As := [.ref (w.2.2.1 24), .int a0, .int a1]) (rest := []) 82 (mX6_dealOut X.2.1 hw  hc11) gX10_best_X6_dealOut rfl ⟨rfl, rfl⟩ ⟨by decide, by decide⟩ rfl (Nat.le_of_ble_eq_true rfl) rfl (by decide +kernel) (sc_82 hw) rfl dX10_best_45 ?_
        refine gr_iload_n C 3 dX10_best_48 rfl rfl ?_
        refine gr_iconst C (v := -1) dX10_best_49 (by decide) ?_
        refine gr_icmp_ne C 63 dX10_best_50 (by decide) (fun c13 => ?_) (fun c13 => ?_)
        · rw [if_neg c13] at hF
          refine gr_sub [0, 3] [(0, .ref (w.2.2.1 0)), (3, .int a2)] rfl ?_
          refine gr_aload_n C 0 dX10_best_63 rfl rfl ?_
          refine gr_getR C 0 9 82 dX10_best_64 (sc_0 hw) rfl inX10 (by decide) ln73 rfl ?_
          refine gr_getR C 82 5 107 dX10_best_67 (sc_82 hw) rfl inX6 (by decide) ln221 rfl ?_
          refine gr_iload_n C 1 dX10_best_70 rfl rfl ?_
          obtain ⟨h15, x14, ex14, hF⟩ := gRd_e hF
          refine gr_iald C 107 9 dX10_best_71 (sc_107 hw) h15 ?_
          refine gr_nmI ex14 ?_
          cases hF
          exact gr_iret C dX10_best_72 ⟨rfl, rfl⟩
        · rw [if_pos c13] at hF
          refine gr_sub [0] [(0, .ref (w.2.2.1 0))] rfl ?_
          refine gr_aload_n C 0 dX10_best_53 rfl rfl ?_
          refine gr_getR C 0 9 82 dX10_best_54 (sc_0 hw) rfl inX10 (by decide) ln73 rfl ?_
          refine gr_getI C 82 6 dX10_best_57 (sc_82 hw) rfl inX6 (by decide) ln218 rfl ?_
          refine gr_goto C 72 dX10_best_60 (by decide) ?_
          refine gr_sub [] [] rfl ?_
          cases hF
          exact gr_iret C dX10_best_72 ⟨rfl, rfl⟩
      refine gr_icmp_eq C 35 dX10_best_22 (by decide) (fun c16 => ?_) (fun c16 => ?_)
      · rw [if_pos c16] at hF
        exact JK9  g6 hF
      · rw [if_neg c16] at hF
        refine gr_aload_n C 0 dX10_best_25 rfl rfl ?_
        refine gr_iload_n C 3 dX10_best_26 rfl rfl ?_
        obtain ⟨r19, g18, hc17, hF⟩ := gCl_e hF
        refine gr_callVI C (n := 1) (As := [.int a2]) (rest := []) 0 (mX10_noStep X.2.1 hw  hc17) gX10_best_X10_noStep rfl ⟨rfl, rfl⟩ ⟨by decide, by decide⟩ rfl (Nat.le_of_ble_eq_true rfl) rfl (by decide +kernel) (sc_0 hw) rfl dX10_best_27 ?_
        refine gr_if_eq C 35 dX10_best_30 (by decide) (fun c20 => ?_) (fun c20 => ?_)
        · rw [if_pos c20] at hF
          exact JK9  g18 hF
        · rw [if_neg c20] at hF
          refine gr_sub [] [] rfl ?_
          refine gr_iconst C (v := -1) dX10_best_33 (by decide) ?_
          cases hF
          exact gr_iret C dX10_best_34 ⟨rfl, rfl⟩
-- X9_notGone: 22 instructions, frames 0, locals 0
set_option maxRecDepth 100000 in
set_option maxHeartbeats 4000000 in
theorem mX9_notGone (l : Launch) {w : Wl} (hw : w.2.2.2 = shC) {σ : Sg} {t : Nat} (ht : gSt w t) {r : Int32} {σ' : Sg} (hF : fX9_notGone σ t = some (r, σ')) : gMI l w yX9_notGone wsX9_notGone ({ frames := 0, cells := 0, slots := 0, locals := 0 } : Room) [.ref (w.2.2.1 t)] σ r σ' := by
  have inX9 : ∀ v ∈ u_ws RX9 TX9 5, v ∈ wsX9_notGone := by decide +kernel
  have ln18 : Cond.fieldLink RX9 18 (TX9 2).1 (TX9 2).2.1 (TX9 2).2.2.1 ∈ wsX9_notGone := by decide +kernel
  refine gStartI cX9_notGone 3 RX9 rfl (by decide) rfl (Nat.le_of_ble_eq_true rfl) ?_
  intro X hl C
  show gG X w σ 0 [(0, .ref (w.2.2.1 t))] []
  unfold fX9_notGone at hF
  refine gr_iconst C (v := 0) dX9_notGone_0 (by decide) ?_
  refine gr_istore_n C [(1, .int (0 : Int32)), (0, .ref (w.2.2.1 t))] dX9_notGone_1 rfl (by decide) rfl ?_
  refine gr_iconst C (v := 0) dX9_notGone_2 (by decide) ?_
  refine gr_istore_n C [(2, .int (0 : Int32)), (1, .int (0 : Int32)), (0, .ref (w.2.2.1 t))] dX9_notGone_3 rfl (by decide) rfl ?_
  refine gr_sub [2, 1, 0] [(0, .ref (w.2.2.1 t)), (1, .int (0 : Int32)), (2, .int (0 : Int32))] rfl ?_
  have L13 : ∀ (n : Nat) (x1 : Int32) (x2 : Int32) (g3 : Sg) , fX9_notGone_4 t n x1 x2 g3  = some (r, σ') → gG X w g3 4 [(0, .ref (w.2.2.1 t)), (1, .int x1), (2, .int x2)] [] := by
    intro n
    induction n with
    | zero =>
      intro x1 x2 g3 hF
      rw [fX9_notGone_4] at hF
      cases hF
    | succ n ih =>
      intro x1 x2 g3 hF
      rw [fX9_notGone_4] at hF
      refine gr_iload_n C 2 dX9_notGone_4 rfl rfl ?_
      refine gr_bipush C (v := 8) dX9_notGone_5 (by decide) ?_
      refine gr_icmp_ge C 33 dX9_notGone_7 (by decide) (fun c4 => ?_) (fun c4 => ?_)
      · rw [if_pos c4] at hF
        refine gr_sub [1] [(1, .int x1)] rfl ?_
        refine gr_iload_n C 0 dX9_notGone_33 rfl rfl ?_
        refine gr_sub [] [] rfl ?_
        cases hF
        exact gr_iret C dX9_notGone_34 ⟨rfl, rfl⟩
      · rw [if_neg c4] at hF
        refine gr_iload_n C 1 dX9_notGone_10 rfl rfl ?_
        refine gr_aload_n C 0 dX9_notGone_11 rfl rfl ?_
        refine gr_getR C t 2 (t + 3) dX9_notGone_12 ht.1 rfl inX9 (by decide) ln18 rfl ?_
        refine gr_iload_n C 2 dX9_notGone_15 rfl rfl ?_
        obtain ⟨h6, x5, ex5, hF⟩ := gRd_e hF
        refine gr_iald C (t + 3) 8 dX9_notGone_16 ht.2.2.2 h6 ?_
        refine gr_nmI ex5 ?_
        obtain ⟨K7, eK7, hF⟩ := gLet_e hF
        have JK7 : ∀ (x8 : Int32) (g9 : Sg), K7 x8 g9 = some (r, σ') → gG X w g9 25 [(0, .ref (w.2.2.1 t)), (2, .int x2)] [.int x8, .int x1] := by
          intro x8 g9 hF
          rw [eK7] at hF
          try dsimp only at hF
          refine gr_iadd C dX9_notGone_25 ?_
          obtain ⟨x10, ex10, hF⟩ := gLet_e hF
          refine gr_nmI ex10 ?_
          refine gr_istore_n C [(1, .int x10), (0, .ref (w.2.2.1 t)), (2, .int x2)] dX9_notGone_26 rfl (by decide) rfl ?_
          obtain ⟨x11, ex11, hF⟩ := gLet_e hF
          refine gr_iinc C (v := x11) 2 [(2, .int x11), (1, .int x10), (0, .ref (w.2.2.1 t))] dX9_notGone_27 rfl (by rw [ex11]; rfl) (by decide) rfl ?_
          refine gr_goto C 4 dX9_notGone_30 (by decide) ?_
          refine gr_sub [2, 1, 0] [(0, .ref (w.2.2.1 t)), (1, .int x10), (2, .int x11)] rfl ?_
          exact ih x10 x11 g9   hF
        refine gr_if_le C 24 dX9_notGone_17 (by decide) (fun c12 => ?_) (fun c12 => ?_)
        · rw [if_pos c12] at hF
          refine gr_sub [0, 2] [(0, .ref (w.2.2.1 t)), (2, .int x2)] rfl ?_
          refine gr_iconst C (v := 0) dX9_notGone_24 (by decide) ?_
          exact JK7 (0 : Int32) g3 hF
        · rw [if_neg c12] at hF
          refine gr_sub [0, 2] [(0, .ref (w.2.2.1 t)), (2, .int x2)] rfl ?_
          refine gr_iconst C (v := 1) dX9_notGone_20 (by decide) ?_
          refine gr_goto C 25 dX9_notGone_21 (by decide) ?_
          exact JK7 (1 : Int32) g3 hF
  refine L13 _ (0 : Int32) (0 : Int32) σ   hF
