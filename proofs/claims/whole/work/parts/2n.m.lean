-- X11_forget: 8 instructions, frames 0, locals 0
set_option maxRecDepth 100000 in
set_option maxHeartbeats 4000000 in
theorem mX11_forget (l : Launch) {w : Wl} (hw : w.2.2.2 = shM) {σ : Sg}   {r : Int32} {σ' : Sg} (hF : fX11_forget σ  = some (r, σ')) : gMI l w yX11_forget wsX11_forget ({ frames := 0, cells := 0, slots := 0, locals := 0 } : Room) [.ref (w.2.2.1 0)] σ r σ' := by
  have inX11 : ∀ v ∈ u_ws RX11 TX11 32, v ∈ wsX11_forget := by decide +kernel
  have ln154 : Cond.fieldLink RX11 154 (TX11 23).1 (TX11 23).2.1 (TX11 23).2.2.1 ∈ wsX11_forget := by decide +kernel
  refine gStartI cX11_forget 2 RX11 rfl (by decide) rfl (Nat.le_of_ble_eq_true rfl) ?_
  intro X hl C
  show gG X w σ 0 [(0, .ref (w.2.2.1 0))] []
  unfold fX11_forget at hF
  refine gr_aload_n C 0 dX11_forget_0 rfl rfl ?_
  refine gr_getI C 0 23 dX11_forget_1 (scm_0 hw) rfl inX11 (by decide) ln154 rfl ?_
  obtain ⟨x1, ex1, hF⟩ := gLet_e hF
  refine gr_nmI ex1 ?_
  refine gr_istore_n C [(1, .int x1), (0, .ref (w.2.2.1 0))] dX11_forget_4 rfl (by decide) rfl ?_
  refine gr_aload_n C 1 dX11_forget_5 rfl rfl ?_
  refine gr_iconst C (v := 0) dX11_forget_6 (by decide) ?_
  obtain ⟨g2, eg2, hF⟩ := gLet_e hF
  refine gr_putI C 0 23 dX11_forget_7 (scm_0 hw) rfl inX11 (by decide) ln154 rfl tyX11 tyX11_ok nmX11 rfl .int rfl rfl rfl ?_
  refine gr_nmS eg2 ?_
  refine gr_iload_n C 0 dX11_forget_10 rfl rfl ?_
  cases hF
  exact gr_iret C dX11_forget_11 ⟨rfl, rfl⟩
-- X11_isSo: 30 instructions, frames 0, locals 0
set_option maxRecDepth 100000 in
set_option maxHeartbeats 4000000 in
theorem mX11_isSo (l : Launch) {w : Wl} (hw : w.2.2.2 = shM) {σ : Sg} {a0 : Int32} {a1 : Int32}  {r : Int32} {σ' : Sg} (hF : fX11_isSo σ a0 a1 = some (r, σ')) : gMI l w yX11_isSo wsX11_isSo ({ frames := 0, cells := 0, slots := 0, locals := 0 } : Room) [.ref (w.2.2.1 0), .int a0, .int a1] σ r σ' := by
  have inX11 : ∀ v ∈ u_ws RX11 TX11 32, v ∈ wsX11_isSo := by decide +kernel
  have ln44 : Cond.fieldLink RX11 44 (TX11 24).1 (TX11 24).2.1 (TX11 24).2.2.1 ∈ wsX11_isSo := by decide +kernel
  have ln47 : Cond.fieldLink RX11 47 (TX11 25).1 (TX11 25).2.1 (TX11 25).2.2.1 ∈ wsX11_isSo := by decide +kernel
  have ln154 : Cond.fieldLink RX11 154 (TX11 23).1 (TX11 23).2.1 (TX11 23).2.2.1 ∈ wsX11_isSo := by decide +kernel
  refine gStartZ cX11_isSo 5 RX11 rfl (by decide) rfl (Nat.le_of_ble_eq_true rfl) ?_
  intro X hl C
  show gG X w σ 0 [(0, .ref (w.2.2.1 0)), (1, .int a0), (2, .int a1)] []
  unfold fX11_isSo at hF
  refine gr_iconst C (v := 1) dX11_isSo_0 (by decide) ?_
  refine gr_istore_n C [(3, .int (1 : Int32)), (0, .ref (w.2.2.1 0)), (1, .int a0), (2, .int a1)] dX11_isSo_1 rfl (by decide) rfl ?_
  refine gr_iconst C (v := 0) dX11_isSo_2 (by decide) ?_
  refine gr_istore C [(4, .int (0 : Int32)), (3, .int (1 : Int32)), (0, .ref (w.2.2.1 0)), (1, .int a0), (2, .int a1)] dX11_isSo_3 (by decide) rfl ?_
  refine gr_sub [2, 3, 4, 1, 0] [(0, .ref (w.2.2.1 0)), (1, .int a0), (2, .int a1), (3, .int (1 : Int32)), (4, .int (0 : Int32))] rfl ?_
  have L21 : ∀ (n : Nat) (x1 : Int32) (x2 : Int32) (g3 : Sg) , fX11_isSo_5 a0 a1 n x1 x2 g3  = some (r, σ') → gG X w g3 5 [(0, .ref (w.2.2.1 0)), (1, .int a0), (2, .int a1), (3, .int x1), (4, .int x2)] [] := by
    intro n
    induction n with
    | zero =>
      intro x1 x2 g3 hF
      rw [fX11_isSo_5] at hF
      cases hF
    | succ n ih =>
      intro x1 x2 g3 hF
      rw [fX11_isSo_5] at hF
      refine gr_iload C 4 dX11_isSo_5 rfl ?_
      refine gr_aload_n C 0 dX11_isSo_7 rfl rfl ?_
      refine gr_getI C 0 23 dX11_isSo_8 (scm_0 hw) rfl inX11 (by decide) ln154 rfl ?_
      refine gr_icmp_ge C 52 dX11_isSo_11 (by decide) (fun c4 => ?_) (fun c4 => ?_)
      · rw [if_pos c4] at hF
        refine gr_sub [3] [(3, .int x1)] rfl ?_
        refine gr_iload_n C 0 dX11_isSo_52 rfl rfl ?_
        refine gr_sub [] [] rfl ?_
        obtain ⟨h5, hF⟩ := gZ_e hF
        cases hF
        exact gr_zret C dX11_isSo_53 h5.1 ⟨rfl, rfl⟩
      · rw [if_neg c4] at hF
        refine gr_iload_n C 3 dX11_isSo_14 rfl rfl ?_
        obtain ⟨K6, eK6, hF⟩ := gLet_e hF
        have JK6 : ∀ (x7 : Int32) (g8 : Sg), K6 x7 g8 = some (r, σ') → gG X w g8 45 [(0, .ref (w.2.2.1 0)), (1, .int a0), (2, .int a1), (4, .int x2)] [.int x7] := by
          intro x7 g8 hF
          rw [eK6] at hF
          try dsimp only at hF
          refine gr_istore_n C [(3, .int x7), (0, .ref (w.2.2.1 0)), (1, .int a0), (2, .int a1), (4, .int x2)] dX11_isSo_45 rfl (by decide) rfl ?_
          obtain ⟨x9, ex9, hF⟩ := gLet_e hF
          refine gr_iinc C (v := x9) 4 [(4, .int x9), (3, .int x7), (0, .ref (w.2.2.1 0)), (1, .int a0), (2, .int a1)] dX11_isSo_46 rfl (by rw [ex9]; rfl) (by decide) rfl ?_
          refine gr_goto C 5 dX11_isSo_49 (by decide) ?_
          refine gr_sub [2, 3, 4, 1, 0] [(0, .ref (w.2.2.1 0)), (1, .int a0), (2, .int a1), (3, .int x7), (4, .int x9)] rfl ?_
          exact ih x7 x9 g8   hF
        obtain ⟨K10, eK10, hF⟩ := gLet_e hF
        have JK10 : ∀  (g11 : Sg), K10  g11 = some (r, σ') → gG X w g11 44 [(0, .ref (w.2.2.1 0)), (1, .int a0), (2, .int a1), (4, .int x2)] [] := by
          intro g11 hF
          rw [eK10] at hF
          try dsimp only at hF
          refine gr_iconst C (v := 0) dX11_isSo_44 (by decide) ?_
          exact JK6 (0 : Int32) g11 hF
        refine gr_if_eq C 44 dX11_isSo_15 (by decide) (fun c12 => ?_) (fun c12 => ?_)
        · rw [if_pos c12] at hF
          refine gr_sub [0, 1, 2, 4] [(0, .ref (w.2.2.1 0)), (1, .int a0), (2, .int a1), (4, .int x2)] rfl ?_
          exact JK10  g3 hF
        · rw [if_neg c12] at hF
          refine gr_sub [0, 1, 2, 4] [(0, .ref (w.2.2.1 0)), (1, .int a0), (2, .int a1), (4, .int x2)] rfl ?_
          refine gr_aload_n C 0 dX11_isSo_18 rfl rfl ?_
          refine gr_getR C 0 24 12 dX11_isSo_19 (scm_0 hw) rfl inX11 (by decide) ln44 rfl ?_
          refine gr_iload C 3 dX11_isSo_22 rfl ?_
          obtain ⟨h14, x13, ex13, hF⟩ := gRd_e hF
          refine gr_iald C 12 6 dX11_isSo_24 (scm_12 hw) h14 ?_
          refine gr_nmI ex13 ?_
          refine gr_iload_n C 1 dX11_isSo_25 rfl rfl ?_
          obtain ⟨K15, eK15, hF⟩ := gLet_e hF
          have JK15 : ∀  (g16 : Sg), K15  g16 = some (r, σ') → gG X w g16 40 [(0, .ref (w.2.2.1 0)), (1, .int a0), (2, .int a1), (4, .int x2)] [] := by
            intro g16 hF
            rw [eK15] at hF
            try dsimp only at hF
            refine gr_iconst C (v := 1) dX11_isSo_40 (by decide) ?_
            refine gr_goto C 45 dX11_isSo_41 (by decide) ?_
            exact JK6 (1 : Int32) g16 hF
          refine gr_icmp_ne C 40 dX11_isSo_26 (by decide) (fun c17 => ?_) (fun c17 => ?_)
          · rw [if_neg c17] at hF
            exact JK15  g3 hF
          · rw [if_pos c17] at hF
            refine gr_aload_n C 0 dX11_isSo_29 rfl rfl ?_
            refine gr_getR C 0 25 13 dX11_isSo_30 (scm_0 hw) rfl inX11 (by decide) ln47 rfl ?_
            refine gr_iload C 3 dX11_isSo_33 rfl ?_
            obtain ⟨h19, x18, ex18, hF⟩ := gRd_e hF
            refine gr_iald C 13 6 dX11_isSo_35 (scm_13 hw) h19 ?_
            refine gr_nmI ex18 ?_
            refine gr_iload_n C 2 dX11_isSo_36 rfl rfl ?_
            refine gr_icmp_ne C 44 dX11_isSo_37 (by decide) (fun c20 => ?_) (fun c20 => ?_)
            · rw [if_neg c20] at hF
              exact JK10  g3 hF
            · rw [if_pos c20] at hF
              exact JK15  g3 hF
  refine L21 _ (1 : Int32) (0 : Int32) σ   hF
-- X11_within: 82 instructions, frames 2, locals 51
set_option maxRecDepth 100000 in
set_option maxHeartbeats 4000000 in
theorem mX11_within (l : Launch) {w : Wl} (hw : w.2.2.2 = shM) {σ : Sg} {a0 : Int32} {a1 : Int32}  {r : Int32} {σ' : Sg} (hF : fX11_within σ a0 a1 = some (r, σ')) : gMI l w yX11_within wsX11_within ({ frames := 2, cells := 0, slots := 0, locals := 51 } : Room) [.ref (w.2.2.1 0), .int a0, .int a1] σ r σ' := by
  have inX11 : ∀ v ∈ u_ws RX11 TX11 32, v ∈ wsX11_within := by decide +kernel
  have ln37 : Cond.fieldLink RX11 37 (TX11 15).1 (TX11 15).2.1 (TX11 15).2.2.1 ∈ wsX11_within := by decide +kernel
  have ln94 : Cond.fieldLink RX11 94 (TX11 2).1 (TX11 2).2.1 (TX11 2).2.2.1 ∈ wsX11_within := by decide +kernel
  refine gStartI cX11_within 8 RX11 rfl (by decide) rfl (Nat.le_of_ble_eq_true rfl) ?_
  intro X hl C
  show gG X w σ 0 [(0, .ref (w.2.2.1 0)), (1, .int a0), (2, .int a1)] []
  unfold fX11_within at hF
  refine gr_aload_n C 0 dX11_within_0 rfl rfl ?_
  refine gr_iload_n C 1 dX11_within_1 rfl rfl ?_
  obtain ⟨r3, g2, hc1, hF⟩ := gCl_e hF
  refine gr_callVI C (n := 1) (As := [.int a0]) (rest := []) 0 (mX11_isStep X.2.1 hw  hc1) gX11_within_X11_isStep rfl ⟨rfl, rfl⟩ ⟨by decide, by decide⟩ rfl (Nat.le_of_ble_eq_true rfl) rfl (by decide +kernel) (scm_0 hw) rfl dX11_within_2 ?_
  refine gr_if_eq C 18 dX11_within_5 (by decide) (fun c4 => ?_) (fun c4 => ?_)
  · rw [if_pos c4] at hF
    refine gr_sub [] [] rfl ?_
    refine gr_iconst C (v := -1) dX11_within_18 (by decide) ?_
    cases hF
    exact gr_iret C dX11_within_19 ⟨rfl, rfl⟩
  · rw [if_neg c4] at hF
    refine gr_iload_n C 2 dX11_within_8 rfl rfl ?_
    refine gr_i2l C dX11_within_9 ?_
    refine gr_lconst C (v := 0) dX11_within_10 (by decide) ?_
    refine gr_lconst C (v := 1) dX11_within_11 (by decide) ?_
    obtain ⟨r7, g6, hc5, hF⟩ := gCl_e hF
    refine gr_callSI C (n := 3) (As := [.long (a1.toInt64), .long (0 : Int64), .long (1 : Int64)]) (rest := []) (mX11_in X.2.1 hw  hc5) gX11_within_X11_in rfl ⟨rfl, rfl⟩ ⟨by decide, by decide⟩ rfl (Nat.le_of_ble_eq_true rfl) rfl (by decide +kernel) dX11_within_12 ?_
    refine gr_if_ne C 20 dX11_within_15 (by decide) (fun c8 => ?_) (fun c8 => ?_)
    · rw [if_neg c8] at hF
      refine gr_aload_n C 0 dX11_within_20 rfl rfl ?_
      refine gr_iconst C (v := 0) dX11_within_21 (by decide) ?_
      refine gr_iload_n C 1 dX11_within_22 rfl rfl ?_
      obtain ⟨r11, g10, hc9, hF⟩ := gCl_e hF
      refine gr_callVI C (n := 2) (As := [.int (0 : Int32), .int a0]) (rest := []) 0 (mX11_thereAt X.2.1 hw  hc9) gX11_within_X11_thereAt rfl ⟨rfl, rfl⟩ ⟨by decide, by decide⟩ rfl (Nat.le_of_ble_eq_true rfl) rfl (by decide +kernel) (scm_0 hw) rfl dX11_within_23 ?_
      refine gr_istore_n C [(3, .int r11), (0, .ref (w.2.2.1 0)), (1, .int a0), (2, .int a1)] dX11_within_26 rfl (by decide) rfl ?_
      refine gr_iconst C (v := 0) dX11_within_27 (by decide) ?_
      refine gr_istore C [(4, .int (0 : Int32)), (3, .int r11), (0, .ref (w.2.2.1 0)), (1, .int a0), (2, .int a1)] dX11_within_28 (by decide) rfl ?_
      refine gr_bipush C (v := -4) dX11_within_30 (by decide) ?_
      refine gr_istore C [(5, .int (-4 : Int32)), (4, .int (0 : Int32)), (3, .int r11), (0, .ref (w.2.2.1 0)), (1, .int a0), (2, .int a1)] dX11_within_32 (by decide) rfl ?_
      refine gr_iconst C (v := 1) dX11_within_34 (by decide) ?_
      refine gr_aload_n C 3 dX11_within_35 rfl rfl ?_
      refine gr_getI C 0 2 dX11_within_36 (scm_0 hw) rfl inX11 (by decide) ln94 rfl ?_
      refine gr_ishl C dX11_within_39 ?_
      refine gr_iconst C (v := 1) dX11_within_40 (by decide) ?_
      refine gr_isub C dX11_within_41 ?_
      obtain ⟨x12, ex12, hF⟩ := gLet_e hF
      refine gr_nmI ex12 ?_
      refine gr_istore C [(6, .int x12), (5, .int (-4 : Int32)), (4, .int (0 : Int32)), (3, .int r11), (0, .ref (w.2.2.1 0)), (1, .int a0), (2, .int a1)] dX11_within_42 (by decide) rfl ?_
      refine gr_sub [4, 5, 6, 3, 2, 1, 0] [(0, .ref (w.2.2.1 0)), (1, .int a0), (2, .int a1), (3, .int r11), (4, .int (0 : Int32)), (5, .int (-4 : Int32)), (6, .int x12)] rfl ?_
      have L46 : ∀ (n : Nat) (x14 : Int32) (x15 : Int32) (x16 : Int32) (g17 : Sg) (K13 : Int32 → Int32 → Sg → Option (Int32 × Sg)), (∀ (x47 : Int32) (x48 : Int32) (g49 : Sg), K13 x47 x48 g49 = some (r, σ') → gG X w g49 133 [(2, .int a1), (4, .int x47), (5, .int x48)] []) → fX11_within_44 a0 r11 n x14 x15 x16 g17 K13 = some (r, σ') → gG X w g17 44 [(0, .ref (w.2.2.1 0)), (1, .int a0), (2, .int a1), (3, .int r11), (4, .int x14), (5, .int x15), (6, .int x16)] [] := by
        intro n
        induction n with
        | zero =>
          intro x14 x15 x16 g17 K13 hK13 hF
          rw [fX11_within_44] at hF
          cases hF
        | succ n ih =>
          intro x14 x15 x16 g17 K13 hK13 hF
          rw [fX11_within_44] at hF
          refine gr_iload C 6 dX11_within_44 rfl ?_
          refine gr_if_lt C 133 dX11_within_46 (by decide) (fun c18 => ?_) (fun c18 => ?_)
          · rw [if_pos c18] at hF
            refine gr_sub [2, 4, 5] [(2, .int a1), (4, .int x14), (5, .int x15)] rfl ?_
            exact hK13 x14 x15 g17 hF
          · rw [if_neg c18] at hF
            refine gr_iload C 6 dX11_within_49 rfl ?_
            refine gr_iload_n C 3 dX11_within_51 rfl rfl ?_
            refine gr_iconst C (v := -1) dX11_within_52 (by decide) ?_
            refine gr_ixor C dX11_within_53 ?_
            refine gr_iand C dX11_within_54 ?_
            obtain ⟨K19, eK19, hF⟩ := gLet_e hF
            have JK19 : ∀ (x20 : Int32) (g21 : Sg), K19 x20 g21 = some (r, σ') → gG X w g21 96 [(0, .ref (w.2.2.1 0)), (1, .int a0), (2, .int a1), (3, .int r11), (4, .int x14), (5, .int x15), (6, .int x16)] [.int x20] := by
              intro x20 g21 hF
              rw [eK19] at hF
              try dsimp only at hF
              refine gr_istore C [(7, .int x20), (0, .ref (w.2.2.1 0)), (1, .int a0), (2, .int a1), (3, .int r11), (4, .int x14), (5, .int x15), (6, .int x16)] dX11_within_96 (by decide) rfl ?_
              refine gr_iload C 5 dX11_within_98 rfl ?_
              refine gr_iload C 0 dX11_within_100 rfl ?_
              obtain ⟨K22, eK22, hF⟩ := gLet_e hF
              have JK22 : ∀ (x23 : Int32) (g24 : Sg), K22 x23 g24 = some (r, σ') → gG X w g24 110 [(0, .ref (w.2.2.1 0)), (1, .int a0), (2, .int a1), (3, .int r11), (5, .int x15), (6, .int x16), (7, .int x20)] [.int x23, .int x14] := by
                intro x23 g24 hF
                rw [eK22] at hF
                try dsimp only at hF
                refine gr_iadd C dX11_within_110 ?_
                obtain ⟨x25, ex25, hF⟩ := gLet_e hF
                refine gr_nmI ex25 ?_
                refine gr_istore C [(4, .int x25), (0, .ref (w.2.2.1 0)), (1, .int a0), (2, .int a1), (3, .int r11), (5, .int x15), (6, .int x16), (7, .int x20)] dX11_within_111 (by decide) rfl ?_
                refine gr_iload C 7 dX11_within_113 rfl ?_
                obtain ⟨K26, eK26, hF⟩ := gLet_e hF
                have JK26 : ∀ (x27 : Int32) (g28 : Sg), K26 x27 g28 = some (r, σ') → gG X w g28 125 [(0, .ref (w.2.2.1 0)), (1, .int a0), (2, .int a1), (3, .int r11), (4, .int x25), (6, .int x16)] [.int x27] := by
                  intro x27 g28 hF
                  rw [eK26] at hF
                  try dsimp only at hF
                  refine gr_istore C [(5, .int x27), (0, .ref (w.2.2.1 0)), (1, .int a0), (2, .int a1), (3, .int r11), (4, .int x25), (6, .int x16)] dX11_within_125 (by decide) rfl ?_
                  obtain ⟨x29, ex29, hF⟩ := gLet_e hF
                  refine gr_iinc C (v := x29) 6 [(6, .int x29), (5, .int x27), (0, .ref (w.2.2.1 0)), (1, .int a0), (2, .int a1), (3, .int r11), (4, .int x25)] dX11_within_127 rfl (by rw [ex29]; rfl) (by decide) rfl ?_
                  refine gr_goto C 44 dX11_within_130 (by decide) ?_
                  refine gr_sub [2, 3, 4, 5, 6, 1, 0] [(0, .ref (w.2.2.1 0)), (1, .int a0), (2, .int a1), (3, .int r11), (4, .int x25), (5, .int x27), (6, .int x29)] rfl ?_
                  exact ih x25 x27 x29 g28 K13 hK13 hF
                refine gr_if_eq C 123 dX11_within_115 (by decide) (fun c30 => ?_) (fun c30 => ?_)
                · rw [if_pos c30] at hF
                  refine gr_sub [1, 2, 3, 4, 0, 5, 6] [(0, .ref (w.2.2.1 0)), (1, .int a0), (2, .int a1), (3, .int r11), (4, .int x25), (5, .int x15), (6, .int x16)] rfl ?_
                  refine gr_iload C 5 dX11_within_123 rfl ?_
                  refine gr_sub [0, 1, 2, 3, 4, 6] [(0, .ref (w.2.2.1 0)), (1, .int a0), (2, .int a1), (3, .int r11), (4, .int x25), (6, .int x16)] rfl ?_
                  exact JK26 x15 g24 hF
                · rw [if_neg c30] at hF
                  refine gr_sub [1, 2, 3, 4, 0, 6] [(0, .ref (w.2.2.1 0)), (1, .int a0), (2, .int a1), (3, .int r11), (4, .int x25), (6, .int x16)] rfl ?_
                  refine gr_iload C 5 dX11_within_118 rfl ?_
                  refine gr_goto C 125 dX11_within_120 (by decide) ?_
                  exact JK26 x16 g24 hF
              refine gr_if_eq C 109 dX11_within_102 (by decide) (fun c31 => ?_) (fun c31 => ?_)
              · rw [if_pos c31] at hF
                refine gr_sub [1, 2, 3, 4, 6, 7, 0] [(0, .ref (w.2.2.1 0)), (1, .int a0), (2, .int a1), (3, .int r11), (5, .int x15), (6, .int x16), (7, .int x20)] rfl ?_
                refine gr_iconst C (v := 0) dX11_within_109 (by decide) ?_
                exact JK22 (0 : Int32) g21 hF
              · rw [if_neg c31] at hF
                refine gr_sub [1, 2, 3, 4, 6, 7, 0] [(0, .ref (w.2.2.1 0)), (1, .int a0), (2, .int a1), (3, .int r11), (5, .int x15), (6, .int x16), (7, .int x20)] rfl ?_
                refine gr_iconst C (v := 1) dX11_within_105 (by decide) ?_
                refine gr_goto C 110 dX11_within_106 (by decide) ?_
                exact JK22 (1 : Int32) g21 hF
            obtain ⟨K32, eK32, hF⟩ := gLet_e hF
            have JK32 : ∀  (g33 : Sg), K32  g33 = some (r, σ') → gG X w g33 95 [(0, .ref (w.2.2.1 0)), (1, .int a0), (2, .int a1), (3, .int r11), (4, .int x14), (5, .int x15), (6, .int x16)] [] := by
              intro g33 hF
              rw [eK32] at hF
              try dsimp only at hF
              refine gr_iconst C (v := 0) dX11_within_95 (by decide) ?_
              exact JK19 (0 : Int32) g33 hF
            refine gr_if_ne C 95 dX11_within_55 (by decide) (fun c34 => ?_) (fun c34 => ?_)
            · rw [if_neg c34] at hF
              exact JK32  g17 hF
            · rw [if_pos c34] at hF
              refine gr_aload_n C 0 dX11_within_58 rfl rfl ?_
              refine gr_iload_n C 1 dX11_within_59 rfl rfl ?_
              refine gr_aload_n C 0 dX11_within_60 rfl rfl ?_
              refine gr_iload_n C 1 dX11_within_61 rfl rfl ?_
              refine gr_aload_n C 0 dX11_within_62 rfl rfl ?_
              refine gr_getR C 0 15 10 dX11_within_63 (scm_0 hw) rfl inX11 (by decide) ln37 rfl ?_
              refine gr_bipush C (v := 9) dX11_within_66 (by decide) ?_
              refine gr_iload_n C 1 dX11_within_68 rfl rfl ?_
              refine gr_iadd C dX11_within_69 ?_
              obtain ⟨h36, x35, ex35, hF⟩ := gRd_e hF
              refine gr_iald C 10 336 dX11_within_70 (scm_10 hw) h36 ?_
              refine gr_nmI ex35 ?_
              refine gr_aload_n C 0 dX11_within_71 rfl rfl ?_
              refine gr_getR C 0 15 10 dX11_within_72 (scm_0 hw) rfl inX11 (by decide) ln37 rfl ?_
              refine gr_bipush C (v := 18) dX11_within_75 (by decide) ?_
              refine gr_iload_n C 1 dX11_within_77 rfl rfl ?_
              refine gr_iadd C dX11_within_78 ?_
              obtain ⟨h38, x37, ex37, hF⟩ := gRd_e hF
              refine gr_iald C 10 336 dX11_within_79 (scm_10 hw) h38 ?_
              refine gr_nmI ex37 ?_
              refine gr_iload C 6 dX11_within_80 rfl ?_
              obtain ⟨r41, g40, hc39, hF⟩ := gCl_e hF
              refine gr_callVI C (n := 4) (As := [.int a0, .int x35, .int x37, .int x16]) (rest := [.int a0, .ref (w.2.2.1 0)]) 0 (mX11_pours X.2.1 hw  hc39) gX11_within_X11_pours rfl ⟨rfl, rfl⟩ ⟨by decide, by decide⟩ rfl (Nat.le_of_ble_eq_true rfl) rfl (by decide +kernel) (scm_0 hw) rfl dX11_within_82 ?_
              obtain ⟨r44, g43, hc42, hF⟩ := gCl_e hF
              refine gr_callVI C (n := 2) (As := [.int a0, .int r41]) (rest := []) 0 (mX11_isSo X.2.1 hw  hc42) gX11_within_X11_isSo rfl ⟨rfl, rfl⟩ ⟨by decide, by decide⟩ rfl (Nat.le_of_ble_eq_true rfl) rfl (by decide +kernel) (scm_0 hw) rfl dX11_within_85 ?_
              refine gr_if_eq C 95 dX11_within_88 (by decide) (fun c45 => ?_) (fun c45 => ?_)
              · rw [if_pos c45] at hF
                exact JK32  g43 hF
              · rw [if_neg c45] at hF
                refine gr_iconst C (v := 1) dX11_within_91 (by decide) ?_
                refine gr_goto C 96 dX11_within_92 (by decide) ?_
                exact JK19 (1 : Int32) g43 hF
      refine L46 _ (0 : Int32) (-4 : Int32) x12 g10 _ ?_ hF
      intro x50 x51 g52 hF
      try dsimp only at hF
      refine gr_iload_n C 0 dX11_within_133 rfl rfl ?_
      refine gr_if_ne C 142 dX11_within_134 (by decide) (fun c53 => ?_) (fun c53 => ?_)
      · rw [if_neg c53] at hF
        refine gr_sub [2] [(5, .int x51)] rfl ?_
        refine gr_iload C 0 dX11_within_142 rfl ?_
        cases hF
        exact gr_iret C dX11_within_144 ⟨rfl, rfl⟩
      · rw [if_pos c53] at hF
        refine gr_sub [1] [(4, .int x50)] rfl ?_
        refine gr_iload C 0 dX11_within_137 rfl ?_
        refine gr_goto C 144 dX11_within_139 (by decide) ?_
        refine gr_sub [] [] rfl ?_
        cases hF
        exact gr_iret C dX11_within_144 ⟨rfl, rfl⟩
    · rw [if_pos c8] at hF
      refine gr_sub [] [] rfl ?_
      refine gr_iconst C (v := -1) dX11_within_18 (by decide) ?_
      cases hF
      exact gr_iret C dX11_within_19 ⟨rfl, rfl⟩
-- X11_isCats: 50 instructions, frames 2, locals 51
set_option maxRecDepth 100000 in
set_option maxHeartbeats 4000000 in
theorem mX11_isCats (l : Launch) {w : Wl} (hw : w.2.2.2 = shM) {σ : Sg} {a0 : Int32}  {r : Int32} {σ' : Sg} (hF : fX11_isCats σ a0 = some (r, σ')) : gMI l w yX11_isCats wsX11_isCats ({ frames := 2, cells := 0, slots := 0, locals := 51 } : Room) [.ref (w.2.2.1 0), .int a0] σ r σ' := by
  have inX11 : ∀ v ∈ u_ws RX11 TX11 32, v ∈ wsX11_isCats := by decide +kernel
  have ln37 : Cond.fieldLink RX11 37 (TX11 15).1 (TX11 15).2.1 (TX11 15).2.2.1 ∈ wsX11_isCats := by decide +kernel
  refine gStartI cX11_isCats 4 RX11 rfl (by decide) rfl (Nat.le_of_ble_eq_true rfl) ?_
  intro X hl C
  show gG X w σ 0 [(0, .ref (w.2.2.1 0)), (1, .int a0)] []
  unfold fX11_isCats at hF
  refine gr_aload_n C 0 dX11_isCats_0 rfl rfl ?_
  refine gr_iload_n C 1 dX11_isCats_1 rfl rfl ?_
  obtain ⟨r3, g2, hc1, hF⟩ := gCl_e hF
  refine gr_callVI C (n := 1) (As := [.int a0]) (rest := []) 0 (mX11_isStep X.2.1 hw  hc1) gX11_isCats_X11_isStep rfl ⟨rfl, rfl⟩ ⟨by decide, by decide⟩ rfl (Nat.le_of_ble_eq_true rfl) rfl (by decide +kernel) (scm_0 hw) rfl dX11_isCats_2 ?_
  refine gr_if_ne C 10 dX11_isCats_5 (by decide) (fun c4 => ?_) (fun c4 => ?_)
  · rw [if_neg c4] at hF
    refine gr_iconst C (v := 0) dX11_isCats_10 (by decide) ?_
    refine gr_istore_n C [(2, .int (0 : Int32)), (0, .ref (w.2.2.1 0)), (1, .int a0)] dX11_isCats_11 rfl (by decide) rfl ?_
    refine gr_iconst C (v := 0) dX11_isCats_12 (by decide) ?_
    refine gr_istore_n C [(3, .int (0 : Int32)), (2, .int (0 : Int32)), (0, .ref (w.2.2.1 0)), (1, .int a0)] dX11_isCats_13 rfl (by decide) rfl ?_
    refine gr_sub [2, 3, 1, 0] [(0, .ref (w.2.2.1 0)), (1, .int a0), (2, .int (0 : Int32)), (3, .int (0 : Int32))] rfl ?_
    have L28 : ∀ (n : Nat) (x5 : Int32) (x6 : Int32) (g7 : Sg) , fX11_isCats_14 a0 n x5 x6 g7  = some (r, σ') → gG X w g7 14 [(0, .ref (w.2.2.1 0)), (1, .int a0), (2, .int x5), (3, .int x6)] [] := by
      intro n
      induction n with
      | zero =>
        intro x5 x6 g7 hF
        rw [fX11_isCats_14] at hF
        cases hF
      | succ n ih =>
        intro x5 x6 g7 hF
        rw [fX11_isCats_14] at hF
        refine gr_iload_n C 3 dX11_isCats_14 rfl rfl ?_
        refine gr_bipush C (v := 9) dX11_isCats_15 (by decide) ?_
        refine gr_icmp_gt C 75 dX11_isCats_17 (by decide) (fun c8 => ?_) (fun c8 => ?_)
        · rw [if_pos c8] at hF
          refine gr_sub [2] [(2, .int x5)] rfl ?_
          refine gr_iload_n C 0 dX11_isCats_75 rfl rfl ?_
          refine gr_sub [] [] rfl ?_
          cases hF
          exact gr_iret C dX11_isCats_76 ⟨rfl, rfl⟩
        · rw [if_neg c8] at hF
          refine gr_iload_n C 2 dX11_isCats_20 rfl rfl ?_
          refine gr_aload_n C 0 dX11_isCats_21 rfl rfl ?_
          refine gr_iload_n C 1 dX11_isCats_22 rfl rfl ?_
          refine gr_aload_n C 0 dX11_isCats_23 rfl rfl ?_
          refine gr_iload_n C 1 dX11_isCats_24 rfl rfl ?_
          refine gr_aload_n C 0 dX11_isCats_25 rfl rfl ?_
          refine gr_getR C 0 15 10 dX11_isCats_26 (scm_0 hw) rfl inX11 (by decide) ln37 rfl ?_
          refine gr_bipush C (v := 9) dX11_isCats_29 (by decide) ?_
          refine gr_iload_n C 1 dX11_isCats_31 rfl rfl ?_
          refine gr_iadd C dX11_isCats_32 ?_
          obtain ⟨h10, x9, ex9, hF⟩ := gRd_e hF
          refine gr_iald C 10 336 dX11_isCats_33 (scm_10 hw) h10 ?_
          refine gr_nmI ex9 ?_
          refine gr_iload_n C 3 dX11_isCats_34 rfl rfl ?_
          refine gr_aload_n C 0 dX11_isCats_35 rfl rfl ?_
          refine gr_iconst C (v := 0) dX11_isCats_36 (by decide) ?_
          refine gr_iload_n C 1 dX11_isCats_37 rfl rfl ?_
          obtain ⟨r13, g12, hc11, hF⟩ := gCl_e hF
          refine gr_callVI C (n := 2) (As := [.int (0 : Int32), .int a0]) (rest := [.int x6, .int x9, .int a0, .ref (w.2.2.1 0), .int a0, .ref (w.2.2.1 0), .int x5]) 0 (mX11_thereAt X.2.1 hw  hc11) gX11_isCats_X11_thereAt rfl ⟨rfl, rfl⟩ ⟨by decide, by decide⟩ rfl (Nat.le_of_ble_eq_true rfl) rfl (by decide +kernel) (scm_0 hw) rfl dX11_isCats_38 ?_
          refine gr_aload_n C 0 dX11_isCats_41 rfl rfl ?_
          refine gr_getR C 0 15 10 dX11_isCats_42 (scm_0 hw) rfl inX11 (by decide) ln37 rfl ?_
          refine gr_bipush C (v := 8) dX11_isCats_45 (by decide) ?_
          obtain ⟨h15, x14, ex14, hF⟩ := gRd_e hF
          refine gr_iald C 10 336 dX11_isCats_47 (scm_10 hw) h15 ?_
          refine gr_nmI ex14 ?_
          refine gr_iconst C (v := -1) dX11_isCats_48 (by decide) ?_
          refine gr_ixor C dX11_isCats_49 ?_
          refine gr_iand C dX11_isCats_50 ?_
          obtain ⟨r18, g17, hc16, hF⟩ := gCl_e hF
          refine gr_callVI C (n := 4) (As := [.int a0, .int x9, .int x6, .int (r13 &&& (x14 ^^^ (-1 : Int32)))]) (rest := [.int a0, .ref (w.2.2.1 0), .int x5]) 0 (mX11_pours X.2.1 hw  hc16) gX11_isCats_X11_pours rfl ⟨rfl, rfl⟩ ⟨by decide, by decide⟩ rfl (Nat.le_of_ble_eq_true rfl) rfl (by decide +kernel) (scm_0 hw) rfl dX11_isCats_51 ?_
          obtain ⟨r21, g20, hc19, hF⟩ := gCl_e hF
          refine gr_callVI C (n := 2) (As := [.int a0, .int r18]) (rest := [.int x5]) 0 (mX11_isSo X.2.1 hw  hc19) gX11_isCats_X11_isSo rfl ⟨rfl, rfl⟩ ⟨by decide, by decide⟩ rfl (Nat.le_of_ble_eq_true rfl) rfl (by decide +kernel) (scm_0 hw) rfl dX11_isCats_54 ?_
          obtain ⟨K22, eK22, hF⟩ := gLet_e hF
          have JK22 : ∀ (x23 : Int32) (g24 : Sg), K22 x23 g24 = some (r, σ') → gG X w g24 67 [(0, .ref (w.2.2.1 0)), (1, .int a0), (3, .int x6)] [.int x23, .int x5] := by
            intro x23 g24 hF
            rw [eK22] at hF
            try dsimp only at hF
            refine gr_ior C dX11_isCats_67 ?_
            obtain ⟨x25, ex25, hF⟩ := gLet_e hF
            refine gr_nmI ex25 ?_
            refine gr_istore_n C [(2, .int x25), (0, .ref (w.2.2.1 0)), (1, .int a0), (3, .int x6)] dX11_isCats_68 rfl (by decide) rfl ?_
            obtain ⟨x26, ex26, hF⟩ := gLet_e hF
            refine gr_iinc C (v := x26) 3 [(3, .int x26), (2, .int x25), (0, .ref (w.2.2.1 0)), (1, .int a0)] dX11_isCats_69 rfl (by rw [ex26]; rfl) (by decide) rfl ?_
            refine gr_goto C 14 dX11_isCats_72 (by decide) ?_
            refine gr_sub [2, 3, 1, 0] [(0, .ref (w.2.2.1 0)), (1, .int a0), (2, .int x25), (3, .int x26)] rfl ?_
            exact ih x25 x26 g24   hF
          refine gr_if_eq C 66 dX11_isCats_57 (by decide) (fun c27 => ?_) (fun c27 => ?_)
          · rw [if_pos c27] at hF
            refine gr_sub [0, 1, 3] [(0, .ref (w.2.2.1 0)), (1, .int a0), (3, .int x6)] rfl ?_
            refine gr_iconst C (v := 0) dX11_isCats_66 (by decide) ?_
            exact JK22 (0 : Int32) g20 hF
          · rw [if_neg c27] at hF
            refine gr_sub [0, 1, 3] [(0, .ref (w.2.2.1 0)), (1, .int a0), (3, .int x6)] rfl ?_
            refine gr_iconst C (v := 1) dX11_isCats_60 (by decide) ?_
            refine gr_iload_n C 2 dX11_isCats_61 rfl rfl ?_
            refine gr_ishl C dX11_isCats_62 ?_
            refine gr_goto C 67 dX11_isCats_63 (by decide) ?_
            exact JK22 ((1 : Int32) <<< (x6 &&& 31)) g20 hF
    refine L28 _ (0 : Int32) (0 : Int32) g2   hF
  · rw [if_pos c4] at hF
    refine gr_sub [] [] rfl ?_
    refine gr_iconst C (v := -1) dX11_isCats_8 (by decide) ?_
    cases hF
    exact gr_iret C dX11_isCats_9 ⟨rfl, rfl⟩
-- X11_was: 84 instructions, frames 4, locals 102
set_option maxRecDepth 100000 in
set_option maxHeartbeats 4000000 in
theorem mX11_was (l : Launch) {w : Wl} (hw : w.2.2.2 = shM) {σ : Sg} {a0 : Int32} {a1 : Int32} {a2 : Int32}  {r : Int32} {σ' : Sg} (hF : fX11_was σ a0 a1 a2 = some (r, σ')) : gMI l w yX11_was wsX11_was ({ frames := 4, cells := 0, slots := 0, locals := 102 } : Room) [.ref (w.2.2.1 0), .int a0, .int a1, .int a2] σ r σ' := by
  have inX11 : ∀ v ∈ u_ws RX11 TX11 32, v ∈ wsX11_was := by decide +kernel
  have ln37 : Cond.fieldLink RX11 37 (TX11 15).1 (TX11 15).2.1 (TX11 15).2.2.1 ∈ wsX11_was := by decide +kernel
  have k196 : Cond.constantLong RX11 196 (20) ∈ wsX11_was := by decide +kernel
  refine gStartI cX11_was 8 RX11 rfl (by decide) rfl (Nat.le_of_ble_eq_true rfl) ?_
  intro X hl C
  show gG X w σ 0 [(0, .ref (w.2.2.1 0)), (1, .int a0), (2, .int a1), (3, .int a2)] []
  unfold fX11_was at hF
  refine gr_aload_n C 0 dX11_was_0 rfl rfl ?_
  refine gr_iload_n C 1 dX11_was_1 rfl rfl ?_
  obtain ⟨r3, g2, hc1, hF⟩ := gCl_e hF
  refine gr_callVI C (n := 1) (As := [.int a0]) (rest := []) 0 (mX11_isOne X.2.1 hw  hc1) gX11_was_X11_isOne rfl ⟨rfl, rfl⟩ ⟨by decide, by decide⟩ rfl (Nat.le_of_ble_eq_true rfl) rfl (by decide +kernel) (scm_0 hw) rfl dX11_was_2 ?_
  refine gr_if_eq C 30 dX11_was_5 (by decide) (fun c4 => ?_) (fun c4 => ?_)
  · rw [if_pos c4] at hF
    refine gr_sub [] [] rfl ?_
    refine gr_iconst C (v := -1) dX11_was_30 (by decide) ?_
    cases hF
    exact gr_iret C dX11_was_31 ⟨rfl, rfl⟩
  · rw [if_neg c4] at hF
    refine gr_iload_n C 2 dX11_was_8 rfl rfl ?_
    refine gr_i2l C dX11_was_9 ?_
    refine gr_lconst C (v := 1) dX11_was_10 (by decide) ?_
    refine gr_ldc2 C (v := 20) dX11_was_11 k196 ?_
    obtain ⟨r7, g6, hc5, hF⟩ := gCl_e hF
    refine gr_callSI C (n := 3) (As := [.long (a1.toInt64), .long (1 : Int64), .long (20 : Int64)]) (rest := []) (mX11_in X.2.1 hw  hc5) gX11_was_X11_in rfl ⟨rfl, rfl⟩ ⟨by decide, by decide⟩ rfl (Nat.le_of_ble_eq_true rfl) rfl (by decide +kernel) dX11_was_14 ?_
    refine gr_if_eq C 30 dX11_was_17 (by decide) (fun c8 => ?_) (fun c8 => ?_)
    · rw [if_pos c8] at hF
      refine gr_sub [] [] rfl ?_
      refine gr_iconst C (v := -1) dX11_was_30 (by decide) ?_
      cases hF
      exact gr_iret C dX11_was_31 ⟨rfl, rfl⟩
    · rw [if_neg c8] at hF
      refine gr_iload_n C 3 dX11_was_20 rfl rfl ?_
      refine gr_i2l C dX11_was_21 ?_
      refine gr_lconst C (v := 0) dX11_was_22 (by decide) ?_
      refine gr_lconst C (v := 1) dX11_was_23 (by decide) ?_
      obtain ⟨r11, g10, hc9, hF⟩ := gCl_e hF
      refine gr_callSI C (n := 3) (As := [.long (a2.toInt64), .long (0 : Int64), .long (1 : Int64)]) (rest := []) (mX11_in X.2.1 hw  hc9) gX11_was_X11_in rfl ⟨rfl, rfl⟩ ⟨by decide, by decide⟩ rfl (Nat.le_of_ble_eq_true rfl) rfl (by decide +kernel) dX11_was_24 ?_
      refine gr_if_ne C 32 dX11_was_27 (by decide) (fun c12 => ?_) (fun c12 => ?_)
      · rw [if_neg c12] at hF
        refine gr_aload_n C 0 dX11_was_32 rfl rfl ?_
        refine gr_getR C 0 15 10 dX11_was_33 (scm_0 hw) rfl inX11 (by decide) ln37 rfl ?_
        refine gr_iload_n C 1 dX11_was_36 rfl rfl ?_
        obtain ⟨h14, x13, ex13, hF⟩ := gRd_e hF
        refine gr_iald C 10 336 dX11_was_37 (scm_10 hw) h14 ?_
        refine gr_nmI ex13 ?_
        refine gr_if_ne C 44 dX11_was_38 (by decide) (fun c15 => ?_) (fun c15 => ?_)
        · rw [if_neg c15] at hF
          refine gr_iconst C (v := 0) dX11_was_44 (by decide) ?_
          refine gr_istore C [(4, .int (0 : Int32)), (0, .ref (w.2.2.1 0)), (1, .int a0), (2, .int a1), (3, .int a2)] dX11_was_45 (by decide) rfl ?_
          refine gr_bipush C (v := -4) dX11_was_47 (by decide) ?_
          refine gr_istore C [(5, .int (-4 : Int32)), (4, .int (0 : Int32)), (0, .ref (w.2.2.1 0)), (1, .int a0), (2, .int a1), (3, .int a2)] dX11_was_49 (by decide) rfl ?_
          refine gr_bipush C (v := 20) dX11_was_51 (by decide) ?_
          refine gr_istore C [(6, .int (20 : Int32)), (5, .int (-4 : Int32)), (4, .int (0 : Int32)), (0, .ref (w.2.2.1 0)), (1, .int a0), (2, .int a1), (3, .int a2)] dX11_was_53 (by decide) rfl ?_
          refine gr_sub [3, 4, 5, 6, 2, 1, 0] [(0, .ref (w.2.2.1 0)), (1, .int a0), (2, .int a1), (3, .int a2), (4, .int (0 : Int32)), (5, .int (-4 : Int32)), (6, .int (20 : Int32))] rfl ?_
          have L46 : ∀ (n : Nat) (x17 : Int32) (x18 : Int32) (x19 : Int32) (g20 : Sg) (K16 : Int32 → Int32 → Sg → Option (Int32 × Sg)), (∀ (x47 : Int32) (x48 : Int32) (g49 : Sg), K16 x47 x48 g49 = some (r, σ') → gG X w g49 146 [(3, .int a2), (4, .int x47), (5, .int x48)] []) → fX11_was_55 a0 a1 n x17 x18 x19 g20 K16 = some (r, σ') → gG X w g20 55 [(0, .ref (w.2.2.1 0)), (1, .int a0), (2, .int a1), (3, .int a2), (4, .int x17), (5, .int x18), (6, .int x19)] [] := by
            intro n
            induction n with
            | zero =>
              intro x17 x18 x19 g20 K16 hK16 hF
              rw [fX11_was_55] at hF
              cases hF
            | succ n ih =>
              intro x17 x18 x19 g20 K16 hK16 hF
              rw [fX11_was_55] at hF
              refine gr_iload C 6 dX11_was_55 rfl ?_
              refine gr_if_lt C 146 dX11_was_57 (by decide) (fun c21 => ?_) (fun c21 => ?_)
              · rw [if_pos c21] at hF
                refine gr_sub [3, 4, 5] [(3, .int a2), (4, .int x17), (5, .int x18)] rfl ?_
                exact hK16 x17 x18 g20 hF
              · rw [if_neg c21] at hF
                refine gr_aload_n C 0 dX11_was_60 rfl rfl ?_
                refine gr_iconst C (v := 0) dX11_was_61 (by decide) ?_
                refine gr_sipush C (v := 308) dX11_was_62 (by decide) ?_
                obtain ⟨g23, hc22, hF⟩ := gCv_e hF
                refine gr_callVV C (n := 2) (As := [.int (0 : Int32), .int (308 : Int32)]) (rest := []) 0 (mX11_copies X.2.1 hw  hc22) gX11_was_X11_copies rfl ⟨rfl, rfl⟩ ⟨by decide, by decide⟩ rfl (Nat.le_of_ble_eq_true rfl) rfl (by decide +kernel) (scm_0 hw) rfl dX11_was_65 ?_
                refine gr_aload_n C 0 dX11_was_68 rfl rfl ?_
                refine gr_getR C 0 15 10 dX11_was_69 (scm_0 hw) rfl inX11 (by decide) ln37 rfl ?_
                refine gr_sipush C (v := 308) dX11_was_72 (by decide) ?_
                refine gr_iload_n C 1 dX11_was_75 rfl rfl ?_
                refine gr_iadd C dX11_was_76 ?_
                refine gr_iload C 6 dX11_was_77 rfl ?_
                obtain ⟨h24, g25, eg25, hF⟩ := gWr_e hF
                refine gr_iast C 10 336 dX11_was_79 (scm_10 hw) h24 ?_
                refine gr_nmS eg25 ?_
                refine gr_aload_n C 0 dX11_was_80 rfl rfl ?_
                refine gr_iload_n C 2 dX11_was_81 rfl rfl ?_
                obtain ⟨g27, hc26, hF⟩ := gCv_e hF
                refine gr_callVV C (n := 1) (As := [.int a1]) (rest := []) 0 (mX11_tries X.2.1 hw  hc26) gX11_was_X11_tries rfl ⟨rfl, rfl⟩ ⟨by decide, by decide⟩ rfl (Nat.le_of_ble_eq_true rfl) rfl (by decide +kernel) (scm_0 hw) rfl dX11_was_82 ?_
                refine gr_aload_n C 0 dX11_was_85 rfl rfl ?_
                refine gr_getR C 0 15 10 dX11_was_86 (scm_0 hw) rfl inX11 (by decide) ln37 rfl ?_
                refine gr_sipush C (v := 308) dX11_was_89 (by decide) ?_
                refine gr_iload_n C 1 dX11_was_92 rfl rfl ?_
                refine gr_iadd C dX11_was_93 ?_
                obtain ⟨h29, x28, ex28, hF⟩ := gRd_e hF
                refine gr_iald C 10 336 dX11_was_94 (scm_10 hw) h29 ?_
                refine gr_nmI ex28 ?_
                refine gr_aload_n C 0 dX11_was_95 rfl rfl ?_
                refine gr_getR C 0 15 10 dX11_was_96 (scm_0 hw) rfl inX11 (by decide) ln37 rfl ?_
                refine gr_iload_n C 1 dX11_was_99 rfl rfl ?_
                obtain ⟨h31, x30, ex30, hF⟩ := gRd_e hF
                refine gr_iald C 10 336 dX11_was_100 (scm_10 hw) h31 ?_
                refine gr_nmI ex30 ?_
                obtain ⟨K32, eK32, hF⟩ := gLet_e hF
                have JK32 : ∀ (x33 : Int32) (g34 : Sg), K32 x33 g34 = some (r, σ') → gG X w g34 109 [(0, .ref (w.2.2.1 0)), (1, .int a0), (2, .int a1), (3, .int a2), (4, .int x17), (5, .int x18), (6, .int x19)] [.int x33] := by
                  intro x33 g34 hF
                  rw [eK32] at hF
                  try dsimp only at hF
                  refine gr_istore C [(7, .int x33), (0, .ref (w.2.2.1 0)), (1, .int a0), (2, .int a1), (3, .int a2), (4, .int x17), (5, .int x18), (6, .int x19)] dX11_was_109 (by decide) rfl ?_
                  refine gr_iload C 5 dX11_was_111 rfl ?_
                  refine gr_iload C 0 dX11_was_113 rfl ?_
                  obtain ⟨K35, eK35, hF⟩ := gLet_e hF
                  have JK35 : ∀ (x36 : Int32) (g37 : Sg), K35 x36 g37 = some (r, σ') → gG X w g37 123 [(0, .ref (w.2.2.1 0)), (1, .int a0), (2, .int a1), (3, .int a2), (5, .int x18), (6, .int x19), (7, .int x33)] [.int x36, .int x17] := by
                    intro x36 g37 hF
                    rw [eK35] at hF
                    try dsimp only at hF
                    refine gr_iadd C dX11_was_123 ?_
                    obtain ⟨x38, ex38, hF⟩ := gLet_e hF
                    refine gr_nmI ex38 ?_
                    refine gr_istore C [(4, .int x38), (0, .ref (w.2.2.1 0)), (1, .int a0), (2, .int a1), (3, .int a2), (5, .int x18), (6, .int x19), (7, .int x33)] dX11_was_124 (by decide) rfl ?_
                    refine gr_iload C 7 dX11_was_126 rfl ?_
                    obtain ⟨K39, eK39, hF⟩ := gLet_e hF
                    have JK39 : ∀ (x40 : Int32) (g41 : Sg), K39 x40 g41 = some (r, σ') → gG X w g41 138 [(0, .ref (w.2.2.1 0)), (1, .int a0), (2, .int a1), (3, .int a2), (4, .int x38), (6, .int x19)] [.int x40] := by
                      intro x40 g41 hF
                      rw [eK39] at hF
                      try dsimp only at hF
                      refine gr_istore C [(5, .int x40), (0, .ref (w.2.2.1 0)), (1, .int a0), (2, .int a1), (3, .int a2), (4, .int x38), (6, .int x19)] dX11_was_138 (by decide) rfl ?_
                      obtain ⟨x42, ex42, hF⟩ := gLet_e hF
                      refine gr_iinc C (v := x42) 6 [(6, .int x42), (5, .int x40), (0, .ref (w.2.2.1 0)), (1, .int a0), (2, .int a1), (3, .int a2), (4, .int x38)] dX11_was_140 rfl (by rw [ex42]; rfl) (by decide) rfl ?_
                      refine gr_goto C 55 dX11_was_143 (by decide) ?_
                      refine gr_sub [2, 3, 4, 5, 6, 1, 0] [(0, .ref (w.2.2.1 0)), (1, .int a0), (2, .int a1), (3, .int a2), (4, .int x38), (5, .int x40), (6, .int x42)] rfl ?_
                      exact ih x38 x40 x42 g41 K16 hK16 hF
                    refine gr_if_eq C 136 dX11_was_128 (by decide) (fun c43 => ?_) (fun c43 => ?_)
                    · rw [if_pos c43] at hF
                      refine gr_sub [1, 2, 3, 4, 0, 5, 6] [(0, .ref (w.2.2.1 0)), (1, .int a0), (2, .int a1), (3, .int a2), (4, .int x38), (5, .int x18), (6, .int x19)] rfl ?_
                      refine gr_iload C 5 dX11_was_136 rfl ?_
                      refine gr_sub [0, 1, 2, 3, 4, 6] [(0, .ref (w.2.2.1 0)), (1, .int a0), (2, .int a1), (3, .int a2), (4, .int x38), (6, .int x19)] rfl ?_
                      exact JK39 x18 g37 hF
                    · rw [if_neg c43] at hF
                      refine gr_sub [1, 2, 3, 4, 0, 6] [(0, .ref (w.2.2.1 0)), (1, .int a0), (2, .int a1), (3, .int a2), (4, .int x38), (6, .int x19)] rfl ?_
                      refine gr_iload C 5 dX11_was_131 rfl ?_
                      refine gr_goto C 138 dX11_was_133 (by decide) ?_
                      exact JK39 x19 g37 hF
                  refine gr_if_eq C 122 dX11_was_115 (by decide) (fun c44 => ?_) (fun c44 => ?_)
                  · rw [if_pos c44] at hF
                    refine gr_sub [1, 2, 3, 4, 6, 7, 0] [(0, .ref (w.2.2.1 0)), (1, .int a0), (2, .int a1), (3, .int a2), (5, .int x18), (6, .int x19), (7, .int x33)] rfl ?_
                    refine gr_iconst C (v := 0) dX11_was_122 (by decide) ?_
                    exact JK35 (0 : Int32) g34 hF
                  · rw [if_neg c44] at hF
                    refine gr_sub [1, 2, 3, 4, 6, 7, 0] [(0, .ref (w.2.2.1 0)), (1, .int a0), (2, .int a1), (3, .int a2), (5, .int x18), (6, .int x19), (7, .int x33)] rfl ?_
                    refine gr_iconst C (v := 1) dX11_was_118 (by decide) ?_
                    refine gr_goto C 123 dX11_was_119 (by decide) ?_
                    exact JK35 (1 : Int32) g34 hF
                refine gr_icmp_ne C 108 dX11_was_101 (by decide) (fun c45 => ?_) (fun c45 => ?_)
                · rw [if_neg c45] at hF
                  refine gr_iconst C (v := 0) dX11_was_108 (by decide) ?_
                  exact JK32 (0 : Int32) g27 hF
                · rw [if_pos c45] at hF
                  refine gr_iconst C (v := 1) dX11_was_104 (by decide) ?_
                  refine gr_goto C 109 dX11_was_105 (by decide) ?_
                  exact JK32 (1 : Int32) g27 hF
          refine L46 _ (0 : Int32) (-4 : Int32) (20 : Int32) g10 _ ?_ hF
          intro x50 x51 g52 hF
          try dsimp only at hF
          refine gr_iload_n C 0 dX11_was_146 rfl rfl ?_
          refine gr_if_ne C 155 dX11_was_147 (by decide) (fun c53 => ?_) (fun c53 => ?_)
          · rw [if_neg c53] at hF
            refine gr_sub [2] [(5, .int x51)] rfl ?_
            refine gr_iload C 0 dX11_was_155 rfl ?_
            cases hF
            exact gr_iret C dX11_was_157 ⟨rfl, rfl⟩
          · rw [if_pos c53] at hF
            refine gr_sub [1] [(4, .int x50)] rfl ?_
            refine gr_iload C 0 dX11_was_150 rfl ?_
            refine gr_goto C 157 dX11_was_152 (by decide) ?_
            refine gr_sub [] [] rfl ?_
            cases hF
            exact gr_iret C dX11_was_157 ⟨rfl, rfl⟩
        · rw [if_pos c15] at hF
          refine gr_sub [] [] rfl ?_
          refine gr_bipush C (v := -2) dX11_was_41 (by decide) ?_
          cases hF
          exact gr_iret C dX11_was_43 ⟨rfl, rfl⟩
      · rw [if_pos c12] at hF
        refine gr_sub [] [] rfl ?_
        refine gr_iconst C (v := -1) dX11_was_30 (by decide) ?_
        cases hF
        exact gr_iret C dX11_was_31 ⟨rfl, rfl⟩
-- X11_snows: 117 instructions, frames 3, locals 79
set_option maxRecDepth 100000 in
set_option maxHeartbeats 4000000 in
theorem mX11_snows (l : Launch) {w : Wl} (hw : w.2.2.2 = shM) {σ : Sg} {a0 : Int32} {a1 : Int32} {a2 : Int32} {a3 : Int32}  {r : Int32} {σ' : Sg} (hF : fX11_snows σ a0 a1 a2 a3 = some (r, σ')) : gMI l w yX11_snows wsX11_snows ({ frames := 3, cells := 0, slots := 0, locals := 79 } : Room) [.ref (w.2.2.1 0), .int a0, .int a1, .int a2, .int a3] σ r σ' := by
  have inX11 : ∀ v ∈ u_ws RX11 TX11 32, v ∈ wsX11_snows := by decide +kernel
  have ln37 : Cond.fieldLink RX11 37 (TX11 15).1 (TX11 15).2.1 (TX11 15).2.2.1 ∈ wsX11_snows := by decide +kernel
  have k241 : Cond.constantLong RX11 241 (8) ∈ wsX11_snows := by decide +kernel
  have k243 : Cond.constantLong RX11 243 (10) ∈ wsX11_snows := by decide +kernel
  refine gStartI cX11_snows 11 RX11 rfl (by decide) rfl (Nat.le_of_ble_eq_true rfl) ?_
  intro X hl C
  show gG X w σ 0 [(0, .ref (w.2.2.1 0)), (1, .int a0), (2, .int a1), (3, .int a2), (4, .int a3)] []
  unfold fX11_snows at hF
  refine gr_aload_n C 0 dX11_snows_0 rfl rfl ?_
  refine gr_iload_n C 1 dX11_snows_1 rfl rfl ?_
  obtain ⟨r3, g2, hc1, hF⟩ := gCl_e hF
  refine gr_callVI C (n := 1) (As := [.int a0]) (rest := []) 0 (mX11_isOne X.2.1 hw  hc1) gX11_snows_X11_isOne rfl ⟨rfl, rfl⟩ ⟨by decide, by decide⟩ rfl (Nat.le_of_ble_eq_true rfl) rfl (by decide +kernel) (scm_0 hw) rfl dX11_snows_2 ?_
  refine gr_if_eq C 43 dX11_snows_5 (by decide) (fun c4 => ?_) (fun c4 => ?_)
  · rw [if_pos c4] at hF
    refine gr_sub [] [] rfl ?_
    refine gr_iconst C (v := -1) dX11_snows_43 (by decide) ?_
    cases hF
    exact gr_iret C dX11_snows_44 ⟨rfl, rfl⟩
  · rw [if_neg c4] at hF
    refine gr_iload_n C 2 dX11_snows_8 rfl rfl ?_
    refine gr_i2l C dX11_snows_9 ?_
    refine gr_lconst C (v := 0) dX11_snows_10 (by decide) ?_
    refine gr_ldc2 C (v := 8) dX11_snows_11 k241 ?_
    obtain ⟨r7, g6, hc5, hF⟩ := gCl_e hF
    refine gr_callSI C (n := 3) (As := [.long (a1.toInt64), .long (0 : Int64), .long (8 : Int64)]) (rest := []) (mX11_in X.2.1 hw  hc5) gX11_snows_X11_in rfl ⟨rfl, rfl⟩ ⟨by decide, by decide⟩ rfl (Nat.le_of_ble_eq_true rfl) rfl (by decide +kernel) dX11_snows_14 ?_
    refine gr_if_eq C 43 dX11_snows_17 (by decide) (fun c8 => ?_) (fun c8 => ?_)
    · rw [if_pos c8] at hF
      refine gr_sub [] [] rfl ?_
      refine gr_iconst C (v := -1) dX11_snows_43 (by decide) ?_
      cases hF
      exact gr_iret C dX11_snows_44 ⟨rfl, rfl⟩
    · rw [if_neg c8] at hF
      refine gr_iload_n C 3 dX11_snows_20 rfl rfl ?_
      refine gr_i2l C dX11_snows_21 ?_
      refine gr_lconst C (v := 0) dX11_snows_22 (by decide) ?_
      refine gr_ldc2 C (v := 10) dX11_snows_23 k243 ?_
      obtain ⟨r11, g10, hc9, hF⟩ := gCl_e hF
      refine gr_callSI C (n := 3) (As := [.long (a2.toInt64), .long (0 : Int64), .long (10 : Int64)]) (rest := []) (mX11_in X.2.1 hw  hc9) gX11_snows_X11_in rfl ⟨rfl, rfl⟩ ⟨by decide, by decide⟩ rfl (Nat.le_of_ble_eq_true rfl) rfl (by decide +kernel) dX11_snows_26 ?_
      refine gr_if_eq C 43 dX11_snows_29 (by decide) (fun c12 => ?_) (fun c12 => ?_)
      · rw [if_pos c12] at hF
        refine gr_sub [] [] rfl ?_
        refine gr_iconst C (v := -1) dX11_snows_43 (by decide) ?_
        cases hF
        exact gr_iret C dX11_snows_44 ⟨rfl, rfl⟩
      · rw [if_neg c12] at hF
        refine gr_iload C 4 dX11_snows_32 rfl ?_
        refine gr_i2l C dX11_snows_34 ?_
        refine gr_lconst C (v := 0) dX11_snows_35 (by decide) ?_
        refine gr_lconst C (v := 1) dX11_snows_36 (by decide) ?_
        obtain ⟨r15, g14, hc13, hF⟩ := gCl_e hF
        refine gr_callSI C (n := 3) (As := [.long (a3.toInt64), .long (0 : Int64), .long (1 : Int64)]) (rest := []) (mX11_in X.2.1 hw  hc13) gX11_snows_X11_in rfl ⟨rfl, rfl⟩ ⟨by decide, by decide⟩ rfl (Nat.le_of_ble_eq_true rfl) rfl (by decide +kernel) dX11_snows_37 ?_
        refine gr_if_ne C 45 dX11_snows_40 (by decide) (fun c16 => ?_) (fun c16 => ?_)
        · rw [if_neg c16] at hF
          refine gr_iconst C (v := 0) dX11_snows_45 (by decide) ?_
          refine gr_istore C [(5, .int (0 : Int32)), (0, .ref (w.2.2.1 0)), (1, .int a0), (2, .int a1), (3, .int a2), (4, .int a3)] dX11_snows_46 (by decide) rfl ?_
          refine gr_iconst C (v := 0) dX11_snows_48 (by decide) ?_
          refine gr_istore C [(6, .int (0 : Int32)), (5, .int (0 : Int32)), (0, .ref (w.2.2.1 0)), (1, .int a0), (2, .int a1), (3, .int a2), (4, .int a3)] dX11_snows_49 (by decide) rfl ?_
          refine gr_iconst C (v := 0) dX11_snows_51 (by decide) ?_
          refine gr_istore C [(7, .int (0 : Int32)), (6, .int (0 : Int32)), (5, .int (0 : Int32)), (0, .ref (w.2.2.1 0)), (1, .int a0), (2, .int a1), (3, .int a2), (4, .int a3)] dX11_snows_52 (by decide) rfl ?_
          refine gr_sub [3, 4, 5, 6, 7, 2, 1, 0] [(0, .ref (w.2.2.1 0)), (1, .int a0), (2, .int a1), (3, .int a2), (4, .int a3), (5, .int (0 : Int32)), (6, .int (0 : Int32)), (7, .int (0 : Int32))] rfl ?_
          have L66 : ∀ (n : Nat) (x18 : Int32) (x19 : Int32) (x20 : Int32) (g21 : Sg) (K17 : Int32 → Int32 → Sg → Option (Int32 × Sg)), (∀ (x67 : Int32) (x68 : Int32) (g69 : Sg), K17 x67 x68 g69 = some (r, σ') → gG X w g69 175 [(4, .int a3), (5, .int x67), (6, .int x68)] []) → fX11_snows_54 a0 a1 a2 n x18 x19 x20 g21 K17 = some (r, σ') → gG X w g21 54 [(0, .ref (w.2.2.1 0)), (1, .int a0), (2, .int a1), (3, .int a2), (4, .int a3), (5, .int x18), (6, .int x19), (7, .int x20)] [] := by
            intro n
            induction n with
            | zero =>
              intro x18 x19 x20 g21 K17 hK17 hF
              rw [fX11_snows_54] at hF
              cases hF
            | succ n ih =>
              intro x18 x19 x20 g21 K17 hK17 hF
              rw [fX11_snows_54] at hF
              refine gr_iload C 7 dX11_snows_54 rfl ?_
              refine gr_iconst C (v := 1) dX11_snows_56 (by decide) ?_
              refine gr_iload_n C 2 dX11_snows_57 rfl rfl ?_
              refine gr_ishl C dX11_snows_58 ?_
              refine gr_icmp_ge C 175 dX11_snows_59 (by decide) (fun c22 => ?_) (fun c22 => ?_)
              · rw [if_pos c22] at hF
                refine gr_sub [4, 5, 6] [(4, .int a3), (5, .int x18), (6, .int x19)] rfl ?_
                exact hK17 x18 x19 g21 hF
              · rw [if_neg c22] at hF
                refine gr_aload_n C 0 dX11_snows_62 rfl rfl ?_
                refine gr_iconst C (v := 0) dX11_snows_63 (by decide) ?_
                refine gr_sipush C (v := 308) dX11_snows_64 (by decide) ?_
                obtain ⟨g24, hc23, hF⟩ := gCv_e hF
                refine gr_callVV C (n := 2) (As := [.int (0 : Int32), .int (308 : Int32)]) (rest := []) 0 (mX11_copies X.2.1 hw  hc23) gX11_snows_X11_copies rfl ⟨rfl, rfl⟩ ⟨by decide, by decide⟩ rfl (Nat.le_of_ble_eq_true rfl) rfl (by decide +kernel) (scm_0 hw) rfl dX11_snows_67 ?_
                refine gr_iconst C (v := 1) dX11_snows_70 (by decide) ?_
                refine gr_istore C [(8, .int (1 : Int32)), (0, .ref (w.2.2.1 0)), (1, .int a0), (2, .int a1), (3, .int a2), (4, .int a3), (5, .int x18), (6, .int x19), (7, .int x20)] dX11_snows_71 (by decide) rfl ?_
                refine gr_iconst C (v := 0) dX11_snows_73 (by decide) ?_
                refine gr_istore C [(9, .int (0 : Int32)), (8, .int (1 : Int32)), (0, .ref (w.2.2.1 0)), (1, .int a0), (2, .int a1), (3, .int a2), (4, .int a3), (5, .int x18), (6, .int x19), (7, .int x20)] dX11_snows_74 (by decide) rfl ?_
                refine gr_iconst C (v := 0) dX11_snows_76 (by decide) ?_
                refine gr_istore C [(10, .int (0 : Int32)), (9, .int (0 : Int32)), (8, .int (1 : Int32)), (0, .ref (w.2.2.1 0)), (1, .int a0), (2, .int a1), (3, .int a2), (4, .int a3), (5, .int x18), (6, .int x19), (7, .int x20)] dX11_snows_77 (by decide) rfl ?_
                refine gr_sub [3, 4, 5, 6, 7, 8, 9, 10, 2, 1, 0] [(0, .ref (w.2.2.1 0)), (1, .int a0), (2, .int a1), (3, .int a2), (4, .int a3), (5, .int x18), (6, .int x19), (7, .int x20), (8, .int (1 : Int32)), (9, .int (0 : Int32)), (10, .int (0 : Int32))] rfl ?_
                have L47 : ∀ (n : Nat) (x26 : Int32) (x27 : Int32) (x28 : Int32) (g29 : Sg) (K25 : Int32 → Int32 → Sg → Option (Int32 × Sg)), (∀ (x48 : Int32) (x49 : Int32) (g50 : Sg), K25 x48 x49 g50 = some (r, σ') → gG X w g50 133 [(0, .ref (w.2.2.1 0)), (1, .int a0), (2, .int a1), (3, .int a2), (4, .int a3), (5, .int x18), (6, .int x19), (7, .int x20), (8, .int x48), (9, .int x49)] []) → fX11_snows_79 a1 a2 x20 n x26 x27 x28 g29 K25 = some (r, σ') → gG X w g29 79 [(0, .ref (w.2.2.1 0)), (1, .int a0), (2, .int a1), (3, .int a2), (4, .int a3), (5, .int x18), (6, .int x19), (7, .int x20), (8, .int x26), (9, .int x27), (10, .int x28)] [] := by
                  intro n
                  induction n with
                  | zero =>
                    intro x26 x27 x28 g29 K25 hK25 hF
                    rw [fX11_snows_79] at hF
                    cases hF
                  | succ n ih =>
                    intro x26 x27 x28 g29 K25 hK25 hF
                    rw [fX11_snows_79] at hF
                    refine gr_iload C 10 dX11_snows_79 rfl ?_
                    refine gr_iload_n C 2 dX11_snows_81 rfl rfl ?_
                    refine gr_icmp_ge C 133 dX11_snows_82 (by decide) (fun c30 => ?_) (fun c30 => ?_)
                    · rw [if_pos c30] at hF
                      refine gr_sub [0, 1, 2, 3, 4, 5, 6, 7, 8, 9] [(0, .ref (w.2.2.1 0)), (1, .int a0), (2, .int a1), (3, .int a2), (4, .int a3), (5, .int x18), (6, .int x19), (7, .int x20), (8, .int x26), (9, .int x27)] rfl ?_
                      exact hK25 x26 x27 g29 hF
                    · rw [if_neg c30] at hF
                      refine gr_iload C 8 dX11_snows_85 rfl ?_
                      refine gr_iload C 7 dX11_snows_87 rfl ?_
                      refine gr_iload C 10 dX11_snows_89 rfl ?_
                      obtain ⟨r33, g32, hc31, hF⟩ := gCl_e hF
                      refine gr_callSI C (n := 2) (As := [.int x20, .int x28]) (rest := [.int x26]) (mX11_has X.2.1 hw  hc31) gX11_snows_X11_has rfl ⟨rfl, rfl⟩ ⟨by decide, by decide⟩ rfl (Nat.le_of_ble_eq_true rfl) rfl (by decide +kernel) dX11_snows_91 ?_
                      obtain ⟨K34, eK34, hF⟩ := gLet_e hF
                      have JK34 : ∀ (x35 : Int32) (g36 : Sg), K34 x35 g36 = some (r, σ') → gG X w g36 105 [(0, .ref (w.2.2.1 0)), (1, .int a0), (2, .int a1), (3, .int a2), (4, .int a3), (5, .int x18), (6, .int x19), (7, .int x20), (9, .int x27), (10, .int x28)] [.int x35, .int x26] := by
                        intro x35 g36 hF
                        rw [eK34] at hF
                        try dsimp only at hF
                        refine gr_imul C dX11_snows_105 ?_
                        obtain ⟨x37, ex37, hF⟩ := gLet_e hF
                        refine gr_nmI ex37 ?_
                        refine gr_istore C [(8, .int x37), (0, .ref (w.2.2.1 0)), (1, .int a0), (2, .int a1), (3, .int a2), (4, .int a3), (5, .int x18), (6, .int x19), (7, .int x20), (9, .int x27), (10, .int x28)] dX11_snows_106 (by decide) rfl ?_
                        refine gr_iload C 9 dX11_snows_108 rfl ?_
                        refine gr_aload_n C 1 dX11_snows_110 rfl rfl ?_
                        refine gr_sipush C (v := 308) dX11_snows_111 (by decide) ?_
                        refine gr_iload C 8 dX11_snows_114 rfl ?_
                        refine gr_iload C 10 dX11_snows_116 rfl ?_
                        obtain ⟨r40, g39, hc38, hF⟩ := gCl_e hF
                        refine gr_callSI C (n := 2) (As := [.int x20, .int x28]) (rest := [.int (308 : Int32), .ref (w.2.2.1 0), .int x27]) (mX11_has X.2.1 hw  hc38) gX11_snows_X11_has rfl ⟨rfl, rfl⟩ ⟨by decide, by decide⟩ rfl (Nat.le_of_ble_eq_true rfl) rfl (by decide +kernel) dX11_snows_118 ?_
                        obtain ⟨r43, g42, hc41, hF⟩ := gCl_e hF
                        refine gr_callVI C (n := 2) (As := [.int (308 : Int32), .int r40]) (rest := [.int x27]) 0 (mX11_goesOn X.2.1 hw  hc41) gX11_snows_X11_goesOn rfl ⟨rfl, rfl⟩ ⟨by decide, by decide⟩ rfl (Nat.le_of_ble_eq_true rfl) rfl (by decide +kernel) (scm_0 hw) rfl dX11_snows_121 ?_
                        refine gr_iadd C dX11_snows_124 ?_
                        obtain ⟨x44, ex44, hF⟩ := gLet_e hF
                        refine gr_nmI ex44 ?_
                        refine gr_istore C [(9, .int x44), (8, .int x37), (0, .ref (w.2.2.1 0)), (1, .int a0), (2, .int a1), (3, .int a2), (4, .int a3), (5, .int x18), (6, .int x19), (7, .int x20), (10, .int x28)] dX11_snows_125 (by decide) rfl ?_
                        obtain ⟨x45, ex45, hF⟩ := gLet_e hF
                        refine gr_iinc C (v := x45) 10 [(10, .int x45), (9, .int x44), (8, .int x37), (0, .ref (w.2.2.1 0)), (1, .int a0), (2, .int a1), (3, .int a2), (4, .int a3), (5, .int x18), (6, .int x19), (7, .int x20)] dX11_snows_127 rfl (by rw [ex45]; rfl) (by decide) rfl ?_
                        refine gr_goto C 79 dX11_snows_130 (by decide) ?_
                        refine gr_sub [3, 4, 5, 6, 7, 8, 9, 10, 2, 1, 0] [(0, .ref (w.2.2.1 0)), (1, .int a0), (2, .int a1), (3, .int a2), (4, .int a3), (5, .int x18), (6, .int x19), (7, .int x20), (8, .int x37), (9, .int x44), (10, .int x45)] rfl ?_
                        exact ih x37 x44 x45 g42 K25 hK25 hF
                      refine gr_if_eq C 101 dX11_snows_94 (by decide) (fun c46 => ?_) (fun c46 => ?_)
                      · rw [if_pos c46] at hF
                        refine gr_sub [0, 1, 2, 3, 4, 5, 6, 7, 9, 10] [(0, .ref (w.2.2.1 0)), (1, .int a0), (2, .int a1), (3, .int a2), (4, .int a3), (5, .int x18), (6, .int x19), (7, .int x20), (9, .int x27), (10, .int x28)] rfl ?_
                        refine gr_bipush C (v := 10) dX11_snows_101 (by decide) ?_
                        refine gr_iload_n C 3 dX11_snows_103 rfl rfl ?_
                        refine gr_isub C dX11_snows_104 ?_
                        exact JK34 ((10 : Int32) - a2) g32 hF
                      · rw [if_neg c46] at hF
                        refine gr_sub [0, 1, 2, 3, 4, 5, 6, 7, 9, 10] [(0, .ref (w.2.2.1 0)), (1, .int a0), (2, .int a1), (3, .int a2), (4, .int a3), (5, .int x18), (6, .int x19), (7, .int x20), (9, .int x27), (10, .int x28)] rfl ?_
                        refine gr_iload_n C 3 dX11_snows_97 rfl rfl ?_
                        refine gr_goto C 105 dX11_snows_98 (by decide) ?_
                        exact JK34 a2 g32 hF
                refine L47 _ (1 : Int32) (0 : Int32) (0 : Int32) g24 _ ?_ hF
                intro x51 x52 g53 hF
                try dsimp only at hF
                refine gr_iload C 6 dX11_snows_133 rfl ?_
                refine gr_iload C 8 dX11_snows_135 rfl ?_
                refine gr_iadd C dX11_snows_137 ?_
                obtain ⟨x54, ex54, hF⟩ := gLet_e hF
                refine gr_nmI ex54 ?_
                refine gr_istore C [(6, .int x54), (0, .ref (w.2.2.1 0)), (1, .int a0), (2, .int a1), (3, .int a2), (4, .int a3), (5, .int x18), (7, .int x20), (8, .int x51), (9, .int x52)] dX11_snows_138 (by decide) rfl ?_
                refine gr_iload C 6 dX11_snows_140 rfl ?_
                refine gr_iload C 9 dX11_snows_142 rfl ?_
                obtain ⟨K55, eK55, hF⟩ := gLet_e hF
                have JK55 : ∀ (x56 : Int32) (g57 : Sg), K55 x56 g57 = some (r, σ') → gG X w g57 166 [(0, .ref (w.2.2.1 0)), (1, .int a0), (2, .int a1), (3, .int a2), (4, .int a3), (6, .int x54), (7, .int x20)] [.int x56, .int x18] := by
                  intro x56 g57 hF
                  rw [eK55] at hF
                  try dsimp only at hF
                  refine gr_iadd C dX11_snows_166 ?_
                  obtain ⟨x58, ex58, hF⟩ := gLet_e hF
                  refine gr_nmI ex58 ?_
                  refine gr_istore C [(5, .int x58), (0, .ref (w.2.2.1 0)), (1, .int a0), (2, .int a1), (3, .int a2), (4, .int a3), (6, .int x54), (7, .int x20)] dX11_snows_167 (by decide) rfl ?_
                  obtain ⟨x59, ex59, hF⟩ := gLet_e hF
                  refine gr_iinc C (v := x59) 7 [(7, .int x59), (5, .int x58), (0, .ref (w.2.2.1 0)), (1, .int a0), (2, .int a1), (3, .int a2), (4, .int a3), (6, .int x54)] dX11_snows_169 rfl (by rw [ex59]; rfl) (by decide) rfl ?_
                  refine gr_goto C 54 dX11_snows_172 (by decide) ?_
                  refine gr_sub [2, 3, 4, 5, 6, 1, 7, 0] [(0, .ref (w.2.2.1 0)), (1, .int a0), (2, .int a1), (3, .int a2), (4, .int a3), (5, .int x58), (6, .int x54), (7, .int x59)] rfl ?_
                  exact ih x58 x54 x59 g57 K17 hK17 hF
                obtain ⟨K60, eK60, hF⟩ := gLet_e hF
                have JK60 : ∀  (g61 : Sg), K60  g61 = some (r, σ') → gG X w g61 165 [(0, .ref (w.2.2.1 0)), (1, .int a0), (2, .int a1), (3, .int a2), (4, .int a3), (6, .int x54), (7, .int x20)] [.int x18] := by
                  intro g61 hF
                  rw [eK60] at hF
                  try dsimp only at hF
                  refine gr_iconst C (v := 0) dX11_snows_165 (by decide) ?_
                  exact JK55 (0 : Int32) g61 hF
                refine gr_if_lt C 165 dX11_snows_144 (by decide) (fun c62 => ?_) (fun c62 => ?_)
                · rw [if_pos c62] at hF
                  refine gr_sub [1, 2, 3, 4, 5, 0, 7] [(0, .ref (w.2.2.1 0)), (1, .int a0), (2, .int a1), (3, .int a2), (4, .int a3), (6, .int x54), (7, .int x20)] rfl ?_
                  exact JK60  g53 hF
                · rw [if_neg c62] at hF
                  refine gr_sub [1, 2, 3, 4, 5, 0, 7, 8] [(0, .ref (w.2.2.1 0)), (1, .int a0), (2, .int a1), (3, .int a2), (4, .int a3), (6, .int x54), (7, .int x20), (8, .int x51)] rfl ?_
                  refine gr_aload_n C 0 dX11_snows_147 rfl rfl ?_
                  refine gr_getR C 0 15 10 dX11_snows_148 (scm_0 hw) rfl inX11 (by decide) ln37 rfl ?_
                  refine gr_sipush C (v := 308) dX11_snows_151 (by decide) ?_
                  refine gr_iload_n C 1 dX11_snows_154 rfl rfl ?_
                  refine gr_iadd C dX11_snows_155 ?_
                  obtain ⟨h64, x63, ex63, hF⟩ := gRd_e hF
                  refine gr_iald C 10 336 dX11_snows_156 (scm_10 hw) h64 ?_
                  refine gr_nmI ex63 ?_
                  refine gr_if_le C 165 dX11_snows_157 (by decide) (fun c65 => ?_) (fun c65 => ?_)
                  · rw [if_pos c65] at hF
                    refine gr_sub [0, 1, 2, 3, 4, 5, 6] [(0, .ref (w.2.2.1 0)), (1, .int a0), (2, .int a1), (3, .int a2), (4, .int a3), (6, .int x54), (7, .int x20)] rfl ?_
                    exact JK60  g53 hF
                  · rw [if_neg c65] at hF
                    refine gr_iload C 7 dX11_snows_160 rfl ?_
                    refine gr_goto C 166 dX11_snows_162 (by decide) ?_
                    refine gr_sub [0, 1, 2, 3, 4, 5, 6] [(0, .ref (w.2.2.1 0)), (1, .int a0), (2, .int a1), (3, .int a2), (4, .int a3), (6, .int x54), (7, .int x20)] rfl ?_
                    exact JK55 x51 g53 hF
          refine L66 _ (0 : Int32) (0 : Int32) (0 : Int32) g14 _ ?_ hF
          intro x70 x71 g72 hF
          try dsimp only at hF
          refine gr_iload C 1 dX11_snows_175 rfl ?_
          refine gr_istore C [(7, .int x70), (4, .int a3), (5, .int x70), (6, .int x71)] dX11_snows_177 (by decide) rfl ?_
          refine gr_iload C 3 dX11_snows_179 rfl ?_
          refine gr_istore C [(8, .int x71), (7, .int x70), (4, .int a3), (5, .int x70), (6, .int x71)] dX11_snows_181 (by decide) rfl ?_
          refine gr_sub [2, 3, 4, 1, 0] [(4, .int a3), (5, .int x70), (6, .int x71), (7, .int x70), (8, .int x71)] rfl ?_
          have L80 : ∀ (n : Nat) (x74 : Int32) (x75 : Int32) (g76 : Sg) (K73 : Int32 → Sg → Option (Int32 × Sg)), (∀ (x81 : Int32) (g82 : Sg), K73 x81 g82 = some (r, σ') → gG X w g82 206 [(4, .int a3), (5, .int x70), (6, .int x71), (7, .int x81)] []) → fX11_snows_183  n x74 x75 g76 K73 = some (r, σ') → gG X w g76 183 [(4, .int a3), (5, .int x70), (6, .int x71), (7, .int x74), (8, .int x75)] [] := by
            intro n
            induction n with
            | zero =>
              intro x74 x75 g76 K73 hK73 hF
              rw [fX11_snows_183] at hF
              cases hF
            | succ n ih =>
              intro x74 x75 g76 K73 hK73 hF
              rw [fX11_snows_183] at hF
              refine gr_iload C 4 dX11_snows_183 rfl ?_
              refine gr_if_eq C 206 dX11_snows_185 (by decide) (fun c77 => ?_) (fun c77 => ?_)
              · rw [if_pos c77] at hF
                refine gr_sub [0, 1, 2, 3] [(4, .int a3), (5, .int x70), (6, .int x71), (7, .int x74)] rfl ?_
                exact hK73 x74 g76 hF
              · rw [if_neg c77] at hF
                refine gr_iload C 3 dX11_snows_188 rfl ?_
                refine gr_iload C 4 dX11_snows_190 rfl ?_
                obtain ⟨h78, hF⟩ := gNz_e hF
                refine gr_irem C dX11_snows_192 h78 ?_
                obtain ⟨x79, ex79, hF⟩ := gLet_e hF
                refine gr_nmI ex79 ?_
                refine gr_istore C [(9, .int x79), (4, .int a3), (5, .int x70), (6, .int x71), (7, .int x74), (8, .int x75)] dX11_snows_193 (by decide) rfl ?_
                refine gr_iload C 5 dX11_snows_195 rfl ?_
                refine gr_istore C [(7, .int x75), (9, .int x79), (4, .int a3), (5, .int x70), (6, .int x71), (8, .int x75)] dX11_snows_197 (by decide) rfl ?_
                refine gr_iload C 1 dX11_snows_199 rfl ?_
                refine gr_istore C [(8, .int x79), (7, .int x75), (9, .int x79), (4, .int a3), (5, .int x70), (6, .int x71)] dX11_snows_201 (by decide) rfl ?_
                refine gr_goto C 183 dX11_snows_203 (by decide) ?_
                refine gr_sub [3, 4, 5, 1, 0] [(4, .int a3), (5, .int x70), (6, .int x71), (7, .int x75), (8, .int x79)] rfl ?_
                exact ih x75 x79 g76 K73 hK73 hF
          refine L80 _ x70 x71 g72 _ ?_ hF
          intro x83 g84 hF
          try dsimp only at hF
          refine gr_iload C 0 dX11_snows_206 rfl ?_
          refine gr_if_ne C 219 dX11_snows_208 (by decide) (fun c85 => ?_) (fun c85 => ?_)
          · rw [if_neg c85] at hF
            refine gr_sub [2, 3] [(6, .int x71), (7, .int x83)] rfl ?_
            refine gr_iload C 0 dX11_snows_219 rfl ?_
            refine gr_iload C 1 dX11_snows_221 rfl ?_
            obtain ⟨h86, hF⟩ := gNz_e hF
            refine gr_idiv C dX11_snows_223 h86 ?_
            cases hF
            exact gr_iret C dX11_snows_224 ⟨rfl, rfl⟩
          · rw [if_pos c85] at hF
            refine gr_sub [1, 3] [(5, .int x70), (7, .int x83)] rfl ?_
            refine gr_iload C 0 dX11_snows_211 rfl ?_
            refine gr_iload C 1 dX11_snows_213 rfl ?_
            obtain ⟨h87, hF⟩ := gNz_e hF
            refine gr_idiv C dX11_snows_215 h87 ?_
            refine gr_goto C 224 dX11_snows_216 (by decide) ?_
            refine gr_sub [] [] rfl ?_
            cases hF
            exact gr_iret C dX11_snows_224 ⟨rfl, rfl⟩
        · rw [if_pos c16] at hF
          refine gr_sub [] [] rfl ?_
          refine gr_iconst C (v := -1) dX11_snows_43 (by decide) ?_
          cases hF
          exact gr_iret C dX11_snows_44 ⟨rfl, rfl⟩
