-- X3_lineUp: 60 instructions, frames 1, locals 22
set_option maxRecDepth 100000 in
set_option maxHeartbeats 4000000 in
theorem mX3_lineUp (l : Launch) {w : Wl} (hw : w.2.2.2 = shC) {σ : Sg} {t : Nat} (ht : gPl w t) {σ' : Sg} (hF : fX3_lineUp σ t = some σ') : gMV l w yX3_lineUp wsX3_lineUp ({ frames := 1, cells := 0, slots := 0, locals := 22 } : Room) [.ref (w.2.2.1 t)] σ σ' := by
  have inX3 : ∀ v ∈ u_ws RX3 TX3 13, v ∈ wsX3_lineUp := by decide +kernel
  have ln15 : Cond.fieldLink RX3 15 (TX3 1).1 (TX3 1).2.1 (TX3 1).2.2.1 ∈ wsX3_lineUp := by decide +kernel
  have ln33 : Cond.fieldLink RX3 33 (TX3 7).1 (TX3 7).2.1 (TX3 7).2.2.1 ∈ wsX3_lineUp := by decide +kernel
  have ln36 : Cond.fieldLink RX3 36 (TX3 8).1 (TX3 8).2.1 (TX3 8).2.2.1 ∈ wsX3_lineUp := by decide +kernel
  have ln46 : Cond.fieldLink RX3 46 (TX3 11).1 (TX3 11).2.1 (TX3 11).2.2.1 ∈ wsX3_lineUp := by decide +kernel
  refine gStartV cX3_lineUp 4 RX3 rfl (by decide) rfl (Nat.le_of_ble_eq_true rfl) ?_
  intro X hl C
  show gG X w σ 0 [(0, .ref (w.2.2.1 t))] []
  unfold fX3_lineUp at hF
  refine gr_iconst C (v := 0) dX3_lineUp_0 (by decide) ?_
  refine gr_istore_n C [(1, .int (0 : Int32)), (0, .ref (w.2.2.1 t))] dX3_lineUp_1 rfl (by decide) rfl ?_
  refine gr_sub [1, 0] [(0, .ref (w.2.2.1 t)), (1, .int (0 : Int32))] rfl ?_
  have L42 : ∀ (n : Nat) (x1 : Int32) (g2 : Sg) , fX3_lineUp_2 t n x1 g2  = some σ' → gG X w g2 2 [(0, .ref (w.2.2.1 t)), (1, .int x1)] [] := by
    intro n
    induction n with
    | zero =>
      intro x1 g2 hF
      rw [fX3_lineUp_2] at hF
      cases hF
    | succ n ih =>
      intro x1 g2 hF
      rw [fX3_lineUp_2] at hF
      refine gr_iload_n C 1 dX3_lineUp_2 rfl rfl ?_
      refine gr_aload_n C 0 dX3_lineUp_3 rfl rfl ?_
      refine gr_getI C t 11 dX3_lineUp_4 ht.1 rfl inX3 (by decide) ln46 rfl ?_
      refine gr_icmp_ge C 96 dX3_lineUp_7 (by decide) (fun c3 => ?_) (fun c3 => ?_)
      · rw [if_pos c3] at hF
        refine gr_sub [] [] rfl ?_
        cases hF
        exact gr_vret C dX3_lineUp_96 ⟨rfl, rfl⟩
      · rw [if_neg c3] at hF
        refine gr_iload_n C 1 dX3_lineUp_10 rfl rfl ?_
        refine gr_istore_n C [(2, .int x1), (0, .ref (w.2.2.1 t)), (1, .int x1)] dX3_lineUp_11 rfl (by decide) rfl ?_
        refine gr_sub [1, 2, 0] [(0, .ref (w.2.2.1 t)), (1, .int x1), (2, .int x1)] rfl ?_
        have L19 : ∀ (n : Nat) (x5 : Int32) (g6 : Sg) (K4 : Int32 → Sg → Option Sg), (∀ (x20 : Int32) (g21 : Sg), K4 x20 g21 = some σ' → gG X w g21 52 [(0, .ref (w.2.2.1 t)), (1, .int x1), (2, .int x20)] []) → fX3_lineUp_12 t x1 n x5 g6 K4 = some σ' → gG X w g6 12 [(0, .ref (w.2.2.1 t)), (1, .int x1), (2, .int x5)] [] := by
          intro n
          induction n with
          | zero =>
            intro x5 g6 K4 hK4 hF
            rw [fX3_lineUp_12] at hF
            cases hF
          | succ n ih =>
            intro x5 g6 K4 hK4 hF
            rw [fX3_lineUp_12] at hF
            refine gr_iload_n C 2 dX3_lineUp_12 rfl rfl ?_
            refine gr_if_le C 52 dX3_lineUp_13 (by decide) (fun c7 => ?_) (fun c7 => ?_)
            · rw [if_pos c7] at hF
              exact hK4 x5 g6 hF
            · rw [if_neg c7] at hF
              refine gr_aload_n C 0 dX3_lineUp_16 rfl rfl ?_
              refine gr_aload_n C 0 dX3_lineUp_17 rfl rfl ?_
              refine gr_getR C t 7 (t + 8) dX3_lineUp_18 ht.1 rfl inX3 (by decide) ln33 rfl ?_
              refine gr_iload_n C 2 dX3_lineUp_21 rfl rfl ?_
              refine gr_iconst C (v := 1) dX3_lineUp_22 (by decide) ?_
              refine gr_isub C dX3_lineUp_23 ?_
              obtain ⟨h9, x8, ex8, hF⟩ := gRd_e hF
              refine gr_iald C (t + 8) 8 dX3_lineUp_24 ht.2.2.2.2.2.2.2.2.1 h9 ?_
              refine gr_nmI ex8 ?_
              refine gr_iload_n C 1 dX3_lineUp_25 rfl rfl ?_
              obtain ⟨r12, g11, hc10, hF⟩ := gCl_e hF
              refine gr_callVI C (n := 2) (As := [.int x8, .int x1]) (rest := []) t (mX3_drinksBehind X.2.1 hw ht hc10) gX3_lineUp_X3_drinksBehind rfl ⟨rfl, rfl⟩ ⟨by decide, by decide⟩ rfl (Nat.le_of_ble_eq_true rfl) rfl (by decide +kernel) ht.1 rfl dX3_lineUp_26 ?_
              refine gr_if_eq C 52 dX3_lineUp_29 (by decide) (fun c13 => ?_) (fun c13 => ?_)
              · rw [if_pos c13] at hF
                exact hK4 x5 g11 hF
              · rw [if_neg c13] at hF
                refine gr_aload_n C 0 dX3_lineUp_32 rfl rfl ?_
                refine gr_getR C t 7 (t + 8) dX3_lineUp_33 ht.1 rfl inX3 (by decide) ln33 rfl ?_
                refine gr_iload_n C 2 dX3_lineUp_36 rfl rfl ?_
                refine gr_aload_n C 0 dX3_lineUp_37 rfl rfl ?_
                refine gr_getR C t 7 (t + 8) dX3_lineUp_38 ht.1 rfl inX3 (by decide) ln33 rfl ?_
                refine gr_iload_n C 2 dX3_lineUp_41 rfl rfl ?_
                refine gr_iconst C (v := 1) dX3_lineUp_42 (by decide) ?_
                refine gr_isub C dX3_lineUp_43 ?_
                obtain ⟨h15, x14, ex14, hF⟩ := gRd_e hF
                refine gr_iald C (t + 8) 8 dX3_lineUp_44 ht.2.2.2.2.2.2.2.2.1 h15 ?_
                refine gr_nmI ex14 ?_
                obtain ⟨h16, g17, eg17, hF⟩ := gWr_e hF
                refine gr_iast C (t + 8) 8 dX3_lineUp_45 ht.2.2.2.2.2.2.2.2.1 h16 ?_
                refine gr_nmS eg17 ?_
                obtain ⟨x18, ex18, hF⟩ := gLet_e hF
                refine gr_iinc C (v := x18) 2 [(2, .int x18), (0, .ref (w.2.2.1 t)), (1, .int x1)] dX3_lineUp_46 rfl (by rw [ex18]; rfl) (by decide) rfl ?_
                refine gr_goto C 12 dX3_lineUp_49 (by decide) ?_
                refine gr_sub [1, 2, 0] [(0, .ref (w.2.2.1 t)), (1, .int x1), (2, .int x18)] rfl ?_
                exact ih x18 g17 K4 hK4 hF
        refine L19 _ x1 g2 _ ?_ hF
        intro x22 g23 hF
        try dsimp only at hF
        refine gr_aload_n C 0 dX3_lineUp_52 rfl rfl ?_
        refine gr_getR C t 7 (t + 8) dX3_lineUp_53 ht.1 rfl inX3 (by decide) ln33 rfl ?_
        refine gr_iload_n C 2 dX3_lineUp_56 rfl rfl ?_
        refine gr_iload_n C 1 dX3_lineUp_57 rfl rfl ?_
        obtain ⟨h24, g25, eg25, hF⟩ := gWr_e hF
        refine gr_iast C (t + 8) 8 dX3_lineUp_58 ht.2.2.2.2.2.2.2.2.1 h24 ?_
        refine gr_nmS eg25 ?_
        refine gr_aload_n C 0 dX3_lineUp_59 rfl rfl ?_
        refine gr_getR C t 1 (t + 2) dX3_lineUp_60 ht.1 rfl inX3 (by decide) ln15 rfl ?_
        refine gr_iload_n C 1 dX3_lineUp_63 rfl rfl ?_
        obtain ⟨h27, x26, ex26, hF⟩ := gRd_e hF
        refine gr_iald C (t + 2) 8 dX3_lineUp_64 ht.2.2.1 h27 ?_
        refine gr_nmI ex26 ?_
        refine gr_iconst C (v := 1) dX3_lineUp_65 (by decide) ?_
        refine gr_iadd C dX3_lineUp_66 ?_
        obtain ⟨x28, ex28, hF⟩ := gLet_e hF
        refine gr_nmI ex28 ?_
        refine gr_istore_n C [(3, .int x28), (0, .ref (w.2.2.1 t)), (1, .int x1), (2, .int x22)] dX3_lineUp_67 rfl (by decide) rfl ?_
        refine gr_sub [1, 2, 0] [(0, .ref (w.2.2.1 t)), (1, .int x1), (3, .int x28)] rfl ?_
        have L38 : ∀ (n : Nat) (x30 : Int32) (g31 : Sg) (K29 : Sg → Option Sg), (∀  (g39 : Sg), K29  g39 = some σ' → gG X w g39 90 [(0, .ref (w.2.2.1 t)), (1, .int x1)] []) → fX3_lineUp_68 t n x30 g31 K29 = some σ' → gG X w g31 68 [(0, .ref (w.2.2.1 t)), (1, .int x1), (3, .int x30)] [] := by
          intro n
          induction n with
          | zero =>
            intro x30 g31 K29 hK29 hF
            rw [fX3_lineUp_68] at hF
            cases hF
          | succ n ih =>
            intro x30 g31 K29 hK29 hF
            rw [fX3_lineUp_68] at hF
            refine gr_iload_n C 2 dX3_lineUp_68 rfl rfl ?_
            refine gr_bipush C (v := 9) dX3_lineUp_69 (by decide) ?_
            refine gr_icmp_gt C 90 dX3_lineUp_71 (by decide) (fun c32 => ?_) (fun c32 => ?_)
            · rw [if_pos c32] at hF
              refine gr_sub [0, 1] [(0, .ref (w.2.2.1 t)), (1, .int x1)] rfl ?_
              exact hK29  g31 hF
            · rw [if_neg c32] at hF
              refine gr_aload_n C 0 dX3_lineUp_74 rfl rfl ?_
              refine gr_getR C t 8 (t + 9) dX3_lineUp_75 ht.1 rfl inX3 (by decide) ln36 rfl ?_
              refine gr_iload_n C 2 dX3_lineUp_78 rfl rfl ?_
              refine gr_dup2 C dX3_lineUp_79 rfl rfl ?_
              obtain ⟨h34, x33, ex33, hF⟩ := gRd_e hF
              refine gr_iald C (t + 9) 10 dX3_lineUp_80 ht.2.2.2.2.2.2.2.2.2 h34 ?_
              refine gr_nmI ex33 ?_
              refine gr_iconst C (v := 1) dX3_lineUp_81 (by decide) ?_
              refine gr_iadd C dX3_lineUp_82 ?_
              obtain ⟨h35, g36, eg36, hF⟩ := gWr_e hF
              refine gr_iast C (t + 9) 10 dX3_lineUp_83 ht.2.2.2.2.2.2.2.2.2 h35 ?_
              refine gr_nmS eg36 ?_
              obtain ⟨x37, ex37, hF⟩ := gLet_e hF
              refine gr_iinc C (v := x37) 2 [(3, .int x37), (0, .ref (w.2.2.1 t)), (1, .int x1)] dX3_lineUp_84 rfl (by rw [ex37]; rfl) (by decide) rfl ?_
              refine gr_goto C 68 dX3_lineUp_87 (by decide) ?_
              refine gr_sub [1, 2, 0] [(0, .ref (w.2.2.1 t)), (1, .int x1), (3, .int x37)] rfl ?_
              exact ih x37 g36 K29 hK29 hF
        refine L38 _ x28 g25 _ ?_ hF
        intro g40 hF
        try dsimp only at hF
        obtain ⟨x41, ex41, hF⟩ := gLet_e hF
        refine gr_iinc C (v := x41) 1 [(1, .int x41), (0, .ref (w.2.2.1 t))] dX3_lineUp_90 rfl (by rw [ex41]; rfl) (by decide) rfl ?_
        refine gr_goto C 2 dX3_lineUp_93 (by decide) ?_
        refine gr_sub [1, 0] [(0, .ref (w.2.2.1 t)), (1, .int x41)] rfl ?_
        exact ih x41 g40   hF
  refine L42 _ (0 : Int32) σ   hF
-- X4_readInto: 101 instructions, frames 3, locals 69
set_option maxRecDepth 100000 in
set_option maxHeartbeats 4000000 in
theorem mX4_readInto (l : Launch) {w : Wl} (hw : w.2.2.2 = shC) {σ : Sg} {p0 : Nat} (hp0 : gPl w p0) {r : Int32} {σ' : Sg} (hF : fX4_readInto σ p0 = some (r, σ')) : gMI l w yX4_readInto wsX4_readInto ({ frames := 3, cells := 0, slots := 0, locals := 69 } : Room) [.ref (w.2.2.1 1), .ref (w.2.2.1 p0)] σ r σ' := by
  have inX4 : ∀ v ∈ u_ws RX4 TX4 3, v ∈ wsX4_readInto := by decide +kernel
  have ln9 : Cond.fieldLink RX4 9 (TX4 0).1 (TX4 0).2.1 (TX4 0).2.2.1 ∈ wsX4_readInto := by decide +kernel
  have ln15 : Cond.fieldLink RX4 15 (TX4 1).1 (TX4 1).2.1 (TX4 1).2.2.1 ∈ wsX4_readInto := by decide +kernel
  have ln18 : Cond.fieldLink RX4 18 (TX4 2).1 (TX4 2).2.1 (TX4 2).2.2.1 ∈ wsX4_readInto := by decide +kernel
  refine gStartI cX4_readInto 7 RX4 rfl (by decide) rfl (Nat.le_of_ble_eq_true rfl) ?_
  intro X hl C
  show gG X w σ 0 [(0, .ref (w.2.2.1 1)), (1, .ref (w.2.2.1 p0))] []
  unfold fX4_readInto at hF
  refine gr_aload_n C 1 dX4_readInto_0 rfl rfl ?_
  obtain ⟨g2, hc1, hF⟩ := gCv_e hF
  refine gr_callVV C (n := 0) (As := []) (rest := []) p0 (mX3_clear X.2.1 hw hp0 hc1) gX4_readInto_X3_clear rfl ⟨rfl, rfl⟩ ⟨by decide, by decide⟩ rfl (Nat.le_of_ble_eq_true rfl) rfl (by decide +kernel) hp0.1 rfl dX4_readInto_1 ?_
  refine gr_iconst C (v := 0) dX4_readInto_4 (by decide) ?_
  refine gr_istore_n C [(2, .int (0 : Int32)), (0, .ref (w.2.2.1 1)), (1, .ref (w.2.2.1 p0))] dX4_readInto_5 rfl (by decide) rfl ?_
  refine gr_iconst C (v := 0) dX4_readInto_6 (by decide) ?_
  refine gr_istore_n C [(3, .int (0 : Int32)), (2, .int (0 : Int32)), (0, .ref (w.2.2.1 1)), (1, .ref (w.2.2.1 p0))] dX4_readInto_7 rfl (by decide) rfl ?_
  refine gr_iconst C (v := 0) dX4_readInto_8 (by decide) ?_
  refine gr_istore C [(4, .int (0 : Int32)), (3, .int (0 : Int32)), (2, .int (0 : Int32)), (0, .ref (w.2.2.1 1)), (1, .ref (w.2.2.1 p0))] dX4_readInto_9 (by decide) rfl ?_
  refine gr_iconst C (v := 0) dX4_readInto_11 (by decide) ?_
  refine gr_istore C [(5, .int (0 : Int32)), (4, .int (0 : Int32)), (3, .int (0 : Int32)), (2, .int (0 : Int32)), (0, .ref (w.2.2.1 1)), (1, .ref (w.2.2.1 p0))] dX4_readInto_12 (by decide) rfl ?_
  refine gr_sub [4, 5, 3, 2, 1, 0] [(0, .ref (w.2.2.1 1)), (1, .ref (w.2.2.1 p0)), (2, .int (0 : Int32)), (3, .int (0 : Int32)), (4, .int (0 : Int32)), (5, .int (0 : Int32))] rfl ?_
  have L48 : ∀ (n : Nat) (x4 : Int32) (x5 : Int32) (x6 : Int32) (x7 : Int32) (g8 : Sg) (K3 : Int32 → Sg → Option (Int32 × Sg)), (∀ (x49 : Int32) (g50 : Sg), K3 x49 g50 = some (r, σ') → gG X w g50 169 [(0, .ref (w.2.2.1 1)), (1, .ref (w.2.2.1 p0)), (2, .int x49)] []) → fX4_readInto_14 p0 n x4 x5 x6 x7 g8 K3 = some (r, σ') → gG X w g8 14 [(0, .ref (w.2.2.1 1)), (1, .ref (w.2.2.1 p0)), (2, .int x4), (3, .int x5), (4, .int x6), (5, .int x7)] [] := by
    intro n
    induction n with
    | zero =>
      intro x4 x5 x6 x7 g8 K3 hK3 hF
      rw [fX4_readInto_14] at hF
      cases hF
    | succ n ih =>
      intro x4 x5 x6 x7 g8 K3 hK3 hF
      rw [fX4_readInto_14] at hF
      refine gr_iload C 5 dX4_readInto_14 rfl ?_
      refine gr_aload_n C 0 dX4_readInto_16 rfl rfl ?_
      refine gr_getI C 1 2 dX4_readInto_17 (sc_1 hw) rfl inX4 (by decide) ln18 rfl ?_
      refine gr_icmp_ge C 169 dX4_readInto_20 (by decide) (fun c9 => ?_) (fun c9 => ?_)
      · rw [if_pos c9] at hF
        refine gr_sub [0, 1, 2] [(0, .ref (w.2.2.1 1)), (1, .ref (w.2.2.1 p0)), (2, .int x4)] rfl ?_
        exact hK3 x4 g8 hF
      · rw [if_neg c9] at hF
        refine gr_aload_n C 0 dX4_readInto_23 rfl rfl ?_
        refine gr_getR C 1 0 2 dX4_readInto_24 (sc_1 hw) rfl inX4 (by decide) ln9 rfl ?_
        refine gr_iload C 5 dX4_readInto_27 rfl ?_
        obtain ⟨h11, x10, ex10, hF⟩ := gRd_e hF
        refine gr_iald C 2 200 dX4_readInto_29 (sc_2 hw) h11 ?_
        refine gr_nmI ex10 ?_
        refine gr_istore C [(6, .int x10), (0, .ref (w.2.2.1 1)), (1, .ref (w.2.2.1 p0)), (2, .int x4), (3, .int x5), (4, .int x6), (5, .int x7)] dX4_readInto_30 (by decide) rfl ?_
        refine gr_iload C 6 dX4_readInto_32 rfl ?_
        refine gr_iload_n C 3 dX4_readInto_34 rfl rfl ?_
        obtain ⟨K12, eK12, hF⟩ := gLet_e hF
        have JK12 : ∀ (x13 : Int32) (x14 : Int32) (x15 : Int32) (g16 : Sg), K12 x13 x14 x15 g16 = some (r, σ') → gG X w g16 163 [(0, .ref (w.2.2.1 1)), (1, .ref (w.2.2.1 p0)), (2, .int x13), (3, .int x14), (4, .int x15), (5, .int x7)] [] := by
          intro x13 x14 x15 g16 hF
          rw [eK12] at hF
          try dsimp only at hF
          obtain ⟨x17, ex17, hF⟩ := gLet_e hF
          refine gr_iinc C (v := x17) 5 [(5, .int x17), (0, .ref (w.2.2.1 1)), (1, .ref (w.2.2.1 p0)), (2, .int x13), (3, .int x14), (4, .int x15)] dX4_readInto_163 rfl (by rw [ex17]; rfl) (by decide) rfl ?_
          refine gr_goto C 14 dX4_readInto_166 (by decide) ?_
          refine gr_sub [1, 2, 3, 4, 5, 0] [(0, .ref (w.2.2.1 1)), (1, .ref (w.2.2.1 p0)), (2, .int x13), (3, .int x14), (4, .int x15), (5, .int x17)] rfl ?_
          exact ih x13 x14 x15 x17 g16 K3 hK3 hF
        refine gr_icmp_ne C 41 dX4_readInto_35 (by decide) (fun c18 => ?_) (fun c18 => ?_)
        · rw [if_neg c18] at hF
          refine gr_sub [1, 2, 3, 4, 5, 6, 0] [(0, .ref (w.2.2.1 1)), (1, .ref (w.2.2.1 p0)), (2, .int x4), (3, .int x5), (4, .int x6), (5, .int x7), (6, .int x10)] rfl ?_
          refine gr_iload C 6 dX4_readInto_41 rfl ?_
          refine gr_bipush C (v := 48) dX4_readInto_43 (by decide) ?_
          obtain ⟨K19, eK19, hF⟩ := gLet_e hF
          have JK19 : ∀  (g20 : Sg), K19  g20 = some (r, σ') → gG X w g20 102 [(0, .ref (w.2.2.1 1)), (1, .ref (w.2.2.1 p0)), (2, .int x4), (3, .int x5), (4, .int x6), (5, .int x7), (6, .int x10)] [] := by
            intro g20 hF
            rw [eK19] at hF
            try dsimp only at hF
            refine gr_iload C 4 dX4_readInto_102 rfl ?_
            refine gr_if_eq C 121 dX4_readInto_104 (by decide) (fun c21 => ?_) (fun c21 => ?_)
            · rw [if_pos c21] at hF
              refine gr_sub [2] [(2, .int x4)] rfl ?_
              refine gr_iload_n C 0 dX4_readInto_121 rfl rfl ?_
              refine gr_sub [] [] rfl ?_
              cases hF
              exact gr_iret C dX4_readInto_122 ⟨rfl, rfl⟩
            · rw [if_neg c21] at hF
              refine gr_sub [0, 1, 2, 3, 5, 6] [(0, .ref (w.2.2.1 1)), (1, .ref (w.2.2.1 p0)), (2, .int x4), (3, .int x5), (5, .int x7), (6, .int x10)] rfl ?_
              refine gr_iload C 5 dX4_readInto_107 rfl ?_
              refine gr_bipush C (v := 44) dX4_readInto_109 (by decide) ?_
              obtain ⟨K22, eK22, hF⟩ := gLet_e hF
              have JK22 : ∀  (g23 : Sg), K22  g23 = some (r, σ') → gG X w g23 123 [(0, .ref (w.2.2.1 1)), (1, .ref (w.2.2.1 p0)), (2, .int x4), (3, .int x5), (5, .int x7), (6, .int x10)] [] := by
                intro g23 hF
                rw [eK22] at hF
                try dsimp only at hF
                obtain ⟨x24, ex24, hF⟩ := gLet_e hF
                refine gr_iinc C (v := x24) 3 [(3, .int x24), (0, .ref (w.2.2.1 1)), (1, .ref (w.2.2.1 p0)), (2, .int x4), (5, .int x7), (6, .int x10)] dX4_readInto_123 rfl (by rw [ex24]; rfl) (by decide) rfl ?_
                refine gr_iconst C (v := 0) dX4_readInto_126 (by decide) ?_
                refine gr_istore C [(4, .int (0 : Int32)), (3, .int x24), (0, .ref (w.2.2.1 1)), (1, .ref (w.2.2.1 p0)), (2, .int x4), (5, .int x7), (6, .int x10)] dX4_readInto_127 (by decide) rfl ?_
                refine gr_iload C 6 dX4_readInto_129 rfl ?_
                refine gr_bipush C (v := 59) dX4_readInto_131 (by decide) ?_
                refine gr_icmp_ne C 163 dX4_readInto_133 (by decide) (fun c25 => ?_) (fun c25 => ?_)
                · rw [if_neg c25] at hF
                  refine gr_sub [2, 3, 4, 1, 0, 5] [(0, .ref (w.2.2.1 1)), (1, .ref (w.2.2.1 p0)), (2, .int x4), (3, .int x24), (4, .int (0 : Int32)), (5, .int x7)] rfl ?_
                  exact JK12 x4 x24 (0 : Int32) g23 hF
                · rw [if_pos c25] at hF
                  refine gr_sub [2, 3, 4, 1, 0, 5] [(0, .ref (w.2.2.1 1)), (1, .ref (w.2.2.1 p0)), (2, .int x4), (3, .int x24), (4, .int (0 : Int32)), (5, .int x7)] rfl ?_
                  refine gr_aload_n C 1 dX4_readInto_136 rfl rfl ?_
                  refine gr_aload_n C 0 dX4_readInto_137 rfl rfl ?_
                  refine gr_getR C 1 0 2 dX4_readInto_138 (sc_1 hw) rfl inX4 (by decide) ln9 rfl ?_
                  refine gr_iload_n C 2 dX4_readInto_141 rfl rfl ?_
                  obtain ⟨h27, x26, ex26, hF⟩ := gRd_e hF
                  refine gr_iald C 2 200 dX4_readInto_142 (sc_2 hw) h27 ?_
                  refine gr_nmI ex26 ?_
                  refine gr_aload_n C 0 dX4_readInto_143 rfl rfl ?_
                  refine gr_getR C 1 1 3 dX4_readInto_144 (sc_1 hw) rfl inX4 (by decide) ln15 rfl ?_
                  refine gr_iload_n C 3 dX4_readInto_147 rfl rfl ?_
                  obtain ⟨r30, g29, hc28, hF⟩ := gCl_e hF
                  refine gr_callVI C (n := 3) (As := [.int x26, .ref (w.2.2.1 3), .int x24]) (rest := []) p0 (mX3_take X.2.1 hw hp0 hc28) gX4_readInto_X3_take rfl ⟨rfl, rfl⟩ ⟨by decide, by decide⟩ rfl (Nat.le_of_ble_eq_true rfl) rfl (by decide +kernel) hp0.1 rfl dX4_readInto_148 ?_
                  refine gr_if_ne C 156 dX4_readInto_151 (by decide) (fun c31 => ?_) (fun c31 => ?_)
                  · rw [if_neg c31] at hF
                    refine gr_sub [0, 1, 4, 5] [(0, .ref (w.2.2.1 1)), (1, .ref (w.2.2.1 p0)), (4, .int (0 : Int32)), (5, .int x7)] rfl ?_
                    refine gr_iload C 3 dX4_readInto_156 rfl ?_
                    refine gr_iconst C (v := 1) dX4_readInto_158 (by decide) ?_
                    refine gr_iadd C dX4_readInto_159 ?_
                    obtain ⟨x32, ex32, hF⟩ := gLet_e hF
                    refine gr_nmI ex32 ?_
                    refine gr_istore_n C [(2, .int x32), (0, .ref (w.2.2.1 1)), (1, .ref (w.2.2.1 p0)), (4, .int (0 : Int32)), (5, .int x7)] dX4_readInto_160 rfl (by decide) rfl ?_
                    refine gr_iconst C (v := 0) dX4_readInto_161 (by decide) ?_
                    refine gr_istore_n C [(3, .int (0 : Int32)), (2, .int x32), (0, .ref (w.2.2.1 1)), (1, .ref (w.2.2.1 p0)), (4, .int (0 : Int32)), (5, .int x7)] dX4_readInto_162 rfl (by decide) rfl ?_
                    refine gr_sub [2, 3, 1, 0, 4, 5] [(0, .ref (w.2.2.1 1)), (1, .ref (w.2.2.1 p0)), (2, .int x32), (3, .int (0 : Int32)), (4, .int (0 : Int32)), (5, .int x7)] rfl ?_
                    exact JK12 x32 (0 : Int32) (0 : Int32) g29 hF
                  · rw [if_pos c31] at hF
                    refine gr_sub [2] [(2, .int x4)] rfl ?_
                    refine gr_iload_n C 0 dX4_readInto_154 rfl rfl ?_
                    refine gr_sub [] [] rfl ?_
                    cases hF
                    exact gr_iret C dX4_readInto_155 ⟨rfl, rfl⟩
              refine gr_icmp_eq C 123 dX4_readInto_111 (by decide) (fun c33 => ?_) (fun c33 => ?_)
              · rw [if_pos c33] at hF
                exact JK22  g20 hF
              · rw [if_neg c33] at hF
                refine gr_iload C 5 dX4_readInto_114 rfl ?_
                refine gr_bipush C (v := 59) dX4_readInto_116 (by decide) ?_
                refine gr_icmp_eq C 123 dX4_readInto_118 (by decide) (fun c34 => ?_) (fun c34 => ?_)
                · rw [if_pos c34] at hF
                  exact JK22  g20 hF
                · rw [if_neg c34] at hF
                  refine gr_sub [2] [(2, .int x4)] rfl ?_
                  refine gr_iload_n C 0 dX4_readInto_121 rfl rfl ?_
                  refine gr_sub [] [] rfl ?_
                  cases hF
                  exact gr_iret C dX4_readInto_122 ⟨rfl, rfl⟩
          refine gr_icmp_lt C 102 dX4_readInto_45 (by decide) (fun c35 => ?_) (fun c35 => ?_)
          · rw [if_pos c35] at hF
            exact JK19  g8 hF
          · rw [if_neg c35] at hF
            refine gr_iload C 6 dX4_readInto_48 rfl ?_
            refine gr_bipush C (v := 57) dX4_readInto_50 (by decide) ?_
            refine gr_icmp_gt C 102 dX4_readInto_52 (by decide) (fun c36 => ?_) (fun c36 => ?_)
            · rw [if_pos c36] at hF
              exact JK19  g8 hF
            · rw [if_neg c36] at hF
              refine gr_iload C 4 dX4_readInto_55 rfl ?_
              refine gr_iconst C (v := 2) dX4_readInto_57 (by decide) ?_
              refine gr_icmp_ge C 102 dX4_readInto_58 (by decide) (fun c37 => ?_) (fun c37 => ?_)
              · rw [if_pos c37] at hF
                exact JK19  g8 hF
              · rw [if_neg c37] at hF
                refine gr_iload_n C 3 dX4_readInto_61 rfl rfl ?_
                refine gr_iconst C (v := 5) dX4_readInto_62 (by decide) ?_
                refine gr_icmp_ge C 102 dX4_readInto_63 (by decide) (fun c38 => ?_) (fun c38 => ?_)
                · rw [if_pos c38] at hF
                  exact JK19  g8 hF
                · rw [if_neg c38] at hF
                  refine gr_aload_n C 0 dX4_readInto_66 rfl rfl ?_
                  refine gr_getR C 1 1 3 dX4_readInto_67 (sc_1 hw) rfl inX4 (by decide) ln15 rfl ?_
                  refine gr_iload_n C 3 dX4_readInto_70 rfl rfl ?_
                  refine gr_iload C 4 dX4_readInto_71 rfl ?_
                  obtain ⟨K39, eK39, hF⟩ := gLet_e hF
                  have JK39 : ∀ (x40 : Int32) (g41 : Sg), K39 x40 g41 = some (r, σ') → gG X w g41 89 [(0, .ref (w.2.2.1 1)), (1, .ref (w.2.2.1 p0)), (2, .int x4), (3, .int x5), (4, .int x6), (5, .int x7), (6, .int x10)] [.int x40, .int x5, .ref (w.2.2.1 3)] := by
                    intro x40 g41 hF
                    rw [eK39] at hF
                    try dsimp only at hF
                    refine gr_iload C 6 dX4_readInto_89 rfl ?_
                    refine gr_iadd C dX4_readInto_91 ?_
                    refine gr_bipush C (v := 48) dX4_readInto_92 (by decide) ?_
                    refine gr_isub C dX4_readInto_94 ?_
                    obtain ⟨h42, g43, eg43, hF⟩ := gWr_e hF
                    refine gr_iast C 3 5 dX4_readInto_95 (sc_3 hw) h42 ?_
                    refine gr_nmS eg43 ?_
                    obtain ⟨x44, ex44, hF⟩ := gLet_e hF
                    refine gr_iinc C (v := x44) 4 [(4, .int x44), (0, .ref (w.2.2.1 1)), (1, .ref (w.2.2.1 p0)), (2, .int x4), (3, .int x5), (5, .int x7), (6, .int x10)] dX4_readInto_96 rfl (by rw [ex44]; rfl) (by decide) rfl ?_
                    refine gr_goto C 163 dX4_readInto_99 (by decide) ?_
                    refine gr_sub [1, 2, 3, 4, 0, 5] [(0, .ref (w.2.2.1 1)), (1, .ref (w.2.2.1 p0)), (2, .int x4), (3, .int x5), (4, .int x44), (5, .int x7)] rfl ?_
                    exact JK12 x4 x5 x44 g43 hF
                  refine gr_if_ne C 80 dX4_readInto_73 (by decide) (fun c45 => ?_) (fun c45 => ?_)
                  · rw [if_neg c45] at hF
                    refine gr_bipush C (v := 10) dX4_readInto_80 (by decide) ?_
                    refine gr_aload_n C 0 dX4_readInto_82 rfl rfl ?_
                    refine gr_getR C 1 1 3 dX4_readInto_83 (sc_1 hw) rfl inX4 (by decide) ln15 rfl ?_
                    refine gr_iload_n C 3 dX4_readInto_86 rfl rfl ?_
                    obtain ⟨h47, x46, ex46, hF⟩ := gRd_e hF
                    refine gr_iald C 3 5 dX4_readInto_87 (sc_3 hw) h47 ?_
                    refine gr_nmI ex46 ?_
                    refine gr_imul C dX4_readInto_88 ?_
                    exact JK39 ((10 : Int32) * x46) g8 hF
                  · rw [if_pos c45] at hF
                    refine gr_iconst C (v := 0) dX4_readInto_76 (by decide) ?_
                    refine gr_goto C 89 dX4_readInto_77 (by decide) ?_
                    exact JK39 (0 : Int32) g8 hF
        · rw [if_pos c18] at hF
          refine gr_sub [1, 2, 3, 4, 5, 6] [(0, .ref (w.2.2.1 1)), (1, .ref (w.2.2.1 p0)), (2, .int x4), (3, .int x5), (4, .int x6), (5, .int x7)] rfl ?_
          refine gr_goto C 163 dX4_readInto_38 (by decide) ?_
          exact JK12 x4 x5 x6 g8 hF
  refine L48 _ (0 : Int32) (0 : Int32) (0 : Int32) (0 : Int32) g2 _ ?_ hF
  intro x51 g52 hF
  try dsimp only at hF
  refine gr_aload_n C 1 dX4_readInto_169 rfl rfl ?_
  obtain ⟨g54, hc53, hF⟩ := gCv_e hF
  refine gr_callVV C (n := 0) (As := []) (rest := []) p0 (mX3_lineUp X.2.1 hw hp0 hc53) gX4_readInto_X3_lineUp rfl ⟨rfl, rfl⟩ ⟨by decide, by decide⟩ rfl (Nat.le_of_ble_eq_true rfl) rfl (by decide +kernel) hp0.1 rfl dX4_readInto_170 ?_
  refine gr_iload_n C 2 dX4_readInto_173 rfl rfl ?_
  refine gr_aload_n C 0 dX4_readInto_174 rfl rfl ?_
  refine gr_getI C 1 2 dX4_readInto_175 (sc_1 hw) rfl inX4 (by decide) ln18 rfl ?_
  refine gr_icmp_ge C 185 dX4_readInto_178 (by decide) (fun c55 => ?_) (fun c55 => ?_)
  · rw [if_pos c55] at hF
    refine gr_sub [] [] rfl ?_
    refine gr_bipush C (v := -4) dX4_readInto_185 (by decide) ?_
    cases hF
    exact gr_iret C dX4_readInto_187 ⟨rfl, rfl⟩
  · rw [if_neg c55] at hF
    refine gr_sub [2] [(2, .int x51)] rfl ?_
    refine gr_iload_n C 0 dX4_readInto_181 rfl rfl ?_
    refine gr_goto C 187 dX4_readInto_182 (by decide) ?_
    refine gr_sub [] [] rfl ?_
    cases hF
    exact gr_iret C dX4_readInto_187 ⟨rfl, rfl⟩
-- X10_fault: 6 instructions, frames 4, locals 95
set_option maxRecDepth 100000 in
set_option maxHeartbeats 4000000 in
theorem mX10_fault (l : Launch) {w : Wl} (hw : w.2.2.2 = shC) {σ : Sg}   {r : Int32} {σ' : Sg} (hF : fX10_fault σ  = some (r, σ')) : gMI l w yX10_fault wsX10_fault ({ frames := 4, cells := 0, slots := 0, locals := 95 } : Room) [.ref (w.2.2.1 0)] σ r σ' := by
  have inX10 : ∀ v ∈ u_ws RX10 TX10 12, v ∈ wsX10_fault := by decide +kernel
  have ln10 : Cond.fieldLink RX10 10 (TX10 0).1 (TX10 0).2.1 (TX10 0).2.2.1 ∈ wsX10_fault := by decide +kernel
  have ln23 : Cond.fieldLink RX10 23 (TX10 2).1 (TX10 2).2.1 (TX10 2).2.2.1 ∈ wsX10_fault := by decide +kernel
  refine gStartI cX10_fault 1 RX10 rfl (by decide) rfl (Nat.le_of_ble_eq_true rfl) ?_
  intro X hl C
  show gG X w σ 0 [(0, .ref (w.2.2.1 0))] []
  unfold fX10_fault at hF
  refine gr_aload_n C 0 dX10_fault_0 rfl rfl ?_
  refine gr_getR C 0 0 1 dX10_fault_1 (sc_0 hw) rfl inX10 (by decide) ln10 rfl ?_
  refine gr_aload_n C 0 dX10_fault_4 rfl rfl ?_
  refine gr_getR C 0 2 14 dX10_fault_5 (sc_0 hw) rfl inX10 (by decide) ln23 rfl ?_
  obtain ⟨r3, g2, hc1, hF⟩ := gCl_e hF
  refine gr_callVI C (n := 1) (As := [.ref (w.2.2.1 14)]) (rest := []) 1 (mX4_readInto X.2.1 hw (pl_14 hw) hc1) gX10_fault_X4_readInto rfl ⟨rfl, rfl⟩ ⟨by decide, by decide⟩ rfl (Nat.le_of_ble_eq_true rfl) rfl (by decide +kernel) (sc_1 hw) rfl dX10_fault_8 ?_
  cases hF
  exact gr_iret C dX10_fault_11 ⟨rfl, rfl⟩
-- X9_startAs: 51 instructions, frames 0, locals 0
set_option maxRecDepth 100000 in
set_option maxHeartbeats 4000000 in
theorem mX9_startAs (l : Launch) {w : Wl} (hw : w.2.2.2 = shC) {σ : Sg} {t : Nat} (ht : gSt w t) {σ' : Sg} (hF : fX9_startAs σ t = some σ') : gMV l w yX9_startAs wsX9_startAs ({ frames := 0, cells := 0, slots := 0, locals := 0 } : Room) [.ref (w.2.2.1 t), .ref (w.2.2.1 4)] σ σ' := by
  have inX3 : ∀ v ∈ u_ws RX3 TX3 13, v ∈ wsX9_startAs := by decide +kernel
  have inX9 : ∀ v ∈ u_ws RX9 TX9 5, v ∈ wsX9_startAs := by decide +kernel
  have ln9 : Cond.fieldLink RX9 9 (TX9 0).1 (TX9 0).2.1 (TX9 0).2.2.1 ∈ wsX9_startAs := by decide +kernel
  have ln15 : Cond.fieldLink RX9 15 (TX9 1).1 (TX9 1).2.1 (TX9 1).2.2.1 ∈ wsX9_startAs := by decide +kernel
  have ln18 : Cond.fieldLink RX9 18 (TX9 2).1 (TX9 2).2.1 (TX9 2).2.2.1 ∈ wsX9_startAs := by decide +kernel
  have ln21 : Cond.fieldLink RX9 21 (TX3 5).1 (TX3 5).2.1 (TX3 5).2.2.1 ∈ wsX9_startAs := by decide +kernel
  have ln24 : Cond.fieldLink RX9 24 (TX3 6).1 (TX3 6).2.1 (TX3 6).2.2.1 ∈ wsX9_startAs := by decide +kernel
  have ln25 : Cond.fieldLink RX9 25 (TX3 11).1 (TX3 11).2.1 (TX3 11).2.2.1 ∈ wsX9_startAs := by decide +kernel
  have ln29 : Cond.fieldLink RX9 29 (TX3 4).1 (TX3 4).2.1 (TX3 4).2.2.1 ∈ wsX9_startAs := by decide +kernel
  have ln30 : Cond.fieldLink RX9 30 (TX9 3).1 (TX9 3).2.1 (TX9 3).2.2.1 ∈ wsX9_startAs := by decide +kernel
  have ln33 : Cond.fieldLink RX9 33 (TX9 4).1 (TX9 4).2.1 (TX9 4).2.2.1 ∈ wsX9_startAs := by decide +kernel
  refine gStartV cX9_startAs 3 RX9 rfl (by decide) rfl (Nat.le_of_ble_eq_true rfl) ?_
  intro X hl C
  show gG X w σ 0 [(0, .ref (w.2.2.1 t)), (1, .ref (w.2.2.1 4))] []
  unfold fX9_startAs at hF
  refine gr_iconst C (v := 0) dX9_startAs_0 (by decide) ?_
  refine gr_istore_n C [(2, .int (0 : Int32)), (0, .ref (w.2.2.1 t)), (1, .ref (w.2.2.1 4))] dX9_startAs_1 rfl (by decide) rfl ?_
  refine gr_sub [1, 2, 0] [(0, .ref (w.2.2.1 t)), (1, .ref (w.2.2.1 4)), (2, .int (0 : Int32))] rfl ?_
  have L14 : ∀ (n : Nat) (x2 : Int32) (g3 : Sg) (K1 : Sg → Option Sg), (∀  (g15 : Sg), K1  g15 = some σ' → gG X w g15 38 [(0, .ref (w.2.2.1 t)), (1, .ref (w.2.2.1 4))] []) → fX9_startAs_2 t n x2 g3 K1 = some σ' → gG X w g3 2 [(0, .ref (w.2.2.1 t)), (1, .ref (w.2.2.1 4)), (2, .int x2)] [] := by
    intro n
    induction n with
    | zero =>
      intro x2 g3 K1 hK1 hF
      rw [fX9_startAs_2] at hF
      cases hF
    | succ n ih =>
      intro x2 g3 K1 hK1 hF
      rw [fX9_startAs_2] at hF
      refine gr_iload_n C 2 dX9_startAs_2 rfl rfl ?_
      refine gr_bipush C (v := 9) dX9_startAs_3 (by decide) ?_
      refine gr_icmp_ge C 38 dX9_startAs_5 (by decide) (fun c4 => ?_) (fun c4 => ?_)
      · rw [if_pos c4] at hF
        refine gr_sub [0, 1] [(0, .ref (w.2.2.1 t)), (1, .ref (w.2.2.1 4))] rfl ?_
        exact hK1  g3 hF
      · rw [if_neg c4] at hF
        refine gr_aload_n C 0 dX9_startAs_8 rfl rfl ?_
        refine gr_getR C t 0 (t + 1) dX9_startAs_9 ht.1 rfl inX9 (by decide) ln9 rfl ?_
        refine gr_iload_n C 2 dX9_startAs_12 rfl rfl ?_
        refine gr_aload_n C 1 dX9_startAs_13 rfl rfl ?_
        refine gr_getR C 4 5 10 dX9_startAs_14 (sc_4 hw) rfl inX3 (by decide) ln21 rfl ?_
        refine gr_iload_n C 2 dX9_startAs_17 rfl rfl ?_
        obtain ⟨h6, x5, ex5, hF⟩ := gRd_e hF
        refine gr_iald C 10 9 dX9_startAs_18 (sc_10 hw) h6 ?_
        refine gr_nmI ex5 ?_
        obtain ⟨h7, g8, eg8, hF⟩ := gWr_e hF
        refine gr_iast C (t + 1) 9 dX9_startAs_19 ht.2.1 h7 ?_
        refine gr_nmS eg8 ?_
        refine gr_aload_n C 0 dX9_startAs_20 rfl rfl ?_
        refine gr_getR C t 1 (t + 2) dX9_startAs_21 ht.1 rfl inX9 (by decide) ln15 rfl ?_
        refine gr_iload_n C 2 dX9_startAs_24 rfl rfl ?_
        refine gr_aload_n C 1 dX9_startAs_25 rfl rfl ?_
        refine gr_getR C 4 6 11 dX9_startAs_26 (sc_4 hw) rfl inX3 (by decide) ln24 rfl ?_
        refine gr_iload_n C 2 dX9_startAs_29 rfl rfl ?_
        obtain ⟨h10, x9, ex9, hF⟩ := gRd_e hF
        refine gr_iald C 11 9 dX9_startAs_30 (sc_11 hw) h10 ?_
        refine gr_nmI ex9 ?_
        obtain ⟨h11, g12, eg12, hF⟩ := gWr_e hF
        refine gr_iast C (t + 2) 9 dX9_startAs_31 ht.2.2.1 h11 ?_
        refine gr_nmS eg12 ?_
        obtain ⟨x13, ex13, hF⟩ := gLet_e hF
        refine gr_iinc C (v := x13) 2 [(2, .int x13), (0, .ref (w.2.2.1 t)), (1, .ref (w.2.2.1 4))] dX9_startAs_32 rfl (by rw [ex13]; rfl) (by decide) rfl ?_
        refine gr_goto C 2 dX9_startAs_35 (by decide) ?_
        refine gr_sub [1, 2, 0] [(0, .ref (w.2.2.1 t)), (1, .ref (w.2.2.1 4)), (2, .int x13)] rfl ?_
        exact ih x13 g12 K1 hK1 hF
  refine L14 _ (0 : Int32) σ _ ?_ hF
  intro g16 hF
  try dsimp only at hF
  refine gr_iconst C (v := 0) dX9_startAs_38 (by decide) ?_
  refine gr_istore_n C [(2, .int (0 : Int32)), (0, .ref (w.2.2.1 t)), (1, .ref (w.2.2.1 4))] dX9_startAs_39 rfl (by decide) rfl ?_
  refine gr_sub [1, 2, 0] [(0, .ref (w.2.2.1 t)), (1, .ref (w.2.2.1 4)), (2, .int (0 : Int32))] rfl ?_
  have L30 : ∀ (n : Nat) (x18 : Int32) (g19 : Sg) (K17 : Sg → Option Sg), (∀  (g31 : Sg), K17  g31 = some σ' → gG X w g31 76 [(0, .ref (w.2.2.1 t))] []) → fX9_startAs_40 t n x18 g19 K17 = some σ' → gG X w g19 40 [(0, .ref (w.2.2.1 t)), (1, .ref (w.2.2.1 4)), (2, .int x18)] [] := by
    intro n
    induction n with
    | zero =>
      intro x18 g19 K17 hK17 hF
      rw [fX9_startAs_40] at hF
      cases hF
    | succ n ih =>
      intro x18 g19 K17 hK17 hF
      rw [fX9_startAs_40] at hF
      refine gr_iload_n C 2 dX9_startAs_40 rfl rfl ?_
      refine gr_bipush C (v := 8) dX9_startAs_41 (by decide) ?_
      refine gr_icmp_ge C 76 dX9_startAs_43 (by decide) (fun c20 => ?_) (fun c20 => ?_)
      · rw [if_pos c20] at hF
        refine gr_sub [0] [(0, .ref (w.2.2.1 t))] rfl ?_
        exact hK17  g19 hF
      · rw [if_neg c20] at hF
        refine gr_aload_n C 0 dX9_startAs_46 rfl rfl ?_
        refine gr_getR C t 2 (t + 3) dX9_startAs_47 ht.1 rfl inX9 (by decide) ln18 rfl ?_
        refine gr_iload_n C 2 dX9_startAs_50 rfl rfl ?_
        refine gr_iload_n C 2 dX9_startAs_51 rfl rfl ?_
        refine gr_aload_n C 1 dX9_startAs_52 rfl rfl ?_
        refine gr_getI C 4 11 dX9_startAs_53 (sc_4 hw) rfl inX3 (by decide) ln25 rfl ?_
        obtain ⟨K21, eK21, hF⟩ := gLet_e hF
        have JK21 : ∀ (x22 : Int32) (g23 : Sg), K21 x22 g23 = some σ' → gG X w g23 69 [(0, .ref (w.2.2.1 t)), (1, .ref (w.2.2.1 4)), (2, .int x18)] [.int x22, .int x18, .ref (w.2.2.1 (t + 3))] := by
          intro x22 g23 hF
          rw [eK21] at hF
          try dsimp only at hF
          obtain ⟨h24, g25, eg25, hF⟩ := gWr_e hF
          refine gr_iast C (t + 3) 8 dX9_startAs_69 ht.2.2.2 h24 ?_
          refine gr_nmS eg25 ?_
          obtain ⟨x26, ex26, hF⟩ := gLet_e hF
          refine gr_iinc C (v := x26) 2 [(2, .int x26), (0, .ref (w.2.2.1 t)), (1, .ref (w.2.2.1 4))] dX9_startAs_70 rfl (by rw [ex26]; rfl) (by decide) rfl ?_
          refine gr_goto C 40 dX9_startAs_73 (by decide) ?_
          refine gr_sub [1, 2, 0] [(0, .ref (w.2.2.1 t)), (1, .ref (w.2.2.1 4)), (2, .int x26)] rfl ?_
          exact ih x26 g25 K17 hK17 hF
        refine gr_icmp_ge C 68 dX9_startAs_56 (by decide) (fun c27 => ?_) (fun c27 => ?_)
        · rw [if_pos c27] at hF
          refine gr_iconst C (v := 0) dX9_startAs_68 (by decide) ?_
          exact JK21 (0 : Int32) g19 hF
        · rw [if_neg c27] at hF
          refine gr_aload_n C 1 dX9_startAs_59 rfl rfl ?_
          refine gr_getR C 4 4 9 dX9_startAs_60 (sc_4 hw) rfl inX3 (by decide) ln29 rfl ?_
          refine gr_iload_n C 2 dX9_startAs_63 rfl rfl ?_
          obtain ⟨h29, x28, ex28, hF⟩ := gRd_e hF
          refine gr_iald C 9 8 dX9_startAs_64 (sc_9 hw) h29 ?_
          refine gr_nmI ex28 ?_
          refine gr_goto C 69 dX9_startAs_65 (by decide) ?_
          exact JK21 x28 g19 hF
  refine L30 _ (0 : Int32) g16 _ ?_ hF
  intro g32 hF
  try dsimp only at hF
  refine gr_aload_n C 0 dX9_startAs_76 rfl rfl ?_
  refine gr_iconst C (v := 0) dX9_startAs_77 (by decide) ?_
  obtain ⟨g33, eg33, hF⟩ := gLet_e hF
  refine gr_putI C t 3 dX9_startAs_78 ht.1 rfl inX9 (by decide) ln30 rfl tyX9 tyX9_ok nmX9 rfl .int rfl rfl rfl ?_
  refine gr_nmS eg33 ?_
  refine gr_aload_n C 0 dX9_startAs_81 rfl rfl ?_
  refine gr_iconst C (v := 0) dX9_startAs_82 (by decide) ?_
  obtain ⟨g34, eg34, hF⟩ := gLet_e hF
  refine gr_putI C t 4 dX9_startAs_83 ht.1 rfl inX9 (by decide) ln33 rfl tyX9 tyX9_ok nmX9 rfl .int rfl rfl rfl ?_
  refine gr_nmS eg34 ?_
  cases hF
  exact gr_vret C dX9_startAs_86 ⟨rfl, rfl⟩
-- X5_clear: 4 instructions, frames 0, locals 0
set_option maxRecDepth 100000 in
set_option maxHeartbeats 4000000 in
theorem mX5_clear (l : Launch) {w : Wl} (hw : w.2.2.2 = shC) {σ : Sg}   {σ' : Sg} (hF : fX5_clear σ  = some σ') : gMV l w yX5_clear wsX5_clear ({ frames := 0, cells := 0, slots := 0, locals := 0 } : Room) [.ref (w.2.2.1 74)] σ σ' := by
  have inX5 : ∀ v ∈ u_ws RX5 TX5 3, v ∈ wsX5_clear := by decide +kernel
  have ln18 : Cond.fieldLink RX5 18 (TX5 2).1 (TX5 2).2.1 (TX5 2).2.2.1 ∈ wsX5_clear := by decide +kernel
  refine gStartV cX5_clear 1 RX5 rfl (by decide) rfl (Nat.le_of_ble_eq_true rfl) ?_
  intro X hl C
  show gG X w σ 0 [(0, .ref (w.2.2.1 74))] []
  unfold fX5_clear at hF
  refine gr_aload_n C 0 dX5_clear_0 rfl rfl ?_
  refine gr_iconst C (v := 0) dX5_clear_1 (by decide) ?_
  obtain ⟨g1, eg1, hF⟩ := gLet_e hF
  refine gr_putI C 74 2 dX5_clear_2 (sc_74 hw) rfl inX5 (by decide) ln18 rfl tyX5 tyX5_ok nmX5 rfl .int rfl rfl rfl ?_
  refine gr_nmS eg1 ?_
  cases hF
  exact gr_vret C dX5_clear_5 ⟨rfl, rfl⟩
-- X7_clear: 4 instructions, frames 0, locals 0
set_option maxRecDepth 100000 in
set_option maxHeartbeats 4000000 in
theorem mX7_clear (l : Launch) {w : Wl} (hw : w.2.2.2 = shC) {σ : Sg} {t : Nat} {nt : Nat} {bt : Nat} (ht : gSh w t nt bt) {σ' : Sg} (hF : fX7_clear σ t nt bt = some σ') : gMV l w yX7_clear wsX7_clear ({ frames := 0, cells := 0, slots := 0, locals := 0 } : Room) [.ref (w.2.2.1 t)] σ σ' := by
  have inX7 : ∀ v ∈ u_ws RX7 TX7 3, v ∈ wsX7_clear := by decide +kernel
  have ln16 : Cond.fieldLink RX7 16 (TX7 2).1 (TX7 2).2.1 (TX7 2).2.2.1 ∈ wsX7_clear := by decide +kernel
  refine gStartV cX7_clear 1 RX7 rfl (by decide) rfl (Nat.le_of_ble_eq_true rfl) ?_
  intro X hl C
  show gG X w σ 0 [(0, .ref (w.2.2.1 t))] []
  unfold fX7_clear at hF
  refine gr_aload_n C 0 dX7_clear_0 rfl rfl ?_
  refine gr_iconst C (v := 0) dX7_clear_1 (by decide) ?_
  obtain ⟨g1, eg1, hF⟩ := gLet_e hF
  refine gr_putI C t 2 dX7_clear_2 ht.1 rfl inX7 (by decide) ln16 rfl tyX7 tyX7_ok nmX7 rfl .int rfl rfl rfl ?_
  refine gr_nmS eg1 ?_
  cases hF
  exact gr_vret C dX7_clear_5 ⟨rfl, rfl⟩
-- X10_start: 15 instructions, frames 1, locals 22
set_option maxRecDepth 100000 in
set_option maxHeartbeats 4000000 in
theorem mX10_start (l : Launch) {w : Wl} (hw : w.2.2.2 = shC) {σ : Sg}   {σ' : Sg} (hF : fX10_start σ  = some σ') : gMV l w yX10_start wsX10_start ({ frames := 1, cells := 0, slots := 0, locals := 22 } : Room) [.ref (w.2.2.1 0)] σ σ' := by
  have inX10 : ∀ v ∈ u_ws RX10 TX10 12, v ∈ wsX10_start := by decide +kernel
  have ln19 : Cond.fieldLink RX10 19 (TX10 1).1 (TX10 1).2.1 (TX10 1).2.2.1 ∈ wsX10_start := by decide +kernel
  have ln29 : Cond.fieldLink RX10 29 (TX10 3).1 (TX10 3).2.1 (TX10 3).2.2.1 ∈ wsX10_start := by decide +kernel
  have ln38 : Cond.fieldLink RX10 38 (TX10 4).1 (TX10 4).2.1 (TX10 4).2.2.1 ∈ wsX10_start := by decide +kernel
  have ln42 : Cond.fieldLink RX10 42 (TX10 5).1 (TX10 5).2.1 (TX10 5).2.2.1 ∈ wsX10_start := by decide +kernel
  have ln57 : Cond.fieldLink RX10 57 (TX10 7).1 (TX10 7).2.1 (TX10 7).2.2.1 ∈ wsX10_start := by decide +kernel
  refine gStartV cX10_start 1 RX10 rfl (by decide) rfl (Nat.le_of_ble_eq_true rfl) ?_
  intro X hl C
  show gG X w σ 0 [(0, .ref (w.2.2.1 0))] []
  unfold fX10_start at hF
  refine gr_aload_n C 0 dX10_start_0 rfl rfl ?_
  refine gr_getR C 0 3 24 dX10_start_1 (sc_0 hw) rfl inX10 (by decide) ln29 rfl ?_
  refine gr_aload_n C 0 dX10_start_4 rfl rfl ?_
  refine gr_getR C 0 1 4 dX10_start_5 (sc_0 hw) rfl inX10 (by decide) ln19 rfl ?_
  obtain ⟨g2, hc1, hF⟩ := gCv_e hF
  refine gr_callVV C (n := 1) (As := [.ref (w.2.2.1 4)]) (rest := []) 24 (mX9_startAs X.2.1 hw (st_24 hw) hc1) gX10_start_X9_startAs rfl ⟨rfl, rfl⟩ ⟨by decide, by decide⟩ rfl (Nat.le_of_ble_eq_true rfl) rfl (by decide +kernel) (sc_24 hw) rfl dX10_start_8 ?_
  refine gr_aload_n C 0 dX10_start_11 rfl rfl ?_
  refine gr_getR C 0 7 74 dX10_start_12 (sc_0 hw) rfl inX10 (by decide) ln57 rfl ?_
  obtain ⟨g4, hc3, hF⟩ := gCv_e hF
  refine gr_callVV C (n := 0) (As := []) (rest := []) 74 (mX5_clear X.2.1 hw  hc3) gX10_start_X5_clear rfl ⟨rfl, rfl⟩ ⟨by decide, by decide⟩ rfl (Nat.le_of_ble_eq_true rfl) rfl (by decide +kernel) (sc_74 hw) rfl dX10_start_15 ?_
  refine gr_aload_n C 0 dX10_start_18 rfl rfl ?_
  refine gr_getR C 0 4 28 dX10_start_19 (sc_0 hw) rfl inX10 (by decide) ln38 rfl ?_
  obtain ⟨g6, hc5, hF⟩ := gCv_e hF
  refine gr_callVV C (n := 0) (As := []) (rest := []) 28 (mX7_clear X.2.1 hw (sh_28 hw) hc5) gX10_start_X7_clear rfl ⟨rfl, rfl⟩ ⟨by decide, by decide⟩ rfl (Nat.le_of_ble_eq_true rfl) rfl (by decide +kernel) (sc_28 hw) rfl dX10_start_22 ?_
  refine gr_aload_n C 0 dX10_start_25 rfl rfl ?_
  refine gr_getR C 0 5 62 dX10_start_26 (sc_0 hw) rfl inX10 (by decide) ln42 rfl ?_
  obtain ⟨g8, hc7, hF⟩ := gCv_e hF
  refine gr_callVV C (n := 0) (As := []) (rest := []) 62 (mX7_clear X.2.1 hw (sh_62 hw) hc7) gX10_start_X7_clear rfl ⟨rfl, rfl⟩ ⟨by decide, by decide⟩ rfl (Nat.le_of_ble_eq_true rfl) rfl (by decide +kernel) (sc_62 hw) rfl dX10_start_29 ?_
  cases hF
  exact gr_vret C dX10_start_32 ⟨rfl, rfl⟩
-- X10_lay: 25 instructions, frames 4, locals 95
set_option maxRecDepth 100000 in
set_option maxHeartbeats 4000000 in
theorem mX10_lay (l : Launch) {w : Wl} (hw : w.2.2.2 = shC) {σ : Sg}   {r : Int32} {σ' : Sg} (hF : fX10_lay σ  = some (r, σ')) : gMI l w yX10_lay wsX10_lay ({ frames := 4, cells := 0, slots := 0, locals := 95 } : Room) [.ref (w.2.2.1 0)] σ r σ' := by
  have inX10 : ∀ v ∈ u_ws RX10 TX10 12, v ∈ wsX10_lay := by decide +kernel
  have inX3 : ∀ v ∈ u_ws RX3 TX3 13, v ∈ wsX10_lay := by decide +kernel
  have ln10 : Cond.fieldLink RX10 10 (TX10 0).1 (TX10 0).2.1 (TX10 0).2.2.1 ∈ wsX10_lay := by decide +kernel
  have ln19 : Cond.fieldLink RX10 19 (TX10 1).1 (TX10 1).2.1 (TX10 1).2.2.1 ∈ wsX10_lay := by decide +kernel
  have ln23 : Cond.fieldLink RX10 23 (TX10 2).1 (TX10 2).2.1 (TX10 2).2.2.1 ∈ wsX10_lay := by decide +kernel
  have ln123 : Cond.fieldLink RX10 123 (TX3 11).1 (TX3 11).2.1 (TX3 11).2.2.1 ∈ wsX10_lay := by decide +kernel
  refine gStartI cX10_lay 1 RX10 rfl (by decide) rfl (Nat.le_of_ble_eq_true rfl) ?_
  intro X hl C
  show gG X w σ 0 [(0, .ref (w.2.2.1 0))] []
  unfold fX10_lay at hF
  refine gr_aload_n C 0 dX10_lay_0 rfl rfl ?_
  refine gr_getR C 0 0 1 dX10_lay_1 (sc_0 hw) rfl inX10 (by decide) ln10 rfl ?_
  refine gr_aload_n C 0 dX10_lay_4 rfl rfl ?_
  refine gr_getR C 0 2 14 dX10_lay_5 (sc_0 hw) rfl inX10 (by decide) ln23 rfl ?_
  obtain ⟨r3, g2, hc1, hF⟩ := gCl_e hF
  refine gr_callVI C (n := 1) (As := [.ref (w.2.2.1 14)]) (rest := []) 1 (mX4_readInto X.2.1 hw (pl_14 hw) hc1) gX10_lay_X4_readInto rfl ⟨rfl, rfl⟩ ⟨by decide, by decide⟩ rfl (Nat.le_of_ble_eq_true rfl) rfl (by decide +kernel) (sc_1 hw) rfl dX10_lay_8 ?_
  refine gr_bipush C (v := -4) dX10_lay_11 (by decide) ?_
  refine gr_icmp_ne C 26 dX10_lay_13 (by decide) (fun c4 => ?_) (fun c4 => ?_)
  · rw [if_neg c4] at hF
    refine gr_sub [] [] rfl ?_
    refine gr_bipush C (v := -2) dX10_lay_26 (by decide) ?_
    cases hF
    exact gr_iret C dX10_lay_28 ⟨rfl, rfl⟩
  · rw [if_pos c4] at hF
    refine gr_aload_n C 0 dX10_lay_16 rfl rfl ?_
    refine gr_getR C 0 2 14 dX10_lay_17 (sc_0 hw) rfl inX10 (by decide) ln23 rfl ?_
    refine gr_getI C 14 11 dX10_lay_20 (sc_14 hw) rfl inX3 (by decide) ln123 rfl ?_
    refine gr_if_ne C 29 dX10_lay_23 (by decide) (fun c5 => ?_) (fun c5 => ?_)
    · rw [if_neg c5] at hF
      refine gr_aload_n C 0 dX10_lay_29 rfl rfl ?_
      refine gr_getR C 0 0 1 dX10_lay_30 (sc_0 hw) rfl inX10 (by decide) ln10 rfl ?_
      refine gr_aload_n C 0 dX10_lay_33 rfl rfl ?_
      refine gr_getR C 0 1 4 dX10_lay_34 (sc_0 hw) rfl inX10 (by decide) ln19 rfl ?_
      obtain ⟨r8, g7, hc6, hF⟩ := gCl_e hF
      refine gr_callVI C (n := 1) (As := [.ref (w.2.2.1 4)]) (rest := []) 1 (mX4_readInto X.2.1 hw (pl_4 hw) hc6) gX10_lay_X4_readInto rfl ⟨rfl, rfl⟩ ⟨by decide, by decide⟩ rfl (Nat.le_of_ble_eq_true rfl) rfl (by decide +kernel) (sc_1 hw) rfl dX10_lay_37 ?_
      refine gr_pop C dX10_lay_40 rfl ?_
      refine gr_aload_n C 0 dX10_lay_41 rfl rfl ?_
      obtain ⟨g10, hc9, hF⟩ := gCv_e hF
      refine gr_callVV C (n := 0) (As := []) (rest := []) 0 (mX10_start X.2.1 hw  hc9) gX10_lay_X10_start rfl ⟨rfl, rfl⟩ ⟨by decide, by decide⟩ rfl (Nat.le_of_ble_eq_true rfl) rfl (by decide +kernel) (sc_0 hw) rfl dX10_lay_42 ?_
      refine gr_aload_n C 0 dX10_lay_45 rfl rfl ?_
      refine gr_getR C 0 1 4 dX10_lay_46 (sc_0 hw) rfl inX10 (by decide) ln19 rfl ?_
      refine gr_getI C 4 11 dX10_lay_49 (sc_4 hw) rfl inX3 (by decide) ln123 rfl ?_
      cases hF
      exact gr_iret C dX10_lay_52 ⟨rfl, rfl⟩
    · rw [if_pos c5] at hF
      refine gr_sub [] [] rfl ?_
      refine gr_bipush C (v := -2) dX10_lay_26 (by decide) ?_
      cases hF
      exact gr_iret C dX10_lay_28 ⟨rfl, rfl⟩
-- X10_noStep: 9 instructions, frames 1, locals 22
set_option maxRecDepth 100000 in
set_option maxHeartbeats 4000000 in
theorem mX10_noStep (l : Launch) {w : Wl} (hw : w.2.2.2 = shC) {σ : Sg} {a0 : Int32}  {r : Int32} {σ' : Sg} (hF : fX10_noStep σ a0 = some (r, σ')) : gMI l w yX10_noStep wsX10_noStep ({ frames := 1, cells := 0, slots := 0, locals := 22 } : Room) [.ref (w.2.2.1 0), .int a0] σ r σ' := by
  have inX10 : ∀ v ∈ u_ws RX10 TX10 12, v ∈ wsX10_noStep := by decide +kernel
  have inX3 : ∀ v ∈ u_ws RX3 TX3 13, v ∈ wsX10_noStep := by decide +kernel
  have ln19 : Cond.fieldLink RX10 19 (TX10 1).1 (TX10 1).2.1 (TX10 1).2.2.1 ∈ wsX10_noStep := by decide +kernel
  have ln272 : Cond.fieldLink RX10 272 (TX3 9).1 (TX3 9).2.1 (TX3 9).2.2.1 ∈ wsX10_noStep := by decide +kernel
  refine gStartZ cX10_noStep 2 RX10 rfl (by decide) rfl (Nat.le_of_ble_eq_true rfl) ?_
  intro X hl C
  show gG X w σ 0 [(0, .ref (w.2.2.1 0)), (1, .int a0)] []
  unfold fX10_noStep at hF
  refine gr_iload_n C 1 dX10_noStep_0 rfl rfl ?_
  refine gr_iconst C (v := 0) dX10_noStep_1 (by decide) ?_
  refine gr_aload_n C 0 dX10_noStep_2 rfl rfl ?_
  refine gr_getR C 0 1 4 dX10_noStep_3 (sc_0 hw) rfl inX10 (by decide) ln19 rfl ?_
  refine gr_getI C 4 9 dX10_noStep_6 (sc_4 hw) rfl inX3 (by decide) ln272 rfl ?_
  refine gr_iconst C (v := 1) dX10_noStep_9 (by decide) ?_
  refine gr_isub C dX10_noStep_10 ?_
  obtain ⟨r3, g2, hc1, hF⟩ := gCl_e hF
  refine gr_callSI C (n := 3) (As := [.int a0, .int (0 : Int32), .int ((σ 4 9) - (1 : Int32))]) (rest := []) (mX10_outside X.2.1 hw  hc1) gX10_noStep_X10_outside rfl ⟨rfl, rfl⟩ ⟨by decide, by decide⟩ rfl (Nat.le_of_ble_eq_true rfl) rfl (by decide +kernel) dX10_noStep_11 ?_
  obtain ⟨h4, hF⟩ := gZ_e hF
  cases hF
  exact gr_zret C dX10_noStep_14 h4.1 ⟨rfl, rfl⟩
-- X2_notGoneAt: 40 instructions, frames 0, locals 0
set_option maxRecDepth 100000 in
set_option maxHeartbeats 4000000 in
theorem mX2_notGoneAt (l : Launch) {w : Wl} (hw : w.2.2.2 = shC) {σ : Sg} {s0 : Nat} {a1 : Int32} (hs0 : gSt w s0) {r : Int32} {σ' : Sg} (hF : fX2_notGoneAt σ s0 a1 = some (r, σ')) : gMI l w yX2_notGoneAt wsX2_notGoneAt ({ frames := 0, cells := 0, slots := 0, locals := 0 } : Room) [.ref (w.2.2.1 72), .ref (w.2.2.1 s0), .int a1] σ r σ' := by
  have inX2 : ∀ v ∈ u_ws RX2 TX2 2, v ∈ wsX2_notGoneAt := by decide +kernel
  have inX3 : ∀ v ∈ u_ws RX3 TX3 13, v ∈ wsX2_notGoneAt := by decide +kernel
  have inX9 : ∀ v ∈ u_ws RX9 TX9 5, v ∈ wsX2_notGoneAt := by decide +kernel
  have ln15 : Cond.fieldLink RX2 15 (TX2 0).1 (TX2 0).2.1 (TX2 0).2.2.1 ∈ wsX2_notGoneAt := by decide +kernel
  have ln19 : Cond.fieldLink RX2 19 (TX3 8).1 (TX3 8).2.1 (TX3 8).2.2.1 ∈ wsX2_notGoneAt := by decide +kernel
  have ln24 : Cond.fieldLink RX2 24 (TX3 7).1 (TX3 7).2.1 (TX3 7).2.2.1 ∈ wsX2_notGoneAt := by decide +kernel
  have ln27 : Cond.fieldLink RX2 27 (TX9 2).1 (TX9 2).2.1 (TX9 2).2.2.1 ∈ wsX2_notGoneAt := by decide +kernel
  refine gStartI cX2_notGoneAt 6 RX2 rfl (by decide) rfl (Nat.le_of_ble_eq_true rfl) ?_
  intro X hl C
  show gG X w σ 0 [(0, .ref (w.2.2.1 72)), (1, .ref (w.2.2.1 s0)), (2, .int a1)] []
  unfold fX2_notGoneAt at hF
  refine gr_iconst C (v := 0) dX2_notGoneAt_0 (by decide) ?_
  refine gr_istore_n C [(3, .int (0 : Int32)), (0, .ref (w.2.2.1 72)), (1, .ref (w.2.2.1 s0)), (2, .int a1)] dX2_notGoneAt_1 rfl (by decide) rfl ?_
  refine gr_aload_n C 1 dX2_notGoneAt_2 rfl rfl ?_
  refine gr_getR C 72 0 4 dX2_notGoneAt_3 (sc_72 hw) rfl inX2 (by decide) ln15 rfl ?_
  refine gr_getR C 4 8 13 dX2_notGoneAt_6 (sc_4 hw) rfl inX3 (by decide) ln19 rfl ?_
  refine gr_iload_n C 3 dX2_notGoneAt_9 rfl rfl ?_
  obtain ⟨h2, x1, ex1, hF⟩ := gRd_e hF
  refine gr_iald C 13 10 dX2_notGoneAt_10 (sc_13 hw) h2 ?_
  refine gr_nmI ex1 ?_
  refine gr_istore C [(4, .int x1), (3, .int (0 : Int32)), (0, .ref (w.2.2.1 72)), (1, .ref (w.2.2.1 s0)), (2, .int a1)] dX2_notGoneAt_11 (by decide) rfl ?_
  refine gr_sub [2, 3, 4, 1, 0] [(0, .ref (w.2.2.1 72)), (1, .ref (w.2.2.1 s0)), (2, .int a1), (3, .int (0 : Int32)), (4, .int x1)] rfl ?_
  have L19 : ∀ (n : Nat) (x3 : Int32) (x4 : Int32) (g5 : Sg) , fX2_notGoneAt_13 a1 s0 n x3 x4 g5  = some (r, σ') → gG X w g5 13 [(0, .ref (w.2.2.1 72)), (1, .ref (w.2.2.1 s0)), (2, .int a1), (3, .int x3), (4, .int x4)] [] := by
    intro n
    induction n with
    | zero =>
      intro x3 x4 g5 hF
      rw [fX2_notGoneAt_13] at hF
      cases hF
    | succ n ih =>
      intro x3 x4 g5 hF
      rw [fX2_notGoneAt_13] at hF
      refine gr_iload C 4 dX2_notGoneAt_13 rfl ?_
      refine gr_aload_n C 0 dX2_notGoneAt_15 rfl rfl ?_
      refine gr_getR C 72 0 4 dX2_notGoneAt_16 (sc_72 hw) rfl inX2 (by decide) ln15 rfl ?_
      refine gr_getR C 4 8 13 dX2_notGoneAt_19 (sc_4 hw) rfl inX3 (by decide) ln19 rfl ?_
      refine gr_iload_n C 2 dX2_notGoneAt_22 rfl rfl ?_
      refine gr_iconst C (v := 1) dX2_notGoneAt_23 (by decide) ?_
      refine gr_iadd C dX2_notGoneAt_24 ?_
      obtain ⟨h7, x6, ex6, hF⟩ := gRd_e hF
      refine gr_iald C 13 10 dX2_notGoneAt_25 (sc_13 hw) h7 ?_
      refine gr_nmI ex6 ?_
      refine gr_icmp_ge C 68 dX2_notGoneAt_26 (by decide) (fun c8 => ?_) (fun c8 => ?_)
      · rw [if_pos c8] at hF
        refine gr_sub [3] [(3, .int x3)] rfl ?_
        refine gr_iload_n C 0 dX2_notGoneAt_68 rfl rfl ?_
        refine gr_sub [] [] rfl ?_
        cases hF
        exact gr_iret C dX2_notGoneAt_69 ⟨rfl, rfl⟩
      · rw [if_neg c8] at hF
        refine gr_aload_n C 0 dX2_notGoneAt_29 rfl rfl ?_
        refine gr_getR C 72 0 4 dX2_notGoneAt_30 (sc_72 hw) rfl inX2 (by decide) ln15 rfl ?_
        refine gr_getR C 4 7 12 dX2_notGoneAt_33 (sc_4 hw) rfl inX3 (by decide) ln24 rfl ?_
        refine gr_iload C 4 dX2_notGoneAt_36 rfl ?_
        obtain ⟨h10, x9, ex9, hF⟩ := gRd_e hF
        refine gr_iald C 12 8 dX2_notGoneAt_38 (sc_12 hw) h10 ?_
        refine gr_nmI ex9 ?_
        refine gr_istore C [(5, .int x9), (0, .ref (w.2.2.1 72)), (1, .ref (w.2.2.1 s0)), (2, .int a1), (3, .int x3), (4, .int x4)] dX2_notGoneAt_39 (by decide) rfl ?_
        refine gr_iload_n C 4 dX2_notGoneAt_41 rfl rfl ?_
        refine gr_aload_n C 2 dX2_notGoneAt_42 rfl rfl ?_
        refine gr_getR C s0 2 (s0 + 3) dX2_notGoneAt_43 hs0.1 rfl inX9 (by decide) ln27 rfl ?_
        refine gr_iload C 0 dX2_notGoneAt_46 rfl ?_
        obtain ⟨h12, x11, ex11, hF⟩ := gRd_e hF
        refine gr_iald C (s0 + 3) 8 dX2_notGoneAt_48 hs0.2.2.2 h12 ?_
        refine gr_nmI ex11 ?_
        obtain ⟨K13, eK13, hF⟩ := gLet_e hF
        have JK13 : ∀ (x14 : Int32) (g15 : Sg), K13 x14 g15 = some (r, σ') → gG X w g15 60 [(0, .ref (w.2.2.1 72)), (1, .ref (w.2.2.1 s0)), (2, .int a1), (4, .int x4)] [.int x14, .int x3] := by
          intro x14 g15 hF
          rw [eK13] at hF
          try dsimp only at hF
          refine gr_ior C dX2_notGoneAt_60 ?_
          obtain ⟨x16, ex16, hF⟩ := gLet_e hF
          refine gr_nmI ex16 ?_
          refine gr_istore_n C [(3, .int x16), (0, .ref (w.2.2.1 72)), (1, .ref (w.2.2.1 s0)), (2, .int a1), (4, .int x4)] dX2_notGoneAt_61 rfl (by decide) rfl ?_
          obtain ⟨x17, ex17, hF⟩ := gLet_e hF
          refine gr_iinc C (v := x17) 4 [(4, .int x17), (3, .int x16), (0, .ref (w.2.2.1 72)), (1, .ref (w.2.2.1 s0)), (2, .int a1)] dX2_notGoneAt_62 rfl (by rw [ex17]; rfl) (by decide) rfl ?_
          refine gr_goto C 13 dX2_notGoneAt_65 (by decide) ?_
          refine gr_sub [2, 3, 4, 1, 0] [(0, .ref (w.2.2.1 72)), (1, .ref (w.2.2.1 s0)), (2, .int a1), (3, .int x16), (4, .int x17)] rfl ?_
          exact ih x16 x17 g15   hF
        refine gr_if_le C 59 dX2_notGoneAt_49 (by decide) (fun c18 => ?_) (fun c18 => ?_)
        · rw [if_pos c18] at hF
          refine gr_sub [1, 2, 3, 5] [(0, .ref (w.2.2.1 72)), (1, .ref (w.2.2.1 s0)), (2, .int a1), (4, .int x4)] rfl ?_
          refine gr_iconst C (v := 0) dX2_notGoneAt_59 (by decide) ?_
          exact JK13 (0 : Int32) g5 hF
        · rw [if_neg c18] at hF
          refine gr_sub [1, 2, 3, 5, 0] [(0, .ref (w.2.2.1 72)), (1, .ref (w.2.2.1 s0)), (2, .int a1), (4, .int x4), (5, .int x9)] rfl ?_
          refine gr_iconst C (v := 1) dX2_notGoneAt_52 (by decide) ?_
          refine gr_iload C 4 dX2_notGoneAt_53 rfl ?_
          refine gr_ishl C dX2_notGoneAt_55 ?_
          refine gr_goto C 60 dX2_notGoneAt_56 (by decide) ?_
          refine gr_sub [0, 1, 2, 3] [(0, .ref (w.2.2.1 72)), (1, .ref (w.2.2.1 s0)), (2, .int a1), (4, .int x4)] rfl ?_
          exact JK13 ((1 : Int32) <<< (x9 &&& 31)) g5 hF
  refine L19 _ (0 : Int32) x1 σ   hF
-- X2_drinkersAt: 10 instructions, frames 1, locals 25
set_option maxRecDepth 100000 in
set_option maxHeartbeats 4000000 in
theorem mX2_drinkersAt (l : Launch) {w : Wl} (hw : w.2.2.2 = shC) {σ : Sg} {s0 : Nat} {a1 : Int32} (hs0 : gSt w s0) {r : Int32} {σ' : Sg} (hF : fX2_drinkersAt σ s0 a1 = some (r, σ')) : gMI l w yX2_drinkersAt wsX2_drinkersAt ({ frames := 1, cells := 0, slots := 0, locals := 25 } : Room) [.ref (w.2.2.1 72), .ref (w.2.2.1 s0), .int a1] σ r σ' := by
  have inX9 : ∀ v ∈ u_ws RX9 TX9 5, v ∈ wsX2_drinkersAt := by decide +kernel
  have ln36 : Cond.fieldLink RX2 36 (TX9 3).1 (TX9 3).2.1 (TX9 3).2.2.1 ∈ wsX2_drinkersAt := by decide +kernel
  refine gStartI cX2_drinkersAt 3 RX2 rfl (by decide) rfl (Nat.le_of_ble_eq_true rfl) ?_
  intro X hl C
  show gG X w σ 0 [(0, .ref (w.2.2.1 72)), (1, .ref (w.2.2.1 s0)), (2, .int a1)] []
  unfold fX2_drinkersAt at hF
  refine gr_aload_n C 0 dX2_drinkersAt_0 rfl rfl ?_
  refine gr_aload_n C 1 dX2_drinkersAt_1 rfl rfl ?_
  refine gr_iload_n C 2 dX2_drinkersAt_2 rfl rfl ?_
  obtain ⟨r3, g2, hc1, hF⟩ := gCl_e hF
  refine gr_callVI C (n := 2) (As := [.ref (w.2.2.1 s0), .int a1]) (rest := []) 72 (mX2_notGoneAt X.2.1 hw hs0 hc1) gX2_drinkersAt_X2_notGoneAt rfl ⟨rfl, rfl⟩ ⟨by decide, by decide⟩ rfl (Nat.le_of_ble_eq_true rfl) rfl (by decide +kernel) (sc_72 hw) rfl dX2_drinkersAt_3 ?_
  refine gr_aload_n C 1 dX2_drinkersAt_6 rfl rfl ?_
  refine gr_getI C s0 3 dX2_drinkersAt_7 hs0.1 rfl inX9 (by decide) ln36 rfl ?_
  refine gr_iconst C (v := -1) dX2_drinkersAt_10 (by decide) ?_
  refine gr_ixor C dX2_drinkersAt_11 ?_
  refine gr_iand C dX2_drinkersAt_12 ?_
  cases hF
  exact gr_iret C dX2_drinkersAt_13 ⟨rfl, rfl⟩
-- X10_has: 10 instructions, frames 0, locals 0
set_option maxRecDepth 100000 in
set_option maxHeartbeats 4000000 in
theorem mX10_has (l : Launch) {w : Wl} (hw : w.2.2.2 = shC) {σ : Sg} {a0 : Int32} {a1 : Int32}  {r : Int32} {σ' : Sg} (hF : fX10_has σ a0 a1 = some (r, σ')) : gMI l w yX10_has wsX10_has ({ frames := 0, cells := 0, slots := 0, locals := 0 } : Room) [.int a0, .int a1] σ r σ' := by
  refine gStartZ cX10_has 2 RX10 rfl (by decide) rfl (Nat.le_of_ble_eq_true rfl) ?_
  intro X hl C
  show gG X w σ 0 [(0, .int a0), (1, .int a1)] []
  unfold fX10_has at hF
  refine gr_iload_n C 0 dX10_has_0 rfl rfl ?_
  refine gr_iload_n C 1 dX10_has_1 rfl rfl ?_
  refine gr_ishr C dX10_has_2 ?_
  refine gr_iconst C (v := 1) dX10_has_3 (by decide) ?_
  refine gr_iand C dX10_has_4 ?_
  refine gr_if_eq C 12 dX10_has_5 (by decide) (fun c1 => ?_) (fun c1 => ?_)
  · rw [if_pos c1] at hF
    refine gr_sub [] [] rfl ?_
    refine gr_iconst C (v := 0) dX10_has_12 (by decide) ?_
    cases hF
    exact gr_zret C dX10_has_13 rfl ⟨rfl, rfl⟩
  · rw [if_neg c1] at hF
    refine gr_sub [] [] rfl ?_
    refine gr_iconst C (v := 1) dX10_has_8 (by decide) ?_
    refine gr_goto C 13 dX10_has_9 (by decide) ?_
    cases hF
    exact gr_zret C dX10_has_13 rfl ⟨rfl, rfl⟩
-- X3_wants: 35 instructions, frames 0, locals 0
set_option maxRecDepth 100000 in
set_option maxHeartbeats 4000000 in
theorem mX3_wants (l : Launch) {w : Wl} (hw : w.2.2.2 = shC) {σ : Sg} {t : Nat} {a0 : Int32} {a1 : Int32} (ht : gPl w t) {r : Int32} {σ' : Sg} (hF : fX3_wants σ t a0 a1 = some (r, σ')) : gMI l w yX3_wants wsX3_wants ({ frames := 0, cells := 0, slots := 0, locals := 0 } : Room) [.ref (w.2.2.1 t), .int a0, .int a1] σ r σ' := by
  have inX3 : ∀ v ∈ u_ws RX3 TX3 13, v ∈ wsX3_wants := by decide +kernel
  have ln9 : Cond.fieldLink RX3 9 (TX3 0).1 (TX3 0).2.1 (TX3 0).2.2.1 ∈ wsX3_wants := by decide +kernel
  have ln21 : Cond.fieldLink RX3 21 (TX3 3).1 (TX3 3).2.1 (TX3 3).2.2.1 ∈ wsX3_wants := by decide +kernel
  refine gStartI cX3_wants 3 RX3 rfl (by decide) rfl (Nat.le_of_ble_eq_true rfl) ?_
  intro X hl C
  show gG X w σ 0 [(0, .ref (w.2.2.1 t)), (1, .int a0), (2, .int a1)] []
  unfold fX3_wants at hF
  refine gr_aload_n C 0 dX3_wants_0 rfl rfl ?_
  refine gr_getR C t 0 (t + 1) dX3_wants_1 ht.1 rfl inX3 (by decide) ln9 rfl ?_
  refine gr_iload_n C 1 dX3_wants_4 rfl rfl ?_
  obtain ⟨h2, x1, ex1, hF⟩ := gRd_e hF
  refine gr_iald C (t + 1) 8 dX3_wants_5 ht.2.1 h2 ?_
  refine gr_nmI ex1 ?_
  by_cases c3 : x1 = (1 : Int32)
  · rw [if_pos c3] at hF
    refine gr_tin C 1 26 32 dX3_wants_6 (by rw [c3]; decide) (by decide) (by decide) rfl (by decide) ?_
    refine gr_sub [0, 1] [(0, .ref (w.2.2.1 t)), (1, .int a0)] rfl ?_
    refine gr_aload_n C 0 dX3_wants_32 rfl rfl ?_
    refine gr_getR C t 3 (t + 4) dX3_wants_33 ht.1 rfl inX3 (by decide) ln21 rfl ?_
    refine gr_iload_n C 1 dX3_wants_36 rfl rfl ?_
    obtain ⟨h5, x4, ex4, hF⟩ := gRd_e hF
    refine gr_iald C (t + 4) 8 dX3_wants_37 ht.2.2.2.2.1 h5 ?_
    refine gr_nmI ex4 ?_
    refine gr_iconst C (v := 2) dX3_wants_38 (by decide) ?_
    refine gr_idiv C dX3_wants_39 (by decide) ?_
    refine gr_iconst C (v := 1) dX3_wants_40 (by decide) ?_
    refine gr_iadd C dX3_wants_41 ?_
    cases hF
    exact gr_iret C dX3_wants_42 ⟨rfl, rfl⟩
  · rw [if_neg c3] at hF
    by_cases c7 : x1 = (2 : Int32)
    · rw [if_pos c7] at hF
      refine gr_tin C 2 37 43 dX3_wants_6 (by rw [c7]; decide) (by decide) (by decide) rfl (by decide) ?_
      refine gr_sub [0, 1] [(0, .ref (w.2.2.1 t)), (1, .int a0)] rfl ?_
      refine gr_iconst C (v := 2) dX3_wants_43 (by decide) ?_
      refine gr_aload_n C 0 dX3_wants_44 rfl rfl ?_
      refine gr_getR C t 3 (t + 4) dX3_wants_45 ht.1 rfl inX3 (by decide) ln21 rfl ?_
      refine gr_iload_n C 1 dX3_wants_48 rfl rfl ?_
      obtain ⟨h9, x8, ex8, hF⟩ := gRd_e hF
      refine gr_iald C (t + 4) 8 dX3_wants_49 ht.2.2.2.2.1 h9 ?_
      refine gr_nmI ex8 ?_
      refine gr_imul C dX3_wants_50 ?_
      cases hF
      exact gr_iret C dX3_wants_51 ⟨rfl, rfl⟩
    · rw [if_neg c7] at hF
      by_cases c10 : x1 = (3 : Int32)
      · rw [if_pos c10] at hF
        refine gr_tin C 3 46 52 dX3_wants_6 (by rw [c10]; decide) (by decide) (by decide) rfl (by decide) ?_
        refine gr_iload_n C 2 dX3_wants_52 rfl rfl ?_
        refine gr_if_eq C 60 dX3_wants_53 (by decide) (fun c11 => ?_) (fun c11 => ?_)
        · rw [if_pos c11] at hF
          refine gr_sub [0, 1] [(0, .ref (w.2.2.1 t)), (1, .int a0)] rfl ?_
          refine gr_aload_n C 0 dX3_wants_60 rfl rfl ?_
          refine gr_getR C t 3 (t + 4) dX3_wants_61 ht.1 rfl inX3 (by decide) ln21 rfl ?_
          refine gr_iload_n C 1 dX3_wants_64 rfl rfl ?_
          obtain ⟨h13, x12, ex12, hF⟩ := gRd_e hF
          refine gr_iald C (t + 4) 8 dX3_wants_65 ht.2.2.2.2.1 h13 ?_
          refine gr_nmI ex12 ?_
          cases hF
          exact gr_iret C dX3_wants_66 ⟨rfl, rfl⟩
        · rw [if_neg c11] at hF
          refine gr_sub [] [] rfl ?_
          refine gr_iconst C (v := 0) dX3_wants_56 (by decide) ?_
          refine gr_goto C 66 dX3_wants_57 (by decide) ?_
          cases hF
          exact gr_iret C dX3_wants_66 ⟨rfl, rfl⟩
      · rw [if_neg c10] at hF
        have nc3 := i32_ne c3
        have nc7 := i32_ne c7
        have nc10 := i32_ne c10
        refine gr_tout C 67 dX3_wants_6 (by have nc3 : x1.toInt ≠ 1 := nc3; have nc7 : x1.toInt ≠ 2 := nc7; have nc10 : x1.toInt ≠ 3 := nc10; omega) (by decide) ?_
        refine gr_sub [0, 1] [(0, .ref (w.2.2.1 t)), (1, .int a0)] rfl ?_
        refine gr_aload_n C 0 dX3_wants_67 rfl rfl ?_
        refine gr_getR C t 3 (t + 4) dX3_wants_68 ht.1 rfl inX3 (by decide) ln21 rfl ?_
        refine gr_iload_n C 1 dX3_wants_71 rfl rfl ?_
        obtain ⟨h15, x14, ex14, hF⟩ := gRd_e hF
        refine gr_iald C (t + 4) 8 dX3_wants_72 ht.2.2.2.2.1 h15 ?_
        refine gr_nmI ex14 ?_
        cases hF
        exact gr_iret C dX3_wants_73 ⟨rfl, rfl⟩
