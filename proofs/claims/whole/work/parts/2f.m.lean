-- X1_othersKeptBy: 35 instructions, frames 4, locals 102
set_option maxRecDepth 100000 in
set_option maxHeartbeats 4000000 in
theorem mX1_othersKeptBy (l : Launch) {w : Wl} (hw : w.2.2.2 = shC) {σ : Sg} {a1 : Int32}  {r : Int32} {σ' : Sg} (hF : fX1_othersKeptBy σ a1 = some (r, σ')) : gMI l w yX1_othersKeptBy wsX1_othersKeptBy ({ frames := 4, cells := 0, slots := 0, locals := 102 } : Room) [.ref (w.2.2.1 77), .ref (w.2.2.1 24), .int a1] σ r σ' := by
  have inX1 : ∀ v ∈ u_ws RX1 TX1 3, v ∈ wsX1_othersKeptBy := by decide +kernel
  have inX9 : ∀ v ∈ u_ws RX9 TX9 5, v ∈ wsX1_othersKeptBy := by decide +kernel
  have ln12 : Cond.fieldLink RX1 12 (TX1 2).1 (TX1 2).2.1 (TX1 2).2.2.1 ∈ wsX1_othersKeptBy := by decide +kernel
  have ln22 : Cond.fieldLink RX1 22 (TX1 1).1 (TX1 1).2.1 (TX1 1).2.2.1 ∈ wsX1_othersKeptBy := by decide +kernel
  have ln36 : Cond.fieldLink RX1 36 (TX9 2).1 (TX9 2).2.1 (TX9 2).2.2.1 ∈ wsX1_othersKeptBy := by decide +kernel
  refine gStartI cX1_othersKeptBy 4 RX1 rfl (by decide) rfl (Nat.le_of_ble_eq_true rfl) ?_
  intro X hl C
  show gG X w σ 0 [(0, .ref (w.2.2.1 77)), (1, .ref (w.2.2.1 24)), (2, .int a1)] []
  unfold fX1_othersKeptBy at hF
  refine gr_aload_n C 0 dX1_othersKeptBy_0 rfl rfl ?_
  refine gr_getR C 77 2 78 dX1_othersKeptBy_1 (sc_77 hw) rfl inX1 (by decide) ln12 rfl ?_
  refine gr_aload_n C 1 dX1_othersKeptBy_4 rfl rfl ?_
  obtain ⟨g2, hc1, hF⟩ := gCv_e hF
  refine gr_callVV C (n := 1) (As := [.ref (w.2.2.1 24)]) (rest := []) 78 (mX9_become X.2.1 hw (st_78 hw) (st_24 hw) hc1) gX1_othersKeptBy_X9_become rfl ⟨rfl, rfl⟩ ⟨by decide, by decide⟩ rfl (Nat.le_of_ble_eq_true rfl) rfl (by decide +kernel) (sc_78 hw) rfl dX1_othersKeptBy_5 ?_
  refine gr_aload_n C 0 dX1_othersKeptBy_8 rfl rfl ?_
  refine gr_getR C 77 2 78 dX1_othersKeptBy_9 (sc_77 hw) rfl inX1 (by decide) ln12 rfl ?_
  refine gr_iload_n C 2 dX1_othersKeptBy_12 rfl rfl ?_
  obtain ⟨g4, hc3, hF⟩ := gCv_e hF
  refine gr_callVV C (n := 1) (As := [.int a1]) (rest := []) 78 (mX9_turn X.2.1 hw (st_78 hw) hc3) gX1_othersKeptBy_X9_turn rfl ⟨rfl, rfl⟩ ⟨by decide, by decide⟩ rfl (Nat.le_of_ble_eq_true rfl) rfl (by decide +kernel) (sc_78 hw) rfl dX1_othersKeptBy_13 ?_
  refine gr_iconst C (v := 0) dX1_othersKeptBy_16 (by decide) ?_
  refine gr_istore_n C [(3, .int (0 : Int32)), (0, .ref (w.2.2.1 77)), (1, .ref (w.2.2.1 24)), (2, .int a1)] dX1_othersKeptBy_17 rfl (by decide) rfl ?_
  refine gr_sub [1, 3, 0] [(0, .ref (w.2.2.1 77)), (2, .int a1), (3, .int (0 : Int32))] rfl ?_
  have L13 : ∀ (n : Nat) (x6 : Int32) (g7 : Sg) (K5 : Sg → Option (Int32 × Sg)), (∀  (g14 : Sg), K5  g14 = some (r, σ') → gG X w g14 42 [(0, .ref (w.2.2.1 77)), (2, .int a1)] []) → fX1_othersKeptBy_18  n x6 g7 K5 = some (r, σ') → gG X w g7 18 [(0, .ref (w.2.2.1 77)), (2, .int a1), (3, .int x6)] [] := by
    intro n
    induction n with
    | zero =>
      intro x6 g7 K5 hK5 hF
      rw [fX1_othersKeptBy_18] at hF
      cases hF
    | succ n ih =>
      intro x6 g7 K5 hK5 hF
      rw [fX1_othersKeptBy_18] at hF
      refine gr_iload_n C 2 dX1_othersKeptBy_18 rfl rfl ?_
      refine gr_bipush C (v := 10) dX1_othersKeptBy_19 (by decide) ?_
      refine gr_icmp_ge C 42 dX1_othersKeptBy_21 (by decide) (fun c8 => ?_) (fun c8 => ?_)
      · rw [if_pos c8] at hF
        refine gr_sub [0, 1] [(0, .ref (w.2.2.1 77)), (2, .int a1)] rfl ?_
        exact hK5  g7 hF
      · rw [if_neg c8] at hF
        refine gr_aload_n C 0 dX1_othersKeptBy_24 rfl rfl ?_
        refine gr_getR C 77 1 72 dX1_othersKeptBy_25 (sc_77 hw) rfl inX1 (by decide) ln22 rfl ?_
        refine gr_aload_n C 0 dX1_othersKeptBy_28 rfl rfl ?_
        refine gr_getR C 77 2 78 dX1_othersKeptBy_29 (sc_77 hw) rfl inX1 (by decide) ln12 rfl ?_
        obtain ⟨r11, g10, hc9, hF⟩ := gCl_e hF
        refine gr_callVI C (n := 1) (As := [.ref (w.2.2.1 78)]) (rest := []) 72 (mX2_goBy X.2.1 hw (st_78 hw) hc9) gX1_othersKeptBy_X2_goBy rfl ⟨rfl, rfl⟩ ⟨by decide, by decide⟩ rfl (Nat.le_of_ble_eq_true rfl) rfl (by decide +kernel) (sc_72 hw) rfl dX1_othersKeptBy_32 ?_
        refine gr_pop C dX1_othersKeptBy_35 rfl ?_
        obtain ⟨x12, ex12, hF⟩ := gLet_e hF
        refine gr_iinc C (v := x12) 2 [(3, .int x12), (0, .ref (w.2.2.1 77)), (2, .int a1)] dX1_othersKeptBy_36 rfl (by rw [ex12]; rfl) (by decide) rfl ?_
        refine gr_goto C 18 dX1_othersKeptBy_39 (by decide) ?_
        refine gr_sub [1, 2, 0] [(0, .ref (w.2.2.1 77)), (2, .int a1), (3, .int x12)] rfl ?_
        exact ih x12 g10 K5 hK5 hF
  refine L13 _ (0 : Int32) g4 _ ?_ hF
  intro g15 hF
  try dsimp only at hF
  refine gr_aload_n C 0 dX1_othersKeptBy_42 rfl rfl ?_
  refine gr_getR C 77 2 78 dX1_othersKeptBy_43 (sc_77 hw) rfl inX1 (by decide) ln12 rfl ?_
  obtain ⟨r18, g17, hc16, hF⟩ := gCl_e hF
  refine gr_callVI C (n := 0) (As := []) (rest := []) 78 (mX9_notGone X.2.1 hw (st_78 hw) hc16) gX1_othersKeptBy_X9_notGone rfl ⟨rfl, rfl⟩ ⟨by decide, by decide⟩ rfl (Nat.le_of_ble_eq_true rfl) rfl (by decide +kernel) (sc_78 hw) rfl dX1_othersKeptBy_46 ?_
  refine gr_aload_n C 0 dX1_othersKeptBy_49 rfl rfl ?_
  refine gr_getR C 77 2 78 dX1_othersKeptBy_50 (sc_77 hw) rfl inX1 (by decide) ln12 rfl ?_
  refine gr_getR C 78 2 81 dX1_othersKeptBy_53 (sc_78 hw) rfl inX9 (by decide) ln36 rfl ?_
  refine gr_iload_n C 1 dX1_othersKeptBy_56 rfl rfl ?_
  obtain ⟨h20, x19, ex19, hF⟩ := gRd_e hF
  refine gr_iald C 81 8 dX1_othersKeptBy_57 (sc_81 hw) h20 ?_
  refine gr_nmI ex19 ?_
  refine gr_if_le C 65 dX1_othersKeptBy_58 (by decide) (fun c21 => ?_) (fun c21 => ?_)
  · rw [if_pos c21] at hF
    refine gr_sub [] [] rfl ?_
    refine gr_iconst C (v := 0) dX1_othersKeptBy_65 (by decide) ?_
    refine gr_isub C dX1_othersKeptBy_66 ?_
    cases hF
    exact gr_iret C dX1_othersKeptBy_67 ⟨rfl, rfl⟩
  · rw [if_neg c21] at hF
    refine gr_sub [] [] rfl ?_
    refine gr_iconst C (v := 1) dX1_othersKeptBy_61 (by decide) ?_
    refine gr_goto C 66 dX1_othersKeptBy_62 (by decide) ?_
    refine gr_isub C dX1_othersKeptBy_66 ?_
    cases hF
    exact gr_iret C dX1_othersKeptBy_67 ⟨rfl, rfl⟩
-- X1_helper: 37 instructions, frames 5, locals 125
set_option maxRecDepth 100000 in
set_option maxHeartbeats 4000000 in
theorem mX1_helper (l : Launch) {w : Wl} (hw : w.2.2.2 = shC) {σ : Sg}   {r : Int32} {σ' : Sg} (hF : fX1_helper σ  = some (r, σ')) : gMI l w yX1_helper wsX1_helper ({ frames := 5, cells := 0, slots := 0, locals := 125 } : Room) [.ref (w.2.2.1 77), .ref (w.2.2.1 24)] σ r σ' := by
  have inX1 : ∀ v ∈ u_ws RX1 TX1 3, v ∈ wsX1_helper := by decide +kernel
  have inX3 : ∀ v ∈ u_ws RX3 TX3 13, v ∈ wsX1_helper := by decide +kernel
  have inX9 : ∀ v ∈ u_ws RX9 TX9 5, v ∈ wsX1_helper := by decide +kernel
  have ln18 : Cond.fieldLink RX1 18 (TX1 0).1 (TX1 0).2.1 (TX1 0).2.2.1 ∈ wsX1_helper := by decide +kernel
  have ln36 : Cond.fieldLink RX1 36 (TX9 2).1 (TX9 2).2.1 (TX9 2).2.2.1 ∈ wsX1_helper := by decide +kernel
  have ln59 : Cond.fieldLink RX1 59 (TX3 11).1 (TX3 11).2.1 (TX3 11).2.2.1 ∈ wsX1_helper := by decide +kernel
  refine gStartI cX1_helper 6 RX1 rfl (by decide) rfl (Nat.le_of_ble_eq_true rfl) ?_
  intro X hl C
  show gG X w σ 0 [(0, .ref (w.2.2.1 77)), (1, .ref (w.2.2.1 24))] []
  unfold fX1_helper at hF
  refine gr_bipush C (v := -4) dX1_helper_0 (by decide) ?_
  refine gr_istore_n C [(2, .int (-4 : Int32)), (0, .ref (w.2.2.1 77)), (1, .ref (w.2.2.1 24))] dX1_helper_2 rfl (by decide) rfl ?_
  refine gr_iconst C (v := -1) dX1_helper_3 (by decide) ?_
  refine gr_istore_n C [(3, .int (-1 : Int32)), (2, .int (-4 : Int32)), (0, .ref (w.2.2.1 77)), (1, .ref (w.2.2.1 24))] dX1_helper_4 rfl (by decide) rfl ?_
  refine gr_iconst C (v := 0) dX1_helper_5 (by decide) ?_
  refine gr_istore C [(4, .int (0 : Int32)), (3, .int (-1 : Int32)), (2, .int (-4 : Int32)), (0, .ref (w.2.2.1 77)), (1, .ref (w.2.2.1 24))] dX1_helper_6 (by decide) rfl ?_
  refine gr_sub [3, 4, 2, 1, 0] [(0, .ref (w.2.2.1 77)), (1, .ref (w.2.2.1 24)), (2, .int (-4 : Int32)), (3, .int (-1 : Int32)), (4, .int (0 : Int32))] rfl ?_
  have L22 : ∀ (n : Nat) (x1 : Int32) (x2 : Int32) (x3 : Int32) (g4 : Sg) , fX1_helper_8  n x1 x2 x3 g4  = some (r, σ') → gG X w g4 8 [(0, .ref (w.2.2.1 77)), (1, .ref (w.2.2.1 24)), (2, .int x1), (3, .int x2), (4, .int x3)] [] := by
    intro n
    induction n with
    | zero =>
      intro x1 x2 x3 g4 hF
      rw [fX1_helper_8] at hF
      cases hF
    | succ n ih =>
      intro x1 x2 x3 g4 hF
      rw [fX1_helper_8] at hF
      refine gr_iload C 4 dX1_helper_8 rfl ?_
      refine gr_aload_n C 0 dX1_helper_10 rfl rfl ?_
      refine gr_getR C 77 0 4 dX1_helper_11 (sc_77 hw) rfl inX1 (by decide) ln18 rfl ?_
      refine gr_getI C 4 11 dX1_helper_14 (sc_4 hw) rfl inX3 (by decide) ln59 rfl ?_
      refine gr_icmp_ge C 69 dX1_helper_17 (by decide) (fun c5 => ?_) (fun c5 => ?_)
      · rw [if_pos c5] at hF
        refine gr_sub [2] [(2, .int x1)] rfl ?_
        refine gr_iload_n C 0 dX1_helper_69 rfl rfl ?_
        refine gr_sub [] [] rfl ?_
        cases hF
        exact gr_iret C dX1_helper_70 ⟨rfl, rfl⟩
      · rw [if_neg c5] at hF
        refine gr_aload_n C 1 dX1_helper_20 rfl rfl ?_
        refine gr_getR C 24 2 27 dX1_helper_21 (sc_24 hw) rfl inX9 (by decide) ln36 rfl ?_
        refine gr_iload C 4 dX1_helper_24 rfl ?_
        obtain ⟨h7, x6, ex6, hF⟩ := gRd_e hF
        refine gr_iald C 27 8 dX1_helper_26 (sc_27 hw) h7 ?_
        refine gr_nmI ex6 ?_
        obtain ⟨K8, eK8, hF⟩ := gLet_e hF
        have JK8 : ∀ (x9 : Int32) (x10 : Int32) (g11 : Sg), K8 x9 x10 g11 = some (r, σ') → gG X w g11 63 [(0, .ref (w.2.2.1 77)), (1, .ref (w.2.2.1 24)), (2, .int x9), (3, .int x10), (4, .int x3)] [] := by
          intro x9 x10 g11 hF
          rw [eK8] at hF
          try dsimp only at hF
          obtain ⟨x12, ex12, hF⟩ := gLet_e hF
          refine gr_iinc C (v := x12) 4 [(4, .int x12), (0, .ref (w.2.2.1 77)), (1, .ref (w.2.2.1 24)), (2, .int x9), (3, .int x10)] dX1_helper_63 rfl (by rw [ex12]; rfl) (by decide) rfl ?_
          refine gr_goto C 8 dX1_helper_66 (by decide) ?_
          refine gr_sub [1, 2, 3, 4, 0] [(0, .ref (w.2.2.1 77)), (1, .ref (w.2.2.1 24)), (2, .int x9), (3, .int x10), (4, .int x12)] rfl ?_
          exact ih x9 x10 x12 g11   hF
        refine gr_if_eq C 63 dX1_helper_27 (by decide) (fun c13 => ?_) (fun c13 => ?_)
        · rw [if_pos c13] at hF
          exact JK8 x1 x2 g4 hF
        · rw [if_neg c13] at hF
          refine gr_aload_n C 1 dX1_helper_30 rfl rfl ?_
          refine gr_iload C 4 dX1_helper_31 rfl ?_
          obtain ⟨r16, g15, hc14, hF⟩ := gCl_e hF
          refine gr_callVI C (n := 1) (As := [.int x3]) (rest := []) 24 (mX9_hasQuarrelled X.2.1 hw (st_24 hw) hc14) gX1_helper_X9_hasQuarrelled rfl ⟨rfl, rfl⟩ ⟨by decide, by decide⟩ rfl (Nat.le_of_ble_eq_true rfl) rfl (by decide +kernel) (sc_24 hw) rfl dX1_helper_33 ?_
          refine gr_if_eq C 42 dX1_helper_36 (by decide) (fun c17 => ?_) (fun c17 => ?_)
          · rw [if_pos c17] at hF
            refine gr_aload_n C 0 dX1_helper_42 rfl rfl ?_
            refine gr_aload_n C 1 dX1_helper_43 rfl rfl ?_
            refine gr_iload C 4 dX1_helper_44 rfl ?_
            obtain ⟨r20, g19, hc18, hF⟩ := gCl_e hF
            refine gr_callVI C (n := 2) (As := [.ref (w.2.2.1 24), .int x3]) (rest := []) 77 (mX1_othersKeptBy X.2.1 hw  hc18) gX1_helper_X1_othersKeptBy rfl ⟨rfl, rfl⟩ ⟨by decide, by decide⟩ rfl (Nat.le_of_ble_eq_true rfl) rfl (by decide +kernel) (sc_77 hw) rfl dX1_helper_46 ?_
            refine gr_istore C [(5, .int r20), (0, .ref (w.2.2.1 77)), (1, .ref (w.2.2.1 24)), (2, .int x1), (3, .int x2), (4, .int x3)] dX1_helper_49 (by decide) rfl ?_
            refine gr_iload C 0 dX1_helper_51 rfl ?_
            refine gr_iload_n C 4 dX1_helper_53 rfl rfl ?_
            refine gr_icmp_le C 63 dX1_helper_54 (by decide) (fun c21 => ?_) (fun c21 => ?_)
            · rw [if_pos c21] at hF
              refine gr_sub [1, 2, 3, 4, 5] [(0, .ref (w.2.2.1 77)), (1, .ref (w.2.2.1 24)), (2, .int x1), (3, .int x2), (4, .int x3)] rfl ?_
              exact JK8 x1 x2 g19 hF
            · rw [if_neg c21] at hF
              refine gr_sub [1, 2, 5, 0] [(0, .ref (w.2.2.1 77)), (1, .ref (w.2.2.1 24)), (4, .int x3), (5, .int r20)] rfl ?_
              refine gr_iload C 3 dX1_helper_57 rfl ?_
              refine gr_istore_n C [(3, .int r20), (0, .ref (w.2.2.1 77)), (1, .ref (w.2.2.1 24)), (4, .int x3), (5, .int r20)] dX1_helper_59 rfl (by decide) rfl ?_
              refine gr_iload C 3 dX1_helper_60 rfl ?_
              refine gr_istore_n C [(2, .int x3), (3, .int r20), (0, .ref (w.2.2.1 77)), (1, .ref (w.2.2.1 24)), (4, .int x3), (5, .int r20)] dX1_helper_62 rfl (by decide) rfl ?_
              refine gr_sub [2, 3, 0, 1, 4] [(0, .ref (w.2.2.1 77)), (1, .ref (w.2.2.1 24)), (2, .int x3), (3, .int r20), (4, .int x3)] rfl ?_
              exact JK8 x3 r20 g19 hF
          · rw [if_neg c17] at hF
            refine gr_goto C 63 dX1_helper_39 (by decide) ?_
            exact JK8 x1 x2 g15 hF
  refine L22 _ (-4 : Int32) (-1 : Int32) (0 : Int32) σ   hF
-- X10_help: 29 instructions, frames 6, locals 150
set_option maxRecDepth 100000 in
set_option maxHeartbeats 4000000 in
theorem mX10_help (l : Launch) {w : Wl} (hw : w.2.2.2 = shC) {σ : Sg} {a0 : Int32}  {r : Int32} {σ' : Sg} (hF : fX10_help σ a0 = some (r, σ')) : gMI l w yX10_help wsX10_help ({ frames := 6, cells := 0, slots := 0, locals := 150 } : Room) [.ref (w.2.2.1 0), .int a0] σ r σ' := by
  have inX10 : ∀ v ∈ u_ws RX10 TX10 12, v ∈ wsX10_help := by decide +kernel
  have ln29 : Cond.fieldLink RX10 29 (TX10 3).1 (TX10 3).2.1 (TX10 3).2.2.1 ∈ wsX10_help := by decide +kernel
  have ln66 : Cond.fieldLink RX10 66 (TX10 8).1 (TX10 8).2.1 (TX10 8).2.2.1 ∈ wsX10_help := by decide +kernel
  refine gStartI cX10_help 3 RX10 rfl (by decide) rfl (Nat.le_of_ble_eq_true rfl) ?_
  intro X hl C
  show gG X w σ 0 [(0, .ref (w.2.2.1 0)), (1, .int a0)] []
  unfold fX10_help at hF
  refine gr_iload_n C 1 dX10_help_0 rfl rfl ?_
  refine gr_iconst C (v := 0) dX10_help_1 (by decide) ?_
  refine gr_iconst C (v := 1) dX10_help_2 (by decide) ?_
  obtain ⟨r3, g2, hc1, hF⟩ := gCl_e hF
  refine gr_callSI C (n := 3) (As := [.int a0, .int (0 : Int32), .int (1 : Int32)]) (rest := []) (mX10_outside X.2.1 hw  hc1) gX10_help_X10_outside rfl ⟨rfl, rfl⟩ ⟨by decide, by decide⟩ rfl (Nat.le_of_ble_eq_true rfl) rfl (by decide +kernel) dX10_help_3 ?_
  refine gr_if_eq C 11 dX10_help_6 (by decide) (fun c4 => ?_) (fun c4 => ?_)
  · rw [if_pos c4] at hF
    refine gr_aload_n C 0 dX10_help_11 rfl rfl ?_
    refine gr_getR C 0 8 77 dX10_help_12 (sc_0 hw) rfl inX10 (by decide) ln66 rfl ?_
    refine gr_aload_n C 0 dX10_help_15 rfl rfl ?_
    refine gr_getR C 0 3 24 dX10_help_16 (sc_0 hw) rfl inX10 (by decide) ln29 rfl ?_
    obtain ⟨r7, g6, hc5, hF⟩ := gCl_e hF
    refine gr_callVI C (n := 1) (As := [.ref (w.2.2.1 24)]) (rest := []) 77 (mX1_helper X.2.1 hw  hc5) gX10_help_X1_helper rfl ⟨rfl, rfl⟩ ⟨by decide, by decide⟩ rfl (Nat.le_of_ble_eq_true rfl) rfl (by decide +kernel) (sc_77 hw) rfl dX10_help_19 ?_
    refine gr_istore_n C [(2, .int r7), (0, .ref (w.2.2.1 0)), (1, .int a0)] dX10_help_22 rfl (by decide) rfl ?_
    refine gr_iload_n C 0 dX10_help_23 rfl rfl ?_
    refine gr_bipush C (v := -4) dX10_help_24 (by decide) ?_
    refine gr_icmp_ne C 32 dX10_help_26 (by decide) (fun c8 => ?_) (fun c8 => ?_)
    · rw [if_neg c8] at hF
      refine gr_sub [1, 2, 0] [(0, .ref (w.2.2.1 0)), (1, .int a0), (2, .int r7)] rfl ?_
      refine gr_iload_n C 1 dX10_help_32 rfl rfl ?_
      refine gr_if_ne C 40 dX10_help_33 (by decide) (fun c9 => ?_) (fun c9 => ?_)
      · rw [if_neg c9] at hF
        refine gr_sub [0, 2] [(0, .ref (w.2.2.1 0)), (2, .int r7)] rfl ?_
        refine gr_aload_n C 0 dX10_help_40 rfl rfl ?_
        refine gr_getR C 0 8 77 dX10_help_41 (sc_0 hw) rfl inX10 (by decide) ln66 rfl ?_
        refine gr_aload_n C 0 dX10_help_44 rfl rfl ?_
        refine gr_getR C 0 3 24 dX10_help_45 (sc_0 hw) rfl inX10 (by decide) ln29 rfl ?_
        refine gr_iload_n C 1 dX10_help_48 rfl rfl ?_
        obtain ⟨r12, g11, hc10, hF⟩ := gCl_e hF
        refine gr_callVI C (n := 2) (As := [.ref (w.2.2.1 24), .int r7]) (rest := []) 77 (mX1_othersKeptBy X.2.1 hw  hc10) gX10_help_X1_othersKeptBy rfl ⟨rfl, rfl⟩ ⟨by decide, by decide⟩ rfl (Nat.le_of_ble_eq_true rfl) rfl (by decide +kernel) (sc_77 hw) rfl dX10_help_49 ?_
        cases hF
        exact gr_iret C dX10_help_52 ⟨rfl, rfl⟩
      · rw [if_pos c9] at hF
        refine gr_sub [2] [(2, .int r7)] rfl ?_
        refine gr_iload_n C 0 dX10_help_36 rfl rfl ?_
        refine gr_goto C 52 dX10_help_37 (by decide) ?_
        refine gr_sub [] [] rfl ?_
        cases hF
        exact gr_iret C dX10_help_52 ⟨rfl, rfl⟩
    · rw [if_pos c8] at hF
      refine gr_sub [] [] rfl ?_
      refine gr_bipush C (v := -4) dX10_help_29 (by decide) ?_
      cases hF
      exact gr_iret C dX10_help_31 ⟨rfl, rfl⟩
  · rw [if_neg c4] at hF
    refine gr_sub [] [] rfl ?_
    refine gr_iconst C (v := -1) dX10_help_9 (by decide) ?_
    cases hF
    exact gr_iret C dX10_help_10 ⟨rfl, rfl⟩
-- X5_add: 23 instructions, frames 0, locals 0
set_option maxRecDepth 100000 in
set_option maxHeartbeats 4000000 in
theorem mX5_add (l : Launch) {w : Wl} (hw : w.2.2.2 = shC) {σ : Sg} {a0 : Int32} {a1 : Int32}  {σ' : Sg} (hF : fX5_add σ a0 a1 = some σ') : gMV l w yX5_add wsX5_add ({ frames := 0, cells := 0, slots := 0, locals := 0 } : Room) [.ref (w.2.2.1 74), .int a0, .int a1] σ σ' := by
  have inX5 : ∀ v ∈ u_ws RX5 TX5 3, v ∈ wsX5_add := by decide +kernel
  have ln9 : Cond.fieldLink RX5 9 (TX5 0).1 (TX5 0).2.1 (TX5 0).2.2.1 ∈ wsX5_add := by decide +kernel
  have ln15 : Cond.fieldLink RX5 15 (TX5 1).1 (TX5 1).2.1 (TX5 1).2.2.1 ∈ wsX5_add := by decide +kernel
  have ln18 : Cond.fieldLink RX5 18 (TX5 2).1 (TX5 2).2.1 (TX5 2).2.2.1 ∈ wsX5_add := by decide +kernel
  refine gStartV cX5_add 3 RX5 rfl (by decide) rfl (Nat.le_of_ble_eq_true rfl) ?_
  intro X hl C
  show gG X w σ 0 [(0, .ref (w.2.2.1 74)), (1, .int a0), (2, .int a1)] []
  unfold fX5_add at hF
  refine gr_aload_n C 0 dX5_add_0 rfl rfl ?_
  refine gr_getI C 74 2 dX5_add_1 (sc_74 hw) rfl inX5 (by decide) ln18 rfl ?_
  refine gr_bipush C (v := 6) dX5_add_4 (by decide) ?_
  refine gr_icmp_ge C 39 dX5_add_6 (by decide) (fun c1 => ?_) (fun c1 => ?_)
  · rw [if_pos c1] at hF
    refine gr_sub [] [] rfl ?_
    cases hF
    exact gr_vret C dX5_add_39 ⟨rfl, rfl⟩
  · rw [if_neg c1] at hF
    refine gr_aload_n C 0 dX5_add_9 rfl rfl ?_
    refine gr_getR C 74 0 75 dX5_add_10 (sc_74 hw) rfl inX5 (by decide) ln9 rfl ?_
    refine gr_aload_n C 0 dX5_add_13 rfl rfl ?_
    refine gr_getI C 74 2 dX5_add_14 (sc_74 hw) rfl inX5 (by decide) ln18 rfl ?_
    refine gr_iload_n C 1 dX5_add_17 rfl rfl ?_
    obtain ⟨h2, g3, eg3, hF⟩ := gWr_e hF
    refine gr_iast C 75 6 dX5_add_18 (sc_75 hw) h2 ?_
    refine gr_nmS eg3 ?_
    refine gr_aload_n C 0 dX5_add_19 rfl rfl ?_
    refine gr_getR C 74 1 76 dX5_add_20 (sc_74 hw) rfl inX5 (by decide) ln15 rfl ?_
    refine gr_aload_n C 0 dX5_add_23 rfl rfl ?_
    refine gr_getI C 74 2 dX5_add_24 (sc_74 hw) rfl inX5 (by decide) ln18 rfl ?_
    refine gr_iload_n C 2 dX5_add_27 rfl rfl ?_
    obtain ⟨h4, g5, eg5, hF⟩ := gWr_e hF
    refine gr_iast C 76 6 dX5_add_28 (sc_76 hw) h4 ?_
    refine gr_nmS eg5 ?_
    refine gr_aload_n C 0 dX5_add_29 rfl rfl ?_
    refine gr_dup C dX5_add_30 rfl ?_
    refine gr_getI C 74 2 dX5_add_31 (sc_74 hw) rfl inX5 (by decide) ln18 rfl ?_
    refine gr_iconst C (v := 1) dX5_add_34 (by decide) ?_
    refine gr_iadd C dX5_add_35 ?_
    obtain ⟨g6, eg6, hF⟩ := gLet_e hF
    refine gr_putI C 74 2 dX5_add_36 (sc_74 hw) rfl inX5 (by decide) ln18 rfl tyX5 tyX5_ok nmX5 rfl .int rfl rfl rfl ?_
    refine gr_nmS eg6 ?_
    cases hF
    exact gr_vret C dX5_add_39 ⟨rfl, rfl⟩
-- X10_see: 27 instructions, frames 2, locals 43
set_option maxRecDepth 100000 in
set_option maxHeartbeats 4000000 in
theorem mX10_see (l : Launch) {w : Wl} (hw : w.2.2.2 = shC) {σ : Sg} {a0 : Int32} {a1 : Int32}  {r : Int32} {σ' : Sg} (hF : fX10_see σ a0 a1 = some (r, σ')) : gMI l w yX10_see wsX10_see ({ frames := 2, cells := 0, slots := 0, locals := 43 } : Room) [.ref (w.2.2.1 0), .int a0, .int a1] σ r σ' := by
  have inX10 : ∀ v ∈ u_ws RX10 TX10 12, v ∈ wsX10_see := by decide +kernel
  have inX5 : ∀ v ∈ u_ws RX5 TX5 3, v ∈ wsX10_see := by decide +kernel
  have ln57 : Cond.fieldLink RX10 57 (TX10 7).1 (TX10 7).2.1 (TX10 7).2.2.1 ∈ wsX10_see := by decide +kernel
  have ln230 : Cond.fieldLink RX10 230 (TX5 2).1 (TX5 2).2.1 (TX5 2).2.2.1 ∈ wsX10_see := by decide +kernel
  refine gStartI cX10_see 3 RX10 rfl (by decide) rfl (Nat.le_of_ble_eq_true rfl) ?_
  intro X hl C
  show gG X w σ 0 [(0, .ref (w.2.2.1 0)), (1, .int a0), (2, .int a1)] []
  unfold fX10_see at hF
  refine gr_aload_n C 0 dX10_see_0 rfl rfl ?_
  refine gr_iload_n C 1 dX10_see_1 rfl rfl ?_
  obtain ⟨r3, g2, hc1, hF⟩ := gCl_e hF
  refine gr_callVI C (n := 1) (As := [.int a0]) (rest := []) 0 (mX10_noStep X.2.1 hw  hc1) gX10_see_X10_noStep rfl ⟨rfl, rfl⟩ ⟨by decide, by decide⟩ rfl (Nat.le_of_ble_eq_true rfl) rfl (by decide +kernel) (sc_0 hw) rfl dX10_see_2 ?_
  refine gr_if_ne C 18 dX10_see_5 (by decide) (fun c4 => ?_) (fun c4 => ?_)
  · rw [if_neg c4] at hF
    refine gr_sub [] [] rfl ?_
    refine gr_iconst C (v := -1) dX10_see_18 (by decide) ?_
    cases hF
    exact gr_iret C dX10_see_19 ⟨rfl, rfl⟩
  · rw [if_pos c4] at hF
    refine gr_iload_n C 2 dX10_see_8 rfl rfl ?_
    refine gr_iconst C (v := 0) dX10_see_9 (by decide) ?_
    refine gr_bipush C (v := 40) dX10_see_10 (by decide) ?_
    obtain ⟨r7, g6, hc5, hF⟩ := gCl_e hF
    refine gr_callSI C (n := 3) (As := [.int a1, .int (0 : Int32), .int (40 : Int32)]) (rest := []) (mX10_outside X.2.1 hw  hc5) gX10_see_X10_outside rfl ⟨rfl, rfl⟩ ⟨by decide, by decide⟩ rfl (Nat.le_of_ble_eq_true rfl) rfl (by decide +kernel) dX10_see_12 ?_
    refine gr_if_eq C 20 dX10_see_15 (by decide) (fun c8 => ?_) (fun c8 => ?_)
    · rw [if_pos c8] at hF
      refine gr_aload_n C 0 dX10_see_20 rfl rfl ?_
      refine gr_getR C 0 7 74 dX10_see_21 (sc_0 hw) rfl inX10 (by decide) ln57 rfl ?_
      refine gr_getI C 74 2 dX10_see_24 (sc_74 hw) rfl inX5 (by decide) ln230 rfl ?_
      refine gr_bipush C (v := 6) dX10_see_27 (by decide) ?_
      refine gr_icmp_lt C 35 dX10_see_29 (by decide) (fun c9 => ?_) (fun c9 => ?_)
      · rw [if_pos c9] at hF
        refine gr_aload_n C 0 dX10_see_35 rfl rfl ?_
        refine gr_getR C 0 7 74 dX10_see_36 (sc_0 hw) rfl inX10 (by decide) ln57 rfl ?_
        refine gr_iload_n C 1 dX10_see_39 rfl rfl ?_
        refine gr_iload_n C 2 dX10_see_40 rfl rfl ?_
        obtain ⟨g11, hc10, hF⟩ := gCv_e hF
        refine gr_callVV C (n := 2) (As := [.int a0, .int a1]) (rest := []) 74 (mX5_add X.2.1 hw  hc10) gX10_see_X5_add rfl ⟨rfl, rfl⟩ ⟨by decide, by decide⟩ rfl (Nat.le_of_ble_eq_true rfl) rfl (by decide +kernel) (sc_74 hw) rfl dX10_see_41 ?_
        refine gr_aload_n C 0 dX10_see_44 rfl rfl ?_
        refine gr_getR C 0 7 74 dX10_see_45 (sc_0 hw) rfl inX10 (by decide) ln57 rfl ?_
        refine gr_getI C 74 2 dX10_see_48 (sc_74 hw) rfl inX5 (by decide) ln230 rfl ?_
        cases hF
        exact gr_iret C dX10_see_51 ⟨rfl, rfl⟩
      · rw [if_neg c9] at hF
        refine gr_sub [] [] rfl ?_
        refine gr_bipush C (v := -3) dX10_see_32 (by decide) ?_
        cases hF
        exact gr_iret C dX10_see_34 ⟨rfl, rfl⟩
    · rw [if_neg c8] at hF
      refine gr_sub [] [] rfl ?_
      refine gr_iconst C (v := -1) dX10_see_18 (by decide) ?_
      cases hF
      exact gr_iret C dX10_see_19 ⟨rfl, rfl⟩
-- X10_forget: 9 instructions, frames 1, locals 20
set_option maxRecDepth 100000 in
set_option maxHeartbeats 4000000 in
theorem mX10_forget (l : Launch) {w : Wl} (hw : w.2.2.2 = shC) {σ : Sg}   {r : Int32} {σ' : Sg} (hF : fX10_forget σ  = some (r, σ')) : gMI l w yX10_forget wsX10_forget ({ frames := 1, cells := 0, slots := 0, locals := 20 } : Room) [.ref (w.2.2.1 0)] σ r σ' := by
  have inX10 : ∀ v ∈ u_ws RX10 TX10 12, v ∈ wsX10_forget := by decide +kernel
  have inX5 : ∀ v ∈ u_ws RX5 TX5 3, v ∈ wsX10_forget := by decide +kernel
  have ln57 : Cond.fieldLink RX10 57 (TX10 7).1 (TX10 7).2.1 (TX10 7).2.2.1 ∈ wsX10_forget := by decide +kernel
  have ln230 : Cond.fieldLink RX10 230 (TX5 2).1 (TX5 2).2.1 (TX5 2).2.2.1 ∈ wsX10_forget := by decide +kernel
  refine gStartI cX10_forget 2 RX10 rfl (by decide) rfl (Nat.le_of_ble_eq_true rfl) ?_
  intro X hl C
  show gG X w σ 0 [(0, .ref (w.2.2.1 0))] []
  unfold fX10_forget at hF
  refine gr_aload_n C 0 dX10_forget_0 rfl rfl ?_
  refine gr_getR C 0 7 74 dX10_forget_1 (sc_0 hw) rfl inX10 (by decide) ln57 rfl ?_
  refine gr_getI C 74 2 dX10_forget_4 (sc_74 hw) rfl inX5 (by decide) ln230 rfl ?_
  obtain ⟨x1, ex1, hF⟩ := gLet_e hF
  refine gr_nmI ex1 ?_
  refine gr_istore_n C [(1, .int x1), (0, .ref (w.2.2.1 0))] dX10_forget_7 rfl (by decide) rfl ?_
  refine gr_aload_n C 1 dX10_forget_8 rfl rfl ?_
  refine gr_getR C 0 7 74 dX10_forget_9 (sc_0 hw) rfl inX10 (by decide) ln57 rfl ?_
  obtain ⟨g3, hc2, hF⟩ := gCv_e hF
  refine gr_callVV C (n := 0) (As := []) (rest := []) 74 (mX5_clear X.2.1 hw  hc2) gX10_forget_X5_clear rfl ⟨rfl, rfl⟩ ⟨by decide, by decide⟩ rfl (Nat.le_of_ble_eq_true rfl) rfl (by decide +kernel) (sc_74 hw) rfl dX10_forget_12 ?_
  refine gr_iload_n C 0 dX10_forget_15 rfl rfl ?_
  cases hF
  exact gr_iret C dX10_forget_16 ⟨rfl, rfl⟩
-- X5_fits: 24 instructions, frames 0, locals 0
set_option maxRecDepth 100000 in
set_option maxHeartbeats 4000000 in
theorem mX5_fits (l : Launch) {w : Wl} (hw : w.2.2.2 = shC) {σ : Sg} {a0 : Int32} {a1 : Int32}  {r : Int32} {σ' : Sg} (hF : fX5_fits σ a0 a1 = some (r, σ')) : gMI l w yX5_fits wsX5_fits ({ frames := 0, cells := 0, slots := 0, locals := 0 } : Room) [.ref (w.2.2.1 74), .int a0, .int a1] σ r σ' := by
  have inX5 : ∀ v ∈ u_ws RX5 TX5 3, v ∈ wsX5_fits := by decide +kernel
  have ln9 : Cond.fieldLink RX5 9 (TX5 0).1 (TX5 0).2.1 (TX5 0).2.2.1 ∈ wsX5_fits := by decide +kernel
  have ln15 : Cond.fieldLink RX5 15 (TX5 1).1 (TX5 1).2.1 (TX5 1).2.2.1 ∈ wsX5_fits := by decide +kernel
  have ln18 : Cond.fieldLink RX5 18 (TX5 2).1 (TX5 2).2.1 (TX5 2).2.2.1 ∈ wsX5_fits := by decide +kernel
  refine gStartZ cX5_fits 4 RX5 rfl (by decide) rfl (Nat.le_of_ble_eq_true rfl) ?_
  intro X hl C
  show gG X w σ 0 [(0, .ref (w.2.2.1 74)), (1, .int a0), (2, .int a1)] []
  unfold fX5_fits at hF
  refine gr_iconst C (v := 0) dX5_fits_0 (by decide) ?_
  refine gr_istore_n C [(3, .int (0 : Int32)), (0, .ref (w.2.2.1 74)), (1, .int a0), (2, .int a1)] dX5_fits_1 rfl (by decide) rfl ?_
  refine gr_sub [1, 2, 3, 0] [(0, .ref (w.2.2.1 74)), (1, .int a0), (2, .int a1), (3, .int (0 : Int32))] rfl ?_
  have L13 : ∀ (n : Nat) (x1 : Int32) (g2 : Sg) , fX5_fits_2 a0 a1 n x1 g2  = some (r, σ') → gG X w g2 2 [(0, .ref (w.2.2.1 74)), (1, .int a0), (2, .int a1), (3, .int x1)] [] := by
    intro n
    induction n with
    | zero =>
      intro x1 g2 hF
      rw [fX5_fits_2] at hF
      cases hF
    | succ n ih =>
      intro x1 g2 hF
      rw [fX5_fits_2] at hF
      refine gr_iload_n C 3 dX5_fits_2 rfl rfl ?_
      refine gr_aload_n C 0 dX5_fits_3 rfl rfl ?_
      refine gr_getI C 74 2 dX5_fits_4 (sc_74 hw) rfl inX5 (by decide) ln18 rfl ?_
      refine gr_icmp_ge C 38 dX5_fits_7 (by decide) (fun c3 => ?_) (fun c3 => ?_)
      · rw [if_pos c3] at hF
        refine gr_sub [] [] rfl ?_
        refine gr_iconst C (v := 1) dX5_fits_38 (by decide) ?_
        cases hF
        exact gr_zret C dX5_fits_39 rfl ⟨rfl, rfl⟩
      · rw [if_neg c3] at hF
        refine gr_aload_n C 0 dX5_fits_10 rfl rfl ?_
        refine gr_getR C 74 0 75 dX5_fits_11 (sc_74 hw) rfl inX5 (by decide) ln9 rfl ?_
        refine gr_iload_n C 3 dX5_fits_14 rfl rfl ?_
        obtain ⟨h5, x4, ex4, hF⟩ := gRd_e hF
        refine gr_iald C 75 6 dX5_fits_15 (sc_75 hw) h5 ?_
        refine gr_nmI ex4 ?_
        refine gr_iload_n C 1 dX5_fits_16 rfl rfl ?_
        obtain ⟨K6, eK6, hF⟩ := gLet_e hF
        have JK6 : ∀  (g7 : Sg), K6  g7 = some (r, σ') → gG X w g7 32 [(0, .ref (w.2.2.1 74)), (1, .int a0), (2, .int a1), (3, .int x1)] [] := by
          intro g7 hF
          rw [eK6] at hF
          try dsimp only at hF
          obtain ⟨x8, ex8, hF⟩ := gLet_e hF
          refine gr_iinc C (v := x8) 3 [(3, .int x8), (0, .ref (w.2.2.1 74)), (1, .int a0), (2, .int a1)] dX5_fits_32 rfl (by rw [ex8]; rfl) (by decide) rfl ?_
          refine gr_goto C 2 dX5_fits_35 (by decide) ?_
          refine gr_sub [1, 2, 3, 0] [(0, .ref (w.2.2.1 74)), (1, .int a0), (2, .int a1), (3, .int x8)] rfl ?_
          exact ih x8 g7   hF
        refine gr_icmp_ne C 32 dX5_fits_17 (by decide) (fun c9 => ?_) (fun c9 => ?_)
        · rw [if_neg c9] at hF
          exact JK6  g2 hF
        · rw [if_pos c9] at hF
          refine gr_aload_n C 0 dX5_fits_20 rfl rfl ?_
          refine gr_getR C 74 1 76 dX5_fits_21 (sc_74 hw) rfl inX5 (by decide) ln15 rfl ?_
          refine gr_iload_n C 3 dX5_fits_24 rfl rfl ?_
          obtain ⟨h11, x10, ex10, hF⟩ := gRd_e hF
          refine gr_iald C 76 6 dX5_fits_25 (sc_76 hw) h11 ?_
          refine gr_nmI ex10 ?_
          refine gr_iload_n C 2 dX5_fits_26 rfl rfl ?_
          refine gr_icmp_eq C 32 dX5_fits_27 (by decide) (fun c12 => ?_) (fun c12 => ?_)
          · rw [if_pos c12] at hF
            exact JK6  g2 hF
          · rw [if_neg c12] at hF
            refine gr_sub [] [] rfl ?_
            refine gr_iconst C (v := 0) dX5_fits_30 (by decide) ?_
            cases hF
            exact gr_zret C dX5_fits_31 rfl ⟨rfl, rfl⟩
  refine L13 _ (0 : Int32) σ   hF
-- X10_within: 73 instructions, frames 2, locals 52
set_option maxRecDepth 100000 in
set_option maxHeartbeats 4000000 in
theorem mX10_within (l : Launch) {w : Wl} (hw : w.2.2.2 = shC) {σ : Sg} {a0 : Int32} {a1 : Int32}  {r : Int32} {σ' : Sg} (hF : fX10_within σ a0 a1 = some (r, σ')) : gMI l w yX10_within wsX10_within ({ frames := 2, cells := 0, slots := 0, locals := 52 } : Room) [.ref (w.2.2.1 0), .int a0, .int a1] σ r σ' := by
  have inX10 : ∀ v ∈ u_ws RX10 TX10 12, v ∈ wsX10_within := by decide +kernel
  have inX9 : ∀ v ∈ u_ws RX9 TX9 5, v ∈ wsX10_within := by decide +kernel
  have ln29 : Cond.fieldLink RX10 29 (TX10 3).1 (TX10 3).2.1 (TX10 3).2.2.1 ∈ wsX10_within := by decide +kernel
  have ln50 : Cond.fieldLink RX10 50 (TX10 6).1 (TX10 6).2.1 (TX10 6).2.2.1 ∈ wsX10_within := by decide +kernel
  have ln57 : Cond.fieldLink RX10 57 (TX10 7).1 (TX10 7).2.1 (TX10 7).2.2.1 ∈ wsX10_within := by decide +kernel
  have ln130 : Cond.fieldLink RX10 130 (TX9 0).1 (TX9 0).2.1 (TX9 0).2.2.1 ∈ wsX10_within := by decide +kernel
  have ln134 : Cond.fieldLink RX10 134 (TX9 1).1 (TX9 1).2.1 (TX9 1).2.2.1 ∈ wsX10_within := by decide +kernel
  refine gStartI cX10_within 7 RX10 rfl (by decide) rfl (Nat.le_of_ble_eq_true rfl) ?_
  intro X hl C
  show gG X w σ 0 [(0, .ref (w.2.2.1 0)), (1, .int a0), (2, .int a1)] []
  unfold fX10_within at hF
  refine gr_aload_n C 0 dX10_within_0 rfl rfl ?_
  refine gr_iload_n C 1 dX10_within_1 rfl rfl ?_
  obtain ⟨r3, g2, hc1, hF⟩ := gCl_e hF
  refine gr_callVI C (n := 1) (As := [.int a0]) (rest := []) 0 (mX10_noStep X.2.1 hw  hc1) gX10_within_X10_noStep rfl ⟨rfl, rfl⟩ ⟨by decide, by decide⟩ rfl (Nat.le_of_ble_eq_true rfl) rfl (by decide +kernel) (sc_0 hw) rfl dX10_within_2 ?_
  refine gr_if_ne C 17 dX10_within_5 (by decide) (fun c4 => ?_) (fun c4 => ?_)
  · rw [if_neg c4] at hF
    refine gr_sub [] [] rfl ?_
    refine gr_iconst C (v := -1) dX10_within_17 (by decide) ?_
    cases hF
    exact gr_iret C dX10_within_18 ⟨rfl, rfl⟩
  · rw [if_pos c4] at hF
    refine gr_iload_n C 2 dX10_within_8 rfl rfl ?_
    refine gr_iconst C (v := 0) dX10_within_9 (by decide) ?_
    refine gr_iconst C (v := 1) dX10_within_10 (by decide) ?_
    obtain ⟨r7, g6, hc5, hF⟩ := gCl_e hF
    refine gr_callSI C (n := 3) (As := [.int a1, .int (0 : Int32), .int (1 : Int32)]) (rest := []) (mX10_outside X.2.1 hw  hc5) gX10_within_X10_outside rfl ⟨rfl, rfl⟩ ⟨by decide, by decide⟩ rfl (Nat.le_of_ble_eq_true rfl) rfl (by decide +kernel) dX10_within_11 ?_
    refine gr_if_eq C 19 dX10_within_14 (by decide) (fun c8 => ?_) (fun c8 => ?_)
    · rw [if_pos c8] at hF
      refine gr_iconst C (v := 0) dX10_within_19 (by decide) ?_
      refine gr_istore_n C [(3, .int (0 : Int32)), (0, .ref (w.2.2.1 0)), (1, .int a0), (2, .int a1)] dX10_within_20 rfl (by decide) rfl ?_
      refine gr_aload_n C 1 dX10_within_21 rfl rfl ?_
      refine gr_getR C 0 6 72 dX10_within_22 (sc_0 hw) rfl inX10 (by decide) ln50 rfl ?_
      refine gr_aload_n C 1 dX10_within_25 rfl rfl ?_
      refine gr_getR C 0 3 24 dX10_within_26 (sc_0 hw) rfl inX10 (by decide) ln29 rfl ?_
      refine gr_iload_n C 2 dX10_within_29 rfl rfl ?_
      obtain ⟨r11, g10, hc9, hF⟩ := gCl_e hF
      refine gr_callVI C (n := 2) (As := [.ref (w.2.2.1 24), .int a0]) (rest := []) 72 (mX2_notGoneAt X.2.1 hw (st_24 hw) hc9) gX10_within_X2_notGoneAt rfl ⟨rfl, rfl⟩ ⟨by decide, by decide⟩ rfl (Nat.le_of_ble_eq_true rfl) rfl (by decide +kernel) (sc_72 hw) rfl dX10_within_30 ?_
      refine gr_istore C [(4, .int r11), (3, .int (0 : Int32)), (0, .ref (w.2.2.1 0)), (1, .int a0), (2, .int a1)] dX10_within_33 (by decide) rfl ?_
      refine gr_iconst C (v := 0) dX10_within_35 (by decide) ?_
      refine gr_istore C [(5, .int (0 : Int32)), (4, .int r11), (3, .int (0 : Int32)), (0, .ref (w.2.2.1 0)), (1, .int a0), (2, .int a1)] dX10_within_36 (by decide) rfl ?_
      refine gr_sub [3, 4, 5, 2, 1, 0] [(0, .ref (w.2.2.1 0)), (1, .int a0), (2, .int a1), (3, .int (0 : Int32)), (4, .int r11), (5, .int (0 : Int32))] rfl ?_
      have L39 : ∀ (n : Nat) (x13 : Int32) (x14 : Int32) (g15 : Sg) (K12 : Int32 → Sg → Option (Int32 × Sg)), (∀ (x40 : Int32) (g41 : Sg), K12 x40 g41 = some (r, σ') → gG X w g41 127 [(2, .int a1), (3, .int x40)] []) → fX10_within_38 a0 a1 r11 n x13 x14 g15 K12 = some (r, σ') → gG X w g15 38 [(0, .ref (w.2.2.1 0)), (1, .int a0), (2, .int a1), (3, .int x13), (4, .int r11), (5, .int x14)] [] := by
        intro n
        induction n with
        | zero =>
          intro x13 x14 g15 K12 hK12 hF
          rw [fX10_within_38] at hF
          cases hF
        | succ n ih =>
          intro x13 x14 g15 K12 hK12 hF
          rw [fX10_within_38] at hF
          refine gr_iload C 5 dX10_within_38 rfl ?_
          refine gr_sipush C (v := 256) dX10_within_40 (by decide) ?_
          refine gr_icmp_ge C 127 dX10_within_43 (by decide) (fun c16 => ?_) (fun c16 => ?_)
          · rw [if_pos c16] at hF
            refine gr_sub [2, 3] [(2, .int a1), (3, .int x13)] rfl ?_
            exact hK12 x13 g15 hF
          · rw [if_neg c16] at hF
            refine gr_iload C 5 dX10_within_46 rfl ?_
            refine gr_iload C 4 dX10_within_48 rfl ?_
            refine gr_iconst C (v := -1) dX10_within_50 (by decide) ?_
            refine gr_ixor C dX10_within_51 ?_
            refine gr_iand C dX10_within_52 ?_
            obtain ⟨K17, eK17, hF⟩ := gLet_e hF
            have JK17 : ∀ (x18 : Int32) (g19 : Sg), K17 x18 g19 = some (r, σ') → gG X w g19 61 [(0, .ref (w.2.2.1 0)), (1, .int a0), (2, .int a1), (3, .int x13), (4, .int r11), (5, .int x14)] [.int x18] := by
              intro x18 g19 hF
              rw [eK17] at hF
              try dsimp only at hF
              refine gr_istore C [(6, .int x18), (0, .ref (w.2.2.1 0)), (1, .int a0), (2, .int a1), (3, .int x13), (4, .int r11), (5, .int x14)] dX10_within_61 (by decide) rfl ?_
              refine gr_iload C 0 dX10_within_63 rfl ?_
              obtain ⟨K20, eK20, hF⟩ := gLet_e hF
              have JK20 : ∀ (x21 : Int32) (g22 : Sg), K20 x21 g22 = some (r, σ') → gG X w g22 121 [(0, .ref (w.2.2.1 0)), (1, .int a0), (2, .int a1), (3, .int x21), (4, .int r11), (5, .int x14)] [] := by
                intro x21 g22 hF
                rw [eK20] at hF
                try dsimp only at hF
                obtain ⟨x23, ex23, hF⟩ := gLet_e hF
                refine gr_iinc C (v := x23) 5 [(5, .int x23), (0, .ref (w.2.2.1 0)), (1, .int a0), (2, .int a1), (3, .int x21), (4, .int r11)] dX10_within_121 rfl (by rw [ex23]; rfl) (by decide) rfl ?_
                refine gr_goto C 38 dX10_within_124 (by decide) ?_
                refine gr_sub [1, 2, 3, 4, 5, 0] [(0, .ref (w.2.2.1 0)), (1, .int a0), (2, .int a1), (3, .int x21), (4, .int r11), (5, .int x23)] rfl ?_
                exact ih x21 x23 g22 K12 hK12 hF
              refine gr_if_eq C 121 dX10_within_65 (by decide) (fun c24 => ?_) (fun c24 => ?_)
              · rw [if_pos c24] at hF
                refine gr_sub [1, 2, 3, 4, 5, 6] [(0, .ref (w.2.2.1 0)), (1, .int a0), (2, .int a1), (3, .int x13), (4, .int r11), (5, .int x14)] rfl ?_
                exact JK20 x13 g19 hF
              · rw [if_neg c24] at hF
                refine gr_sub [1, 2, 3, 4, 5, 6] [(0, .ref (w.2.2.1 0)), (1, .int a0), (2, .int a1), (3, .int x13), (4, .int r11), (5, .int x14)] rfl ?_
                refine gr_aload_n C 0 dX10_within_68 rfl rfl ?_
                refine gr_getR C 0 7 74 dX10_within_69 (sc_0 hw) rfl inX10 (by decide) ln57 rfl ?_
                refine gr_iload_n C 1 dX10_within_72 rfl rfl ?_
                refine gr_aload_n C 0 dX10_within_73 rfl rfl ?_
                refine gr_getR C 0 6 72 dX10_within_74 (sc_0 hw) rfl inX10 (by decide) ln50 rfl ?_
                refine gr_iload_n C 1 dX10_within_77 rfl rfl ?_
                refine gr_aload_n C 0 dX10_within_78 rfl rfl ?_
                refine gr_getR C 0 3 24 dX10_within_79 (sc_0 hw) rfl inX10 (by decide) ln29 rfl ?_
                refine gr_getR C 24 0 25 dX10_within_82 (sc_24 hw) rfl inX9 (by decide) ln130 rfl ?_
                refine gr_iload_n C 1 dX10_within_85 rfl rfl ?_
                obtain ⟨h26, x25, ex25, hF⟩ := gRd_e hF
                refine gr_iald C 25 9 dX10_within_86 (sc_25 hw) h26 ?_
                refine gr_nmI ex25 ?_
                refine gr_aload_n C 0 dX10_within_87 rfl rfl ?_
                refine gr_getR C 0 3 24 dX10_within_88 (sc_0 hw) rfl inX10 (by decide) ln29 rfl ?_
                refine gr_getR C 24 1 26 dX10_within_91 (sc_24 hw) rfl inX9 (by decide) ln134 rfl ?_
                refine gr_iload_n C 1 dX10_within_94 rfl rfl ?_
                obtain ⟨h28, x27, ex27, hF⟩ := gRd_e hF
                refine gr_iald C 26 9 dX10_within_95 (sc_26 hw) h28 ?_
                refine gr_nmI ex27 ?_
                refine gr_iload C 5 dX10_within_96 rfl ?_
                obtain ⟨r31, g30, hc29, hF⟩ := gCl_e hF
                refine gr_callVI C (n := 4) (As := [.int a0, .int x25, .int x27, .int x14]) (rest := [.int a0, .ref (w.2.2.1 74)]) 72 (mX2_leftOver X.2.1 hw  hc29) gX10_within_X2_leftOver rfl ⟨rfl, rfl⟩ ⟨by decide, by decide⟩ rfl (Nat.le_of_ble_eq_true rfl) rfl (by decide +kernel) (sc_72 hw) rfl dX10_within_98 ?_
                obtain ⟨r34, g33, hc32, hF⟩ := gCl_e hF
                refine gr_callVI C (n := 2) (As := [.int a0, .int r31]) (rest := []) 74 (mX5_fits X.2.1 hw  hc32) gX10_within_X5_fits rfl ⟨rfl, rfl⟩ ⟨by decide, by decide⟩ rfl (Nat.le_of_ble_eq_true rfl) rfl (by decide +kernel) (sc_74 hw) rfl dX10_within_101 ?_
                refine gr_if_ne C 110 dX10_within_104 (by decide) (fun c35 => ?_) (fun c35 => ?_)
                · rw [if_neg c35] at hF
                  refine gr_iload_n C 2 dX10_within_110 rfl rfl ?_
                  refine gr_iconst C (v := 1) dX10_within_111 (by decide) ?_
                  refine gr_icmp_ne C 118 dX10_within_112 (by decide) (fun c36 => ?_) (fun c36 => ?_)
                  · rw [if_neg c36] at hF
                    obtain ⟨x37, ex37, hF⟩ := gLet_e hF
                    refine gr_iinc C (v := x37) 3 [(3, .int x37), (0, .ref (w.2.2.1 0)), (1, .int a0), (2, .int a1), (4, .int r11), (5, .int x14)] dX10_within_118 rfl (by rw [ex37]; rfl) (by decide) rfl ?_
                    refine gr_sub [1, 2, 3, 0, 4, 5] [(0, .ref (w.2.2.1 0)), (1, .int a0), (2, .int a1), (3, .int x37), (4, .int r11), (5, .int x14)] rfl ?_
                    exact JK20 x37 g33 hF
                  · rw [if_pos c36] at hF
                    refine gr_sub [5] [(5, .int x14)] rfl ?_
                    refine gr_iload C 0 dX10_within_115 rfl ?_
                    refine gr_sub [] [] rfl ?_
                    cases hF
                    exact gr_iret C dX10_within_117 ⟨rfl, rfl⟩
                · rw [if_pos c35] at hF
                  refine gr_goto C 121 dX10_within_107 (by decide) ?_
                  exact JK20 x13 g33 hF
            refine gr_if_ne C 60 dX10_within_53 (by decide) (fun c38 => ?_) (fun c38 => ?_)
            · rw [if_neg c38] at hF
              refine gr_iconst C (v := 0) dX10_within_60 (by decide) ?_
              exact JK17 (0 : Int32) g15 hF
            · rw [if_pos c38] at hF
              refine gr_iconst C (v := 1) dX10_within_56 (by decide) ?_
              refine gr_goto C 61 dX10_within_57 (by decide) ?_
              exact JK17 (1 : Int32) g15 hF
      refine L39 _ (0 : Int32) (0 : Int32) g10 _ ?_ hF
      intro x42 g43 hF
      try dsimp only at hF
      refine gr_iload_n C 0 dX10_within_127 rfl rfl ?_
      refine gr_iconst C (v := 1) dX10_within_128 (by decide) ?_
      refine gr_icmp_ne C 137 dX10_within_129 (by decide) (fun c44 => ?_) (fun c44 => ?_)
      · rw [if_neg c44] at hF
        refine gr_sub [1] [(3, .int x42)] rfl ?_
        refine gr_iload_n C 0 dX10_within_137 rfl rfl ?_
        cases hF
        exact gr_iret C dX10_within_138 ⟨rfl, rfl⟩
      · rw [if_pos c44] at hF
        refine gr_sub [] [] rfl ?_
        refine gr_bipush C (v := -4) dX10_within_132 (by decide) ?_
        refine gr_goto C 138 dX10_within_134 (by decide) ?_
        cases hF
        exact gr_iret C dX10_within_138 ⟨rfl, rfl⟩
    · rw [if_neg c8] at hF
      refine gr_sub [] [] rfl ?_
      refine gr_iconst C (v := -1) dX10_within_17 (by decide) ?_
      cases hF
      exact gr_iret C dX10_within_18 ⟨rfl, rfl⟩
-- X10_isCats: 46 instructions, frames 2, locals 52
set_option maxRecDepth 100000 in
set_option maxHeartbeats 4000000 in
theorem mX10_isCats (l : Launch) {w : Wl} (hw : w.2.2.2 = shC) {σ : Sg} {a0 : Int32}  {r : Int32} {σ' : Sg} (hF : fX10_isCats σ a0 = some (r, σ')) : gMI l w yX10_isCats wsX10_isCats ({ frames := 2, cells := 0, slots := 0, locals := 52 } : Room) [.ref (w.2.2.1 0), .int a0] σ r σ' := by
  have inX10 : ∀ v ∈ u_ws RX10 TX10 12, v ∈ wsX10_isCats := by decide +kernel
  have inX9 : ∀ v ∈ u_ws RX9 TX9 5, v ∈ wsX10_isCats := by decide +kernel
  have ln29 : Cond.fieldLink RX10 29 (TX10 3).1 (TX10 3).2.1 (TX10 3).2.2.1 ∈ wsX10_isCats := by decide +kernel
  have ln50 : Cond.fieldLink RX10 50 (TX10 6).1 (TX10 6).2.1 (TX10 6).2.2.1 ∈ wsX10_isCats := by decide +kernel
  have ln57 : Cond.fieldLink RX10 57 (TX10 7).1 (TX10 7).2.1 (TX10 7).2.2.1 ∈ wsX10_isCats := by decide +kernel
  have ln130 : Cond.fieldLink RX10 130 (TX9 0).1 (TX9 0).2.1 (TX9 0).2.2.1 ∈ wsX10_isCats := by decide +kernel
  refine gStartI cX10_isCats 5 RX10 rfl (by decide) rfl (Nat.le_of_ble_eq_true rfl) ?_
  intro X hl C
  show gG X w σ 0 [(0, .ref (w.2.2.1 0)), (1, .int a0)] []
  unfold fX10_isCats at hF
  refine gr_aload_n C 0 dX10_isCats_0 rfl rfl ?_
  refine gr_iload_n C 1 dX10_isCats_1 rfl rfl ?_
  obtain ⟨r3, g2, hc1, hF⟩ := gCl_e hF
  refine gr_callVI C (n := 1) (As := [.int a0]) (rest := []) 0 (mX10_noStep X.2.1 hw  hc1) gX10_isCats_X10_noStep rfl ⟨rfl, rfl⟩ ⟨by decide, by decide⟩ rfl (Nat.le_of_ble_eq_true rfl) rfl (by decide +kernel) (sc_0 hw) rfl dX10_isCats_2 ?_
  refine gr_if_eq C 10 dX10_isCats_5 (by decide) (fun c4 => ?_) (fun c4 => ?_)
  · rw [if_pos c4] at hF
    refine gr_iconst C (v := 0) dX10_isCats_10 (by decide) ?_
    refine gr_istore_n C [(2, .int (0 : Int32)), (0, .ref (w.2.2.1 0)), (1, .int a0)] dX10_isCats_11 rfl (by decide) rfl ?_
    refine gr_aload_n C 1 dX10_isCats_12 rfl rfl ?_
    refine gr_getR C 0 6 72 dX10_isCats_13 (sc_0 hw) rfl inX10 (by decide) ln50 rfl ?_
    refine gr_aload_n C 1 dX10_isCats_16 rfl rfl ?_
    refine gr_getR C 0 3 24 dX10_isCats_17 (sc_0 hw) rfl inX10 (by decide) ln29 rfl ?_
    refine gr_iload_n C 2 dX10_isCats_20 rfl rfl ?_
    obtain ⟨r7, g6, hc5, hF⟩ := gCl_e hF
    refine gr_callVI C (n := 2) (As := [.ref (w.2.2.1 24), .int a0]) (rest := []) 72 (mX2_drinkersAt X.2.1 hw (st_24 hw) hc5) gX10_isCats_X2_drinkersAt rfl ⟨rfl, rfl⟩ ⟨by decide, by decide⟩ rfl (Nat.le_of_ble_eq_true rfl) rfl (by decide +kernel) (sc_72 hw) rfl dX10_isCats_21 ?_
    refine gr_istore_n C [(3, .int r7), (2, .int (0 : Int32)), (0, .ref (w.2.2.1 0)), (1, .int a0)] dX10_isCats_24 rfl (by decide) rfl ?_
    refine gr_iconst C (v := 0) dX10_isCats_25 (by decide) ?_
    refine gr_istore C [(4, .int (0 : Int32)), (3, .int r7), (2, .int (0 : Int32)), (0, .ref (w.2.2.1 0)), (1, .int a0)] dX10_isCats_26 (by decide) rfl ?_
    refine gr_sub [3, 4, 2, 1, 0] [(0, .ref (w.2.2.1 0)), (1, .int a0), (2, .int (0 : Int32)), (3, .int r7), (4, .int (0 : Int32))] rfl ?_
    have L26 : ∀ (n : Nat) (x8 : Int32) (x9 : Int32) (g10 : Sg) , fX10_isCats_28 a0 r7 n x8 x9 g10  = some (r, σ') → gG X w g10 28 [(0, .ref (w.2.2.1 0)), (1, .int a0), (2, .int x8), (3, .int r7), (4, .int x9)] [] := by
      intro n
      induction n with
      | zero =>
        intro x8 x9 g10 hF
        rw [fX10_isCats_28] at hF
        cases hF
      | succ n ih =>
        intro x8 x9 g10 hF
        rw [fX10_isCats_28] at hF
        refine gr_iload C 4 dX10_isCats_28 rfl ?_
        refine gr_bipush C (v := 9) dX10_isCats_30 (by decide) ?_
        refine gr_icmp_gt C 79 dX10_isCats_32 (by decide) (fun c11 => ?_) (fun c11 => ?_)
        · rw [if_pos c11] at hF
          refine gr_sub [2] [(2, .int x8)] rfl ?_
          refine gr_iload_n C 0 dX10_isCats_79 rfl rfl ?_
          refine gr_sub [] [] rfl ?_
          cases hF
          exact gr_iret C dX10_isCats_80 ⟨rfl, rfl⟩
        · rw [if_neg c11] at hF
          refine gr_aload_n C 0 dX10_isCats_35 rfl rfl ?_
          refine gr_getR C 0 7 74 dX10_isCats_36 (sc_0 hw) rfl inX10 (by decide) ln57 rfl ?_
          refine gr_iload_n C 1 dX10_isCats_39 rfl rfl ?_
          refine gr_aload_n C 0 dX10_isCats_40 rfl rfl ?_
          refine gr_getR C 0 6 72 dX10_isCats_41 (sc_0 hw) rfl inX10 (by decide) ln50 rfl ?_
          refine gr_iload_n C 1 dX10_isCats_44 rfl rfl ?_
          refine gr_aload_n C 0 dX10_isCats_45 rfl rfl ?_
          refine gr_getR C 0 3 24 dX10_isCats_46 (sc_0 hw) rfl inX10 (by decide) ln29 rfl ?_
          refine gr_getR C 24 0 25 dX10_isCats_49 (sc_24 hw) rfl inX9 (by decide) ln130 rfl ?_
          refine gr_iload_n C 1 dX10_isCats_52 rfl rfl ?_
          obtain ⟨h13, x12, ex12, hF⟩ := gRd_e hF
          refine gr_iald C 25 9 dX10_isCats_53 (sc_25 hw) h13 ?_
          refine gr_nmI ex12 ?_
          refine gr_iload C 4 dX10_isCats_54 rfl ?_
          refine gr_iload_n C 3 dX10_isCats_56 rfl rfl ?_
          obtain ⟨r16, g15, hc14, hF⟩ := gCl_e hF
          refine gr_callVI C (n := 4) (As := [.int a0, .int x12, .int x9, .int r7]) (rest := [.int a0, .ref (w.2.2.1 74)]) 72 (mX2_leftOver X.2.1 hw  hc14) gX10_isCats_X2_leftOver rfl ⟨rfl, rfl⟩ ⟨by decide, by decide⟩ rfl (Nat.le_of_ble_eq_true rfl) rfl (by decide +kernel) (sc_72 hw) rfl dX10_isCats_57 ?_
          obtain ⟨r19, g18, hc17, hF⟩ := gCl_e hF
          refine gr_callVI C (n := 2) (As := [.int a0, .int r16]) (rest := []) 74 (mX5_fits X.2.1 hw  hc17) gX10_isCats_X5_fits rfl ⟨rfl, rfl⟩ ⟨by decide, by decide⟩ rfl (Nat.le_of_ble_eq_true rfl) rfl (by decide +kernel) (sc_74 hw) rfl dX10_isCats_60 ?_
          obtain ⟨K20, eK20, hF⟩ := gLet_e hF
          have JK20 : ∀ (x21 : Int32) (g22 : Sg), K20 x21 g22 = some (r, σ') → gG X w g22 73 [(0, .ref (w.2.2.1 0)), (1, .int a0), (2, .int x21), (3, .int r7), (4, .int x9)] [] := by
            intro x21 g22 hF
            rw [eK20] at hF
            try dsimp only at hF
            obtain ⟨x23, ex23, hF⟩ := gLet_e hF
            refine gr_iinc C (v := x23) 4 [(4, .int x23), (0, .ref (w.2.2.1 0)), (1, .int a0), (2, .int x21), (3, .int r7)] dX10_isCats_73 rfl (by rw [ex23]; rfl) (by decide) rfl ?_
            refine gr_goto C 28 dX10_isCats_76 (by decide) ?_
            refine gr_sub [1, 2, 3, 4, 0] [(0, .ref (w.2.2.1 0)), (1, .int a0), (2, .int x21), (3, .int r7), (4, .int x23)] rfl ?_
            exact ih x21 x23 g22   hF
          refine gr_if_eq C 73 dX10_isCats_63 (by decide) (fun c24 => ?_) (fun c24 => ?_)
          · rw [if_pos c24] at hF
            exact JK20 x8 g18 hF
          · rw [if_neg c24] at hF
            refine gr_iload_n C 2 dX10_isCats_66 rfl rfl ?_
            refine gr_iconst C (v := 1) dX10_isCats_67 (by decide) ?_
            refine gr_iload C 4 dX10_isCats_68 rfl ?_
            refine gr_ishl C dX10_isCats_70 ?_
            refine gr_ior C dX10_isCats_71 ?_
            obtain ⟨x25, ex25, hF⟩ := gLet_e hF
            refine gr_nmI ex25 ?_
            refine gr_istore_n C [(2, .int x25), (0, .ref (w.2.2.1 0)), (1, .int a0), (3, .int r7), (4, .int x9)] dX10_isCats_72 rfl (by decide) rfl ?_
            refine gr_sub [1, 2, 0, 3, 4] [(0, .ref (w.2.2.1 0)), (1, .int a0), (2, .int x25), (3, .int r7), (4, .int x9)] rfl ?_
            exact JK20 x25 g18 hF
    refine L26 _ (0 : Int32) (0 : Int32) g6   hF
  · rw [if_neg c4] at hF
    refine gr_sub [] [] rfl ?_
    refine gr_iconst C (v := -1) dX10_isCats_8 (by decide) ?_
    cases hF
    exact gr_iret C dX10_isCats_9 ⟨rfl, rfl⟩
-- X10_was: 61 instructions, frames 5, locals 126
set_option maxRecDepth 100000 in
set_option maxHeartbeats 4000000 in
theorem mX10_was (l : Launch) {w : Wl} (hw : w.2.2.2 = shC) {σ : Sg} {a0 : Int32} {a1 : Int32} {a2 : Int32}  {r : Int32} {σ' : Sg} (hF : fX10_was σ a0 a1 a2 = some (r, σ')) : gMI l w yX10_was wsX10_was ({ frames := 5, cells := 0, slots := 0, locals := 126 } : Room) [.ref (w.2.2.1 0), .int a0, .int a1, .int a2] σ r σ' := by
  have inX10 : ∀ v ∈ u_ws RX10 TX10 12, v ∈ wsX10_was := by decide +kernel
  have inX9 : ∀ v ∈ u_ws RX9 TX9 5, v ∈ wsX10_was := by decide +kernel
  have ln29 : Cond.fieldLink RX10 29 (TX10 3).1 (TX10 3).2.1 (TX10 3).2.2.1 ∈ wsX10_was := by decide +kernel
  have ln66 : Cond.fieldLink RX10 66 (TX10 8).1 (TX10 8).2.1 (TX10 8).2.2.1 ∈ wsX10_was := by decide +kernel
  have ln159 : Cond.fieldLink RX10 159 (TX9 2).1 (TX9 2).2.1 (TX9 2).2.2.1 ∈ wsX10_was := by decide +kernel
  refine gStartI cX10_was 6 RX10 rfl (by decide) rfl (Nat.le_of_ble_eq_true rfl) ?_
  intro X hl C
  show gG X w σ 0 [(0, .ref (w.2.2.1 0)), (1, .int a0), (2, .int a1), (3, .int a2)] []
  unfold fX10_was at hF
  refine gr_aload_n C 0 dX10_was_0 rfl rfl ?_
  refine gr_iload_n C 1 dX10_was_1 rfl rfl ?_
  obtain ⟨r3, g2, hc1, hF⟩ := gCl_e hF
  refine gr_callVI C (n := 1) (As := [.int a0]) (rest := []) 0 (mX10_noYounger X.2.1 hw  hc1) gX10_was_X10_noYounger rfl ⟨rfl, rfl⟩ ⟨by decide, by decide⟩ rfl (Nat.le_of_ble_eq_true rfl) rfl (by decide +kernel) (sc_0 hw) rfl dX10_was_2 ?_
  refine gr_if_ne C 27 dX10_was_5 (by decide) (fun c4 => ?_) (fun c4 => ?_)
  · rw [if_neg c4] at hF
    refine gr_sub [] [] rfl ?_
    refine gr_iconst C (v := -1) dX10_was_27 (by decide) ?_
    cases hF
    exact gr_iret C dX10_was_28 ⟨rfl, rfl⟩
  · rw [if_pos c4] at hF
    refine gr_iload_n C 2 dX10_was_8 rfl rfl ?_
    refine gr_iconst C (v := 1) dX10_was_9 (by decide) ?_
    refine gr_bipush C (v := 20) dX10_was_10 (by decide) ?_
    obtain ⟨r7, g6, hc5, hF⟩ := gCl_e hF
    refine gr_callSI C (n := 3) (As := [.int a1, .int (1 : Int32), .int (20 : Int32)]) (rest := []) (mX10_outside X.2.1 hw  hc5) gX10_was_X10_outside rfl ⟨rfl, rfl⟩ ⟨by decide, by decide⟩ rfl (Nat.le_of_ble_eq_true rfl) rfl (by decide +kernel) dX10_was_12 ?_
    refine gr_if_ne C 27 dX10_was_15 (by decide) (fun c8 => ?_) (fun c8 => ?_)
    · rw [if_neg c8] at hF
      refine gr_sub [] [] rfl ?_
      refine gr_iconst C (v := -1) dX10_was_27 (by decide) ?_
      cases hF
      exact gr_iret C dX10_was_28 ⟨rfl, rfl⟩
    · rw [if_pos c8] at hF
      refine gr_iload_n C 3 dX10_was_18 rfl rfl ?_
      refine gr_iconst C (v := 0) dX10_was_19 (by decide) ?_
      refine gr_iconst C (v := 1) dX10_was_20 (by decide) ?_
      obtain ⟨r11, g10, hc9, hF⟩ := gCl_e hF
      refine gr_callSI C (n := 3) (As := [.int a2, .int (0 : Int32), .int (1 : Int32)]) (rest := []) (mX10_outside X.2.1 hw  hc9) gX10_was_X10_outside rfl ⟨rfl, rfl⟩ ⟨by decide, by decide⟩ rfl (Nat.le_of_ble_eq_true rfl) rfl (by decide +kernel) dX10_was_21 ?_
      refine gr_if_eq C 29 dX10_was_24 (by decide) (fun c12 => ?_) (fun c12 => ?_)
      · rw [if_pos c12] at hF
        refine gr_aload_n C 0 dX10_was_29 rfl rfl ?_
        refine gr_getR C 0 3 24 dX10_was_30 (sc_0 hw) rfl inX10 (by decide) ln29 rfl ?_
        refine gr_getR C 24 2 27 dX10_was_33 (sc_24 hw) rfl inX9 (by decide) ln159 rfl ?_
        refine gr_iload_n C 1 dX10_was_36 rfl rfl ?_
        obtain ⟨h14, x13, ex13, hF⟩ := gRd_e hF
        refine gr_iald C 27 8 dX10_was_37 (sc_27 hw) h14 ?_
        refine gr_nmI ex13 ?_
        refine gr_if_ne C 44 dX10_was_38 (by decide) (fun c15 => ?_) (fun c15 => ?_)
        · rw [if_neg c15] at hF
          refine gr_iconst C (v := 0) dX10_was_44 (by decide) ?_
          refine gr_istore C [(4, .int (0 : Int32)), (0, .ref (w.2.2.1 0)), (1, .int a0), (2, .int a1), (3, .int a2)] dX10_was_45 (by decide) rfl ?_
          refine gr_iconst C (v := 0) dX10_was_47 (by decide) ?_
          refine gr_istore C [(5, .int (0 : Int32)), (4, .int (0 : Int32)), (0, .ref (w.2.2.1 0)), (1, .int a0), (2, .int a1), (3, .int a2)] dX10_was_48 (by decide) rfl ?_
          refine gr_sub [2, 3, 4, 5, 1, 0] [(0, .ref (w.2.2.1 0)), (1, .int a0), (2, .int a1), (3, .int a2), (4, .int (0 : Int32)), (5, .int (0 : Int32))] rfl ?_
          have L33 : ∀ (n : Nat) (x17 : Int32) (x18 : Int32) (g19 : Sg) (K16 : Int32 → Sg → Option (Int32 × Sg)), (∀ (x34 : Int32) (g35 : Sg), K16 x34 g35 = some (r, σ') → gG X w g35 104 [(3, .int a2), (4, .int x34)] []) → fX10_was_50 a0 a1 a2 n x17 x18 g19 K16 = some (r, σ') → gG X w g19 50 [(0, .ref (w.2.2.1 0)), (1, .int a0), (2, .int a1), (3, .int a2), (4, .int x17), (5, .int x18)] [] := by
            intro n
            induction n with
            | zero =>
              intro x17 x18 g19 K16 hK16 hF
              rw [fX10_was_50] at hF
              cases hF
            | succ n ih =>
              intro x17 x18 g19 K16 hK16 hF
              rw [fX10_was_50] at hF
              refine gr_iload C 5 dX10_was_50 rfl ?_
              refine gr_bipush C (v := 20) dX10_was_52 (by decide) ?_
              refine gr_icmp_gt C 104 dX10_was_54 (by decide) (fun c20 => ?_) (fun c20 => ?_)
              · rw [if_pos c20] at hF
                refine gr_sub [3, 4] [(3, .int a2), (4, .int x17)] rfl ?_
                exact hK16 x17 g19 hF
              · rw [if_neg c20] at hF
                refine gr_aload_n C 0 dX10_was_57 rfl rfl ?_
                refine gr_getR C 0 8 77 dX10_was_58 (sc_0 hw) rfl inX10 (by decide) ln66 rfl ?_
                refine gr_aload_n C 0 dX10_was_61 rfl rfl ?_
                refine gr_getR C 0 3 24 dX10_was_62 (sc_0 hw) rfl inX10 (by decide) ln29 rfl ?_
                refine gr_iload_n C 2 dX10_was_65 rfl rfl ?_
                refine gr_iload_n C 1 dX10_was_66 rfl rfl ?_
                refine gr_iload C 5 dX10_was_67 rfl ?_
                obtain ⟨r23, g22, hc21, hF⟩ := gCl_e hF
                refine gr_callVI C (n := 4) (As := [.ref (w.2.2.1 24), .int a1, .int a0, .int x18]) (rest := []) 77 (mX1_wellBehindFrom X.2.1 hw  hc21) gX10_was_X1_wellBehindFrom rfl ⟨rfl, rfl⟩ ⟨by decide, by decide⟩ rfl (Nat.le_of_ble_eq_true rfl) rfl (by decide +kernel) (sc_77 hw) rfl dX10_was_69 ?_
                refine gr_aload_n C 0 dX10_was_72 rfl rfl ?_
                refine gr_getR C 0 3 24 dX10_was_73 (sc_0 hw) rfl inX10 (by decide) ln29 rfl ?_
                refine gr_getR C 24 2 27 dX10_was_76 (sc_24 hw) rfl inX9 (by decide) ln159 rfl ?_
                refine gr_iload_n C 1 dX10_was_79 rfl rfl ?_
                obtain ⟨h25, x24, ex24, hF⟩ := gRd_e hF
                refine gr_iald C 27 8 dX10_was_80 (sc_27 hw) h25 ?_
                refine gr_nmI ex24 ?_
                obtain ⟨K26, eK26, hF⟩ := gLet_e hF
                have JK26 : ∀ (x27 : Int32) (g28 : Sg), K26 x27 g28 = some (r, σ') → gG X w g28 98 [(0, .ref (w.2.2.1 0)), (1, .int a0), (2, .int a1), (3, .int a2), (4, .int x27), (5, .int x18)] [] := by
                  intro x27 g28 hF
                  rw [eK26] at hF
                  try dsimp only at hF
                  obtain ⟨x29, ex29, hF⟩ := gLet_e hF
                  refine gr_iinc C (v := x29) 5 [(5, .int x29), (0, .ref (w.2.2.1 0)), (1, .int a0), (2, .int a1), (3, .int a2), (4, .int x27)] dX10_was_98 rfl (by rw [ex29]; rfl) (by decide) rfl ?_
                  refine gr_goto C 50 dX10_was_101 (by decide) ?_
                  refine gr_sub [1, 2, 3, 4, 5, 0] [(0, .ref (w.2.2.1 0)), (1, .int a0), (2, .int a1), (3, .int a2), (4, .int x27), (5, .int x29)] rfl ?_
                  exact ih x27 x29 g28 K16 hK16 hF
                refine gr_icmp_eq C 87 dX10_was_81 (by decide) (fun c30 => ?_) (fun c30 => ?_)
                · rw [if_pos c30] at hF
                  refine gr_iload_n C 3 dX10_was_87 rfl rfl ?_
                  refine gr_iconst C (v := 1) dX10_was_88 (by decide) ?_
                  refine gr_icmp_ne C 95 dX10_was_89 (by decide) (fun c31 => ?_) (fun c31 => ?_)
                  · rw [if_neg c31] at hF
                    obtain ⟨x32, ex32, hF⟩ := gLet_e hF
                    refine gr_iinc C (v := x32) 4 [(4, .int x32), (0, .ref (w.2.2.1 0)), (1, .int a0), (2, .int a1), (3, .int a2), (5, .int x18)] dX10_was_95 rfl (by rw [ex32]; rfl) (by decide) rfl ?_
                    refine gr_sub [1, 2, 3, 4, 0, 5] [(0, .ref (w.2.2.1 0)), (1, .int a0), (2, .int a1), (3, .int a2), (4, .int x32), (5, .int x18)] rfl ?_
                    exact JK26 x32 g22 hF
                  · rw [if_pos c31] at hF
                    refine gr_sub [5] [(5, .int x18)] rfl ?_
                    refine gr_iload C 0 dX10_was_92 rfl ?_
                    refine gr_sub [] [] rfl ?_
                    cases hF
                    exact gr_iret C dX10_was_94 ⟨rfl, rfl⟩
                · rw [if_neg c30] at hF
                  refine gr_goto C 98 dX10_was_84 (by decide) ?_
                  exact JK26 x17 g22 hF
          refine L33 _ (0 : Int32) (0 : Int32) g10 _ ?_ hF
          intro x36 g37 hF
          try dsimp only at hF
          refine gr_iload_n C 0 dX10_was_104 rfl rfl ?_
          refine gr_iconst C (v := 1) dX10_was_105 (by decide) ?_
          refine gr_icmp_ne C 114 dX10_was_106 (by decide) (fun c38 => ?_) (fun c38 => ?_)
          · rw [if_neg c38] at hF
            refine gr_sub [1] [(4, .int x36)] rfl ?_
            refine gr_iload C 0 dX10_was_114 rfl ?_
            cases hF
            exact gr_iret C dX10_was_116 ⟨rfl, rfl⟩
          · rw [if_pos c38] at hF
            refine gr_sub [] [] rfl ?_
            refine gr_bipush C (v := -4) dX10_was_109 (by decide) ?_
            refine gr_goto C 116 dX10_was_111 (by decide) ?_
            cases hF
            exact gr_iret C dX10_was_116 ⟨rfl, rfl⟩
        · rw [if_pos c15] at hF
          refine gr_sub [] [] rfl ?_
          refine gr_bipush C (v := -2) dX10_was_41 (by decide) ?_
          cases hF
          exact gr_iret C dX10_was_43 ⟨rfl, rfl⟩
      · rw [if_neg c12] at hF
        refine gr_sub [] [] rfl ?_
        refine gr_iconst C (v := -1) dX10_was_27 (by decide) ?_
        cases hF
        exact gr_iret C dX10_was_28 ⟨rfl, rfl⟩
-- X8_sameAhead: 20 instructions, frames 1, locals 21
set_option maxRecDepth 100000 in
set_option maxHeartbeats 4000000 in
theorem mX8_sameAhead (l : Launch) {w : Wl} (hw : w.2.2.2 = shC) {σ : Sg} {a0 : Int32} {a1 : Int32}  {r : Int32} {σ' : Sg} (hF : fX8_sameAhead σ a0 a1 = some (r, σ')) : gMI l w yX8_sameAhead wsX8_sameAhead ({ frames := 1, cells := 0, slots := 0, locals := 21 } : Room) [.int a0, .int a1] σ r σ' := by
  refine gStartI cX8_sameAhead 3 RX8 rfl (by decide) rfl (Nat.le_of_ble_eq_true rfl) ?_
  intro X hl C
  show gG X w σ 0 [(0, .int a0), (1, .int a1)] []
  unfold fX8_sameAhead at hF
  refine gr_iload_n C 1 dX8_sameAhead_0 rfl rfl ?_
  refine gr_iconst C (v := 1) dX8_sameAhead_1 (by decide) ?_
  refine gr_isub C dX8_sameAhead_2 ?_
  obtain ⟨x1, ex1, hF⟩ := gLet_e hF
  refine gr_nmI ex1 ?_
  refine gr_istore_n C [(2, .int x1), (0, .int a0), (1, .int a1)] dX8_sameAhead_3 rfl (by decide) rfl ?_
  refine gr_sub [1, 2, 0] [(0, .int a0), (1, .int a1), (2, .int x1)] rfl ?_
  have L10 : ∀ (n : Nat) (x2 : Int32) (g3 : Sg) , fX8_sameAhead_4 a0 a1 n x2 g3  = some (r, σ') → gG X w g3 4 [(0, .int a0), (1, .int a1), (2, .int x2)] [] := by
    intro n
    induction n with
    | zero =>
      intro x2 g3 hF
      rw [fX8_sameAhead_4] at hF
      cases hF
    | succ n ih =>
      intro x2 g3 hF
      rw [fX8_sameAhead_4] at hF
      refine gr_iload_n C 2 dX8_sameAhead_4 rfl rfl ?_
      refine gr_if_le C 28 dX8_sameAhead_5 (by decide) (fun c4 => ?_) (fun c4 => ?_)
      · rw [if_pos c4] at hF
        refine gr_sub [] [] rfl ?_
        refine gr_iconst C (v := 0) dX8_sameAhead_28 (by decide) ?_
        cases hF
        exact gr_iret C dX8_sameAhead_29 ⟨rfl, rfl⟩
      · rw [if_neg c4] at hF
        refine gr_iload_n C 0 dX8_sameAhead_8 rfl rfl ?_
        refine gr_iload_n C 1 dX8_sameAhead_9 rfl rfl ?_
        refine gr_iconst C (v := 1) dX8_sameAhead_10 (by decide) ?_
        refine gr_isub C dX8_sameAhead_11 ?_
        refine gr_iload_n C 2 dX8_sameAhead_12 rfl rfl ?_
        refine gr_isub C dX8_sameAhead_13 ?_
        obtain ⟨r7, g6, hc5, hF⟩ := gCl_e hF
        refine gr_callNI C (n := 2) (As := [.int a0, .int ((a1 - (1 : Int32)) - x2)]) (rest := []) (host := "YoungerMilk") (mX10_has X.2.1 hw  hc5) gX8_sameAhead_X10_has_n43 rfl ⟨rfl, rfl⟩ ⟨by decide, by decide⟩ rfl (Nat.le_of_ble_eq_true rfl) rfl (by decide +kernel) (by decide +kernel) (by decide +kernel) (by decide +kernel) dX8_sameAhead_14 ?_
        refine gr_if_eq C 22 dX8_sameAhead_17 (by decide) (fun c8 => ?_) (fun c8 => ?_)
        · rw [if_pos c8] at hF
          obtain ⟨x9, ex9, hF⟩ := gLet_e hF
          refine gr_iinc C (v := x9) 2 [(2, .int x9), (0, .int a0), (1, .int a1)] dX8_sameAhead_22 rfl (by rw [ex9]; rfl) (by decide) rfl ?_
          refine gr_goto C 4 dX8_sameAhead_25 (by decide) ?_
          refine gr_sub [1, 2, 0] [(0, .int a0), (1, .int a1), (2, .int x9)] rfl ?_
          exact ih x9 g6   hF
        · rw [if_neg c8] at hF
          refine gr_sub [2] [(2, .int x2)] rfl ?_
          refine gr_iload_n C 0 dX8_sameAhead_20 rfl rfl ?_
          refine gr_sub [] [] rfl ?_
          cases hF
          exact gr_iret C dX8_sameAhead_21 ⟨rfl, rfl⟩
  refine L10 _ x1 σ   hF
