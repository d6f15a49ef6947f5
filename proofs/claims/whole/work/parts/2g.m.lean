-- X8_goBy: 52 instructions, frames 3, locals 79
set_option maxRecDepth 100000 in
set_option maxHeartbeats 4000000 in
theorem mX8_goBy (l : Launch) {w : Wl} (hw : w.2.2.2 = shC) {σ : Sg} {a0 : Int32} {a1 : Int32} {a2 : Int32} {a3 : Int32}  {σ' : Sg} (hF : fX8_goBy σ a0 a1 a2 a3 = some σ') : gMV l w yX8_goBy wsX8_goBy ({ frames := 3, cells := 0, slots := 0, locals := 79 } : Room) [.ref (w.2.2.1 108), .int a0, .int a1, .int a2, .int a3] σ σ' := by
  have inX8 : ∀ v ∈ u_ws RX8 TX8 4, v ∈ wsX8_goBy := by decide +kernel
  have inX9 : ∀ v ∈ u_ws RX9 TX9 5, v ∈ wsX8_goBy := by decide +kernel
  have ln11 : Cond.fieldLink RX8 11 (TX8 2).1 (TX8 2).2.1 (TX8 2).2.2.1 ∈ wsX8_goBy := by decide +kernel
  have ln17 : Cond.fieldLink RX8 17 (TX8 3).1 (TX8 3).2.1 (TX8 3).2.2.1 ∈ wsX8_goBy := by decide +kernel
  have ln25 : Cond.fieldLink RX8 25 (TX8 1).1 (TX8 1).2.1 (TX8 1).2.2.1 ∈ wsX8_goBy := by decide +kernel
  have ln54 : Cond.fieldLink RX8 54 (TX9 0).1 (TX9 0).2.1 (TX9 0).2.2.1 ∈ wsX8_goBy := by decide +kernel
  refine gStartV cX8_goBy 5 RX8 rfl (by decide) rfl (Nat.le_of_ble_eq_true rfl) ?_
  intro X hl C
  show gG X w σ 0 [(0, .ref (w.2.2.1 108)), (1, .int a0), (2, .int a1), (3, .int a2), (4, .int a3)] []
  unfold fX8_goBy at hF
  refine gr_aload_n C 0 dX8_goBy_0 rfl rfl ?_
  refine gr_getR C 108 2 109 dX8_goBy_1 (sc_108 hw) rfl inX8 (by decide) ln11 rfl ?_
  refine gr_iload_n C 1 dX8_goBy_4 rfl rfl ?_
  refine gr_iconst C (v := 1) dX8_goBy_5 (by decide) ?_
  refine gr_iadd C dX8_goBy_6 ?_
  obtain ⟨h2, j1, ej1, h3, hF⟩ := gIx_e hF
  refine gr_aldS C 109 9 110 4 dX8_goBy_7 (sc_109 hw) h2 ?_
  refine gr_nmR (show (110 + 4 * j1) = _ by rw [ej1]) ?_
  have hs4 : gSt w (110 + 4 * j1) := st_109 hw j1 h3
  refine gr_aload_n C 0 dX8_goBy_8 rfl rfl ?_
  refine gr_getR C 108 2 109 dX8_goBy_9 (sc_108 hw) rfl inX8 (by decide) ln11 rfl ?_
  refine gr_iload_n C 1 dX8_goBy_12 rfl rfl ?_
  obtain ⟨h6, j5, ej5, h7, hF⟩ := gIx_e hF
  refine gr_aldS C 109 9 110 4 dX8_goBy_13 (sc_109 hw) h6 ?_
  refine gr_nmR (show (110 + 4 * j5) = _ by rw [ej5]) ?_
  have hs8 : gSt w (110 + 4 * j5) := st_109 hw j5 h7
  obtain ⟨g10, hc9, hF⟩ := gCv_e hF
  refine gr_callVV C (n := 1) (As := [.ref (w.2.2.1 (110 + 4 * j5))]) (rest := []) (110 + 4 * j1) (mX9_become X.2.1 hw hs4 hs8 hc9) gX8_goBy_X9_become rfl ⟨rfl, rfl⟩ ⟨by decide, by decide⟩ rfl (Nat.le_of_ble_eq_true rfl) rfl (by decide +kernel) hs4.1 rfl dX8_goBy_14 ?_
  refine gr_aload_n C 0 dX8_goBy_17 rfl rfl ?_
  refine gr_getR C 108 1 72 dX8_goBy_18 (sc_108 hw) rfl inX8 (by decide) ln25 rfl ?_
  refine gr_aload_n C 0 dX8_goBy_21 rfl rfl ?_
  refine gr_getR C 108 2 109 dX8_goBy_22 (sc_108 hw) rfl inX8 (by decide) ln11 rfl ?_
  refine gr_iload_n C 1 dX8_goBy_25 rfl rfl ?_
  refine gr_iconst C (v := 1) dX8_goBy_26 (by decide) ?_
  refine gr_iadd C dX8_goBy_27 ?_
  obtain ⟨h12, j11, ej11, h13, hF⟩ := gIx_e hF
  refine gr_aldS C 109 9 110 4 dX8_goBy_28 (sc_109 hw) h12 ?_
  refine gr_nmR (show (110 + 4 * j11) = _ by rw [ej11]) ?_
  have hs14 : gSt w (110 + 4 * j11) := st_109 hw j11 h13
  refine gr_iload_n C 2 dX8_goBy_29 rfl rfl ?_
  refine gr_iload_n C 3 dX8_goBy_30 rfl rfl ?_
  obtain ⟨K15, eK15, hF⟩ := gLet_e hF
  have JK15 : ∀ (x16 : Int32) (g17 : Sg), K15 x16 g17 = some σ' → gG X w g17 49 [(0, .ref (w.2.2.1 108)), (1, .int a0), (3, .int a2), (4, .int a3)] [.int x16, .int a1, .ref (w.2.2.1 (110 + 4 * j11)), .ref (w.2.2.1 72)] := by
    intro x16 g17 hF
    rw [eK15] at hF
    try dsimp only at hF
    obtain ⟨r20, g19, hc18, hF⟩ := gCl_e hF
    refine gr_callVI C (n := 3) (As := [.ref (w.2.2.1 (110 + 4 * j11)), .int a1, .int x16]) (rest := []) 72 (mX2_goByAt X.2.1 hw hs14 hc18) gX8_goBy_X2_goByAt rfl ⟨rfl, rfl⟩ ⟨by decide, by decide⟩ rfl (Nat.le_of_ble_eq_true rfl) rfl (by decide +kernel) (sc_72 hw) rfl dX8_goBy_49 ?_
    refine gr_pop C dX8_goBy_52 rfl ?_
    refine gr_aload_n C 0 dX8_goBy_53 rfl rfl ?_
    refine gr_getR C 108 3 146 dX8_goBy_54 (sc_108 hw) rfl inX8 (by decide) ln17 rfl ?_
    refine gr_iload_n C 1 dX8_goBy_57 rfl rfl ?_
    refine gr_iconst C (v := 1) dX8_goBy_58 (by decide) ?_
    refine gr_iadd C dX8_goBy_59 ?_
    refine gr_aload_n C 0 dX8_goBy_60 rfl rfl ?_
    refine gr_getR C 108 3 146 dX8_goBy_61 (sc_108 hw) rfl inX8 (by decide) ln17 rfl ?_
    refine gr_iload_n C 1 dX8_goBy_64 rfl rfl ?_
    obtain ⟨h22, x21, ex21, hF⟩ := gRd_e hF
    refine gr_iald C 146 9 dX8_goBy_65 (sc_146 hw) h22 ?_
    refine gr_nmI ex21 ?_
    refine gr_iload_n C 2 dX8_goBy_66 rfl rfl ?_
    obtain ⟨K23, eK23, hF⟩ := gLet_e hF
    have JK23 : ∀ (x24 : Int32) (g25 : Sg), K23 x24 g25 = some σ' → gG X w g25 80 [] [.int x24, .int x21, .int (a0 + (1 : Int32)), .ref (w.2.2.1 146)] := by
      intro x24 g25 hF
      rw [eK23] at hF
      try dsimp only at hF
      refine gr_imul C dX8_goBy_80 ?_
      obtain ⟨h26, g27, eg27, hF⟩ := gWr_e hF
      refine gr_iast C 146 9 dX8_goBy_81 (sc_146 hw) h26 ?_
      refine gr_nmS eg27 ?_
      cases hF
      exact gr_vret C dX8_goBy_82 ⟨rfl, rfl⟩
    refine gr_if_eq C 75 dX8_goBy_67 (by decide) (fun c28 => ?_) (fun c28 => ?_)
    · rw [if_pos c28] at hF
      refine gr_sub [3] [(4, .int a3)] rfl ?_
      refine gr_bipush C (v := 10) dX8_goBy_75 (by decide) ?_
      refine gr_iload C 0 dX8_goBy_77 rfl ?_
      refine gr_isub C dX8_goBy_79 ?_
      refine gr_sub [] [] rfl ?_
      exact JK23 ((10 : Int32) - a3) g19 hF
    · rw [if_neg c28] at hF
      refine gr_sub [3] [(4, .int a3)] rfl ?_
      refine gr_iload C 0 dX8_goBy_70 rfl ?_
      refine gr_goto C 80 dX8_goBy_72 (by decide) ?_
      refine gr_sub [] [] rfl ?_
      exact JK23 a3 g19 hF
  refine gr_if_eq C 38 dX8_goBy_31 (by decide) (fun c29 => ?_) (fun c29 => ?_)
  · rw [if_pos c29] at hF
    refine gr_aload_n C 0 dX8_goBy_38 rfl rfl ?_
    refine gr_getR C 108 2 109 dX8_goBy_39 (sc_108 hw) rfl inX8 (by decide) ln11 rfl ?_
    refine gr_iload_n C 1 dX8_goBy_42 rfl rfl ?_
    obtain ⟨h31, j30, ej30, h32, hF⟩ := gIx_e hF
    refine gr_aldS C 109 9 110 4 dX8_goBy_43 (sc_109 hw) h31 ?_
    refine gr_nmR (show (110 + 4 * j30) = _ by rw [ej30]) ?_
    have hs33 : gSt w (110 + 4 * j30) := st_109 hw j30 h32
    refine gr_getR C (110 + 4 * j30) 0 ((110 + 4 * j30) + 1) dX8_goBy_44 hs33.1 rfl inX9 (by decide) ln54 rfl ?_
    refine gr_iload_n C 2 dX8_goBy_47 rfl rfl ?_
    obtain ⟨h35, x34, ex34, hF⟩ := gRd_e hF
    refine gr_iald C ((110 + 4 * j30) + 1) 9 dX8_goBy_48 hs33.2.1 h35 ?_
    refine gr_nmI ex34 ?_
    refine gr_sub [0, 1, 3, 4] [(0, .ref (w.2.2.1 108)), (1, .int a0), (3, .int a2), (4, .int a3)] rfl ?_
    exact JK15 x34 g10 hF
  · rw [if_neg c29] at hF
    refine gr_sub [0, 1, 3, 4] [(0, .ref (w.2.2.1 108)), (1, .int a0), (3, .int a2), (4, .int a3)] rfl ?_
    refine gr_iconst C (v := 0) dX8_goBy_34 (by decide) ?_
    refine gr_goto C 49 dX8_goBy_35 (by decide) ?_
    exact JK15 (0 : Int32) g10 hF
-- X8_waysKept: 66 instructions, frames 4, locals 103
set_option maxRecDepth 100000 in
set_option maxHeartbeats 4000000 in
theorem mX8_waysKept (l : Launch) {w : Wl} (hw : w.2.2.2 = shC) {σ : Sg} {a1 : Int32} {a2 : Int32} {a3 : Int32}  {r : Int32} {σ' : Sg} (hF : fX8_waysKept σ a1 a2 a3 = some (r, σ')) : gMI l w yX8_waysKept wsX8_waysKept ({ frames := 4, cells := 0, slots := 0, locals := 103 } : Room) [.ref (w.2.2.1 108), .ref (w.2.2.1 24), .int a1, .int a2, .int a3] σ r σ' := by
  have inX3 : ∀ v ∈ u_ws RX3 TX3 13, v ∈ wsX8_waysKept := by decide +kernel
  have inX8 : ∀ v ∈ u_ws RX8 TX8 4, v ∈ wsX8_waysKept := by decide +kernel
  have inX9 : ∀ v ∈ u_ws RX9 TX9 5, v ∈ wsX8_waysKept := by decide +kernel
  have ln11 : Cond.fieldLink RX8 11 (TX8 2).1 (TX8 2).2.1 (TX8 2).2.2.1 ∈ wsX8_waysKept := by decide +kernel
  have ln17 : Cond.fieldLink RX8 17 (TX8 3).1 (TX8 3).2.1 (TX8 3).2.2.1 ∈ wsX8_waysKept := by decide +kernel
  have ln21 : Cond.fieldLink RX8 21 (TX8 0).1 (TX8 0).2.1 (TX8 0).2.2.1 ∈ wsX8_waysKept := by decide +kernel
  have ln38 : Cond.fieldLink RX8 38 (TX3 1).1 (TX3 1).2.1 (TX3 1).2.2.1 ∈ wsX8_waysKept := by decide +kernel
  have ln51 : Cond.fieldLink RX8 51 (TX9 2).1 (TX9 2).2.1 (TX9 2).2.2.1 ∈ wsX8_waysKept := by decide +kernel
  refine gStartI cX8_waysKept 8 RX8 rfl (by decide) rfl (Nat.le_of_ble_eq_true rfl) ?_
  intro X hl C
  show gG X w σ 0 [(0, .ref (w.2.2.1 108)), (1, .ref (w.2.2.1 24)), (2, .int a1), (3, .int a2), (4, .int a3)] []
  unfold fX8_waysKept at hF
  refine gr_aload_n C 0 dX8_waysKept_0 rfl rfl ?_
  refine gr_getR C 108 2 109 dX8_waysKept_1 (sc_108 hw) rfl inX8 (by decide) ln11 rfl ?_
  refine gr_iconst C (v := 0) dX8_waysKept_4 (by decide) ?_
  obtain ⟨h2, j1, ej1, h3, hF⟩ := gIx_e hF
  refine gr_aldS C 109 9 110 4 dX8_waysKept_5 (sc_109 hw) h2 ?_
  refine gr_nmR (show (110 + 4 * j1) = _ by rw [ej1]) ?_
  have hs4 : gSt w (110 + 4 * j1) := st_109 hw j1 h3
  refine gr_aload_n C 1 dX8_waysKept_6 rfl rfl ?_
  obtain ⟨g6, hc5, hF⟩ := gCv_e hF
  refine gr_callVV C (n := 1) (As := [.ref (w.2.2.1 24)]) (rest := []) (110 + 4 * j1) (mX9_become X.2.1 hw hs4 (st_24 hw) hc5) gX8_waysKept_X9_become rfl ⟨rfl, rfl⟩ ⟨by decide, by decide⟩ rfl (Nat.le_of_ble_eq_true rfl) rfl (by decide +kernel) hs4.1 rfl dX8_waysKept_7 ?_
  refine gr_aload_n C 0 dX8_waysKept_10 rfl rfl ?_
  refine gr_getR C 108 3 146 dX8_waysKept_11 (sc_108 hw) rfl inX8 (by decide) ln17 rfl ?_
  refine gr_iconst C (v := 0) dX8_waysKept_14 (by decide) ?_
  refine gr_iconst C (v := 1) dX8_waysKept_15 (by decide) ?_
  obtain ⟨h7, g8, eg8, hF⟩ := gWr_e hF
  refine gr_iast C 146 9 dX8_waysKept_16 (sc_146 hw) h7 ?_
  refine gr_nmS eg8 ?_
  refine gr_iconst C (v := 0) dX8_waysKept_17 (by decide) ?_
  refine gr_istore C [(5, .int (0 : Int32)), (0, .ref (w.2.2.1 108)), (1, .ref (w.2.2.1 24)), (2, .int a1), (3, .int a2), (4, .int a3)] dX8_waysKept_18 (by decide) rfl ?_
  refine gr_iconst C (v := 0) dX8_waysKept_20 (by decide) ?_
  refine gr_istore C [(6, .int (0 : Int32)), (5, .int (0 : Int32)), (0, .ref (w.2.2.1 108)), (1, .ref (w.2.2.1 24)), (2, .int a1), (3, .int a2), (4, .int a3)] dX8_waysKept_21 (by decide) rfl ?_
  refine gr_sub [2, 4, 5, 6, 1, 0] [(0, .ref (w.2.2.1 108)), (2, .int a1), (3, .int a2), (4, .int a3), (5, .int (0 : Int32)), (6, .int (0 : Int32))] rfl ?_
  have L45 : ∀ (n : Nat) (x9 : Int32) (x10 : Int32) (g11 : Sg) , fX8_waysKept_23 a1 a2 a3 n x9 x10 g11  = some (r, σ') → gG X w g11 23 [(0, .ref (w.2.2.1 108)), (2, .int a1), (3, .int a2), (4, .int a3), (5, .int x9), (6, .int x10)] [] := by
    intro n
    induction n with
    | zero =>
      intro x9 x10 g11 hF
      rw [fX8_waysKept_23] at hF
      cases hF
    | succ n ih =>
      intro x9 x10 g11 hF
      rw [fX8_waysKept_23] at hF
      refine gr_iload C 5 dX8_waysKept_23 rfl ?_
      refine gr_iconst C (v := 1) dX8_waysKept_25 (by decide) ?_
      refine gr_iload_n C 2 dX8_waysKept_26 rfl rfl ?_
      refine gr_ishl C dX8_waysKept_27 ?_
      refine gr_icmp_ge C 114 dX8_waysKept_28 (by decide) (fun c12 => ?_) (fun c12 => ?_)
      · rw [if_pos c12] at hF
        refine gr_sub [4] [(5, .int x9)] rfl ?_
        refine gr_iload C 0 dX8_waysKept_114 rfl ?_
        refine gr_sub [] [] rfl ?_
        cases hF
        exact gr_iret C dX8_waysKept_116 ⟨rfl, rfl⟩
      · rw [if_neg c12] at hF
        refine gr_iload C 5 dX8_waysKept_31 rfl ?_
        refine gr_iload_n C 2 dX8_waysKept_33 rfl rfl ?_
        obtain ⟨r15, g14, hc13, hF⟩ := gCl_e hF
        refine gr_callSI C (n := 2) (As := [.int x10, .int a2]) (rest := []) (mX8_sameAhead X.2.1 hw  hc13) gX8_waysKept_X8_sameAhead rfl ⟨rfl, rfl⟩ ⟨by decide, by decide⟩ rfl (Nat.le_of_ble_eq_true rfl) rfl (by decide +kernel) dX8_waysKept_34 ?_
        refine gr_istore C [(7, .int r15), (0, .ref (w.2.2.1 108)), (2, .int a1), (3, .int a2), (4, .int a3), (5, .int x9), (6, .int x10)] dX8_waysKept_37 (by decide) rfl ?_
        refine gr_sub [1, 2, 3, 4, 5, 6, 0] [(0, .ref (w.2.2.1 108)), (2, .int a1), (3, .int a2), (4, .int a3), (5, .int x9), (6, .int x10), (7, .int r15)] rfl ?_
        have L28 : ∀ (n : Nat) (x17 : Int32) (g18 : Sg) (K16 : Sg → Option (Int32 × Sg)), (∀  (g29 : Sg), K16  g29 = some (r, σ') → gG X w g29 79 [(0, .ref (w.2.2.1 108)), (2, .int a1), (3, .int a2), (4, .int a3), (5, .int x9), (6, .int x10)] []) → fX8_waysKept_39 a1 a2 a3 x10 n x17 g18 K16 = some (r, σ') → gG X w g18 39 [(0, .ref (w.2.2.1 108)), (2, .int a1), (3, .int a2), (4, .int a3), (5, .int x9), (6, .int x10), (7, .int x17)] [] := by
          intro n
          induction n with
          | zero =>
            intro x17 g18 K16 hK16 hF
            rw [fX8_waysKept_39] at hF
            cases hF
          | succ n ih =>
            intro x17 g18 K16 hK16 hF
            rw [fX8_waysKept_39] at hF
            refine gr_iload C 6 dX8_waysKept_39 rfl ?_
            refine gr_iload_n C 2 dX8_waysKept_41 rfl rfl ?_
            refine gr_icmp_ge C 79 dX8_waysKept_42 (by decide) (fun c19 => ?_) (fun c19 => ?_)
            · rw [if_pos c19] at hF
              refine gr_sub [0, 1, 2, 3, 4, 5] [(0, .ref (w.2.2.1 108)), (2, .int a1), (3, .int a2), (4, .int a3), (5, .int x9), (6, .int x10)] rfl ?_
              exact hK16  g18 hF
            · rw [if_neg c19] at hF
              refine gr_aload_n C 0 dX8_waysKept_45 rfl rfl ?_
              refine gr_iload C 6 dX8_waysKept_46 rfl ?_
              refine gr_aload_n C 0 dX8_waysKept_48 rfl rfl ?_
              refine gr_getR C 108 0 4 dX8_waysKept_49 (sc_108 hw) rfl inX8 (by decide) ln21 rfl ?_
              refine gr_getR C 4 1 6 dX8_waysKept_52 (sc_4 hw) rfl inX3 (by decide) ln38 rfl ?_
              refine gr_iload_n C 1 dX8_waysKept_55 rfl rfl ?_
              obtain ⟨h21, x20, ex20, hF⟩ := gRd_e hF
              refine gr_iald C 6 8 dX8_waysKept_56 (sc_6 hw) h21 ?_
              refine gr_nmI ex20 ?_
              refine gr_iload C 5 dX8_waysKept_57 rfl ?_
              refine gr_iload_n C 2 dX8_waysKept_59 rfl rfl ?_
              refine gr_iconst C (v := 1) dX8_waysKept_60 (by decide) ?_
              refine gr_isub C dX8_waysKept_61 ?_
              refine gr_iload C 6 dX8_waysKept_62 rfl ?_
              refine gr_isub C dX8_waysKept_64 ?_
              obtain ⟨r24, g23, hc22, hF⟩ := gCl_e hF
              refine gr_callNI C (n := 2) (As := [.int x10, .int ((a2 - (1 : Int32)) - x17)]) (rest := [.int x20, .int x17, .ref (w.2.2.1 108)]) (host := "YoungerMilk") (mX10_has X.2.1 hw  hc22) gX8_waysKept_X10_has_n43 rfl ⟨rfl, rfl⟩ ⟨by decide, by decide⟩ rfl (Nat.le_of_ble_eq_true rfl) rfl (by decide +kernel) (by decide +kernel) (by decide +kernel) (by decide +kernel) dX8_waysKept_65 ?_
              refine gr_iload C 3 dX8_waysKept_68 rfl ?_
              obtain ⟨g26, hc25, hF⟩ := gCv_e hF
              refine gr_callVV C (n := 4) (As := [.int x17, .int x20, .int r24, .int a3]) (rest := []) 108 (mX8_goBy X.2.1 hw  hc25) gX8_waysKept_X8_goBy rfl ⟨rfl, rfl⟩ ⟨by decide, by decide⟩ rfl (Nat.le_of_ble_eq_true rfl) rfl (by decide +kernel) (sc_108 hw) rfl dX8_waysKept_70 ?_
              obtain ⟨x27, ex27, hF⟩ := gLet_e hF
              refine gr_iinc C (v := x27) 6 [(7, .int x27), (0, .ref (w.2.2.1 108)), (2, .int a1), (3, .int a2), (4, .int a3), (5, .int x9), (6, .int x10)] dX8_waysKept_73 rfl (by rw [ex27]; rfl) (by decide) rfl ?_
              refine gr_goto C 39 dX8_waysKept_76 (by decide) ?_
              refine gr_sub [1, 2, 3, 4, 5, 6, 0] [(0, .ref (w.2.2.1 108)), (2, .int a1), (3, .int a2), (4, .int a3), (5, .int x9), (6, .int x10), (7, .int x27)] rfl ?_
              exact ih x27 g26 K16 hK16 hF
        refine L28 _ r15 g14 _ ?_ hF
        intro g30 hF
        try dsimp only at hF
        refine gr_iload C 4 dX8_waysKept_79 rfl ?_
        refine gr_aload_n C 0 dX8_waysKept_81 rfl rfl ?_
        refine gr_getR C 108 2 109 dX8_waysKept_82 (sc_108 hw) rfl inX8 (by decide) ln11 rfl ?_
        refine gr_iload_n C 2 dX8_waysKept_85 rfl rfl ?_
        obtain ⟨h32, j31, ej31, h33, hF⟩ := gIx_e hF
        refine gr_aldS C 109 9 110 4 dX8_waysKept_86 (sc_109 hw) h32 ?_
        refine gr_nmR (show (110 + 4 * j31) = _ by rw [ej31]) ?_
        have hs34 : gSt w (110 + 4 * j31) := st_109 hw j31 h33
        refine gr_getR C (110 + 4 * j31) 2 ((110 + 4 * j31) + 3) dX8_waysKept_87 hs34.1 rfl inX9 (by decide) ln51 rfl ?_
        refine gr_iload_n C 1 dX8_waysKept_90 rfl rfl ?_
        obtain ⟨h36, x35, ex35, hF⟩ := gRd_e hF
        refine gr_iald C ((110 + 4 * j31) + 3) 8 dX8_waysKept_91 hs34.2.2.2 h36 ?_
        refine gr_nmI ex35 ?_
        obtain ⟨K37, eK37, hF⟩ := gLet_e hF
        have JK37 : ∀ (x38 : Int32) (g39 : Sg), K37 x38 g39 = some (r, σ') → gG X w g39 105 [(0, .ref (w.2.2.1 108)), (2, .int a1), (3, .int a2), (4, .int a3), (6, .int x10)] [.int x38, .int x9] := by
          intro x38 g39 hF
          rw [eK37] at hF
          try dsimp only at hF
          refine gr_iadd C dX8_waysKept_105 ?_
          obtain ⟨x40, ex40, hF⟩ := gLet_e hF
          refine gr_nmI ex40 ?_
          refine gr_istore C [(5, .int x40), (0, .ref (w.2.2.1 108)), (2, .int a1), (3, .int a2), (4, .int a3), (6, .int x10)] dX8_waysKept_106 (by decide) rfl ?_
          obtain ⟨x41, ex41, hF⟩ := gLet_e hF
          refine gr_iinc C (v := x41) 5 [(6, .int x41), (5, .int x40), (0, .ref (w.2.2.1 108)), (2, .int a1), (3, .int a2), (4, .int a3)] dX8_waysKept_108 rfl (by rw [ex41]; rfl) (by decide) rfl ?_
          refine gr_goto C 23 dX8_waysKept_111 (by decide) ?_
          refine gr_sub [2, 3, 4, 5, 1, 0] [(0, .ref (w.2.2.1 108)), (2, .int a1), (3, .int a2), (4, .int a3), (5, .int x40), (6, .int x41)] rfl ?_
          exact ih x40 x41 g39   hF
        refine gr_if_le C 104 dX8_waysKept_92 (by decide) (fun c42 => ?_) (fun c42 => ?_)
        · rw [if_pos c42] at hF
          refine gr_sub [0, 1, 2, 3, 5] [(0, .ref (w.2.2.1 108)), (2, .int a1), (3, .int a2), (4, .int a3), (6, .int x10)] rfl ?_
          refine gr_iconst C (v := 0) dX8_waysKept_104 (by decide) ?_
          exact JK37 (0 : Int32) g30 hF
        · rw [if_neg c42] at hF
          refine gr_sub [0, 1, 2, 3, 5] [(0, .ref (w.2.2.1 108)), (2, .int a1), (3, .int a2), (4, .int a3), (6, .int x10)] rfl ?_
          refine gr_aload_n C 0 dX8_waysKept_95 rfl rfl ?_
          refine gr_getR C 108 3 146 dX8_waysKept_96 (sc_108 hw) rfl inX8 (by decide) ln17 rfl ?_
          refine gr_iload_n C 2 dX8_waysKept_99 rfl rfl ?_
          obtain ⟨h44, x43, ex43, hF⟩ := gRd_e hF
          refine gr_iald C 146 9 dX8_waysKept_100 (sc_146 hw) h44 ?_
          refine gr_nmI ex43 ?_
          refine gr_goto C 105 dX8_waysKept_101 (by decide) ?_
          exact JK37 x43 g30 hF
  refine L45 _ (0 : Int32) (0 : Int32) g8   hF
-- X10_commonDivisor: 19 instructions, frames 0, locals 0
set_option maxRecDepth 100000 in
set_option maxHeartbeats 4000000 in
theorem mX10_commonDivisor (l : Launch) {w : Wl} (hw : w.2.2.2 = shC) {σ : Sg} {a0 : Int32} {a1 : Int32}  {r : Int32} {σ' : Sg} (hF : fX10_commonDivisor σ a0 a1 = some (r, σ')) : gMI l w yX10_commonDivisor wsX10_commonDivisor ({ frames := 0, cells := 0, slots := 0, locals := 0 } : Room) [.int a0, .int a1] σ r σ' := by
  refine gStartI cX10_commonDivisor 4 RX10 rfl (by decide) rfl (Nat.le_of_ble_eq_true rfl) ?_
  intro X hl C
  show gG X w σ 0 [(0, .int a0), (1, .int a1)] []
  unfold fX10_commonDivisor at hF
  refine gr_iconst C (v := 0) dX10_commonDivisor_0 (by decide) ?_
  refine gr_istore_n C [(2, .int (0 : Int32)), (0, .int a0), (1, .int a1)] dX10_commonDivisor_1 rfl (by decide) rfl ?_
  refine gr_sub [1, 2, 0] [(0, .int a0), (1, .int a1), (2, .int (0 : Int32))] rfl ?_
  have L10 : ∀ (n : Nat) (x1 : Int32) (x2 : Int32) (x3 : Int32) (g4 : Sg) , fX10_commonDivisor_2  n x1 x2 x3 g4  = some (r, σ') → gG X w g4 2 [(0, .int x1), (1, .int x2), (2, .int x3)] [] := by
    intro n
    induction n with
    | zero =>
      intro x1 x2 x3 g4 hF
      rw [fX10_commonDivisor_2] at hF
      cases hF
    | succ n ih =>
      intro x1 x2 x3 g4 hF
      rw [fX10_commonDivisor_2] at hF
      refine gr_iload_n C 2 dX10_commonDivisor_2 rfl rfl ?_
      refine gr_bipush C (v := 64) dX10_commonDivisor_3 (by decide) ?_
      refine gr_icmp_ge C 26 dX10_commonDivisor_5 (by decide) (fun c5 => ?_) (fun c5 => ?_)
      · rw [if_pos c5] at hF
        refine gr_sub [0] [(0, .int x1)] rfl ?_
        refine gr_iload_n C 0 dX10_commonDivisor_26 rfl rfl ?_
        refine gr_sub [] [] rfl ?_
        cases hF
        exact gr_iret C dX10_commonDivisor_27 ⟨rfl, rfl⟩
      · rw [if_neg c5] at hF
        refine gr_iload_n C 1 dX10_commonDivisor_8 rfl rfl ?_
        refine gr_if_eq C 26 dX10_commonDivisor_9 (by decide) (fun c6 => ?_) (fun c6 => ?_)
        · rw [if_pos c6] at hF
          refine gr_sub [0] [(0, .int x1)] rfl ?_
          refine gr_iload_n C 0 dX10_commonDivisor_26 rfl rfl ?_
          refine gr_sub [] [] rfl ?_
          cases hF
          exact gr_iret C dX10_commonDivisor_27 ⟨rfl, rfl⟩
        · rw [if_neg c6] at hF
          refine gr_iload_n C 0 dX10_commonDivisor_12 rfl rfl ?_
          refine gr_iload_n C 1 dX10_commonDivisor_13 rfl rfl ?_
          obtain ⟨h7, hF⟩ := gNz_e hF
          refine gr_irem C dX10_commonDivisor_14 h7 ?_
          obtain ⟨x8, ex8, hF⟩ := gLet_e hF
          refine gr_nmI ex8 ?_
          refine gr_istore_n C [(3, .int x8), (0, .int x1), (1, .int x2), (2, .int x3)] dX10_commonDivisor_15 rfl (by decide) rfl ?_
          refine gr_iload_n C 2 dX10_commonDivisor_16 rfl rfl ?_
          refine gr_istore_n C [(0, .int x2), (3, .int x8), (1, .int x2), (2, .int x3)] dX10_commonDivisor_17 rfl (by decide) rfl ?_
          refine gr_iload_n C 1 dX10_commonDivisor_18 rfl rfl ?_
          refine gr_istore_n C [(1, .int x8), (0, .int x2), (3, .int x8), (2, .int x3)] dX10_commonDivisor_19 rfl (by decide) rfl ?_
          obtain ⟨x9, ex9, hF⟩ := gLet_e hF
          refine gr_iinc C (v := x9) 3 [(2, .int x9), (1, .int x8), (0, .int x2), (3, .int x8)] dX10_commonDivisor_20 rfl (by rw [ex9]; rfl) (by decide) rfl ?_
          refine gr_goto C 2 dX10_commonDivisor_23 (by decide) ?_
          refine gr_sub [2, 1, 0] [(0, .int x2), (1, .int x8), (2, .int x9)] rfl ?_
          exact ih x2 x8 x9 g4   hF
  refine L10 _ a0 a1 (0 : Int32) σ   hF
-- X10_snows: 57 instructions, frames 5, locals 130
set_option maxRecDepth 100000 in
set_option maxHeartbeats 4000000 in
theorem mX10_snows (l : Launch) {w : Wl} (hw : w.2.2.2 = shC) {σ : Sg} {a0 : Int32} {a1 : Int32} {a2 : Int32} {a3 : Int32}  {r : Int32} {σ' : Sg} (hF : fX10_snows σ a0 a1 a2 a3 = some (r, σ')) : gMI l w yX10_snows wsX10_snows ({ frames := 5, cells := 0, slots := 0, locals := 130 } : Room) [.ref (w.2.2.1 0), .int a0, .int a1, .int a2, .int a3] σ r σ' := by
  have inX10 : ∀ v ∈ u_ws RX10 TX10 12, v ∈ wsX10_snows := by decide +kernel
  have ln29 : Cond.fieldLink RX10 29 (TX10 3).1 (TX10 3).2.1 (TX10 3).2.2.1 ∈ wsX10_snows := by decide +kernel
  have ln80 : Cond.fieldLink RX10 80 (TX10 10).1 (TX10 10).2.1 (TX10 10).2.2.1 ∈ wsX10_snows := by decide +kernel
  have kmax257 : Cond.methodLink RX10 257 Lib.Math.max.name ∈ wsX10_snows ∧ Cond.static Lib.Math.max.name ∈ wsX10_snows ∧ Cond.initialized "java/lang/Math" ∈ wsX10_snows ∧ Cond.code Lib.Math.max.name Lib.Math.max.code 2 (some .int) ∈ wsX10_snows := by decide +kernel
  refine gStartI cX10_snows 8 RX10 rfl (by decide) rfl (Nat.le_of_ble_eq_true rfl) ?_
  intro X hl C
  show gG X w σ 0 [(0, .ref (w.2.2.1 0)), (1, .int a0), (2, .int a1), (3, .int a2), (4, .int a3)] []
  unfold fX10_snows at hF
  refine gr_aload_n C 0 dX10_snows_0 rfl rfl ?_
  refine gr_iload_n C 1 dX10_snows_1 rfl rfl ?_
  obtain ⟨r3, g2, hc1, hF⟩ := gCl_e hF
  refine gr_callVI C (n := 1) (As := [.int a0]) (rest := []) 0 (mX10_noYounger X.2.1 hw  hc1) gX10_snows_X10_noYounger rfl ⟨rfl, rfl⟩ ⟨by decide, by decide⟩ rfl (Nat.le_of_ble_eq_true rfl) rfl (by decide +kernel) (sc_0 hw) rfl dX10_snows_2 ?_
  refine gr_if_ne C 38 dX10_snows_5 (by decide) (fun c4 => ?_) (fun c4 => ?_)
  · rw [if_neg c4] at hF
    refine gr_sub [] [] rfl ?_
    refine gr_iconst C (v := -1) dX10_snows_38 (by decide) ?_
    cases hF
    exact gr_iret C dX10_snows_39 ⟨rfl, rfl⟩
  · rw [if_pos c4] at hF
    refine gr_iload_n C 2 dX10_snows_8 rfl rfl ?_
    refine gr_iconst C (v := 0) dX10_snows_9 (by decide) ?_
    refine gr_bipush C (v := 8) dX10_snows_10 (by decide) ?_
    obtain ⟨r7, g6, hc5, hF⟩ := gCl_e hF
    refine gr_callSI C (n := 3) (As := [.int a1, .int (0 : Int32), .int (8 : Int32)]) (rest := []) (mX10_outside X.2.1 hw  hc5) gX10_snows_X10_outside rfl ⟨rfl, rfl⟩ ⟨by decide, by decide⟩ rfl (Nat.le_of_ble_eq_true rfl) rfl (by decide +kernel) dX10_snows_12 ?_
    refine gr_if_ne C 38 dX10_snows_15 (by decide) (fun c8 => ?_) (fun c8 => ?_)
    · rw [if_neg c8] at hF
      refine gr_sub [] [] rfl ?_
      refine gr_iconst C (v := -1) dX10_snows_38 (by decide) ?_
      cases hF
      exact gr_iret C dX10_snows_39 ⟨rfl, rfl⟩
    · rw [if_pos c8] at hF
      refine gr_iload_n C 3 dX10_snows_18 rfl rfl ?_
      refine gr_iconst C (v := 0) dX10_snows_19 (by decide) ?_
      refine gr_bipush C (v := 10) dX10_snows_20 (by decide) ?_
      obtain ⟨r11, g10, hc9, hF⟩ := gCl_e hF
      refine gr_callSI C (n := 3) (As := [.int a2, .int (0 : Int32), .int (10 : Int32)]) (rest := []) (mX10_outside X.2.1 hw  hc9) gX10_snows_X10_outside rfl ⟨rfl, rfl⟩ ⟨by decide, by decide⟩ rfl (Nat.le_of_ble_eq_true rfl) rfl (by decide +kernel) dX10_snows_22 ?_
      refine gr_if_ne C 38 dX10_snows_25 (by decide) (fun c12 => ?_) (fun c12 => ?_)
      · rw [if_neg c12] at hF
        refine gr_sub [] [] rfl ?_
        refine gr_iconst C (v := -1) dX10_snows_38 (by decide) ?_
        cases hF
        exact gr_iret C dX10_snows_39 ⟨rfl, rfl⟩
      · rw [if_pos c12] at hF
        refine gr_iload C 4 dX10_snows_28 rfl ?_
        refine gr_iconst C (v := 0) dX10_snows_30 (by decide) ?_
        refine gr_iconst C (v := 1) dX10_snows_31 (by decide) ?_
        obtain ⟨r15, g14, hc13, hF⟩ := gCl_e hF
        refine gr_callSI C (n := 3) (As := [.int a3, .int (0 : Int32), .int (1 : Int32)]) (rest := []) (mX10_outside X.2.1 hw  hc13) gX10_snows_X10_outside rfl ⟨rfl, rfl⟩ ⟨by decide, by decide⟩ rfl (Nat.le_of_ble_eq_true rfl) rfl (by decide +kernel) dX10_snows_32 ?_
        refine gr_if_eq C 40 dX10_snows_35 (by decide) (fun c16 => ?_) (fun c16 => ?_)
        · rw [if_pos c16] at hF
          refine gr_aload_n C 0 dX10_snows_40 rfl rfl ?_
          refine gr_getR C 0 10 108 dX10_snows_41 (sc_0 hw) rfl inX10 (by decide) ln80 rfl ?_
          refine gr_aload_n C 0 dX10_snows_44 rfl rfl ?_
          refine gr_getR C 0 3 24 dX10_snows_45 (sc_0 hw) rfl inX10 (by decide) ln29 rfl ?_
          refine gr_iload_n C 1 dX10_snows_48 rfl rfl ?_
          refine gr_iload_n C 2 dX10_snows_49 rfl rfl ?_
          refine gr_iload_n C 3 dX10_snows_50 rfl rfl ?_
          obtain ⟨r19, g18, hc17, hF⟩ := gCl_e hF
          refine gr_callVI C (n := 4) (As := [.ref (w.2.2.1 24), .int a0, .int a1, .int a2]) (rest := []) 108 (mX8_waysKept X.2.1 hw  hc17) gX10_snows_X8_waysKept rfl ⟨rfl, rfl⟩ ⟨by decide, by decide⟩ rfl (Nat.le_of_ble_eq_true rfl) rfl (by decide +kernel) (sc_108 hw) rfl dX10_snows_51 ?_
          refine gr_istore C [(5, .int r19), (0, .ref (w.2.2.1 0)), (1, .int a0), (2, .int a1), (3, .int a2), (4, .int a3)] dX10_snows_54 (by decide) rfl ?_
          refine gr_iconst C (v := 1) dX10_snows_56 (by decide) ?_
          refine gr_istore C [(6, .int (1 : Int32)), (5, .int r19), (0, .ref (w.2.2.1 0)), (1, .int a0), (2, .int a1), (3, .int a2), (4, .int a3)] dX10_snows_57 (by decide) rfl ?_
          refine gr_iconst C (v := 0) dX10_snows_59 (by decide) ?_
          refine gr_istore C [(7, .int (0 : Int32)), (6, .int (1 : Int32)), (5, .int r19), (0, .ref (w.2.2.1 0)), (1, .int a0), (2, .int a1), (3, .int a2), (4, .int a3)] dX10_snows_60 (by decide) rfl ?_
          refine gr_sub [5, 7, 2, 1, 0] [(2, .int a1), (4, .int a3), (5, .int r19), (6, .int (1 : Int32)), (7, .int (0 : Int32))] rfl ?_
          have L27 : ∀ (n : Nat) (x21 : Int32) (x22 : Int32) (g23 : Sg) (K20 : Int32 → Sg → Option (Int32 × Sg)), (∀ (x28 : Int32) (g29 : Sg), K20 x28 g29 = some (r, σ') → gG X w g29 81 [(4, .int a3), (5, .int r19), (6, .int x28)] []) → fX10_snows_62 a1 n x21 x22 g23 K20 = some (r, σ') → gG X w g23 62 [(2, .int a1), (4, .int a3), (5, .int r19), (6, .int x21), (7, .int x22)] [] := by
            intro n
            induction n with
            | zero =>
              intro x21 x22 g23 K20 hK20 hF
              rw [fX10_snows_62] at hF
              cases hF
            | succ n ih =>
              intro x21 x22 g23 K20 hK20 hF
              rw [fX10_snows_62] at hF
              refine gr_iload C 4 dX10_snows_62 rfl ?_
              refine gr_iload_n C 0 dX10_snows_64 rfl rfl ?_
              refine gr_icmp_ge C 81 dX10_snows_65 (by decide) (fun c24 => ?_) (fun c24 => ?_)
              · rw [if_pos c24] at hF
                refine gr_sub [1, 2, 3] [(4, .int a3), (5, .int r19), (6, .int x21)] rfl ?_
                exact hK20 x21 g23 hF
              · rw [if_neg c24] at hF
                refine gr_iload C 3 dX10_snows_68 rfl ?_
                refine gr_bipush C (v := 10) dX10_snows_70 (by decide) ?_
                refine gr_imul C dX10_snows_72 ?_
                obtain ⟨x25, ex25, hF⟩ := gLet_e hF
                refine gr_nmI ex25 ?_
                refine gr_istore C [(6, .int x25), (2, .int a1), (4, .int a3), (5, .int r19), (7, .int x22)] dX10_snows_73 (by decide) rfl ?_
                obtain ⟨x26, ex26, hF⟩ := gLet_e hF
                refine gr_iinc C (v := x26) 4 [(7, .int x26), (6, .int x25), (2, .int a1), (4, .int a3), (5, .int r19)] dX10_snows_75 rfl (by rw [ex26]; rfl) (by decide) rfl ?_
                refine gr_goto C 62 dX10_snows_78 (by decide) ?_
                refine gr_sub [2, 3, 4, 1, 0] [(2, .int a1), (4, .int a3), (5, .int r19), (6, .int x25), (7, .int x26)] rfl ?_
                exact ih x25 x26 g23 K20 hK20 hF
          refine L27 _ (1 : Int32) (0 : Int32) g18 _ ?_ hF
          intro x30 g31 hF
          try dsimp only at hF
          refine gr_iconst C (v := 1) dX10_snows_81 (by decide) ?_
          refine gr_iload C 1 dX10_snows_82 rfl ?_
          refine gr_iload C 2 dX10_snows_84 rfl ?_
          obtain ⟨r34, g33, hc32, hF⟩ := gCl_e hF
          refine gr_callSI C (n := 2) (As := [.int r19, .int x30]) (rest := [.int (1 : Int32)]) (mX10_commonDivisor X.2.1 hw  hc32) gX10_snows_X10_commonDivisor rfl ⟨rfl, rfl⟩ ⟨by decide, by decide⟩ rfl (Nat.le_of_ble_eq_true rfl) rfl (by decide +kernel) dX10_snows_86 ?_
          refine gr_mmax C (st := []) dX10_snows_89 kmax257.1 kmax257.2.1 kmax257.2.2.1 kmax257.2.2.2 (by decide) (Nat.le_of_ble_eq_true rfl) ?_
          obtain ⟨x35, ex35, hF⟩ := gLet_e hF
          refine gr_nmI ex35 ?_
          refine gr_istore C [(7, .int x35), (4, .int a3), (5, .int r19), (6, .int x30)] dX10_snows_92 (by decide) rfl ?_
          refine gr_iload C 1 dX10_snows_94 rfl ?_
          refine gr_if_ne C 104 dX10_snows_96 (by decide) (fun c36 => ?_) (fun c36 => ?_)
          · rw [if_neg c36] at hF
            refine gr_sub [3, 0] [(6, .int x30), (7, .int x35)] rfl ?_
            refine gr_iload C 0 dX10_snows_104 rfl ?_
            refine gr_iload C 1 dX10_snows_106 rfl ?_
            obtain ⟨h37, hF⟩ := gNz_e hF
            refine gr_idiv C dX10_snows_108 h37 ?_
            cases hF
            exact gr_iret C dX10_snows_109 ⟨rfl, rfl⟩
          · rw [if_pos c36] at hF
            refine gr_sub [2, 0] [(5, .int r19), (7, .int x35)] rfl ?_
            refine gr_iload C 0 dX10_snows_99 rfl ?_
            refine gr_goto C 106 dX10_snows_101 (by decide) ?_
            refine gr_sub [1] [(7, .int x35)] rfl ?_
            refine gr_iload C 0 dX10_snows_106 rfl ?_
            obtain ⟨h38, hF⟩ := gNz_e hF
            refine gr_idiv C dX10_snows_108 h38 ?_
            cases hF
            exact gr_iret C dX10_snows_109 ⟨rfl, rfl⟩
        · rw [if_neg c16] at hF
          refine gr_sub [] [] rfl ?_
          refine gr_iconst C (v := -1) dX10_snows_38 (by decide) ?_
          cases hF
          exact gr_iret C dX10_snows_39 ⟨rfl, rfl⟩
-- X10_modulo: 8 instructions, frames 0, locals 0
set_option maxRecDepth 100000 in
set_option maxHeartbeats 4000000 in
theorem mX10_modulo (l : Launch) {w : Wl} (hw : w.2.2.2 = shC) {σ : Sg} {a0 : Int32} {a1 : Int32}  {r : Int32} {σ' : Sg} (hF : fX10_modulo σ a0 a1 = some (r, σ')) : gMI l w yX10_modulo wsX10_modulo ({ frames := 0, cells := 0, slots := 0, locals := 0 } : Room) [.int a0, .int a1] σ r σ' := by
  refine gStartI cX10_modulo 2 RX10 rfl (by decide) rfl (Nat.le_of_ble_eq_true rfl) ?_
  intro X hl C
  show gG X w σ 0 [(0, .int a0), (1, .int a1)] []
  unfold fX10_modulo at hF
  refine gr_iload_n C 1 dX10_modulo_0 rfl rfl ?_
  refine gr_if_le C 10 dX10_modulo_1 (by decide) (fun c1 => ?_) (fun c1 => ?_)
  · rw [if_pos c1] at hF
    refine gr_sub [] [] rfl ?_
    refine gr_iconst C (v := 0) dX10_modulo_10 (by decide) ?_
    cases hF
    exact gr_iret C dX10_modulo_11 ⟨rfl, rfl⟩
  · rw [if_neg c1] at hF
    refine gr_iload_n C 0 dX10_modulo_4 rfl rfl ?_
    refine gr_iload_n C 1 dX10_modulo_5 rfl rfl ?_
    obtain ⟨h2, hF⟩ := gNz_e hF
    refine gr_irem C dX10_modulo_6 h2 ?_
    refine gr_goto C 11 dX10_modulo_7 (by decide) ?_
    refine gr_sub [] [] rfl ?_
    cases hF
    exact gr_iret C dX10_modulo_11 ⟨rfl, rfl⟩
-- X1_act: 48 instructions, frames 1, locals 21
set_option maxRecDepth 100000 in
set_option maxHeartbeats 4000000 in
theorem mX1_act (l : Launch) {w : Wl} (hw : w.2.2.2 = shC) {σ : Sg} {a0 : Int32}  {σ' : Sg} (hF : fX1_act σ a0 = some σ') : gMV l w yX1_act wsX1_act ({ frames := 1, cells := 0, slots := 0, locals := 21 } : Room) [.ref (w.2.2.1 77), .int a0] σ σ' := by
  have inX1 : ∀ v ∈ u_ws RX1 TX1 3, v ∈ wsX1_act := by decide +kernel
  have inX3 : ∀ v ∈ u_ws RX3 TX3 13, v ∈ wsX1_act := by decide +kernel
  have inX9 : ∀ v ∈ u_ws RX9 TX9 5, v ∈ wsX1_act := by decide +kernel
  have ln12 : Cond.fieldLink RX1 12 (TX1 2).1 (TX1 2).2.1 (TX1 2).2.2.1 ∈ wsX1_act := by decide +kernel
  have ln18 : Cond.fieldLink RX1 18 (TX1 0).1 (TX1 0).2.1 (TX1 0).2.2.1 ∈ wsX1_act := by decide +kernel
  have ln26 : Cond.fieldLink RX1 26 (TX9 0).1 (TX9 0).2.1 (TX9 0).2.2.1 ∈ wsX1_act := by decide +kernel
  have ln59 : Cond.fieldLink RX1 59 (TX3 11).1 (TX3 11).2.1 (TX3 11).2.2.1 ∈ wsX1_act := by decide +kernel
  have ln91 : Cond.fieldLink RX1 91 (TX3 9).1 (TX3 9).2.1 (TX3 9).2.2.1 ∈ wsX1_act := by decide +kernel
  have ln98 : Cond.fieldLink RX1 98 (TX9 1).1 (TX9 1).2.1 (TX9 1).2.2.1 ∈ wsX1_act := by decide +kernel
  refine gStartV cX1_act 4 RX1 rfl (by decide) rfl (Nat.le_of_ble_eq_true rfl) ?_
  intro X hl C
  show gG X w σ 0 [(0, .ref (w.2.2.1 77)), (1, .int a0)] []
  unfold fX1_act at hF
  refine gr_iload_n C 1 dX1_act_0 rfl rfl ?_
  refine gr_bipush C (v := 8) dX1_act_1 (by decide) ?_
  refine gr_idiv C dX1_act_3 (by decide) ?_
  obtain ⟨x2, ex2, hF⟩ := gLet_e hF
  refine gr_nmI ex2 ?_
  refine gr_istore_n C [(2, .int x2), (0, .ref (w.2.2.1 77)), (1, .int a0)] dX1_act_4 rfl (by decide) rfl ?_
  refine gr_iload_n C 2 dX1_act_5 rfl rfl ?_
  refine gr_bipush C (v := 64) dX1_act_6 (by decide) ?_
  refine gr_idiv C dX1_act_8 (by decide) ?_
  obtain ⟨x4, ex4, hF⟩ := gLet_e hF
  refine gr_nmI ex4 ?_
  refine gr_istore_n C [(3, .int x4), (2, .int x2), (0, .ref (w.2.2.1 77)), (1, .int a0)] dX1_act_9 rfl (by decide) rfl ?_
  refine gr_iload_n C 3 dX1_act_10 rfl rfl ?_
  refine gr_bipush C (v := 8) dX1_act_11 (by decide) ?_
  refine gr_irem C dX1_act_13 (by decide) ?_
  obtain ⟨x6, ex6, hF⟩ := gLet_e hF
  refine gr_nmI ex6 ?_
  by_cases c7 : x6 = (0 : Int32)
  · rw [if_pos c7] at hF
    refine gr_tin C 0 30 44 dX1_act_14 (by rw [c7]; decide) (by decide) (by decide) rfl (by decide) ?_
    refine gr_sub [2, 1, 0] [(0, .ref (w.2.2.1 77)), (2, .int x2), (3, .int x4)] rfl ?_
    refine gr_aload_n C 0 dX1_act_44 rfl rfl ?_
    refine gr_getR C 77 2 78 dX1_act_45 (sc_77 hw) rfl inX1 (by decide) ln12 rfl ?_
    refine gr_getR C 78 0 79 dX1_act_48 (sc_78 hw) rfl inX9 (by decide) ln26 rfl ?_
    refine gr_iload_n C 1 dX1_act_51 rfl rfl ?_
    refine gr_aload_n C 0 dX1_act_52 rfl rfl ?_
    refine gr_getR C 77 0 4 dX1_act_53 (sc_77 hw) rfl inX1 (by decide) ln18 rfl ?_
    refine gr_getI C 4 9 dX1_act_56 (sc_4 hw) rfl inX3 (by decide) ln91 rfl ?_
    obtain ⟨r10, g9, hc8, hF⟩ := gCl_e hF
    refine gr_callNI C (n := 2) (As := [.int x2, .int (σ 4 9)]) (rest := [.ref (w.2.2.1 79)]) (host := "YoungerMilk") (mX10_modulo X.2.1 hw  hc8) gX1_act_X10_modulo_n94 rfl ⟨rfl, rfl⟩ ⟨by decide, by decide⟩ rfl (Nat.le_of_ble_eq_true rfl) rfl (by decide +kernel) (by decide +kernel) (by decide +kernel) (by decide +kernel) dX1_act_59 ?_
    refine gr_iload_n C 2 dX1_act_62 rfl rfl ?_
    refine gr_bipush C (v := 41) dX1_act_63 (by decide) ?_
    refine gr_irem C dX1_act_65 (by decide) ?_
    obtain ⟨h12, g13, eg13, hF⟩ := gWr_e hF
    refine gr_iast C 79 9 dX1_act_66 (sc_79 hw) h12 ?_
    refine gr_nmS eg13 ?_
    refine gr_goto C 117 dX1_act_67 (by decide) ?_
    refine gr_sub [] [] rfl ?_
    cases hF
    exact gr_vret C dX1_act_117 ⟨rfl, rfl⟩
  · rw [if_neg c7] at hF
    by_cases c14 : x6 = (1 : Int32)
    · rw [if_pos c14] at hF
      refine gr_tin C 1 30 44 dX1_act_14 (by rw [c14]; decide) (by decide) (by decide) rfl (by decide) ?_
      refine gr_sub [2, 1, 0] [(0, .ref (w.2.2.1 77)), (2, .int x2), (3, .int x4)] rfl ?_
      refine gr_aload_n C 0 dX1_act_44 rfl rfl ?_
      refine gr_getR C 77 2 78 dX1_act_45 (sc_77 hw) rfl inX1 (by decide) ln12 rfl ?_
      refine gr_getR C 78 0 79 dX1_act_48 (sc_78 hw) rfl inX9 (by decide) ln26 rfl ?_
      refine gr_iload_n C 1 dX1_act_51 rfl rfl ?_
      refine gr_aload_n C 0 dX1_act_52 rfl rfl ?_
      refine gr_getR C 77 0 4 dX1_act_53 (sc_77 hw) rfl inX1 (by decide) ln18 rfl ?_
      refine gr_getI C 4 9 dX1_act_56 (sc_4 hw) rfl inX3 (by decide) ln91 rfl ?_
      obtain ⟨r17, g16, hc15, hF⟩ := gCl_e hF
      refine gr_callNI C (n := 2) (As := [.int x2, .int (σ 4 9)]) (rest := [.ref (w.2.2.1 79)]) (host := "YoungerMilk") (mX10_modulo X.2.1 hw  hc15) gX1_act_X10_modulo_n94 rfl ⟨rfl, rfl⟩ ⟨by decide, by decide⟩ rfl (Nat.le_of_ble_eq_true rfl) rfl (by decide +kernel) (by decide +kernel) (by decide +kernel) (by decide +kernel) dX1_act_59 ?_
      refine gr_iload_n C 2 dX1_act_62 rfl rfl ?_
      refine gr_bipush C (v := 41) dX1_act_63 (by decide) ?_
      refine gr_irem C dX1_act_65 (by decide) ?_
      obtain ⟨h19, g20, eg20, hF⟩ := gWr_e hF
      refine gr_iast C 79 9 dX1_act_66 (sc_79 hw) h19 ?_
      refine gr_nmS eg20 ?_
      refine gr_goto C 117 dX1_act_67 (by decide) ?_
      refine gr_sub [] [] rfl ?_
      cases hF
      exact gr_vret C dX1_act_117 ⟨rfl, rfl⟩
    · rw [if_neg c14] at hF
      by_cases c21 : x6 = (2 : Int32)
      · rw [if_pos c21] at hF
        refine gr_tin C 2 56 70 dX1_act_14 (by rw [c21]; decide) (by decide) (by decide) rfl (by decide) ?_
        refine gr_sub [2, 1] [(0, .ref (w.2.2.1 77)), (2, .int x2)] rfl ?_
        refine gr_aload_n C 0 dX1_act_70 rfl rfl ?_
        refine gr_getR C 77 2 78 dX1_act_71 (sc_77 hw) rfl inX1 (by decide) ln12 rfl ?_
        refine gr_iload_n C 1 dX1_act_74 rfl rfl ?_
        refine gr_aload_n C 0 dX1_act_75 rfl rfl ?_
        refine gr_getR C 77 0 4 dX1_act_76 (sc_77 hw) rfl inX1 (by decide) ln18 rfl ?_
        refine gr_getI C 4 11 dX1_act_79 (sc_4 hw) rfl inX3 (by decide) ln59 rfl ?_
        obtain ⟨r24, g23, hc22, hF⟩ := gCl_e hF
        refine gr_callNI C (n := 2) (As := [.int x2, .int (σ 4 11)]) (rest := [.ref (w.2.2.1 78)]) (host := "YoungerMilk") (mX10_modulo X.2.1 hw  hc22) gX1_act_X10_modulo_n94 rfl ⟨rfl, rfl⟩ ⟨by decide, by decide⟩ rfl (Nat.le_of_ble_eq_true rfl) rfl (by decide +kernel) (by decide +kernel) (by decide +kernel) (by decide +kernel) dX1_act_82 ?_
        obtain ⟨g26, hc25, hF⟩ := gCv_e hF
        refine gr_callVV C (n := 1) (As := [.int r24]) (rest := []) 78 (mX9_turn X.2.1 hw (st_78 hw) hc25) gX1_act_X9_turn rfl ⟨rfl, rfl⟩ ⟨by decide, by decide⟩ rfl (Nat.le_of_ble_eq_true rfl) rfl (by decide +kernel) (sc_78 hw) rfl dX1_act_85 ?_
        refine gr_goto C 117 dX1_act_88 (by decide) ?_
        refine gr_sub [] [] rfl ?_
        cases hF
        exact gr_vret C dX1_act_117 ⟨rfl, rfl⟩
      · rw [if_neg c21] at hF
        by_cases c27 : x6 = (3 : Int32)
        · rw [if_pos c27] at hF
          refine gr_tin C 3 77 91 dX1_act_14 (by rw [c27]; decide) (by decide) (by decide) rfl (by decide) ?_
          refine gr_sub [2, 1, 0] [(0, .ref (w.2.2.1 77)), (2, .int x2), (3, .int x4)] rfl ?_
          refine gr_aload_n C 0 dX1_act_91 rfl rfl ?_
          refine gr_getR C 77 2 78 dX1_act_92 (sc_77 hw) rfl inX1 (by decide) ln12 rfl ?_
          refine gr_getR C 78 1 80 dX1_act_95 (sc_78 hw) rfl inX9 (by decide) ln98 rfl ?_
          refine gr_iload_n C 1 dX1_act_98 rfl rfl ?_
          refine gr_aload_n C 0 dX1_act_99 rfl rfl ?_
          refine gr_getR C 77 0 4 dX1_act_100 (sc_77 hw) rfl inX1 (by decide) ln18 rfl ?_
          refine gr_getI C 4 9 dX1_act_103 (sc_4 hw) rfl inX3 (by decide) ln91 rfl ?_
          obtain ⟨r30, g29, hc28, hF⟩ := gCl_e hF
          refine gr_callNI C (n := 2) (As := [.int x2, .int (σ 4 9)]) (rest := [.ref (w.2.2.1 80)]) (host := "YoungerMilk") (mX10_modulo X.2.1 hw  hc28) gX1_act_X10_modulo_n94 rfl ⟨rfl, rfl⟩ ⟨by decide, by decide⟩ rfl (Nat.le_of_ble_eq_true rfl) rfl (by decide +kernel) (by decide +kernel) (by decide +kernel) (by decide +kernel) dX1_act_106 ?_
          refine gr_iload_n C 2 dX1_act_109 rfl rfl ?_
          refine gr_bipush C (v := 10) dX1_act_110 (by decide) ?_
          refine gr_irem C dX1_act_112 (by decide) ?_
          obtain ⟨h32, g33, eg33, hF⟩ := gWr_e hF
          refine gr_iast C 80 9 dX1_act_113 (sc_80 hw) h32 ?_
          refine gr_nmS eg33 ?_
          refine gr_goto C 117 dX1_act_114 (by decide) ?_
          refine gr_sub [] [] rfl ?_
          cases hF
          exact gr_vret C dX1_act_117 ⟨rfl, rfl⟩
        · rw [if_neg c27] at hF
          have nc7 := i32_ne c7
          have nc14 := i32_ne c14
          have nc21 := i32_ne c21
          have nc27 := i32_ne c27
          refine gr_tout C 117 dX1_act_14 (by have nc7 : x6.toInt ≠ 0 := nc7; have nc14 : x6.toInt ≠ 1 := nc14; have nc21 : x6.toInt ≠ 2 := nc21; have nc27 : x6.toInt ≠ 3 := nc27; omega) (by decide) ?_
          refine gr_sub [] [] rfl ?_
          cases hF
          exact gr_vret C dX1_act_117 ⟨rfl, rfl⟩
-- X1_leftOverInYear: 43 instructions, frames 4, locals 102
set_option maxRecDepth 100000 in
set_option maxHeartbeats 4000000 in
theorem mX1_leftOverInYear (l : Launch) {w : Wl} (hw : w.2.2.2 = shC) {σ : Sg} {a1 : Int32} {a2 : Int32}  {r : Int32} {σ' : Sg} (hF : fX1_leftOverInYear σ a1 a2 = some (r, σ')) : gMI l w yX1_leftOverInYear wsX1_leftOverInYear ({ frames := 4, cells := 0, slots := 0, locals := 102 } : Room) [.ref (w.2.2.1 77), .ref (w.2.2.1 24), .int a1, .int a2] σ r σ' := by
  have inX1 : ∀ v ∈ u_ws RX1 TX1 3, v ∈ wsX1_leftOverInYear := by decide +kernel
  have ln12 : Cond.fieldLink RX1 12 (TX1 2).1 (TX1 2).2.1 (TX1 2).2.2.1 ∈ wsX1_leftOverInYear := by decide +kernel
  have ln22 : Cond.fieldLink RX1 22 (TX1 1).1 (TX1 1).2.1 (TX1 1).2.2.1 ∈ wsX1_leftOverInYear := by decide +kernel
  have k82 : Cond.constantLong RX1 82 (7919) ∈ wsX1_leftOverInYear := by decide +kernel
  have k84 : Cond.constantLong RX1 84 (6151) ∈ wsX1_leftOverInYear := by decide +kernel
  have k86 : Cond.constantLong RX1 86 (65521) ∈ wsX1_leftOverInYear := by decide +kernel
  refine gStartI cX1_leftOverInYear 8 RX1 rfl (by decide) rfl (Nat.le_of_ble_eq_true rfl) ?_
  intro X hl C
  show gG X w σ 0 [(0, .ref (w.2.2.1 77)), (1, .ref (w.2.2.1 24)), (2, .int a1), (3, .int a2)] []
  unfold fX1_leftOverInYear at hF
  refine gr_aload_n C 0 dX1_leftOverInYear_0 rfl rfl ?_
  refine gr_getR C 77 2 78 dX1_leftOverInYear_1 (sc_77 hw) rfl inX1 (by decide) ln12 rfl ?_
  refine gr_aload_n C 1 dX1_leftOverInYear_4 rfl rfl ?_
  obtain ⟨g2, hc1, hF⟩ := gCv_e hF
  refine gr_callVV C (n := 1) (As := [.ref (w.2.2.1 24)]) (rest := []) 78 (mX9_become X.2.1 hw (st_78 hw) (st_24 hw) hc1) gX1_leftOverInYear_X9_become rfl ⟨rfl, rfl⟩ ⟨by decide, by decide⟩ rfl (Nat.le_of_ble_eq_true rfl) rfl (by decide +kernel) (sc_78 hw) rfl dX1_leftOverInYear_5 ?_
  refine gr_iconst C (v := 0) dX1_leftOverInYear_8 (by decide) ?_
  refine gr_istore C [(4, .int (0 : Int32)), (0, .ref (w.2.2.1 77)), (1, .ref (w.2.2.1 24)), (2, .int a1), (3, .int a2)] dX1_leftOverInYear_9 (by decide) rfl ?_
  refine gr_iconst C (v := 0) dX1_leftOverInYear_11 (by decide) ?_
  refine gr_istore C [(5, .int (0 : Int32)), (4, .int (0 : Int32)), (0, .ref (w.2.2.1 77)), (1, .ref (w.2.2.1 24)), (2, .int a1), (3, .int a2)] dX1_leftOverInYear_12 (by decide) rfl ?_
  refine gr_sub [2, 4, 5, 1, 0] [(0, .ref (w.2.2.1 77)), (2, .int a1), (3, .int a2), (4, .int (0 : Int32)), (5, .int (0 : Int32))] rfl ?_
  have L16 : ∀ (n : Nat) (x3 : Int32) (x4 : Int32) (g5 : Sg) , fX1_leftOverInYear_14 a1 a2 n x3 x4 g5  = some (r, σ') → gG X w g5 14 [(0, .ref (w.2.2.1 77)), (2, .int a1), (3, .int a2), (4, .int x3), (5, .int x4)] [] := by
    intro n
    induction n with
    | zero =>
      intro x3 x4 g5 hF
      rw [fX1_leftOverInYear_14] at hF
      cases hF
    | succ n ih =>
      intro x3 x4 g5 hF
      rw [fX1_leftOverInYear_14] at hF
      refine gr_iload C 4 dX1_leftOverInYear_14 rfl ?_
      refine gr_iload_n C 2 dX1_leftOverInYear_16 rfl rfl ?_
      refine gr_icmp_ge C 74 dX1_leftOverInYear_17 (by decide) (fun c6 => ?_) (fun c6 => ?_)
      · rw [if_pos c6] at hF
        refine gr_sub [3] [(4, .int x3)] rfl ?_
        refine gr_iload C 0 dX1_leftOverInYear_74 rfl ?_
        refine gr_sub [] [] rfl ?_
        cases hF
        exact gr_iret C dX1_leftOverInYear_76 ⟨rfl, rfl⟩
      · rw [if_neg c6] at hF
        refine gr_ldc2 C (v := 7919) dX1_leftOverInYear_20 k82 ?_
        refine gr_iload_n C 1 dX1_leftOverInYear_23 rfl rfl ?_
        refine gr_i2l C dX1_leftOverInYear_24 ?_
        refine gr_lmul C dX1_leftOverInYear_25 ?_
        refine gr_ldc2 C (v := 6151) dX1_leftOverInYear_26 k84 ?_
        refine gr_iload C 4 dX1_leftOverInYear_29 rfl ?_
        refine gr_i2l C dX1_leftOverInYear_31 ?_
        refine gr_lmul C dX1_leftOverInYear_32 ?_
        refine gr_ladd C dX1_leftOverInYear_33 ?_
        refine gr_lconst C (v := 1) dX1_leftOverInYear_34 (by decide) ?_
        refine gr_ladd C dX1_leftOverInYear_35 ?_
        obtain ⟨x7, ex7, hF⟩ := gLet_e hF
        refine gr_nmL ex7 ?_
        refine gr_lstore C [(6, .long x7), (0, .ref (w.2.2.1 77)), (2, .int a1), (3, .int a2), (4, .int x3), (5, .int x4)] dX1_leftOverInYear_36 (by decide) rfl ?_
        refine gr_aload_n C 1 dX1_leftOverInYear_38 rfl rfl ?_
        refine gr_lload C 0 dX1_leftOverInYear_39 rfl ?_
        refine gr_lload C 0 dX1_leftOverInYear_41 rfl ?_
        refine gr_lmul C dX1_leftOverInYear_43 ?_
        refine gr_ldc2 C (v := 65521) dX1_leftOverInYear_44 k86 ?_
        refine gr_lrem C dX1_leftOverInYear_47 (by decide) ?_
        refine gr_l2i C dX1_leftOverInYear_48 ?_
        obtain ⟨g10, hc9, hF⟩ := gCv_e hF
        refine gr_callVV C (n := 1) (As := [.int (((x7 * x7) - (x7 * x7) / (65521 : Int64) * (65521 : Int64)).toInt32)]) (rest := []) 77 (mX1_act X.2.1 hw  hc9) gX1_leftOverInYear_X1_act rfl ⟨rfl, rfl⟩ ⟨by decide, by decide⟩ rfl (Nat.le_of_ble_eq_true rfl) rfl (by decide +kernel) (sc_77 hw) rfl dX1_leftOverInYear_49 ?_
        refine gr_iload C 4 dX1_leftOverInYear_52 rfl ?_
        refine gr_aload_n C 1 dX1_leftOverInYear_54 rfl rfl ?_
        refine gr_getR C 77 1 72 dX1_leftOverInYear_55 (sc_77 hw) rfl inX1 (by decide) ln22 rfl ?_
        refine gr_aload_n C 1 dX1_leftOverInYear_58 rfl rfl ?_
        refine gr_getR C 77 2 78 dX1_leftOverInYear_59 (sc_77 hw) rfl inX1 (by decide) ln12 rfl ?_
        obtain ⟨r13, g12, hc11, hF⟩ := gCl_e hF
        refine gr_callVI C (n := 1) (As := [.ref (w.2.2.1 78)]) (rest := [.int x3]) 72 (mX2_goBy X.2.1 hw (st_78 hw) hc11) gX1_leftOverInYear_X2_goBy rfl ⟨rfl, rfl⟩ ⟨by decide, by decide⟩ rfl (Nat.le_of_ble_eq_true rfl) rfl (by decide +kernel) (sc_72 hw) rfl dX1_leftOverInYear_62 ?_
        refine gr_iadd C dX1_leftOverInYear_65 ?_
        obtain ⟨x14, ex14, hF⟩ := gLet_e hF
        refine gr_nmI ex14 ?_
        refine gr_istore C [(4, .int x14), (6, .long x7), (0, .ref (w.2.2.1 77)), (2, .int a1), (3, .int a2), (5, .int x4)] dX1_leftOverInYear_66 (by decide) rfl ?_
        obtain ⟨x15, ex15, hF⟩ := gLet_e hF
        refine gr_iinc C (v := x15) 5 [(5, .int x15), (4, .int x14), (6, .long x7), (0, .ref (w.2.2.1 77)), (2, .int a1), (3, .int a2)] dX1_leftOverInYear_68 rfl (by rw [ex15]; rfl) (by decide) rfl ?_
        refine gr_goto C 14 dX1_leftOverInYear_71 (by decide) ?_
        refine gr_sub [3, 4, 5, 1, 0] [(0, .ref (w.2.2.1 77)), (2, .int a1), (3, .int a2), (4, .int x14), (5, .int x15)] rfl ?_
        exact ih x14 x15 g12   hF
  refine L16 _ (0 : Int32) (0 : Int32) g2   hF
-- X10_year: 34 instructions, frames 5, locals 129
set_option maxRecDepth 100000 in
set_option maxHeartbeats 4000000 in
theorem mX10_year (l : Launch) {w : Wl} (hw : w.2.2.2 = shC) {σ : Sg} {a0 : Int32} {a1 : Int32} {a2 : Int32}  {r : Int32} {σ' : Sg} (hF : fX10_year σ a0 a1 a2 = some (r, σ')) : gMI l w yX10_year wsX10_year ({ frames := 5, cells := 0, slots := 0, locals := 129 } : Room) [.ref (w.2.2.1 0), .int a0, .int a1, .int a2] σ r σ' := by
  have inX1 : ∀ v ∈ u_ws RX1 TX1 3, v ∈ wsX10_year := by decide +kernel
  have inX10 : ∀ v ∈ u_ws RX10 TX10 12, v ∈ wsX10_year := by decide +kernel
  have ln29 : Cond.fieldLink RX10 29 (TX10 3).1 (TX10 3).2.1 (TX10 3).2.2.1 ∈ wsX10_year := by decide +kernel
  have ln66 : Cond.fieldLink RX10 66 (TX10 8).1 (TX10 8).2.1 (TX10 8).2.2.1 ∈ wsX10_year := by decide +kernel
  have ln265 : Cond.fieldLink RX10 265 (TX1 2).1 (TX1 2).2.1 (TX1 2).2.2.1 ∈ wsX10_year := by decide +kernel
  refine gStartI cX10_year 5 RX10 rfl (by decide) rfl (Nat.le_of_ble_eq_true rfl) ?_
  intro X hl C
  show gG X w σ 0 [(0, .ref (w.2.2.1 0)), (1, .int a0), (2, .int a1), (3, .int a2)] []
  unfold fX10_year at hF
  refine gr_iload_n C 1 dX10_year_0 rfl rfl ?_
  refine gr_iconst C (v := 0) dX10_year_1 (by decide) ?_
  refine gr_sipush C (v := 9999) dX10_year_2 (by decide) ?_
  obtain ⟨r3, g2, hc1, hF⟩ := gCl_e hF
  refine gr_callSI C (n := 3) (As := [.int a0, .int (0 : Int32), .int (9999 : Int32)]) (rest := []) (mX10_outside X.2.1 hw  hc1) gX10_year_X10_outside rfl ⟨rfl, rfl⟩ ⟨by decide, by decide⟩ rfl (Nat.le_of_ble_eq_true rfl) rfl (by decide +kernel) dX10_year_5 ?_
  refine gr_if_ne C 30 dX10_year_8 (by decide) (fun c4 => ?_) (fun c4 => ?_)
  · rw [if_neg c4] at hF
    refine gr_sub [] [] rfl ?_
    refine gr_iconst C (v := -1) dX10_year_30 (by decide) ?_
    cases hF
    exact gr_iret C dX10_year_31 ⟨rfl, rfl⟩
  · rw [if_pos c4] at hF
    refine gr_iload_n C 2 dX10_year_11 rfl rfl ?_
    refine gr_iconst C (v := 1) dX10_year_12 (by decide) ?_
    refine gr_bipush C (v := 60) dX10_year_13 (by decide) ?_
    obtain ⟨r7, g6, hc5, hF⟩ := gCl_e hF
    refine gr_callSI C (n := 3) (As := [.int a1, .int (1 : Int32), .int (60 : Int32)]) (rest := []) (mX10_outside X.2.1 hw  hc5) gX10_year_X10_outside rfl ⟨rfl, rfl⟩ ⟨by decide, by decide⟩ rfl (Nat.le_of_ble_eq_true rfl) rfl (by decide +kernel) dX10_year_15 ?_
    refine gr_if_ne C 30 dX10_year_18 (by decide) (fun c8 => ?_) (fun c8 => ?_)
    · rw [if_neg c8] at hF
      refine gr_sub [] [] rfl ?_
      refine gr_iconst C (v := -1) dX10_year_30 (by decide) ?_
      cases hF
      exact gr_iret C dX10_year_31 ⟨rfl, rfl⟩
    · rw [if_pos c8] at hF
      refine gr_iload_n C 3 dX10_year_21 rfl rfl ?_
      refine gr_iconst C (v := 0) dX10_year_22 (by decide) ?_
      refine gr_iconst C (v := 1) dX10_year_23 (by decide) ?_
      obtain ⟨r11, g10, hc9, hF⟩ := gCl_e hF
      refine gr_callSI C (n := 3) (As := [.int a2, .int (0 : Int32), .int (1 : Int32)]) (rest := []) (mX10_outside X.2.1 hw  hc9) gX10_year_X10_outside rfl ⟨rfl, rfl⟩ ⟨by decide, by decide⟩ rfl (Nat.le_of_ble_eq_true rfl) rfl (by decide +kernel) dX10_year_24 ?_
      refine gr_if_eq C 32 dX10_year_27 (by decide) (fun c12 => ?_) (fun c12 => ?_)
      · rw [if_pos c12] at hF
        refine gr_aload_n C 0 dX10_year_32 rfl rfl ?_
        refine gr_getR C 0 8 77 dX10_year_33 (sc_0 hw) rfl inX10 (by decide) ln66 rfl ?_
        refine gr_aload_n C 0 dX10_year_36 rfl rfl ?_
        refine gr_getR C 0 3 24 dX10_year_37 (sc_0 hw) rfl inX10 (by decide) ln29 rfl ?_
        refine gr_iload_n C 1 dX10_year_40 rfl rfl ?_
        refine gr_iload_n C 2 dX10_year_41 rfl rfl ?_
        obtain ⟨r15, g14, hc13, hF⟩ := gCl_e hF
        refine gr_callVI C (n := 3) (As := [.ref (w.2.2.1 24), .int a0, .int a1]) (rest := []) 77 (mX1_leftOverInYear X.2.1 hw  hc13) gX10_year_X1_leftOverInYear rfl ⟨rfl, rfl⟩ ⟨by decide, by decide⟩ rfl (Nat.le_of_ble_eq_true rfl) rfl (by decide +kernel) (sc_77 hw) rfl dX10_year_42 ?_
        refine gr_istore C [(4, .int r15), (0, .ref (w.2.2.1 0)), (1, .int a0), (2, .int a1), (3, .int a2)] dX10_year_45 (by decide) rfl ?_
        refine gr_iload_n C 4 dX10_year_47 rfl rfl ?_
        refine gr_if_ne C 64 dX10_year_48 (by decide) (fun c16 => ?_) (fun c16 => ?_)
        · rw [if_neg c16] at hF
          refine gr_sub [0] [(4, .int r15)] rfl ?_
          refine gr_iload C 0 dX10_year_64 rfl ?_
          cases hF
          exact gr_iret C dX10_year_66 ⟨rfl, rfl⟩
        · rw [if_pos c16] at hF
          refine gr_sub [1] [(0, .ref (w.2.2.1 0))] rfl ?_
          refine gr_aload_n C 0 dX10_year_51 rfl rfl ?_
          refine gr_getR C 0 8 77 dX10_year_52 (sc_0 hw) rfl inX10 (by decide) ln66 rfl ?_
          refine gr_getR C 77 2 78 dX10_year_55 (sc_77 hw) rfl inX1 (by decide) ln265 rfl ?_
          obtain ⟨r19, g18, hc17, hF⟩ := gCl_e hF
          refine gr_callVI C (n := 0) (As := []) (rest := []) 78 (mX9_notGone X.2.1 hw (st_78 hw) hc17) gX10_year_X9_notGone rfl ⟨rfl, rfl⟩ ⟨by decide, by decide⟩ rfl (Nat.le_of_ble_eq_true rfl) rfl (by decide +kernel) (sc_78 hw) rfl dX10_year_58 ?_
          refine gr_goto C 66 dX10_year_61 (by decide) ?_
          refine gr_sub [] [] rfl ?_
          cases hF
          exact gr_iret C dX10_year_66 ⟨rfl, rfl⟩
      · rw [if_neg c12] at hF
        refine gr_sub [] [] rfl ?_
        refine gr_iconst C (v := -1) dX10_year_30 (by decide) ?_
        cases hF
        exact gr_iret C dX10_year_31 ⟨rfl, rfl⟩
-- X10_keep: 16 instructions, frames 2, locals 45
set_option maxRecDepth 100000 in
set_option maxHeartbeats 4000000 in
theorem mX10_keep (l : Launch) {w : Wl} (hw : w.2.2.2 = shC) {σ : Sg}   {r : Int32} {σ' : Sg} (hF : fX10_keep σ  = some (r, σ')) : gMI l w yX10_keep wsX10_keep ({ frames := 2, cells := 0, slots := 0, locals := 45 } : Room) [.ref (w.2.2.1 0)] σ r σ' := by
  have inX10 : ∀ v ∈ u_ws RX10 TX10 12, v ∈ wsX10_keep := by decide +kernel
  have inX7 : ∀ v ∈ u_ws RX7 TX7 3, v ∈ wsX10_keep := by decide +kernel
  have ln29 : Cond.fieldLink RX10 29 (TX10 3).1 (TX10 3).2.1 (TX10 3).2.2.1 ∈ wsX10_keep := by decide +kernel
  have ln42 : Cond.fieldLink RX10 42 (TX10 5).1 (TX10 5).2.1 (TX10 5).2.2.1 ∈ wsX10_keep := by decide +kernel
  have ln191 : Cond.fieldLink RX10 191 (TX7 2).1 (TX7 2).2.1 (TX7 2).2.2.1 ∈ wsX10_keep := by decide +kernel
  refine gStartI cX10_keep 1 RX10 rfl (by decide) rfl (Nat.le_of_ble_eq_true rfl) ?_
  intro X hl C
  show gG X w σ 0 [(0, .ref (w.2.2.1 0))] []
  unfold fX10_keep at hF
  refine gr_aload_n C 0 dX10_keep_0 rfl rfl ?_
  refine gr_getR C 0 5 62 dX10_keep_1 (sc_0 hw) rfl inX10 (by decide) ln42 rfl ?_
  refine gr_getI C 62 2 dX10_keep_4 (sc_62 hw) rfl inX7 (by decide) ln191 rfl ?_
  refine gr_iconst C (v := 2) dX10_keep_7 (by decide) ?_
  refine gr_icmp_lt C 14 dX10_keep_8 (by decide) (fun c1 => ?_) (fun c1 => ?_)
  · rw [if_pos c1] at hF
    refine gr_aload_n C 0 dX10_keep_14 rfl rfl ?_
    refine gr_getR C 0 5 62 dX10_keep_15 (sc_0 hw) rfl inX10 (by decide) ln42 rfl ?_
    refine gr_aload_n C 0 dX10_keep_18 rfl rfl ?_
    refine gr_getR C 0 3 24 dX10_keep_19 (sc_0 hw) rfl inX10 (by decide) ln29 rfl ?_
    obtain ⟨g3, hc2, hF⟩ := gCv_e hF
    refine gr_callVV C (n := 1) (As := [.ref (w.2.2.1 24)]) (rest := []) 62 (mX7_push X.2.1 hw (sh_62 hw) hc2) gX10_keep_X7_push rfl ⟨rfl, rfl⟩ ⟨by decide, by decide⟩ rfl (Nat.le_of_ble_eq_true rfl) rfl (by decide +kernel) (sc_62 hw) rfl dX10_keep_22 ?_
    refine gr_aload_n C 0 dX10_keep_25 rfl rfl ?_
    refine gr_getR C 0 5 62 dX10_keep_26 (sc_0 hw) rfl inX10 (by decide) ln42 rfl ?_
    refine gr_getI C 62 2 dX10_keep_29 (sc_62 hw) rfl inX7 (by decide) ln191 rfl ?_
    cases hF
    exact gr_iret C dX10_keep_32 ⟨rfl, rfl⟩
  · rw [if_neg c1] at hF
    refine gr_sub [] [] rfl ?_
    refine gr_bipush C (v := -3) dX10_keep_11 (by decide) ?_
    cases hF
    exact gr_iret C dX10_keep_13 ⟨rfl, rfl⟩
-- X10_back: 18 instructions, frames 2, locals 44
set_option maxRecDepth 100000 in
set_option maxHeartbeats 4000000 in
theorem mX10_back (l : Launch) {w : Wl} (hw : w.2.2.2 = shC) {σ : Sg}   {r : Int32} {σ' : Sg} (hF : fX10_back σ  = some (r, σ')) : gMI l w yX10_back wsX10_back ({ frames := 2, cells := 0, slots := 0, locals := 44 } : Room) [.ref (w.2.2.1 0)] σ r σ' := by
  have inX10 : ∀ v ∈ u_ws RX10 TX10 12, v ∈ wsX10_back := by decide +kernel
  have inX7 : ∀ v ∈ u_ws RX7 TX7 3, v ∈ wsX10_back := by decide +kernel
  have ln29 : Cond.fieldLink RX10 29 (TX10 3).1 (TX10 3).2.1 (TX10 3).2.2.1 ∈ wsX10_back := by decide +kernel
  have ln38 : Cond.fieldLink RX10 38 (TX10 4).1 (TX10 4).2.1 (TX10 4).2.2.1 ∈ wsX10_back := by decide +kernel
  have ln42 : Cond.fieldLink RX10 42 (TX10 5).1 (TX10 5).2.1 (TX10 5).2.2.1 ∈ wsX10_back := by decide +kernel
  have ln191 : Cond.fieldLink RX10 191 (TX7 2).1 (TX7 2).2.1 (TX7 2).2.2.1 ∈ wsX10_back := by decide +kernel
  refine gStartI cX10_back 1 RX10 rfl (by decide) rfl (Nat.le_of_ble_eq_true rfl) ?_
  intro X hl C
  show gG X w σ 0 [(0, .ref (w.2.2.1 0))] []
  unfold fX10_back at hF
  refine gr_aload_n C 0 dX10_back_0 rfl rfl ?_
  refine gr_getR C 0 5 62 dX10_back_1 (sc_0 hw) rfl inX10 (by decide) ln42 rfl ?_
  refine gr_getI C 62 2 dX10_back_4 (sc_62 hw) rfl inX7 (by decide) ln191 rfl ?_
  refine gr_if_ne C 13 dX10_back_7 (by decide) (fun c1 => ?_) (fun c1 => ?_)
  · rw [if_neg c1] at hF
    refine gr_aload_n C 0 dX10_back_13 rfl rfl ?_
    refine gr_getR C 0 5 62 dX10_back_14 (sc_0 hw) rfl inX10 (by decide) ln42 rfl ?_
    refine gr_aload_n C 0 dX10_back_17 rfl rfl ?_
    refine gr_getR C 0 3 24 dX10_back_18 (sc_0 hw) rfl inX10 (by decide) ln29 rfl ?_
    obtain ⟨g3, hc2, hF⟩ := gCv_e hF
    refine gr_callVV C (n := 1) (As := [.ref (w.2.2.1 24)]) (rest := []) 62 (mX7_popInto X.2.1 hw (sh_62 hw) hc2) gX10_back_X7_popInto rfl ⟨rfl, rfl⟩ ⟨by decide, by decide⟩ rfl (Nat.le_of_ble_eq_true rfl) rfl (by decide +kernel) (sc_62 hw) rfl dX10_back_21 ?_
    refine gr_aload_n C 0 dX10_back_24 rfl rfl ?_
    refine gr_getR C 0 4 28 dX10_back_25 (sc_0 hw) rfl inX10 (by decide) ln38 rfl ?_
    obtain ⟨g5, hc4, hF⟩ := gCv_e hF
    refine gr_callVV C (n := 0) (As := []) (rest := []) 28 (mX7_clear X.2.1 hw (sh_28 hw) hc4) gX10_back_X7_clear rfl ⟨rfl, rfl⟩ ⟨by decide, by decide⟩ rfl (Nat.le_of_ble_eq_true rfl) rfl (by decide +kernel) (sc_28 hw) rfl dX10_back_28 ?_
    refine gr_aload_n C 0 dX10_back_31 rfl rfl ?_
    refine gr_getR C 0 5 62 dX10_back_32 (sc_0 hw) rfl inX10 (by decide) ln42 rfl ?_
    refine gr_getI C 62 2 dX10_back_35 (sc_62 hw) rfl inX7 (by decide) ln191 rfl ?_
    cases hF
    exact gr_iret C dX10_back_38 ⟨rfl, rfl⟩
  · rw [if_pos c1] at hF
    refine gr_sub [] [] rfl ?_
    refine gr_bipush C (v := -2) dX10_back_10 (by decide) ?_
    cases hF
    exact gr_iret C dX10_back_12 ⟨rfl, rfl⟩
-- X10_downInAll: 21 instructions, frames 0, locals 0
set_option maxRecDepth 100000 in
set_option maxHeartbeats 4000000 in
theorem mX10_downInAll (l : Launch) {w : Wl} (hw : w.2.2.2 = shC) {σ : Sg}   {r : Int32} {σ' : Sg} (hF : fX10_downInAll σ  = some (r, σ')) : gMI l w yX10_downInAll wsX10_downInAll ({ frames := 0, cells := 0, slots := 0, locals := 0 } : Room) [.ref (w.2.2.1 0)] σ r σ' := by
  have inX10 : ∀ v ∈ u_ws RX10 TX10 12, v ∈ wsX10_downInAll := by decide +kernel
  have inX3 : ∀ v ∈ u_ws RX3 TX3 13, v ∈ wsX10_downInAll := by decide +kernel
  have inX9 : ∀ v ∈ u_ws RX9 TX9 5, v ∈ wsX10_downInAll := by decide +kernel
  have ln19 : Cond.fieldLink RX10 19 (TX10 1).1 (TX10 1).2.1 (TX10 1).2.2.1 ∈ wsX10_downInAll := by decide +kernel
  have ln29 : Cond.fieldLink RX10 29 (TX10 3).1 (TX10 3).2.1 (TX10 3).2.2.1 ∈ wsX10_downInAll := by decide +kernel
  have ln130 : Cond.fieldLink RX10 130 (TX9 0).1 (TX9 0).2.1 (TX9 0).2.2.1 ∈ wsX10_downInAll := by decide +kernel
  have ln272 : Cond.fieldLink RX10 272 (TX3 9).1 (TX3 9).2.1 (TX3 9).2.2.1 ∈ wsX10_downInAll := by decide +kernel
  refine gStartI cX10_downInAll 3 RX10 rfl (by decide) rfl (Nat.le_of_ble_eq_true rfl) ?_
  intro X hl C
  show gG X w σ 0 [(0, .ref (w.2.2.1 0))] []
  unfold fX10_downInAll at hF
  refine gr_iconst C (v := 0) dX10_downInAll_0 (by decide) ?_
  refine gr_istore_n C [(1, .int (0 : Int32)), (0, .ref (w.2.2.1 0))] dX10_downInAll_1 rfl (by decide) rfl ?_
  refine gr_iconst C (v := 0) dX10_downInAll_2 (by decide) ?_
  refine gr_istore_n C [(2, .int (0 : Int32)), (1, .int (0 : Int32)), (0, .ref (w.2.2.1 0))] dX10_downInAll_3 rfl (by decide) rfl ?_
  refine gr_sub [2, 1, 0] [(0, .ref (w.2.2.1 0)), (1, .int (0 : Int32)), (2, .int (0 : Int32))] rfl ?_
  have L9 : ∀ (n : Nat) (x1 : Int32) (x2 : Int32) (g3 : Sg) , fX10_downInAll_4  n x1 x2 g3  = some (r, σ') → gG X w g3 4 [(0, .ref (w.2.2.1 0)), (1, .int x1), (2, .int x2)] [] := by
    intro n
    induction n with
    | zero =>
      intro x1 x2 g3 hF
      rw [fX10_downInAll_4] at hF
      cases hF
    | succ n ih =>
      intro x1 x2 g3 hF
      rw [fX10_downInAll_4] at hF
      refine gr_iload_n C 2 dX10_downInAll_4 rfl rfl ?_
      refine gr_aload_n C 0 dX10_downInAll_5 rfl rfl ?_
      refine gr_getR C 0 1 4 dX10_downInAll_6 (sc_0 hw) rfl inX10 (by decide) ln19 rfl ?_
      refine gr_getI C 4 9 dX10_downInAll_9 (sc_4 hw) rfl inX3 (by decide) ln272 rfl ?_
      refine gr_icmp_ge C 33 dX10_downInAll_12 (by decide) (fun c4 => ?_) (fun c4 => ?_)
      · rw [if_pos c4] at hF
        refine gr_sub [1] [(1, .int x1)] rfl ?_
        refine gr_iload_n C 0 dX10_downInAll_33 rfl rfl ?_
        refine gr_sub [] [] rfl ?_
        cases hF
        exact gr_iret C dX10_downInAll_34 ⟨rfl, rfl⟩
      · rw [if_neg c4] at hF
        refine gr_iload_n C 1 dX10_downInAll_15 rfl rfl ?_
        refine gr_aload_n C 0 dX10_downInAll_16 rfl rfl ?_
        refine gr_getR C 0 3 24 dX10_downInAll_17 (sc_0 hw) rfl inX10 (by decide) ln29 rfl ?_
        refine gr_getR C 24 0 25 dX10_downInAll_20 (sc_24 hw) rfl inX9 (by decide) ln130 rfl ?_
        refine gr_iload_n C 2 dX10_downInAll_23 rfl rfl ?_
        obtain ⟨h6, x5, ex5, hF⟩ := gRd_e hF
        refine gr_iald C 25 9 dX10_downInAll_24 (sc_25 hw) h6 ?_
        refine gr_nmI ex5 ?_
        refine gr_iadd C dX10_downInAll_25 ?_
        obtain ⟨x7, ex7, hF⟩ := gLet_e hF
        refine gr_nmI ex7 ?_
        refine gr_istore_n C [(1, .int x7), (0, .ref (w.2.2.1 0)), (2, .int x2)] dX10_downInAll_26 rfl (by decide) rfl ?_
        obtain ⟨x8, ex8, hF⟩ := gLet_e hF
        refine gr_iinc C (v := x8) 2 [(2, .int x8), (1, .int x7), (0, .ref (w.2.2.1 0))] dX10_downInAll_27 rfl (by rw [ex8]; rfl) (by decide) rfl ?_
        refine gr_goto C 4 dX10_downInAll_30 (by decide) ?_
        refine gr_sub [2, 1, 0] [(0, .ref (w.2.2.1 0)), (1, .int x7), (2, .int x8)] rfl ?_
        exact ih x7 x8 g3   hF
  refine L9 _ (0 : Int32) (0 : Int32) σ   hF
-- X10_leftOverInAll: 22 instructions, frames 3, locals 74
set_option maxRecDepth 100000 in
set_option maxHeartbeats 4000000 in
theorem mX10_leftOverInAll (l : Launch) {w : Wl} (hw : w.2.2.2 = shC) {σ : Sg}   {r : Int32} {σ' : Sg} (hF : fX10_leftOverInAll σ  = some (r, σ')) : gMI l w yX10_leftOverInAll wsX10_leftOverInAll ({ frames := 3, cells := 0, slots := 0, locals := 74 } : Room) [.ref (w.2.2.1 0)] σ r σ' := by
  have inX10 : ∀ v ∈ u_ws RX10 TX10 12, v ∈ wsX10_leftOverInAll := by decide +kernel
  have inX3 : ∀ v ∈ u_ws RX3 TX3 13, v ∈ wsX10_leftOverInAll := by decide +kernel
  have ln19 : Cond.fieldLink RX10 19 (TX10 1).1 (TX10 1).2.1 (TX10 1).2.2.1 ∈ wsX10_leftOverInAll := by decide +kernel
  have ln29 : Cond.fieldLink RX10 29 (TX10 3).1 (TX10 3).2.1 (TX10 3).2.2.1 ∈ wsX10_leftOverInAll := by decide +kernel
  have ln50 : Cond.fieldLink RX10 50 (TX10 6).1 (TX10 6).2.1 (TX10 6).2.2.1 ∈ wsX10_leftOverInAll := by decide +kernel
  have ln272 : Cond.fieldLink RX10 272 (TX3 9).1 (TX3 9).2.1 (TX3 9).2.2.1 ∈ wsX10_leftOverInAll := by decide +kernel
  refine gStartI cX10_leftOverInAll 3 RX10 rfl (by decide) rfl (Nat.le_of_ble_eq_true rfl) ?_
  intro X hl C
  show gG X w σ 0 [(0, .ref (w.2.2.1 0))] []
  unfold fX10_leftOverInAll at hF
  refine gr_iconst C (v := 0) dX10_leftOverInAll_0 (by decide) ?_
  refine gr_istore_n C [(1, .int (0 : Int32)), (0, .ref (w.2.2.1 0))] dX10_leftOverInAll_1 rfl (by decide) rfl ?_
  refine gr_iconst C (v := 0) dX10_leftOverInAll_2 (by decide) ?_
  refine gr_istore_n C [(2, .int (0 : Int32)), (1, .int (0 : Int32)), (0, .ref (w.2.2.1 0))] dX10_leftOverInAll_3 rfl (by decide) rfl ?_
  refine gr_sub [2, 1, 0] [(0, .ref (w.2.2.1 0)), (1, .int (0 : Int32)), (2, .int (0 : Int32))] rfl ?_
  have L10 : ∀ (n : Nat) (x1 : Int32) (x2 : Int32) (g3 : Sg) , fX10_leftOverInAll_4  n x1 x2 g3  = some (r, σ') → gG X w g3 4 [(0, .ref (w.2.2.1 0)), (1, .int x1), (2, .int x2)] [] := by
    intro n
    induction n with
    | zero =>
      intro x1 x2 g3 hF
      rw [fX10_leftOverInAll_4] at hF
      cases hF
    | succ n ih =>
      intro x1 x2 g3 hF
      rw [fX10_leftOverInAll_4] at hF
      refine gr_iload_n C 2 dX10_leftOverInAll_4 rfl rfl ?_
      refine gr_aload_n C 0 dX10_leftOverInAll_5 rfl rfl ?_
      refine gr_getR C 0 1 4 dX10_leftOverInAll_6 (sc_0 hw) rfl inX10 (by decide) ln19 rfl ?_
      refine gr_getI C 4 9 dX10_leftOverInAll_9 (sc_4 hw) rfl inX3 (by decide) ln272 rfl ?_
      refine gr_icmp_ge C 36 dX10_leftOverInAll_12 (by decide) (fun c4 => ?_) (fun c4 => ?_)
      · rw [if_pos c4] at hF
        refine gr_sub [1] [(1, .int x1)] rfl ?_
        refine gr_iload_n C 0 dX10_leftOverInAll_36 rfl rfl ?_
        refine gr_sub [] [] rfl ?_
        cases hF
        exact gr_iret C dX10_leftOverInAll_37 ⟨rfl, rfl⟩
      · rw [if_neg c4] at hF
        refine gr_iload_n C 1 dX10_leftOverInAll_15 rfl rfl ?_
        refine gr_aload_n C 0 dX10_leftOverInAll_16 rfl rfl ?_
        refine gr_getR C 0 6 72 dX10_leftOverInAll_17 (sc_0 hw) rfl inX10 (by decide) ln50 rfl ?_
        refine gr_aload_n C 0 dX10_leftOverInAll_20 rfl rfl ?_
        refine gr_getR C 0 3 24 dX10_leftOverInAll_21 (sc_0 hw) rfl inX10 (by decide) ln29 rfl ?_
        refine gr_iload_n C 2 dX10_leftOverInAll_24 rfl rfl ?_
        obtain ⟨r7, g6, hc5, hF⟩ := gCl_e hF
        refine gr_callVI C (n := 2) (As := [.ref (w.2.2.1 24), .int x2]) (rest := [.int x1]) 72 (mX2_leftOverAt X.2.1 hw (st_24 hw) hc5) gX10_leftOverInAll_X2_leftOverAt rfl ⟨rfl, rfl⟩ ⟨by decide, by decide⟩ rfl (Nat.le_of_ble_eq_true rfl) rfl (by decide +kernel) (sc_72 hw) rfl dX10_leftOverInAll_25 ?_
        refine gr_iadd C dX10_leftOverInAll_28 ?_
        obtain ⟨x8, ex8, hF⟩ := gLet_e hF
        refine gr_nmI ex8 ?_
        refine gr_istore_n C [(1, .int x8), (0, .ref (w.2.2.1 0)), (2, .int x2)] dX10_leftOverInAll_29 rfl (by decide) rfl ?_
        obtain ⟨x9, ex9, hF⟩ := gLet_e hF
        refine gr_iinc C (v := x9) 2 [(2, .int x9), (1, .int x8), (0, .ref (w.2.2.1 0))] dX10_leftOverInAll_30 rfl (by rw [ex9]; rfl) (by decide) rfl ?_
        refine gr_goto C 4 dX10_leftOverInAll_33 (by decide) ?_
        refine gr_sub [2, 1, 0] [(0, .ref (w.2.2.1 0)), (1, .int x8), (2, .int x9)] rfl ?_
        exact ih x8 x9 g6   hF
  refine L10 _ (0 : Int32) (0 : Int32) σ   hF
