-- X10_count: 55 instructions, frames 4, locals 96
set_option maxRecDepth 100000 in
set_option maxHeartbeats 4000000 in
theorem mX10_count (l : Launch) {w : Wl} (hw : w.2.2.2 = shC) {σ : Sg} {a0 : Int32}  {r : Int32} {σ' : Sg} (hF : fX10_count σ a0 = some (r, σ')) : gMI l w yX10_count wsX10_count ({ frames := 4, cells := 0, slots := 0, locals := 96 } : Room) [.ref (w.2.2.1 0), .int a0] σ r σ' := by
  have inX10 : ∀ v ∈ u_ws RX10 TX10 12, v ∈ wsX10_count := by decide +kernel
  have inX3 : ∀ v ∈ u_ws RX3 TX3 13, v ∈ wsX10_count := by decide +kernel
  have inX4 : ∀ v ∈ u_ws RX4 TX4 3, v ∈ wsX10_count := by decide +kernel
  have inX5 : ∀ v ∈ u_ws RX5 TX5 3, v ∈ wsX10_count := by decide +kernel
  have inX7 : ∀ v ∈ u_ws RX7 TX7 3, v ∈ wsX10_count := by decide +kernel
  have inX9 : ∀ v ∈ u_ws RX9 TX9 5, v ∈ wsX10_count := by decide +kernel
  have ln10 : Cond.fieldLink RX10 10 (TX10 0).1 (TX10 0).2.1 (TX10 0).2.2.1 ∈ wsX10_count := by decide +kernel
  have ln19 : Cond.fieldLink RX10 19 (TX10 1).1 (TX10 1).2.1 (TX10 1).2.2.1 ∈ wsX10_count := by decide +kernel
  have ln29 : Cond.fieldLink RX10 29 (TX10 3).1 (TX10 3).2.1 (TX10 3).2.2.1 ∈ wsX10_count := by decide +kernel
  have ln38 : Cond.fieldLink RX10 38 (TX10 4).1 (TX10 4).2.1 (TX10 4).2.2.1 ∈ wsX10_count := by decide +kernel
  have ln42 : Cond.fieldLink RX10 42 (TX10 5).1 (TX10 5).2.1 (TX10 5).2.2.1 ∈ wsX10_count := by decide +kernel
  have ln57 : Cond.fieldLink RX10 57 (TX10 7).1 (TX10 7).2.1 (TX10 7).2.2.1 ∈ wsX10_count := by decide +kernel
  have ln120 : Cond.fieldLink RX10 120 (TX4 2).1 (TX4 2).2.1 (TX4 2).2.2.1 ∈ wsX10_count := by decide +kernel
  have ln123 : Cond.fieldLink RX10 123 (TX3 11).1 (TX3 11).2.1 (TX3 11).2.2.1 ∈ wsX10_count := by decide +kernel
  have ln176 : Cond.fieldLink RX10 176 (TX9 4).1 (TX9 4).2.1 (TX9 4).2.2.1 ∈ wsX10_count := by decide +kernel
  have ln182 : Cond.fieldLink RX10 182 (TX9 3).1 (TX9 3).2.1 (TX9 3).2.2.1 ∈ wsX10_count := by decide +kernel
  have ln191 : Cond.fieldLink RX10 191 (TX7 2).1 (TX7 2).2.1 (TX7 2).2.2.1 ∈ wsX10_count := by decide +kernel
  have ln207 : Cond.fieldLink RX10 207 (TX3 10).1 (TX3 10).2.1 (TX3 10).2.2.1 ∈ wsX10_count := by decide +kernel
  have ln230 : Cond.fieldLink RX10 230 (TX5 2).1 (TX5 2).2.1 (TX5 2).2.2.1 ∈ wsX10_count := by decide +kernel
  have ln272 : Cond.fieldLink RX10 272 (TX3 9).1 (TX3 9).2.1 (TX3 9).2.2.1 ∈ wsX10_count := by decide +kernel
  refine gStartI cX10_count 2 RX10 rfl (by decide) rfl (Nat.le_of_ble_eq_true rfl) ?_
  intro X hl C
  show gG X w σ 0 [(0, .ref (w.2.2.1 0)), (1, .int a0)] []
  unfold fX10_count at hF
  refine gr_iload_n C 1 dX10_count_0 rfl rfl ?_
  by_cases c1 : a0 = (0 : Int32)
  · rw [if_pos c1] at hF
    refine gr_tin C 0 63 64 dX10_count_1 (by rw [c1]; decide) (by decide) (by decide) rfl (by decide) ?_
    refine gr_sub [0] [(0, .ref (w.2.2.1 0))] rfl ?_
    refine gr_aload_n C 0 dX10_count_64 rfl rfl ?_
    refine gr_getR C 0 1 4 dX10_count_65 (sc_0 hw) rfl inX10 (by decide) ln19 rfl ?_
    refine gr_getI C 4 9 dX10_count_68 (sc_4 hw) rfl inX3 (by decide) ln272 rfl ?_
    cases hF
    exact gr_iret C dX10_count_71 ⟨rfl, rfl⟩
  · rw [if_neg c1] at hF
    by_cases c2 : a0 = (1 : Int32)
    · rw [if_pos c2] at hF
      refine gr_tin C 1 71 72 dX10_count_1 (by rw [c2]; decide) (by decide) (by decide) rfl (by decide) ?_
      refine gr_sub [0] [(0, .ref (w.2.2.1 0))] rfl ?_
      refine gr_aload_n C 0 dX10_count_72 rfl rfl ?_
      refine gr_getR C 0 1 4 dX10_count_73 (sc_0 hw) rfl inX10 (by decide) ln19 rfl ?_
      refine gr_getI C 4 11 dX10_count_76 (sc_4 hw) rfl inX3 (by decide) ln123 rfl ?_
      cases hF
      exact gr_iret C dX10_count_79 ⟨rfl, rfl⟩
    · rw [if_neg c2] at hF
      by_cases c3 : a0 = (2 : Int32)
      · rw [if_pos c3] at hF
        refine gr_tin C 2 79 80 dX10_count_1 (by rw [c3]; decide) (by decide) (by decide) rfl (by decide) ?_
        refine gr_sub [0] [(0, .ref (w.2.2.1 0))] rfl ?_
        refine gr_aload_n C 0 dX10_count_80 rfl rfl ?_
        refine gr_getR C 0 1 4 dX10_count_81 (sc_0 hw) rfl inX10 (by decide) ln19 rfl ?_
        refine gr_getI C 4 10 dX10_count_84 (sc_4 hw) rfl inX3 (by decide) ln207 rfl ?_
        cases hF
        exact gr_iret C dX10_count_87 ⟨rfl, rfl⟩
      · rw [if_neg c3] at hF
        by_cases c4 : a0 = (3 : Int32)
        · rw [if_pos c4] at hF
          refine gr_tin C 3 87 88 dX10_count_1 (by rw [c4]; decide) (by decide) (by decide) rfl (by decide) ?_
          refine gr_sub [0] [(0, .ref (w.2.2.1 0))] rfl ?_
          refine gr_aload_n C 0 dX10_count_88 rfl rfl ?_
          refine gr_getR C 0 3 24 dX10_count_89 (sc_0 hw) rfl inX10 (by decide) ln29 rfl ?_
          refine gr_getI C 24 4 dX10_count_92 (sc_24 hw) rfl inX9 (by decide) ln176 rfl ?_
          cases hF
          exact gr_iret C dX10_count_95 ⟨rfl, rfl⟩
        · rw [if_neg c4] at hF
          by_cases c5 : a0 = (4 : Int32)
          · rw [if_pos c5] at hF
            refine gr_tin C 4 95 96 dX10_count_1 (by rw [c5]; decide) (by decide) (by decide) rfl (by decide) ?_
            refine gr_sub [0] [(0, .ref (w.2.2.1 0))] rfl ?_
            refine gr_aload_n C 0 dX10_count_96 rfl rfl ?_
            refine gr_getR C 0 1 4 dX10_count_97 (sc_0 hw) rfl inX10 (by decide) ln19 rfl ?_
            refine gr_getI C 4 11 dX10_count_100 (sc_4 hw) rfl inX3 (by decide) ln123 rfl ?_
            refine gr_aload_n C 0 dX10_count_103 rfl rfl ?_
            refine gr_getR C 0 3 24 dX10_count_104 (sc_0 hw) rfl inX10 (by decide) ln29 rfl ?_
            obtain ⟨r8, g7, hc6, hF⟩ := gCl_e hF
            refine gr_callVI C (n := 0) (As := []) (rest := [.int (σ 4 11)]) 24 (mX9_notGone X.2.1 hw (st_24 hw) hc6) gX10_count_X9_notGone rfl ⟨rfl, rfl⟩ ⟨by decide, by decide⟩ rfl (Nat.le_of_ble_eq_true rfl) rfl (by decide +kernel) (sc_24 hw) rfl dX10_count_107 ?_
            refine gr_isub C dX10_count_110 ?_
            cases hF
            exact gr_iret C dX10_count_111 ⟨rfl, rfl⟩
          · rw [if_neg c5] at hF
            by_cases c9 : a0 = (5 : Int32)
            · rw [if_pos c9] at hF
              refine gr_tin C 5 111 112 dX10_count_1 (by rw [c9]; decide) (by decide) (by decide) rfl (by decide) ?_
              refine gr_sub [0] [(0, .ref (w.2.2.1 0))] rfl ?_
              refine gr_aload_n C 0 dX10_count_112 rfl rfl ?_
              refine gr_getR C 0 3 24 dX10_count_113 (sc_0 hw) rfl inX10 (by decide) ln29 rfl ?_
              refine gr_getI C 24 3 dX10_count_116 (sc_24 hw) rfl inX9 (by decide) ln182 rfl ?_
              obtain ⟨r12, g11, hc10, hF⟩ := gCl_e hF
              refine gr_callSI C (n := 1) (As := [.int (σ 24 3)]) (rest := []) (mJ6_bitCount_0f7a4 X.2.1 hw  hc10) gX10_count_J6_bitCount_0f7a4 rfl ⟨rfl, rfl⟩ ⟨by decide, by decide⟩ rfl (Nat.le_of_ble_eq_true rfl) rfl (by decide +kernel) dX10_count_119 ?_
              cases hF
              exact gr_iret C dX10_count_122 ⟨rfl, rfl⟩
            · rw [if_neg c9] at hF
              by_cases c13 : a0 = (6 : Int32)
              · rw [if_pos c13] at hF
                refine gr_tin C 6 122 123 dX10_count_1 (by rw [c13]; decide) (by decide) (by decide) rfl (by decide) ?_
                refine gr_sub [0] [(0, .ref (w.2.2.1 0))] rfl ?_
                refine gr_aload_n C 0 dX10_count_123 rfl rfl ?_
                obtain ⟨r16, g15, hc14, hF⟩ := gCl_e hF
                refine gr_callVI C (n := 0) (As := []) (rest := []) 0 (mX10_downInAll X.2.1 hw  hc14) gX10_count_X10_downInAll rfl ⟨rfl, rfl⟩ ⟨by decide, by decide⟩ rfl (Nat.le_of_ble_eq_true rfl) rfl (by decide +kernel) (sc_0 hw) rfl dX10_count_124 ?_
                cases hF
                exact gr_iret C dX10_count_127 ⟨rfl, rfl⟩
              · rw [if_neg c13] at hF
                by_cases c17 : a0 = (7 : Int32)
                · rw [if_pos c17] at hF
                  refine gr_tin C 7 127 128 dX10_count_1 (by rw [c17]; decide) (by decide) (by decide) rfl (by decide) ?_
                  refine gr_sub [0] [(0, .ref (w.2.2.1 0))] rfl ?_
                  refine gr_aload_n C 0 dX10_count_128 rfl rfl ?_
                  obtain ⟨r20, g19, hc18, hF⟩ := gCl_e hF
                  refine gr_callVI C (n := 0) (As := []) (rest := []) 0 (mX10_leftOverInAll X.2.1 hw  hc18) gX10_count_X10_leftOverInAll rfl ⟨rfl, rfl⟩ ⟨by decide, by decide⟩ rfl (Nat.le_of_ble_eq_true rfl) rfl (by decide +kernel) (sc_0 hw) rfl dX10_count_129 ?_
                  cases hF
                  exact gr_iret C dX10_count_132 ⟨rfl, rfl⟩
                · rw [if_neg c17] at hF
                  by_cases c21 : a0 = (8 : Int32)
                  · rw [if_pos c21] at hF
                    refine gr_tin C 8 132 133 dX10_count_1 (by rw [c21]; decide) (by decide) (by decide) rfl (by decide) ?_
                    refine gr_sub [0] [(0, .ref (w.2.2.1 0))] rfl ?_
                    refine gr_aload_n C 0 dX10_count_133 rfl rfl ?_
                    refine gr_getR C 0 7 74 dX10_count_134 (sc_0 hw) rfl inX10 (by decide) ln57 rfl ?_
                    refine gr_getI C 74 2 dX10_count_137 (sc_74 hw) rfl inX5 (by decide) ln230 rfl ?_
                    cases hF
                    exact gr_iret C dX10_count_140 ⟨rfl, rfl⟩
                  · rw [if_neg c21] at hF
                    by_cases c22 : a0 = (9 : Int32)
                    · rw [if_pos c22] at hF
                      refine gr_tin C 9 140 141 dX10_count_1 (by rw [c22]; decide) (by decide) (by decide) rfl (by decide) ?_
                      refine gr_sub [0] [(0, .ref (w.2.2.1 0))] rfl ?_
                      refine gr_aload_n C 0 dX10_count_141 rfl rfl ?_
                      refine gr_getR C 0 4 28 dX10_count_142 (sc_0 hw) rfl inX10 (by decide) ln38 rfl ?_
                      refine gr_getI C 28 2 dX10_count_145 (sc_28 hw) rfl inX7 (by decide) ln191 rfl ?_
                      cases hF
                      exact gr_iret C dX10_count_148 ⟨rfl, rfl⟩
                    · rw [if_neg c22] at hF
                      by_cases c23 : a0 = (10 : Int32)
                      · rw [if_pos c23] at hF
                        refine gr_tin C 10 148 149 dX10_count_1 (by rw [c23]; decide) (by decide) (by decide) rfl (by decide) ?_
                        refine gr_sub [0] [(0, .ref (w.2.2.1 0))] rfl ?_
                        refine gr_aload_n C 0 dX10_count_149 rfl rfl ?_
                        refine gr_getR C 0 5 62 dX10_count_150 (sc_0 hw) rfl inX10 (by decide) ln42 rfl ?_
                        refine gr_getI C 62 2 dX10_count_153 (sc_62 hw) rfl inX7 (by decide) ln191 rfl ?_
                        cases hF
                        exact gr_iret C dX10_count_156 ⟨rfl, rfl⟩
                      · rw [if_neg c23] at hF
                        by_cases c24 : a0 = (11 : Int32)
                        · rw [if_pos c24] at hF
                          refine gr_tin C 11 156 157 dX10_count_1 (by rw [c24]; decide) (by decide) (by decide) rfl (by decide) ?_
                          refine gr_sub [0] [(0, .ref (w.2.2.1 0))] rfl ?_
                          refine gr_aload_n C 0 dX10_count_157 rfl rfl ?_
                          refine gr_getR C 0 0 1 dX10_count_158 (sc_0 hw) rfl inX10 (by decide) ln10 rfl ?_
                          refine gr_getI C 1 2 dX10_count_161 (sc_1 hw) rfl inX4 (by decide) ln120 rfl ?_
                          cases hF
                          exact gr_iret C dX10_count_164 ⟨rfl, rfl⟩
                        · rw [if_neg c24] at hF
                          have nc1 := i32_ne c1
                          have nc2 := i32_ne c2
                          have nc3 := i32_ne c3
                          have nc4 := i32_ne c4
                          have nc5 := i32_ne c5
                          have nc9 := i32_ne c9
                          have nc13 := i32_ne c13
                          have nc17 := i32_ne c17
                          have nc21 := i32_ne c21
                          have nc22 := i32_ne c22
                          have nc23 := i32_ne c23
                          have nc24 := i32_ne c24
                          refine gr_tout C 165 dX10_count_1 (by have nc1 : a0.toInt ≠ 0 := nc1; have nc2 : a0.toInt ≠ 1 := nc2; have nc3 : a0.toInt ≠ 2 := nc3; have nc4 : a0.toInt ≠ 3 := nc4; have nc5 : a0.toInt ≠ 4 := nc5; have nc9 : a0.toInt ≠ 5 := nc9; have nc13 : a0.toInt ≠ 6 := nc13; have nc17 : a0.toInt ≠ 7 := nc17; have nc21 : a0.toInt ≠ 8 := nc21; have nc22 : a0.toInt ≠ 9 := nc22; have nc23 : a0.toInt ≠ 10 := nc23; have nc24 : a0.toInt ≠ 11 := nc24; omega) (by decide) ?_
                          refine gr_sub [] [] rfl ?_
                          refine gr_iconst C (v := -1) dX10_count_165 (by decide) ?_
                          cases hF
                          exact gr_iret C dX10_count_166 ⟨rfl, rfl⟩
