-- J6_bitCount_0f7a4: 42 instructions, frames 0, locals 0
set_option maxRecDepth 100000 in
set_option maxHeartbeats 4000000 in
theorem mJ6_bitCount_0f7a4 (l : Launch) {w : Wl} {shx : List Sh} (hw : w.2.2.2 = shx) {σ : Sg} {a0 : Int32}  {r : Int32} {σ' : Sg} (hF : fJ6_bitCount_0f7a4 σ a0 = some (r, σ')) : gMI l w yJ6_bitCount_0f7a4 wsJ6_bitCount_0f7a4 ({ frames := 0, cells := 0, slots := 0, locals := 0 } : Room) [.int a0] σ r σ' := by
  have k265 : Cond.constant RJ6 265 (1431655765) ∈ wsJ6_bitCount_0f7a4 := by decide +kernel
  have k266 : Cond.constant RJ6 266 (858993459) ∈ wsJ6_bitCount_0f7a4 := by decide +kernel
  have k267 : Cond.constant RJ6 267 (252645135) ∈ wsJ6_bitCount_0f7a4 := by decide +kernel
  refine gStartI cJ6_bitCount_0f7a4 1 RJ6 rfl (by decide) rfl (Nat.le_of_ble_eq_true rfl) ?_
  intro X hl C
  show gG X w σ 0 [(0, .int a0)] []
  unfold fJ6_bitCount_0f7a4 at hF
  refine gr_iload_n C 0 dJ6_bitCount_0f7a4_0 rfl rfl ?_
  refine gr_iload_n C 0 dJ6_bitCount_0f7a4_1 rfl rfl ?_
  refine gr_iconst C (v := 1) dJ6_bitCount_0f7a4_2 (by decide) ?_
  refine gr_iushr C dJ6_bitCount_0f7a4_3 ?_
  refine gr_ldcw C (v := 1431655765) dJ6_bitCount_0f7a4_4 k265 ?_
  refine gr_iand C dJ6_bitCount_0f7a4_7 ?_
  refine gr_isub C dJ6_bitCount_0f7a4_8 ?_
  obtain ⟨x1, ex1, hF⟩ := gLet_e hF
  refine gr_nmI ex1 ?_
  refine gr_istore_n C [(0, .int x1)] dJ6_bitCount_0f7a4_9 rfl (by decide) rfl ?_
  refine gr_iload_n C 0 dJ6_bitCount_0f7a4_10 rfl rfl ?_
  refine gr_ldcw C (v := 858993459) dJ6_bitCount_0f7a4_11 k266 ?_
  refine gr_iand C dJ6_bitCount_0f7a4_14 ?_
  refine gr_iload_n C 0 dJ6_bitCount_0f7a4_15 rfl rfl ?_
  refine gr_iconst C (v := 2) dJ6_bitCount_0f7a4_16 (by decide) ?_
  refine gr_iushr C dJ6_bitCount_0f7a4_17 ?_
  refine gr_ldcw C (v := 858993459) dJ6_bitCount_0f7a4_18 k266 ?_
  refine gr_iand C dJ6_bitCount_0f7a4_21 ?_
  refine gr_iadd C dJ6_bitCount_0f7a4_22 ?_
  obtain ⟨x2, ex2, hF⟩ := gLet_e hF
  refine gr_nmI ex2 ?_
  refine gr_istore_n C [(0, .int x2)] dJ6_bitCount_0f7a4_23 rfl (by decide) rfl ?_
  refine gr_iload_n C 0 dJ6_bitCount_0f7a4_24 rfl rfl ?_
  refine gr_iload_n C 0 dJ6_bitCount_0f7a4_25 rfl rfl ?_
  refine gr_iconst C (v := 4) dJ6_bitCount_0f7a4_26 (by decide) ?_
  refine gr_iushr C dJ6_bitCount_0f7a4_27 ?_
  refine gr_iadd C dJ6_bitCount_0f7a4_28 ?_
  refine gr_ldcw C (v := 252645135) dJ6_bitCount_0f7a4_29 k267 ?_
  refine gr_iand C dJ6_bitCount_0f7a4_32 ?_
  obtain ⟨x3, ex3, hF⟩ := gLet_e hF
  refine gr_nmI ex3 ?_
  refine gr_istore_n C [(0, .int x3)] dJ6_bitCount_0f7a4_33 rfl (by decide) rfl ?_
  refine gr_iload_n C 0 dJ6_bitCount_0f7a4_34 rfl rfl ?_
  refine gr_iload_n C 0 dJ6_bitCount_0f7a4_35 rfl rfl ?_
  refine gr_bipush C (v := 8) dJ6_bitCount_0f7a4_36 (by decide) ?_
  refine gr_iushr C dJ6_bitCount_0f7a4_38 ?_
  refine gr_iadd C dJ6_bitCount_0f7a4_39 ?_
  obtain ⟨x4, ex4, hF⟩ := gLet_e hF
  refine gr_nmI ex4 ?_
  refine gr_istore_n C [(0, .int x4)] dJ6_bitCount_0f7a4_40 rfl (by decide) rfl ?_
  refine gr_iload_n C 0 dJ6_bitCount_0f7a4_41 rfl rfl ?_
  refine gr_iload_n C 0 dJ6_bitCount_0f7a4_42 rfl rfl ?_
  refine gr_bipush C (v := 16) dJ6_bitCount_0f7a4_43 (by decide) ?_
  refine gr_iushr C dJ6_bitCount_0f7a4_45 ?_
  refine gr_iadd C dJ6_bitCount_0f7a4_46 ?_
  obtain ⟨x5, ex5, hF⟩ := gLet_e hF
  refine gr_nmI ex5 ?_
  refine gr_istore_n C [(0, .int x5)] dJ6_bitCount_0f7a4_47 rfl (by decide) rfl ?_
  refine gr_iload_n C 0 dJ6_bitCount_0f7a4_48 rfl rfl ?_
  refine gr_bipush C (v := 63) dJ6_bitCount_0f7a4_49 (by decide) ?_
  refine gr_iand C dJ6_bitCount_0f7a4_51 ?_
  cases hF
  exact gr_iret C dJ6_bitCount_0f7a4_52 ⟨rfl, rfl⟩
-- X10_outside: 10 instructions, frames 0, locals 0
set_option maxRecDepth 100000 in
set_option maxHeartbeats 4000000 in
theorem mX10_outside (l : Launch) {w : Wl} (hw : w.2.2.2 = shC) {σ : Sg} {a0 : Int32} {a1 : Int32} {a2 : Int32}  {r : Int32} {σ' : Sg} (hF : fX10_outside σ a0 a1 a2 = some (r, σ')) : gMI l w yX10_outside wsX10_outside ({ frames := 0, cells := 0, slots := 0, locals := 0 } : Room) [.int a0, .int a1, .int a2] σ r σ' := by
  refine gStartZ cX10_outside 3 RX10 rfl (by decide) rfl (Nat.le_of_ble_eq_true rfl) ?_
  intro X hl C
  show gG X w σ 0 [(0, .int a0), (1, .int a1), (2, .int a2)] []
  unfold fX10_outside at hF
  refine gr_iload_n C 0 dX10_outside_0 rfl rfl ?_
  refine gr_iload_n C 1 dX10_outside_1 rfl rfl ?_
  obtain ⟨K1, eK1, hF⟩ := gLet_e hF
  have JK1 : ∀  (g2 : Sg), K1  g2 = some (r, σ') → gG X w g2 10 [] [] := by
    intro g2 hF
    rw [eK1] at hF
    try dsimp only at hF
    refine gr_iconst C (v := 1) dX10_outside_10 (by decide) ?_
    refine gr_goto C 15 dX10_outside_11 (by decide) ?_
    cases hF
    exact gr_zret C dX10_outside_15 rfl ⟨rfl, rfl⟩
  refine gr_icmp_lt C 10 dX10_outside_2 (by decide) (fun c3 => ?_) (fun c3 => ?_)
  · rw [if_pos c3] at hF
    refine gr_sub [] [] rfl ?_
    exact JK1  σ hF
  · rw [if_neg c3] at hF
    refine gr_sub [0, 2] [(0, .int a0), (2, .int a2)] rfl ?_
    refine gr_iload_n C 0 dX10_outside_5 rfl rfl ?_
    refine gr_iload_n C 1 dX10_outside_6 rfl rfl ?_
    refine gr_icmp_le C 14 dX10_outside_7 (by decide) (fun c4 => ?_) (fun c4 => ?_)
    · rw [if_pos c4] at hF
      refine gr_sub [] [] rfl ?_
      refine gr_iconst C (v := 0) dX10_outside_14 (by decide) ?_
      cases hF
      exact gr_zret C dX10_outside_15 rfl ⟨rfl, rfl⟩
    · rw [if_neg c4] at hF
      refine gr_sub [] [] rfl ?_
      exact JK1  σ hF
-- X4_add: 16 instructions, frames 0, locals 0
set_option maxRecDepth 100000 in
set_option maxHeartbeats 4000000 in
theorem mX4_add (l : Launch) {w : Wl} (hw : w.2.2.2 = shC) {σ : Sg} {a0 : Int32}  {σ' : Sg} (hF : fX4_add σ a0 = some σ') : gMV l w yX4_add wsX4_add ({ frames := 0, cells := 0, slots := 0, locals := 0 } : Room) [.ref (w.2.2.1 1), .int a0] σ σ' := by
  have inX4 : ∀ v ∈ u_ws RX4 TX4 3, v ∈ wsX4_add := by decide +kernel
  have ln9 : Cond.fieldLink RX4 9 (TX4 0).1 (TX4 0).2.1 (TX4 0).2.2.1 ∈ wsX4_add := by decide +kernel
  have ln18 : Cond.fieldLink RX4 18 (TX4 2).1 (TX4 2).2.1 (TX4 2).2.2.1 ∈ wsX4_add := by decide +kernel
  refine gStartV cX4_add 2 RX4 rfl (by decide) rfl (Nat.le_of_ble_eq_true rfl) ?_
  intro X hl C
  show gG X w σ 0 [(0, .ref (w.2.2.1 1)), (1, .int a0)] []
  unfold fX4_add at hF
  refine gr_aload_n C 0 dX4_add_0 rfl rfl ?_
  refine gr_getI C 1 2 dX4_add_1 (sc_1 hw) rfl inX4 (by decide) ln18 rfl ?_
  refine gr_sipush C (v := 200) dX4_add_4 (by decide) ?_
  refine gr_icmp_ge C 27 dX4_add_7 (by decide) (fun c1 => ?_) (fun c1 => ?_)
  · rw [if_pos c1] at hF
    refine gr_sub [] [] rfl ?_
    cases hF
    exact gr_vret C dX4_add_27 ⟨rfl, rfl⟩
  · rw [if_neg c1] at hF
    refine gr_aload_n C 0 dX4_add_10 rfl rfl ?_
    refine gr_getR C 1 0 2 dX4_add_11 (sc_1 hw) rfl inX4 (by decide) ln9 rfl ?_
    refine gr_aload_n C 0 dX4_add_14 rfl rfl ?_
    refine gr_dup C dX4_add_15 rfl ?_
    refine gr_getI C 1 2 dX4_add_16 (sc_1 hw) rfl inX4 (by decide) ln18 rfl ?_
    refine gr_dup_x1 C dX4_add_19 rfl rfl ?_
    refine gr_iconst C (v := 1) dX4_add_20 (by decide) ?_
    refine gr_iadd C dX4_add_21 ?_
    obtain ⟨g2, eg2, hF⟩ := gLet_e hF
    refine gr_putI C 1 2 dX4_add_22 (sc_1 hw) rfl inX4 (by decide) ln18 rfl tyX4 tyX4_ok nmX4 rfl .int rfl rfl rfl ?_
    refine gr_nmS eg2 ?_
    refine gr_iload_n C 1 dX4_add_25 rfl rfl ?_
    obtain ⟨h3, g4, eg4, hF⟩ := gWr_e hF
    refine gr_iast C 2 200 dX4_add_26 (sc_2 hw) h3 ?_
    refine gr_nmS eg4 ?_
    cases hF
    exact gr_vret C dX4_add_27 ⟨rfl, rfl⟩
-- X10_write: 22 instructions, frames 1, locals 22
set_option maxRecDepth 100000 in
set_option maxHeartbeats 4000000 in
theorem mX10_write (l : Launch) {w : Wl} (hw : w.2.2.2 = shC) {σ : Sg} {a0 : Int32}  {r : Int32} {σ' : Sg} (hF : fX10_write σ a0 = some (r, σ')) : gMI l w yX10_write wsX10_write ({ frames := 1, cells := 0, slots := 0, locals := 22 } : Room) [.ref (w.2.2.1 0), .int a0] σ r σ' := by
  have inX10 : ∀ v ∈ u_ws RX10 TX10 12, v ∈ wsX10_write := by decide +kernel
  have inX4 : ∀ v ∈ u_ws RX4 TX4 3, v ∈ wsX10_write := by decide +kernel
  have ln10 : Cond.fieldLink RX10 10 (TX10 0).1 (TX10 0).2.1 (TX10 0).2.2.1 ∈ wsX10_write := by decide +kernel
  have ln120 : Cond.fieldLink RX10 120 (TX4 2).1 (TX4 2).2.1 (TX4 2).2.2.1 ∈ wsX10_write := by decide +kernel
  refine gStartI cX10_write 2 RX10 rfl (by decide) rfl (Nat.le_of_ble_eq_true rfl) ?_
  intro X hl C
  show gG X w σ 0 [(0, .ref (w.2.2.1 0)), (1, .int a0)] []
  unfold fX10_write at hF
  refine gr_iload_n C 1 dX10_write_0 rfl rfl ?_
  refine gr_bipush C (v := 32) dX10_write_1 (by decide) ?_
  refine gr_bipush C (v := 126) dX10_write_3 (by decide) ?_
  obtain ⟨r3, g2, hc1, hF⟩ := gCl_e hF
  refine gr_callSI C (n := 3) (As := [.int a0, .int (32 : Int32), .int (126 : Int32)]) (rest := []) (mX10_outside X.2.1 hw  hc1) gX10_write_X10_outside rfl ⟨rfl, rfl⟩ ⟨by decide, by decide⟩ rfl (Nat.le_of_ble_eq_true rfl) rfl (by decide +kernel) dX10_write_5 ?_
  refine gr_if_eq C 13 dX10_write_8 (by decide) (fun c4 => ?_) (fun c4 => ?_)
  · rw [if_pos c4] at hF
    refine gr_aload_n C 0 dX10_write_13 rfl rfl ?_
    refine gr_getR C 0 0 1 dX10_write_14 (sc_0 hw) rfl inX10 (by decide) ln10 rfl ?_
    refine gr_getI C 1 2 dX10_write_17 (sc_1 hw) rfl inX4 (by decide) ln120 rfl ?_
    refine gr_sipush C (v := 200) dX10_write_20 (by decide) ?_
    refine gr_icmp_lt C 29 dX10_write_23 (by decide) (fun c5 => ?_) (fun c5 => ?_)
    · rw [if_pos c5] at hF
      refine gr_aload_n C 0 dX10_write_29 rfl rfl ?_
      refine gr_getR C 0 0 1 dX10_write_30 (sc_0 hw) rfl inX10 (by decide) ln10 rfl ?_
      refine gr_iload_n C 1 dX10_write_33 rfl rfl ?_
      obtain ⟨g7, hc6, hF⟩ := gCv_e hF
      refine gr_callVV C (n := 1) (As := [.int a0]) (rest := []) 1 (mX4_add X.2.1 hw  hc6) gX10_write_X4_add rfl ⟨rfl, rfl⟩ ⟨by decide, by decide⟩ rfl (Nat.le_of_ble_eq_true rfl) rfl (by decide +kernel) (sc_1 hw) rfl dX10_write_34 ?_
      refine gr_aload_n C 0 dX10_write_37 rfl rfl ?_
      refine gr_getR C 0 0 1 dX10_write_38 (sc_0 hw) rfl inX10 (by decide) ln10 rfl ?_
      refine gr_getI C 1 2 dX10_write_41 (sc_1 hw) rfl inX4 (by decide) ln120 rfl ?_
      cases hF
      exact gr_iret C dX10_write_44 ⟨rfl, rfl⟩
    · rw [if_neg c5] at hF
      refine gr_sub [] [] rfl ?_
      refine gr_bipush C (v := -3) dX10_write_26 (by decide) ?_
      cases hF
      exact gr_iret C dX10_write_28 ⟨rfl, rfl⟩
  · rw [if_neg c4] at hF
    refine gr_sub [] [] rfl ?_
    refine gr_iconst C (v := -1) dX10_write_11 (by decide) ?_
    cases hF
    exact gr_iret C dX10_write_12 ⟨rfl, rfl⟩
-- X4_clear: 4 instructions, frames 0, locals 0
set_option maxRecDepth 100000 in
set_option maxHeartbeats 4000000 in
theorem mX4_clear (l : Launch) {w : Wl} (hw : w.2.2.2 = shC) {σ : Sg}   {σ' : Sg} (hF : fX4_clear σ  = some σ') : gMV l w yX4_clear wsX4_clear ({ frames := 0, cells := 0, slots := 0, locals := 0 } : Room) [.ref (w.2.2.1 1)] σ σ' := by
  have inX4 : ∀ v ∈ u_ws RX4 TX4 3, v ∈ wsX4_clear := by decide +kernel
  have ln18 : Cond.fieldLink RX4 18 (TX4 2).1 (TX4 2).2.1 (TX4 2).2.2.1 ∈ wsX4_clear := by decide +kernel
  refine gStartV cX4_clear 1 RX4 rfl (by decide) rfl (Nat.le_of_ble_eq_true rfl) ?_
  intro X hl C
  show gG X w σ 0 [(0, .ref (w.2.2.1 1))] []
  unfold fX4_clear at hF
  refine gr_aload_n C 0 dX4_clear_0 rfl rfl ?_
  refine gr_iconst C (v := 0) dX4_clear_1 (by decide) ?_
  obtain ⟨g1, eg1, hF⟩ := gLet_e hF
  refine gr_putI C 1 2 dX4_clear_2 (sc_1 hw) rfl inX4 (by decide) ln18 rfl tyX4 tyX4_ok nmX4 rfl .int rfl rfl rfl ?_
  refine gr_nmS eg1 ?_
  cases hF
  exact gr_vret C dX4_clear_5 ⟨rfl, rfl⟩
-- X10_wipe: 9 instructions, frames 1, locals 20
set_option maxRecDepth 100000 in
set_option maxHeartbeats 4000000 in
theorem mX10_wipe (l : Launch) {w : Wl} (hw : w.2.2.2 = shC) {σ : Sg}   {r : Int32} {σ' : Sg} (hF : fX10_wipe σ  = some (r, σ')) : gMI l w yX10_wipe wsX10_wipe ({ frames := 1, cells := 0, slots := 0, locals := 20 } : Room) [.ref (w.2.2.1 0)] σ r σ' := by
  have inX10 : ∀ v ∈ u_ws RX10 TX10 12, v ∈ wsX10_wipe := by decide +kernel
  have inX4 : ∀ v ∈ u_ws RX4 TX4 3, v ∈ wsX10_wipe := by decide +kernel
  have ln10 : Cond.fieldLink RX10 10 (TX10 0).1 (TX10 0).2.1 (TX10 0).2.2.1 ∈ wsX10_wipe := by decide +kernel
  have ln120 : Cond.fieldLink RX10 120 (TX4 2).1 (TX4 2).2.1 (TX4 2).2.2.1 ∈ wsX10_wipe := by decide +kernel
  refine gStartI cX10_wipe 2 RX10 rfl (by decide) rfl (Nat.le_of_ble_eq_true rfl) ?_
  intro X hl C
  show gG X w σ 0 [(0, .ref (w.2.2.1 0))] []
  unfold fX10_wipe at hF
  refine gr_aload_n C 0 dX10_wipe_0 rfl rfl ?_
  refine gr_getR C 0 0 1 dX10_wipe_1 (sc_0 hw) rfl inX10 (by decide) ln10 rfl ?_
  refine gr_getI C 1 2 dX10_wipe_4 (sc_1 hw) rfl inX4 (by decide) ln120 rfl ?_
  obtain ⟨x1, ex1, hF⟩ := gLet_e hF
  refine gr_nmI ex1 ?_
  refine gr_istore_n C [(1, .int x1), (0, .ref (w.2.2.1 0))] dX10_wipe_7 rfl (by decide) rfl ?_
  refine gr_aload_n C 1 dX10_wipe_8 rfl rfl ?_
  refine gr_getR C 0 0 1 dX10_wipe_9 (sc_0 hw) rfl inX10 (by decide) ln10 rfl ?_
  obtain ⟨g3, hc2, hF⟩ := gCv_e hF
  refine gr_callVV C (n := 0) (As := []) (rest := []) 1 (mX4_clear X.2.1 hw  hc2) gX10_wipe_X4_clear rfl ⟨rfl, rfl⟩ ⟨by decide, by decide⟩ rfl (Nat.le_of_ble_eq_true rfl) rfl (by decide +kernel) (sc_1 hw) rfl dX10_wipe_12 ?_
  refine gr_iload_n C 0 dX10_wipe_15 rfl rfl ?_
  cases hF
  exact gr_iret C dX10_wipe_16 ⟨rfl, rfl⟩
-- X3_clear: 40 instructions, frames 0, locals 0
set_option maxRecDepth 100000 in
set_option maxHeartbeats 4000000 in
theorem mX3_clear (l : Launch) {w : Wl} (hw : w.2.2.2 = shC) {σ : Sg} {t : Nat} (ht : gPl w t) {σ' : Sg} (hF : fX3_clear σ t = some σ') : gMV l w yX3_clear wsX3_clear ({ frames := 0, cells := 0, slots := 0, locals := 0 } : Room) [.ref (w.2.2.1 t)] σ σ' := by
  have inX3 : ∀ v ∈ u_ws RX3 TX3 13, v ∈ wsX3_clear := by decide +kernel
  have ln27 : Cond.fieldLink RX3 27 (TX3 5).1 (TX3 5).2.1 (TX3 5).2.2.1 ∈ wsX3_clear := by decide +kernel
  have ln30 : Cond.fieldLink RX3 30 (TX3 6).1 (TX3 6).2.1 (TX3 6).2.2.1 ∈ wsX3_clear := by decide +kernel
  have ln36 : Cond.fieldLink RX3 36 (TX3 8).1 (TX3 8).2.1 (TX3 8).2.2.1 ∈ wsX3_clear := by decide +kernel
  have ln39 : Cond.fieldLink RX3 39 (TX3 9).1 (TX3 9).2.1 (TX3 9).2.2.1 ∈ wsX3_clear := by decide +kernel
  have ln43 : Cond.fieldLink RX3 43 (TX3 10).1 (TX3 10).2.1 (TX3 10).2.2.1 ∈ wsX3_clear := by decide +kernel
  have ln46 : Cond.fieldLink RX3 46 (TX3 11).1 (TX3 11).2.1 (TX3 11).2.2.1 ∈ wsX3_clear := by decide +kernel
  have ln49 : Cond.fieldLink RX3 49 (TX3 12).1 (TX3 12).2.1 (TX3 12).2.2.1 ∈ wsX3_clear := by decide +kernel
  refine gStartV cX3_clear 2 RX3 rfl (by decide) rfl (Nat.le_of_ble_eq_true rfl) ?_
  intro X hl C
  show gG X w σ 0 [(0, .ref (w.2.2.1 t))] []
  unfold fX3_clear at hF
  refine gr_aload_n C 0 dX3_clear_0 rfl rfl ?_
  refine gr_iconst C (v := 5) dX3_clear_1 (by decide) ?_
  obtain ⟨g1, eg1, hF⟩ := gLet_e hF
  refine gr_putI C t 9 dX3_clear_2 ht.1 rfl inX3 (by decide) ln39 rfl tyX3 tyX3_ok nmX3 rfl .int rfl rfl rfl ?_
  refine gr_nmS eg1 ?_
  refine gr_aload_n C 0 dX3_clear_5 rfl rfl ?_
  refine gr_bipush C (v := 20) dX3_clear_6 (by decide) ?_
  obtain ⟨g2, eg2, hF⟩ := gLet_e hF
  refine gr_putI C t 10 dX3_clear_8 ht.1 rfl inX3 (by decide) ln43 rfl tyX3 tyX3_ok nmX3 rfl .int rfl rfl rfl ?_
  refine gr_nmS eg2 ?_
  refine gr_aload_n C 0 dX3_clear_11 rfl rfl ?_
  refine gr_iconst C (v := 0) dX3_clear_12 (by decide) ?_
  obtain ⟨g3, eg3, hF⟩ := gLet_e hF
  refine gr_putI C t 11 dX3_clear_13 ht.1 rfl inX3 (by decide) ln46 rfl tyX3 tyX3_ok nmX3 rfl .int rfl rfl rfl ?_
  refine gr_nmS eg3 ?_
  refine gr_aload_n C 0 dX3_clear_16 rfl rfl ?_
  refine gr_iconst C (v := 1) dX3_clear_17 (by decide) ?_
  obtain ⟨g4, eg4, hF⟩ := gLet_e hF
  refine gr_putI C t 12 dX3_clear_18 ht.1 rfl inX3 (by decide) ln49 rfl tyX3 tyX3_ok nmX3 rfl .boolean rfl rfl rfl ?_
  refine gr_nmS eg4 ?_
  refine gr_iconst C (v := 0) dX3_clear_21 (by decide) ?_
  refine gr_istore_n C [(1, .int (0 : Int32)), (0, .ref (w.2.2.1 t))] dX3_clear_22 rfl (by decide) rfl ?_
  refine gr_sub [1, 0] [(0, .ref (w.2.2.1 t)), (1, .int (0 : Int32))] rfl ?_
  have L16 : ∀ (n : Nat) (x6 : Int32) (g7 : Sg) (K5 : Sg → Option Sg), (∀  (g17 : Sg), K5  g17 = some σ' → gG X w g17 56 [(0, .ref (w.2.2.1 t))] []) → fX3_clear_23 t n x6 g7 K5 = some σ' → gG X w g7 23 [(0, .ref (w.2.2.1 t)), (1, .int x6)] [] := by
    intro n
    induction n with
    | zero =>
      intro x6 g7 K5 hK5 hF
      rw [fX3_clear_23] at hF
      cases hF
    | succ n ih =>
      intro x6 g7 K5 hK5 hF
      rw [fX3_clear_23] at hF
      refine gr_iload_n C 1 dX3_clear_23 rfl rfl ?_
      refine gr_bipush C (v := 9) dX3_clear_24 (by decide) ?_
      refine gr_icmp_ge C 56 dX3_clear_26 (by decide) (fun c8 => ?_) (fun c8 => ?_)
      · rw [if_pos c8] at hF
        refine gr_sub [0] [(0, .ref (w.2.2.1 t))] rfl ?_
        exact hK5  g7 hF
      · rw [if_neg c8] at hF
        refine gr_aload_n C 0 dX3_clear_29 rfl rfl ?_
        refine gr_getR C t 5 (t + 6) dX3_clear_30 ht.1 rfl inX3 (by decide) ln27 rfl ?_
        refine gr_iload_n C 1 dX3_clear_33 rfl rfl ?_
        refine gr_iconst C (v := 0) dX3_clear_34 (by decide) ?_
        obtain ⟨h9, g10, eg10, hF⟩ := gWr_e hF
        refine gr_iast C (t + 6) 9 dX3_clear_35 ht.2.2.2.2.2.2.1 h9 ?_
        refine gr_nmS eg10 ?_
        refine gr_aload_n C 0 dX3_clear_36 rfl rfl ?_
        refine gr_getR C t 6 (t + 7) dX3_clear_37 ht.1 rfl inX3 (by decide) ln30 rfl ?_
        refine gr_iload_n C 1 dX3_clear_40 rfl rfl ?_
        refine gr_iconst C (v := 0) dX3_clear_41 (by decide) ?_
        obtain ⟨h11, g12, eg12, hF⟩ := gWr_e hF
        refine gr_iast C (t + 7) 9 dX3_clear_42 ht.2.2.2.2.2.2.2.1 h11 ?_
        refine gr_nmS eg12 ?_
        refine gr_aload_n C 0 dX3_clear_43 rfl rfl ?_
        refine gr_getR C t 8 (t + 9) dX3_clear_44 ht.1 rfl inX3 (by decide) ln36 rfl ?_
        refine gr_iload_n C 1 dX3_clear_47 rfl rfl ?_
        refine gr_iconst C (v := 0) dX3_clear_48 (by decide) ?_
        obtain ⟨h13, g14, eg14, hF⟩ := gWr_e hF
        refine gr_iast C (t + 9) 10 dX3_clear_49 ht.2.2.2.2.2.2.2.2.2 h13 ?_
        refine gr_nmS eg14 ?_
        obtain ⟨x15, ex15, hF⟩ := gLet_e hF
        refine gr_iinc C (v := x15) 1 [(1, .int x15), (0, .ref (w.2.2.1 t))] dX3_clear_50 rfl (by rw [ex15]; rfl) (by decide) rfl ?_
        refine gr_goto C 23 dX3_clear_53 (by decide) ?_
        refine gr_sub [1, 0] [(0, .ref (w.2.2.1 t)), (1, .int x15)] rfl ?_
        exact ih x15 g14 K5 hK5 hF
  refine L16 _ (0 : Int32) g4 _ ?_ hF
  intro g18 hF
  try dsimp only at hF
  refine gr_aload_n C 0 dX3_clear_56 rfl rfl ?_
  refine gr_getR C t 8 (t + 9) dX3_clear_57 ht.1 rfl inX3 (by decide) ln36 rfl ?_
  refine gr_bipush C (v := 9) dX3_clear_60 (by decide) ?_
  refine gr_iconst C (v := 0) dX3_clear_62 (by decide) ?_
  obtain ⟨h19, g20, eg20, hF⟩ := gWr_e hF
  refine gr_iast C (t + 9) 10 dX3_clear_63 ht.2.2.2.2.2.2.2.2.2 h19 ?_
  refine gr_nmS eg20 ?_
  cases hF
  exact gr_vret C dX3_clear_64 ⟨rfl, rfl⟩
-- X3_takeAtStep: 32 instructions, frames 1, locals 22
set_option maxRecDepth 100000 in
set_option maxHeartbeats 4000000 in
theorem mX3_takeAtStep (l : Launch) {w : Wl} (hw : w.2.2.2 = shC) {σ : Sg} {t : Nat} {q0 : Nat} {a2 : Int32} {a3 : Int32} (ht : gPl w t) (hq0 : w.2.2.2[q0]? = some (.inl (0, 9))) {r : Int32} {σ' : Sg} (hF : fX3_takeAtStep σ t q0 a2 a3 = some (r, σ')) : gMI l w yX3_takeAtStep wsX3_takeAtStep ({ frames := 1, cells := 0, slots := 0, locals := 22 } : Room) [.ref (w.2.2.1 t), .ref (w.2.2.1 q0), .ref (w.2.2.1 3), .int a2, .int a3] σ r σ' := by
  have inX3 : ∀ v ∈ u_ws RX3 TX3 13, v ∈ wsX3_takeAtStep := by decide +kernel
  have ln39 : Cond.fieldLink RX3 39 (TX3 9).1 (TX3 9).2.1 (TX3 9).2.2.1 ∈ wsX3_takeAtStep := by decide +kernel
  refine gStartZ cX3_takeAtStep 5 RX3 rfl (by decide) rfl (Nat.le_of_ble_eq_true rfl) ?_
  intro X hl C
  show gG X w σ 0 [(0, .ref (w.2.2.1 t)), (1, .ref (w.2.2.1 q0)), (2, .ref (w.2.2.1 3)), (3, .int a2), (4, .int a3)] []
  unfold fX3_takeAtStep at hF
  refine gr_iload_n C 3 dX3_takeAtStep_0 rfl rfl ?_
  refine gr_iconst C (v := 2) dX3_takeAtStep_1 (by decide) ?_
  refine gr_icmp_ne C 33 dX3_takeAtStep_2 (by decide) (fun c1 => ?_) (fun c1 => ?_)
  · rw [if_neg c1] at hF
    refine gr_sub [] [] rfl ?_
    refine gr_iconst C (v := 0) dX3_takeAtStep_33 (by decide) ?_
    cases hF
    exact gr_zret C dX3_takeAtStep_34 rfl ⟨rfl, rfl⟩
  · rw [if_pos c1] at hF
    refine gr_sub [0, 1, 2, 4] [(0, .ref (w.2.2.1 t)), (1, .ref (w.2.2.1 q0)), (2, .ref (w.2.2.1 3)), (4, .int a3)] rfl ?_
    refine gr_aload_n C 2 dX3_takeAtStep_5 rfl rfl ?_
    refine gr_iconst C (v := 0) dX3_takeAtStep_6 (by decide) ?_
    obtain ⟨h3, x2, ex2, hF⟩ := gRd_e hF
    refine gr_iald C 3 5 dX3_takeAtStep_7 (sc_3 hw) h3 ?_
    refine gr_nmI ex2 ?_
    refine gr_iconst C (v := 0) dX3_takeAtStep_8 (by decide) ?_
    refine gr_aload_n C 0 dX3_takeAtStep_9 rfl rfl ?_
    refine gr_getI C t 9 dX3_takeAtStep_10 ht.1 rfl inX3 (by decide) ln39 rfl ?_
    refine gr_iconst C (v := 1) dX3_takeAtStep_13 (by decide) ?_
    refine gr_isub C dX3_takeAtStep_14 ?_
    obtain ⟨r6, g5, hc4, hF⟩ := gCl_e hF
    refine gr_callNI C (n := 3) (As := [.int x2, .int (0 : Int32), .int ((σ t 9) - (1 : Int32))]) (rest := []) (host := "YoungerMilk") (mX10_outside X.2.1 hw  hc4) gX3_takeAtStep_X10_outside_n67 rfl ⟨rfl, rfl⟩ ⟨by decide, by decide⟩ rfl (Nat.le_of_ble_eq_true rfl) rfl (by decide +kernel) (by decide +kernel) (by decide +kernel) (by decide +kernel) dX3_takeAtStep_15 ?_
    refine gr_if_ne C 33 dX3_takeAtStep_18 (by decide) (fun c7 => ?_) (fun c7 => ?_)
    · rw [if_neg c7] at hF
      refine gr_sub [] [] rfl ?_
      refine gr_iconst C (v := 0) dX3_takeAtStep_33 (by decide) ?_
      cases hF
      exact gr_zret C dX3_takeAtStep_34 rfl ⟨rfl, rfl⟩
    · rw [if_pos c7] at hF
      refine gr_sub [1, 2, 3] [(1, .ref (w.2.2.1 q0)), (2, .ref (w.2.2.1 3)), (4, .int a3)] rfl ?_
      refine gr_aload_n C 1 dX3_takeAtStep_21 rfl rfl ?_
      refine gr_iconst C (v := 1) dX3_takeAtStep_22 (by decide) ?_
      obtain ⟨h9, x8, ex8, hF⟩ := gRd_e hF
      refine gr_iald C 3 5 dX3_takeAtStep_23 (sc_3 hw) h9 ?_
      refine gr_nmI ex8 ?_
      refine gr_iconst C (v := 0) dX3_takeAtStep_24 (by decide) ?_
      refine gr_iload C 2 dX3_takeAtStep_25 rfl ?_
      obtain ⟨r12, g11, hc10, hF⟩ := gCl_e hF
      refine gr_callNI C (n := 3) (As := [.int x8, .int (0 : Int32), .int a3]) (rest := []) (host := "YoungerMilk") (mX10_outside X.2.1 hw  hc10) gX3_takeAtStep_X10_outside_n67 rfl ⟨rfl, rfl⟩ ⟨by decide, by decide⟩ rfl (Nat.le_of_ble_eq_true rfl) rfl (by decide +kernel) (by decide +kernel) (by decide +kernel) (by decide +kernel) dX3_takeAtStep_27 ?_
      refine gr_if_eq C 35 dX3_takeAtStep_30 (by decide) (fun c13 => ?_) (fun c13 => ?_)
      · rw [if_pos c13] at hF
        refine gr_sub [0, 1] [(1, .ref (w.2.2.1 q0)), (2, .ref (w.2.2.1 3))] rfl ?_
        refine gr_aload_n C 0 dX3_takeAtStep_35 rfl rfl ?_
        refine gr_aload_n C 1 dX3_takeAtStep_36 rfl rfl ?_
        refine gr_iconst C (v := 0) dX3_takeAtStep_37 (by decide) ?_
        obtain ⟨h15, x14, ex14, hF⟩ := gRd_e hF
        refine gr_iald C 3 5 dX3_takeAtStep_38 (sc_3 hw) h15 ?_
        refine gr_nmI ex14 ?_
        refine gr_aload_n C 1 dX3_takeAtStep_39 rfl rfl ?_
        refine gr_iconst C (v := 1) dX3_takeAtStep_40 (by decide) ?_
        obtain ⟨h17, x16, ex16, hF⟩ := gRd_e hF
        refine gr_iald C 3 5 dX3_takeAtStep_41 (sc_3 hw) h17 ?_
        refine gr_nmI ex16 ?_
        obtain ⟨h18, g19, eg19, hF⟩ := gWr_e hF
        refine gr_iast C q0 9 dX3_takeAtStep_42 hq0 h18 ?_
        refine gr_nmS eg19 ?_
        refine gr_iconst C (v := 1) dX3_takeAtStep_43 (by decide) ?_
        cases hF
        exact gr_zret C dX3_takeAtStep_44 rfl ⟨rfl, rfl⟩
      · rw [if_neg c13] at hF
        refine gr_sub [] [] rfl ?_
        refine gr_iconst C (v := 0) dX3_takeAtStep_33 (by decide) ?_
        cases hF
        exact gr_zret C dX3_takeAtStep_34 rfl ⟨rfl, rfl⟩
-- X3_takeHold: 19 instructions, frames 1, locals 22
set_option maxRecDepth 100000 in
set_option maxHeartbeats 4000000 in
theorem mX3_takeHold (l : Launch) {w : Wl} (hw : w.2.2.2 = shC) {σ : Sg} {t : Nat} {a1 : Int32} (ht : gPl w t) {r : Int32} {σ' : Sg} (hF : fX3_takeHold σ t a1 = some (r, σ')) : gMI l w yX3_takeHold wsX3_takeHold ({ frames := 1, cells := 0, slots := 0, locals := 22 } : Room) [.ref (w.2.2.1 t), .ref (w.2.2.1 3), .int a1] σ r σ' := by
  have inX3 : ∀ v ∈ u_ws RX3 TX3 13, v ∈ wsX3_takeHold := by decide +kernel
  have ln43 : Cond.fieldLink RX3 43 (TX3 10).1 (TX3 10).2.1 (TX3 10).2.2.1 ∈ wsX3_takeHold := by decide +kernel
  refine gStartZ cX3_takeHold 3 RX3 rfl (by decide) rfl (Nat.le_of_ble_eq_true rfl) ?_
  intro X hl C
  show gG X w σ 0 [(0, .ref (w.2.2.1 t)), (1, .ref (w.2.2.1 3)), (2, .int a1)] []
  unfold fX3_takeHold at hF
  refine gr_iload_n C 2 dX3_takeHold_0 rfl rfl ?_
  refine gr_iconst C (v := 1) dX3_takeHold_1 (by decide) ?_
  refine gr_icmp_ne C 17 dX3_takeHold_2 (by decide) (fun c1 => ?_) (fun c1 => ?_)
  · rw [if_neg c1] at hF
    refine gr_sub [] [] rfl ?_
    refine gr_iconst C (v := 0) dX3_takeHold_17 (by decide) ?_
    cases hF
    exact gr_zret C dX3_takeHold_18 rfl ⟨rfl, rfl⟩
  · rw [if_pos c1] at hF
    refine gr_sub [0, 1] [(0, .ref (w.2.2.1 t)), (1, .ref (w.2.2.1 3))] rfl ?_
    refine gr_aload_n C 1 dX3_takeHold_5 rfl rfl ?_
    refine gr_iconst C (v := 0) dX3_takeHold_6 (by decide) ?_
    obtain ⟨h3, x2, ex2, hF⟩ := gRd_e hF
    refine gr_iald C 3 5 dX3_takeHold_7 (sc_3 hw) h3 ?_
    refine gr_nmI ex2 ?_
    refine gr_iconst C (v := 1) dX3_takeHold_8 (by decide) ?_
    refine gr_bipush C (v := 99) dX3_takeHold_9 (by decide) ?_
    obtain ⟨r6, g5, hc4, hF⟩ := gCl_e hF
    refine gr_callNI C (n := 3) (As := [.int x2, .int (1 : Int32), .int (99 : Int32)]) (rest := []) (host := "YoungerMilk") (mX10_outside X.2.1 hw  hc4) gX3_takeHold_X10_outside_n67 rfl ⟨rfl, rfl⟩ ⟨by decide, by decide⟩ rfl (Nat.le_of_ble_eq_true rfl) rfl (by decide +kernel) (by decide +kernel) (by decide +kernel) (by decide +kernel) dX3_takeHold_11 ?_
    refine gr_if_eq C 19 dX3_takeHold_14 (by decide) (fun c7 => ?_) (fun c7 => ?_)
    · rw [if_pos c7] at hF
      refine gr_aload_n C 0 dX3_takeHold_19 rfl rfl ?_
      refine gr_aload_n C 1 dX3_takeHold_20 rfl rfl ?_
      refine gr_iconst C (v := 0) dX3_takeHold_21 (by decide) ?_
      obtain ⟨h9, x8, ex8, hF⟩ := gRd_e hF
      refine gr_iald C 3 5 dX3_takeHold_22 (sc_3 hw) h9 ?_
      refine gr_nmI ex8 ?_
      obtain ⟨g10, eg10, hF⟩ := gLet_e hF
      refine gr_putI C t 10 dX3_takeHold_23 ht.1 rfl inX3 (by decide) ln43 rfl tyX3 tyX3_ok nmX3 rfl .int rfl rfl rfl ?_
      refine gr_nmS eg10 ?_
      refine gr_iconst C (v := 1) dX3_takeHold_26 (by decide) ?_
      cases hF
      exact gr_zret C dX3_takeHold_27 rfl ⟨rfl, rfl⟩
    · rw [if_neg c7] at hF
      refine gr_sub [] [] rfl ?_
      refine gr_iconst C (v := 0) dX3_takeHold_17 (by decide) ?_
      cases hF
      exact gr_zret C dX3_takeHold_18 rfl ⟨rfl, rfl⟩
-- X3_takeYounger: 95 instructions, frames 1, locals 22
set_option maxRecDepth 100000 in
set_option maxHeartbeats 4000000 in
theorem mX3_takeYounger (l : Launch) {w : Wl} (hw : w.2.2.2 = shC) {σ : Sg} {t : Nat} {a1 : Int32} (ht : gPl w t) {r : Int32} {σ' : Sg} (hF : fX3_takeYounger σ t a1 = some (r, σ')) : gMI l w yX3_takeYounger wsX3_takeYounger ({ frames := 1, cells := 0, slots := 0, locals := 22 } : Room) [.ref (w.2.2.1 t), .ref (w.2.2.1 3), .int a1] σ r σ' := by
  have inX3 : ∀ v ∈ u_ws RX3 TX3 13, v ∈ wsX3_takeYounger := by decide +kernel
  have ln9 : Cond.fieldLink RX3 9 (TX3 0).1 (TX3 0).2.1 (TX3 0).2.2.1 ∈ wsX3_takeYounger := by decide +kernel
  have ln15 : Cond.fieldLink RX3 15 (TX3 1).1 (TX3 1).2.1 (TX3 1).2.2.1 ∈ wsX3_takeYounger := by decide +kernel
  have ln18 : Cond.fieldLink RX3 18 (TX3 2).1 (TX3 2).2.1 (TX3 2).2.2.1 ∈ wsX3_takeYounger := by decide +kernel
  have ln21 : Cond.fieldLink RX3 21 (TX3 3).1 (TX3 3).2.1 (TX3 3).2.2.1 ∈ wsX3_takeYounger := by decide +kernel
  have ln24 : Cond.fieldLink RX3 24 (TX3 4).1 (TX3 4).2.1 (TX3 4).2.2.1 ∈ wsX3_takeYounger := by decide +kernel
  have ln39 : Cond.fieldLink RX3 39 (TX3 9).1 (TX3 9).2.1 (TX3 9).2.2.1 ∈ wsX3_takeYounger := by decide +kernel
  have ln46 : Cond.fieldLink RX3 46 (TX3 11).1 (TX3 11).2.1 (TX3 11).2.2.1 ∈ wsX3_takeYounger := by decide +kernel
  refine gStartZ cX3_takeYounger 3 RX3 rfl (by decide) rfl (Nat.le_of_ble_eq_true rfl) ?_
  intro X hl C
  show gG X w σ 0 [(0, .ref (w.2.2.1 t)), (1, .ref (w.2.2.1 3)), (2, .int a1)] []
  unfold fX3_takeYounger at hF
  refine gr_iload_n C 2 dX3_takeYounger_0 rfl rfl ?_
  refine gr_iconst C (v := 5) dX3_takeYounger_1 (by decide) ?_
  refine gr_icmp_ne C 77 dX3_takeYounger_2 (by decide) (fun c1 => ?_) (fun c1 => ?_)
  · rw [if_neg c1] at hF
    refine gr_sub [] [] rfl ?_
    refine gr_iconst C (v := 0) dX3_takeYounger_77 (by decide) ?_
    cases hF
    exact gr_zret C dX3_takeYounger_78 rfl ⟨rfl, rfl⟩
  · rw [if_pos c1] at hF
    refine gr_sub [0, 1] [(0, .ref (w.2.2.1 t)), (1, .ref (w.2.2.1 3))] rfl ?_
    refine gr_aload_n C 0 dX3_takeYounger_5 rfl rfl ?_
    refine gr_getI C t 11 dX3_takeYounger_6 ht.1 rfl inX3 (by decide) ln46 rfl ?_
    refine gr_bipush C (v := 8) dX3_takeYounger_9 (by decide) ?_
    refine gr_icmp_ge C 77 dX3_takeYounger_11 (by decide) (fun c2 => ?_) (fun c2 => ?_)
    · rw [if_pos c2] at hF
      refine gr_sub [] [] rfl ?_
      refine gr_iconst C (v := 0) dX3_takeYounger_77 (by decide) ?_
      cases hF
      exact gr_zret C dX3_takeYounger_78 rfl ⟨rfl, rfl⟩
    · rw [if_neg c2] at hF
      refine gr_aload_n C 1 dX3_takeYounger_14 rfl rfl ?_
      refine gr_iconst C (v := 0) dX3_takeYounger_15 (by decide) ?_
      obtain ⟨h4, x3, ex3, hF⟩ := gRd_e hF
      refine gr_iald C 3 5 dX3_takeYounger_16 (sc_3 hw) h4 ?_
      refine gr_nmI ex3 ?_
      refine gr_iconst C (v := 0) dX3_takeYounger_17 (by decide) ?_
      refine gr_iconst C (v := 3) dX3_takeYounger_18 (by decide) ?_
      obtain ⟨r7, g6, hc5, hF⟩ := gCl_e hF
      refine gr_callNI C (n := 3) (As := [.int x3, .int (0 : Int32), .int (3 : Int32)]) (rest := []) (host := "YoungerMilk") (mX10_outside X.2.1 hw  hc5) gX3_takeYounger_X10_outside_n67 rfl ⟨rfl, rfl⟩ ⟨by decide, by decide⟩ rfl (Nat.le_of_ble_eq_true rfl) rfl (by decide +kernel) (by decide +kernel) (by decide +kernel) (by decide +kernel) dX3_takeYounger_19 ?_
      refine gr_if_ne C 77 dX3_takeYounger_22 (by decide) (fun c8 => ?_) (fun c8 => ?_)
      · rw [if_neg c8] at hF
        refine gr_sub [] [] rfl ?_
        refine gr_iconst C (v := 0) dX3_takeYounger_77 (by decide) ?_
        cases hF
        exact gr_zret C dX3_takeYounger_78 rfl ⟨rfl, rfl⟩
      · rw [if_pos c8] at hF
        refine gr_aload_n C 1 dX3_takeYounger_25 rfl rfl ?_
        refine gr_iconst C (v := 1) dX3_takeYounger_26 (by decide) ?_
        obtain ⟨h10, x9, ex9, hF⟩ := gRd_e hF
        refine gr_iald C 3 5 dX3_takeYounger_27 (sc_3 hw) h10 ?_
        refine gr_nmI ex9 ?_
        refine gr_iconst C (v := 0) dX3_takeYounger_28 (by decide) ?_
        refine gr_aload_n C 0 dX3_takeYounger_29 rfl rfl ?_
        refine gr_getI C t 9 dX3_takeYounger_30 ht.1 rfl inX3 (by decide) ln39 rfl ?_
        refine gr_iconst C (v := 1) dX3_takeYounger_33 (by decide) ?_
        refine gr_isub C dX3_takeYounger_34 ?_
        obtain ⟨r13, g12, hc11, hF⟩ := gCl_e hF
        refine gr_callNI C (n := 3) (As := [.int x9, .int (0 : Int32), .int ((g6 t 9) - (1 : Int32))]) (rest := []) (host := "YoungerMilk") (mX10_outside X.2.1 hw  hc11) gX3_takeYounger_X10_outside_n67 rfl ⟨rfl, rfl⟩ ⟨by decide, by decide⟩ rfl (Nat.le_of_ble_eq_true rfl) rfl (by decide +kernel) (by decide +kernel) (by decide +kernel) (by decide +kernel) dX3_takeYounger_35 ?_
        refine gr_if_ne C 77 dX3_takeYounger_38 (by decide) (fun c14 => ?_) (fun c14 => ?_)
        · rw [if_neg c14] at hF
          refine gr_sub [] [] rfl ?_
          refine gr_iconst C (v := 0) dX3_takeYounger_77 (by decide) ?_
          cases hF
          exact gr_zret C dX3_takeYounger_78 rfl ⟨rfl, rfl⟩
        · rw [if_pos c14] at hF
          refine gr_aload_n C 1 dX3_takeYounger_41 rfl rfl ?_
          refine gr_iconst C (v := 2) dX3_takeYounger_42 (by decide) ?_
          obtain ⟨h16, x15, ex15, hF⟩ := gRd_e hF
          refine gr_iald C 3 5 dX3_takeYounger_43 (sc_3 hw) h16 ?_
          refine gr_nmI ex15 ?_
          refine gr_iconst C (v := 0) dX3_takeYounger_44 (by decide) ?_
          refine gr_bipush C (v := 20) dX3_takeYounger_45 (by decide) ?_
          obtain ⟨r19, g18, hc17, hF⟩ := gCl_e hF
          refine gr_callNI C (n := 3) (As := [.int x15, .int (0 : Int32), .int (20 : Int32)]) (rest := []) (host := "YoungerMilk") (mX10_outside X.2.1 hw  hc17) gX3_takeYounger_X10_outside_n67 rfl ⟨rfl, rfl⟩ ⟨by decide, by decide⟩ rfl (Nat.le_of_ble_eq_true rfl) rfl (by decide +kernel) (by decide +kernel) (by decide +kernel) (by decide +kernel) dX3_takeYounger_47 ?_
          refine gr_if_ne C 77 dX3_takeYounger_50 (by decide) (fun c20 => ?_) (fun c20 => ?_)
          · rw [if_neg c20] at hF
            refine gr_sub [] [] rfl ?_
            refine gr_iconst C (v := 0) dX3_takeYounger_77 (by decide) ?_
            cases hF
            exact gr_zret C dX3_takeYounger_78 rfl ⟨rfl, rfl⟩
          · rw [if_pos c20] at hF
            refine gr_aload_n C 1 dX3_takeYounger_53 rfl rfl ?_
            refine gr_iconst C (v := 3) dX3_takeYounger_54 (by decide) ?_
            obtain ⟨h22, x21, ex21, hF⟩ := gRd_e hF
            refine gr_iald C 3 5 dX3_takeYounger_55 (sc_3 hw) h22 ?_
            refine gr_nmI ex21 ?_
            refine gr_iconst C (v := 1) dX3_takeYounger_56 (by decide) ?_
            refine gr_bipush C (v := 9) dX3_takeYounger_57 (by decide) ?_
            obtain ⟨r25, g24, hc23, hF⟩ := gCl_e hF
            refine gr_callNI C (n := 3) (As := [.int x21, .int (1 : Int32), .int (9 : Int32)]) (rest := []) (host := "YoungerMilk") (mX10_outside X.2.1 hw  hc23) gX3_takeYounger_X10_outside_n67 rfl ⟨rfl, rfl⟩ ⟨by decide, by decide⟩ rfl (Nat.le_of_ble_eq_true rfl) rfl (by decide +kernel) (by decide +kernel) (by decide +kernel) (by decide +kernel) dX3_takeYounger_59 ?_
            refine gr_if_ne C 77 dX3_takeYounger_62 (by decide) (fun c26 => ?_) (fun c26 => ?_)
            · rw [if_neg c26] at hF
              refine gr_sub [] [] rfl ?_
              refine gr_iconst C (v := 0) dX3_takeYounger_77 (by decide) ?_
              cases hF
              exact gr_zret C dX3_takeYounger_78 rfl ⟨rfl, rfl⟩
            · rw [if_pos c26] at hF
              refine gr_aload_n C 1 dX3_takeYounger_65 rfl rfl ?_
              refine gr_iconst C (v := 4) dX3_takeYounger_66 (by decide) ?_
              obtain ⟨h28, x27, ex27, hF⟩ := gRd_e hF
              refine gr_iald C 3 5 dX3_takeYounger_67 (sc_3 hw) h28 ?_
              refine gr_nmI ex27 ?_
              refine gr_iconst C (v := 1) dX3_takeYounger_68 (by decide) ?_
              refine gr_bipush C (v := 20) dX3_takeYounger_69 (by decide) ?_
              obtain ⟨r31, g30, hc29, hF⟩ := gCl_e hF
              refine gr_callNI C (n := 3) (As := [.int x27, .int (1 : Int32), .int (20 : Int32)]) (rest := []) (host := "YoungerMilk") (mX10_outside X.2.1 hw  hc29) gX3_takeYounger_X10_outside_n67 rfl ⟨rfl, rfl⟩ ⟨by decide, by decide⟩ rfl (Nat.le_of_ble_eq_true rfl) rfl (by decide +kernel) (by decide +kernel) (by decide +kernel) (by decide +kernel) dX3_takeYounger_71 ?_
              refine gr_if_eq C 79 dX3_takeYounger_74 (by decide) (fun c32 => ?_) (fun c32 => ?_)
              · rw [if_pos c32] at hF
                refine gr_aload_n C 0 dX3_takeYounger_79 rfl rfl ?_
                refine gr_getR C t 0 (t + 1) dX3_takeYounger_80 ht.1 rfl inX3 (by decide) ln9 rfl ?_
                refine gr_aload_n C 0 dX3_takeYounger_83 rfl rfl ?_
                refine gr_getI C t 11 dX3_takeYounger_84 ht.1 rfl inX3 (by decide) ln46 rfl ?_
                refine gr_aload_n C 1 dX3_takeYounger_87 rfl rfl ?_
                refine gr_iconst C (v := 0) dX3_takeYounger_88 (by decide) ?_
                obtain ⟨h34, x33, ex33, hF⟩ := gRd_e hF
                refine gr_iald C 3 5 dX3_takeYounger_89 (sc_3 hw) h34 ?_
                refine gr_nmI ex33 ?_
                obtain ⟨h35, g36, eg36, hF⟩ := gWr_e hF
                refine gr_iast C (t + 1) 8 dX3_takeYounger_90 ht.2.1 h35 ?_
                refine gr_nmS eg36 ?_
                refine gr_aload_n C 0 dX3_takeYounger_91 rfl rfl ?_
                refine gr_getR C t 1 (t + 2) dX3_takeYounger_92 ht.1 rfl inX3 (by decide) ln15 rfl ?_
                refine gr_aload_n C 0 dX3_takeYounger_95 rfl rfl ?_
                refine gr_getI C t 11 dX3_takeYounger_96 ht.1 rfl inX3 (by decide) ln46 rfl ?_
                refine gr_aload_n C 1 dX3_takeYounger_99 rfl rfl ?_
                refine gr_iconst C (v := 1) dX3_takeYounger_100 (by decide) ?_
                obtain ⟨h38, x37, ex37, hF⟩ := gRd_e hF
                refine gr_iald C 3 5 dX3_takeYounger_101 (sc_3 hw) h38 ?_
                refine gr_nmI ex37 ?_
                obtain ⟨h39, g40, eg40, hF⟩ := gWr_e hF
                refine gr_iast C (t + 2) 8 dX3_takeYounger_102 ht.2.2.1 h39 ?_
                refine gr_nmS eg40 ?_
                refine gr_aload_n C 0 dX3_takeYounger_103 rfl rfl ?_
                refine gr_getR C t 2 (t + 3) dX3_takeYounger_104 ht.1 rfl inX3 (by decide) ln18 rfl ?_
                refine gr_aload_n C 0 dX3_takeYounger_107 rfl rfl ?_
                refine gr_getI C t 11 dX3_takeYounger_108 ht.1 rfl inX3 (by decide) ln46 rfl ?_
                refine gr_aload_n C 1 dX3_takeYounger_111 rfl rfl ?_
                refine gr_iconst C (v := 2) dX3_takeYounger_112 (by decide) ?_
                obtain ⟨h42, x41, ex41, hF⟩ := gRd_e hF
                refine gr_iald C 3 5 dX3_takeYounger_113 (sc_3 hw) h42 ?_
                refine gr_nmI ex41 ?_
                obtain ⟨h43, g44, eg44, hF⟩ := gWr_e hF
                refine gr_iast C (t + 3) 8 dX3_takeYounger_114 ht.2.2.2.1 h43 ?_
                refine gr_nmS eg44 ?_
                refine gr_aload_n C 0 dX3_takeYounger_115 rfl rfl ?_
                refine gr_getR C t 3 (t + 4) dX3_takeYounger_116 ht.1 rfl inX3 (by decide) ln21 rfl ?_
                refine gr_aload_n C 0 dX3_takeYounger_119 rfl rfl ?_
                refine gr_getI C t 11 dX3_takeYounger_120 ht.1 rfl inX3 (by decide) ln46 rfl ?_
                refine gr_aload_n C 1 dX3_takeYounger_123 rfl rfl ?_
                refine gr_iconst C (v := 3) dX3_takeYounger_124 (by decide) ?_
                obtain ⟨h46, x45, ex45, hF⟩ := gRd_e hF
                refine gr_iald C 3 5 dX3_takeYounger_125 (sc_3 hw) h46 ?_
                refine gr_nmI ex45 ?_
                obtain ⟨h47, g48, eg48, hF⟩ := gWr_e hF
                refine gr_iast C (t + 4) 8 dX3_takeYounger_126 ht.2.2.2.2.1 h47 ?_
                refine gr_nmS eg48 ?_
                refine gr_aload_n C 0 dX3_takeYounger_127 rfl rfl ?_
                refine gr_getR C t 4 (t + 5) dX3_takeYounger_128 ht.1 rfl inX3 (by decide) ln24 rfl ?_
                refine gr_aload_n C 0 dX3_takeYounger_131 rfl rfl ?_
                refine gr_getI C t 11 dX3_takeYounger_132 ht.1 rfl inX3 (by decide) ln46 rfl ?_
                refine gr_aload_n C 1 dX3_takeYounger_135 rfl rfl ?_
                refine gr_iconst C (v := 4) dX3_takeYounger_136 (by decide) ?_
                obtain ⟨h50, x49, ex49, hF⟩ := gRd_e hF
                refine gr_iald C 3 5 dX3_takeYounger_137 (sc_3 hw) h50 ?_
                refine gr_nmI ex49 ?_
                obtain ⟨h51, g52, eg52, hF⟩ := gWr_e hF
                refine gr_iast C (t + 5) 8 dX3_takeYounger_138 ht.2.2.2.2.2.1 h51 ?_
                refine gr_nmS eg52 ?_
                refine gr_aload_n C 0 dX3_takeYounger_139 rfl rfl ?_
                refine gr_dup C dX3_takeYounger_140 rfl ?_
                refine gr_getI C t 11 dX3_takeYounger_141 ht.1 rfl inX3 (by decide) ln46 rfl ?_
                refine gr_iconst C (v := 1) dX3_takeYounger_144 (by decide) ?_
                refine gr_iadd C dX3_takeYounger_145 ?_
                obtain ⟨g53, eg53, hF⟩ := gLet_e hF
                refine gr_putI C t 11 dX3_takeYounger_146 ht.1 rfl inX3 (by decide) ln46 rfl tyX3 tyX3_ok nmX3 rfl .int rfl rfl rfl ?_
                refine gr_nmS eg53 ?_
                refine gr_iconst C (v := 1) dX3_takeYounger_149 (by decide) ?_
                cases hF
                exact gr_zret C dX3_takeYounger_150 rfl ⟨rfl, rfl⟩
              · rw [if_neg c32] at hF
                refine gr_sub [] [] rfl ?_
                refine gr_iconst C (v := 0) dX3_takeYounger_77 (by decide) ?_
                cases hF
                exact gr_zret C dX3_takeYounger_78 rfl ⟨rfl, rfl⟩
-- X3_takeSteps: 22 instructions, frames 1, locals 22
set_option maxRecDepth 100000 in
set_option maxHeartbeats 4000000 in
theorem mX3_takeSteps (l : Launch) {w : Wl} (hw : w.2.2.2 = shC) {σ : Sg} {t : Nat} {a1 : Int32} (ht : gPl w t) {r : Int32} {σ' : Sg} (hF : fX3_takeSteps σ t a1 = some (r, σ')) : gMI l w yX3_takeSteps wsX3_takeSteps ({ frames := 1, cells := 0, slots := 0, locals := 22 } : Room) [.ref (w.2.2.1 t), .ref (w.2.2.1 3), .int a1] σ r σ' := by
  have inX3 : ∀ v ∈ u_ws RX3 TX3 13, v ∈ wsX3_takeSteps := by decide +kernel
  have ln39 : Cond.fieldLink RX3 39 (TX3 9).1 (TX3 9).2.1 (TX3 9).2.2.1 ∈ wsX3_takeSteps := by decide +kernel
  have ln49 : Cond.fieldLink RX3 49 (TX3 12).1 (TX3 12).2.1 (TX3 12).2.2.1 ∈ wsX3_takeSteps := by decide +kernel
  refine gStartZ cX3_takeSteps 3 RX3 rfl (by decide) rfl (Nat.le_of_ble_eq_true rfl) ?_
  intro X hl C
  show gG X w σ 0 [(0, .ref (w.2.2.1 t)), (1, .ref (w.2.2.1 3)), (2, .int a1)] []
  unfold fX3_takeSteps at hF
  refine gr_aload_n C 0 dX3_takeSteps_0 rfl rfl ?_
  refine gr_getI C t 12 dX3_takeSteps_1 ht.1 rfl inX3 (by decide) ln49 rfl ?_
  refine gr_if_eq C 24 dX3_takeSteps_4 (by decide) (fun c1 => ?_) (fun c1 => ?_)
  · rw [if_pos c1] at hF
    refine gr_sub [] [] rfl ?_
    refine gr_iconst C (v := 0) dX3_takeSteps_24 (by decide) ?_
    cases hF
    exact gr_zret C dX3_takeSteps_25 rfl ⟨rfl, rfl⟩
  · rw [if_neg c1] at hF
    refine gr_iload_n C 2 dX3_takeSteps_7 rfl rfl ?_
    refine gr_iconst C (v := 1) dX3_takeSteps_8 (by decide) ?_
    refine gr_icmp_ne C 24 dX3_takeSteps_9 (by decide) (fun c2 => ?_) (fun c2 => ?_)
    · rw [if_neg c2] at hF
      refine gr_sub [] [] rfl ?_
      refine gr_iconst C (v := 0) dX3_takeSteps_24 (by decide) ?_
      cases hF
      exact gr_zret C dX3_takeSteps_25 rfl ⟨rfl, rfl⟩
    · rw [if_pos c2] at hF
      refine gr_sub [0, 1] [(0, .ref (w.2.2.1 t)), (1, .ref (w.2.2.1 3))] rfl ?_
      refine gr_aload_n C 1 dX3_takeSteps_12 rfl rfl ?_
      refine gr_iconst C (v := 0) dX3_takeSteps_13 (by decide) ?_
      obtain ⟨h4, x3, ex3, hF⟩ := gRd_e hF
      refine gr_iald C 3 5 dX3_takeSteps_14 (sc_3 hw) h4 ?_
      refine gr_nmI ex3 ?_
      refine gr_iconst C (v := 1) dX3_takeSteps_15 (by decide) ?_
      refine gr_bipush C (v := 9) dX3_takeSteps_16 (by decide) ?_
      obtain ⟨r7, g6, hc5, hF⟩ := gCl_e hF
      refine gr_callNI C (n := 3) (As := [.int x3, .int (1 : Int32), .int (9 : Int32)]) (rest := []) (host := "YoungerMilk") (mX10_outside X.2.1 hw  hc5) gX3_takeSteps_X10_outside_n67 rfl ⟨rfl, rfl⟩ ⟨by decide, by decide⟩ rfl (Nat.le_of_ble_eq_true rfl) rfl (by decide +kernel) (by decide +kernel) (by decide +kernel) (by decide +kernel) dX3_takeSteps_18 ?_
      refine gr_if_eq C 26 dX3_takeSteps_21 (by decide) (fun c8 => ?_) (fun c8 => ?_)
      · rw [if_pos c8] at hF
        refine gr_aload_n C 0 dX3_takeSteps_26 rfl rfl ?_
        refine gr_aload_n C 1 dX3_takeSteps_27 rfl rfl ?_
        refine gr_iconst C (v := 0) dX3_takeSteps_28 (by decide) ?_
        obtain ⟨h10, x9, ex9, hF⟩ := gRd_e hF
        refine gr_iald C 3 5 dX3_takeSteps_29 (sc_3 hw) h10 ?_
        refine gr_nmI ex9 ?_
        obtain ⟨g11, eg11, hF⟩ := gLet_e hF
        refine gr_putI C t 9 dX3_takeSteps_30 ht.1 rfl inX3 (by decide) ln39 rfl tyX3 tyX3_ok nmX3 rfl .int rfl rfl rfl ?_
        refine gr_nmS eg11 ?_
        refine gr_iconst C (v := 1) dX3_takeSteps_33 (by decide) ?_
        cases hF
        exact gr_zret C dX3_takeSteps_34 rfl ⟨rfl, rfl⟩
      · rw [if_neg c8] at hF
        refine gr_sub [] [] rfl ?_
        refine gr_iconst C (v := 0) dX3_takeSteps_24 (by decide) ?_
        cases hF
        exact gr_zret C dX3_takeSteps_25 rfl ⟨rfl, rfl⟩
-- X3_take: 41 instructions, frames 2, locals 46
set_option maxRecDepth 100000 in
set_option maxHeartbeats 4000000 in
theorem mX3_take (l : Launch) {w : Wl} (hw : w.2.2.2 = shC) {σ : Sg} {t : Nat} {a0 : Int32} {a2 : Int32} (ht : gPl w t) {r : Int32} {σ' : Sg} (hF : fX3_take σ t a0 a2 = some (r, σ')) : gMI l w yX3_take wsX3_take ({ frames := 2, cells := 0, slots := 0, locals := 46 } : Room) [.ref (w.2.2.1 t), .int a0, .ref (w.2.2.1 3), .int a2] σ r σ' := by
  have inX3 : ∀ v ∈ u_ws RX3 TX3 13, v ∈ wsX3_take := by decide +kernel
  have ln27 : Cond.fieldLink RX3 27 (TX3 5).1 (TX3 5).2.1 (TX3 5).2.2.1 ∈ wsX3_take := by decide +kernel
  have ln30 : Cond.fieldLink RX3 30 (TX3 6).1 (TX3 6).2.1 (TX3 6).2.2.1 ∈ wsX3_take := by decide +kernel
  have ln49 : Cond.fieldLink RX3 49 (TX3 12).1 (TX3 12).2.1 (TX3 12).2.2.1 ∈ wsX3_take := by decide +kernel
  refine gStartZ cX3_take 4 RX3 rfl (by decide) rfl (Nat.le_of_ble_eq_true rfl) ?_
  intro X hl C
  show gG X w σ 0 [(0, .ref (w.2.2.1 t)), (1, .int a0), (2, .ref (w.2.2.1 3)), (3, .int a2)] []
  unfold fX3_take at hF
  refine gr_iload_n C 1 dX3_take_0 rfl rfl ?_
  refine gr_bipush C (v := 115) dX3_take_1 (by decide) ?_
  refine gr_icmp_ne C 13 dX3_take_3 (by decide) (fun c1 => ?_) (fun c1 => ?_)
  · rw [if_neg c1] at hF
    refine gr_aload_n C 0 dX3_take_13 rfl rfl ?_
    refine gr_iconst C (v := 0) dX3_take_14 (by decide) ?_
    obtain ⟨g2, eg2, hF⟩ := gLet_e hF
    refine gr_putI C t 12 dX3_take_15 ht.1 rfl inX3 (by decide) ln49 rfl tyX3 tyX3_ok nmX3 rfl .boolean rfl rfl rfl ?_
    refine gr_nmS eg2 ?_
    refine gr_iload_n C 1 dX3_take_18 rfl rfl ?_
    by_cases c3 : a0 = (99 : Int32)
    · rw [if_pos c3] at hF
      refine gr_look C (off := 61) 80 dX3_take_19 (by decide) (by rw [c3]; first | done | rfl | decide) (by decide) ?_
      refine gr_sub [0, 2, 3] [(0, .ref (w.2.2.1 t)), (2, .ref (w.2.2.1 3)), (3, .int a2)] rfl ?_
      refine gr_aload_n C 0 dX3_take_80 rfl rfl ?_
      refine gr_aload_n C 0 dX3_take_81 rfl rfl ?_
      refine gr_getR C t 5 (t + 6) dX3_take_82 ht.1 rfl inX3 (by decide) ln27 rfl ?_
      refine gr_aload_n C 1 dX3_take_85 rfl rfl ?_
      refine gr_iload_n C 2 dX3_take_86 rfl rfl ?_
      refine gr_bipush C (v := 40) dX3_take_87 (by decide) ?_
      obtain ⟨r6, g5, hc4, hF⟩ := gCl_e hF
      refine gr_callVI C (n := 4) (As := [.ref (w.2.2.1 (t + 6)), .ref (w.2.2.1 3), .int a2, .int (40 : Int32)]) (rest := []) t (mX3_takeAtStep X.2.1 hw ht ht.2.2.2.2.2.2.1 hc4) gX3_take_X3_takeAtStep rfl ⟨rfl, rfl⟩ ⟨by decide, by decide⟩ rfl (Nat.le_of_ble_eq_true rfl) rfl (by decide +kernel) ht.1 rfl dX3_take_89 ?_
      obtain ⟨h7, hF⟩ := gZ_e hF
      cases hF
      exact gr_zret C dX3_take_92 h7.1 ⟨rfl, rfl⟩
    · rw [if_neg c3] at hF
      by_cases c8 : a0 = (104 : Int32)
      · rw [if_pos c8] at hF
        refine gr_look C (off := 74) 93 dX3_take_19 (by decide) (by rw [c8]; first | done | rfl | decide) (by decide) ?_
        refine gr_sub [0, 2, 3] [(0, .ref (w.2.2.1 t)), (2, .ref (w.2.2.1 3)), (3, .int a2)] rfl ?_
        refine gr_aload_n C 0 dX3_take_93 rfl rfl ?_
        refine gr_aload_n C 1 dX3_take_94 rfl rfl ?_
        refine gr_iload_n C 2 dX3_take_95 rfl rfl ?_
        obtain ⟨r11, g10, hc9, hF⟩ := gCl_e hF
        refine gr_callVI C (n := 2) (As := [.ref (w.2.2.1 3), .int a2]) (rest := []) t (mX3_takeHold X.2.1 hw ht hc9) gX3_take_X3_takeHold rfl ⟨rfl, rfl⟩ ⟨by decide, by decide⟩ rfl (Nat.le_of_ble_eq_true rfl) rfl (by decide +kernel) ht.1 rfl dX3_take_96 ?_
        obtain ⟨h12, hF⟩ := gZ_e hF
        cases hF
        exact gr_zret C dX3_take_99 h12.1 ⟨rfl, rfl⟩
      · rw [if_neg c8] at hF
        by_cases c13 : a0 = (107 : Int32)
        · rw [if_pos c13] at hF
          refine gr_look C (off := 48) 67 dX3_take_19 (by decide) (by rw [c13]; first | done | rfl | decide) (by decide) ?_
          refine gr_sub [0, 2, 3] [(0, .ref (w.2.2.1 t)), (2, .ref (w.2.2.1 3)), (3, .int a2)] rfl ?_
          refine gr_aload_n C 0 dX3_take_67 rfl rfl ?_
          refine gr_aload_n C 0 dX3_take_68 rfl rfl ?_
          refine gr_getR C t 6 (t + 7) dX3_take_69 ht.1 rfl inX3 (by decide) ln30 rfl ?_
          refine gr_aload_n C 1 dX3_take_72 rfl rfl ?_
          refine gr_iload_n C 2 dX3_take_73 rfl rfl ?_
          refine gr_bipush C (v := 9) dX3_take_74 (by decide) ?_
          obtain ⟨r16, g15, hc14, hF⟩ := gCl_e hF
          refine gr_callVI C (n := 4) (As := [.ref (w.2.2.1 (t + 7)), .ref (w.2.2.1 3), .int a2, .int (9 : Int32)]) (rest := []) t (mX3_takeAtStep X.2.1 hw ht ht.2.2.2.2.2.2.2.1 hc14) gX3_take_X3_takeAtStep rfl ⟨rfl, rfl⟩ ⟨by decide, by decide⟩ rfl (Nat.le_of_ble_eq_true rfl) rfl (by decide +kernel) ht.1 rfl dX3_take_76 ?_
          obtain ⟨h17, hF⟩ := gZ_e hF
          cases hF
          exact gr_zret C dX3_take_79 h17.1 ⟨rfl, rfl⟩
        · rw [if_neg c13] at hF
          by_cases c18 : a0 = (121 : Int32)
          · rw [if_pos c18] at hF
            refine gr_look C (off := 41) 60 dX3_take_19 (by decide) (by rw [c18]; first | done | rfl | decide) (by decide) ?_
            refine gr_sub [0, 2, 3] [(0, .ref (w.2.2.1 t)), (2, .ref (w.2.2.1 3)), (3, .int a2)] rfl ?_
            refine gr_aload_n C 0 dX3_take_60 rfl rfl ?_
            refine gr_aload_n C 1 dX3_take_61 rfl rfl ?_
            refine gr_iload_n C 2 dX3_take_62 rfl rfl ?_
            obtain ⟨r21, g20, hc19, hF⟩ := gCl_e hF
            refine gr_callVI C (n := 2) (As := [.ref (w.2.2.1 3), .int a2]) (rest := []) t (mX3_takeYounger X.2.1 hw ht hc19) gX3_take_X3_takeYounger rfl ⟨rfl, rfl⟩ ⟨by decide, by decide⟩ rfl (Nat.le_of_ble_eq_true rfl) rfl (by decide +kernel) ht.1 rfl dX3_take_63 ?_
            obtain ⟨h22, hF⟩ := gZ_e hF
            cases hF
            exact gr_zret C dX3_take_66 h22.1 ⟨rfl, rfl⟩
          · rw [if_neg c18] at hF
            have nc3 := i32_ne c3
            have nc8 := i32_ne c8
            have nc13 := i32_ne c13
            have nc18 := i32_ne c18
            refine gr_look C (off := 81) 100 dX3_take_19 (by decide) (by have nc3 : a0.toInt ≠ 99 := nc3; have nc8 : a0.toInt ≠ 104 := nc8; have nc13 : a0.toInt ≠ 107 := nc13; have nc18 : a0.toInt ≠ 121 := nc18; simp [Op.lookupswitch.offset, nc3, Ne.symm nc3, nc8, Ne.symm nc8, nc13, Ne.symm nc13, nc18, Ne.symm nc18]) (by decide) ?_
            refine gr_sub [] [] rfl ?_
            refine gr_iconst C (v := 0) dX3_take_100 (by decide) ?_
            cases hF
            exact gr_zret C dX3_take_101 rfl ⟨rfl, rfl⟩
  · rw [if_pos c1] at hF
    refine gr_sub [0, 2, 3] [(0, .ref (w.2.2.1 t)), (2, .ref (w.2.2.1 3)), (3, .int a2)] rfl ?_
    refine gr_aload_n C 0 dX3_take_6 rfl rfl ?_
    refine gr_aload_n C 1 dX3_take_7 rfl rfl ?_
    refine gr_iload_n C 2 dX3_take_8 rfl rfl ?_
    obtain ⟨r25, g24, hc23, hF⟩ := gCl_e hF
    refine gr_callVI C (n := 2) (As := [.ref (w.2.2.1 3), .int a2]) (rest := []) t (mX3_takeSteps X.2.1 hw ht hc23) gX3_take_X3_takeSteps rfl ⟨rfl, rfl⟩ ⟨by decide, by decide⟩ rfl (Nat.le_of_ble_eq_true rfl) rfl (by decide +kernel) ht.1 rfl dX3_take_9 ?_
    obtain ⟨h26, hF⟩ := gZ_e hF
    cases hF
    exact gr_zret C dX3_take_12 h26.1 ⟨rfl, rfl⟩
-- X3_drinksBehind: 31 instructions, frames 0, locals 0
set_option maxRecDepth 100000 in
set_option maxHeartbeats 4000000 in
theorem mX3_drinksBehind (l : Launch) {w : Wl} (hw : w.2.2.2 = shC) {σ : Sg} {t : Nat} {a0 : Int32} {a1 : Int32} (ht : gPl w t) {r : Int32} {σ' : Sg} (hF : fX3_drinksBehind σ t a0 a1 = some (r, σ')) : gMI l w yX3_drinksBehind wsX3_drinksBehind ({ frames := 0, cells := 0, slots := 0, locals := 0 } : Room) [.ref (w.2.2.1 t), .int a0, .int a1] σ r σ' := by
  have inX3 : ∀ v ∈ u_ws RX3 TX3 13, v ∈ wsX3_drinksBehind := by decide +kernel
  have ln15 : Cond.fieldLink RX3 15 (TX3 1).1 (TX3 1).2.1 (TX3 1).2.2.1 ∈ wsX3_drinksBehind := by decide +kernel
  have ln18 : Cond.fieldLink RX3 18 (TX3 2).1 (TX3 2).2.1 (TX3 2).2.2.1 ∈ wsX3_drinksBehind := by decide +kernel
  refine gStartZ cX3_drinksBehind 3 RX3 rfl (by decide) rfl (Nat.le_of_ble_eq_true rfl) ?_
  intro X hl C
  show gG X w σ 0 [(0, .ref (w.2.2.1 t)), (1, .int a0), (2, .int a1)] []
  unfold fX3_drinksBehind at hF
  refine gr_aload_n C 0 dX3_drinksBehind_0 rfl rfl ?_
  refine gr_getR C t 1 (t + 2) dX3_drinksBehind_1 ht.1 rfl inX3 (by decide) ln15 rfl ?_
  refine gr_iload_n C 1 dX3_drinksBehind_4 rfl rfl ?_
  obtain ⟨h2, x1, ex1, hF⟩ := gRd_e hF
  refine gr_iald C (t + 2) 8 dX3_drinksBehind_5 ht.2.2.1 h2 ?_
  refine gr_nmI ex1 ?_
  refine gr_aload_n C 0 dX3_drinksBehind_6 rfl rfl ?_
  refine gr_getR C t 1 (t + 2) dX3_drinksBehind_7 ht.1 rfl inX3 (by decide) ln15 rfl ?_
  refine gr_iload_n C 2 dX3_drinksBehind_10 rfl rfl ?_
  obtain ⟨h4, x3, ex3, hF⟩ := gRd_e hF
  refine gr_iald C (t + 2) 8 dX3_drinksBehind_11 ht.2.2.1 h4 ?_
  refine gr_nmI ex3 ?_
  obtain ⟨K5, eK5, hF⟩ := gLet_e hF
  have JK5 : ∀  (g6 : Sg), K5  g6 = some (r, σ') → gG X w g6 45 [] [] := by
    intro g6 hF
    rw [eK5] at hF
    try dsimp only at hF
    refine gr_iconst C (v := 1) dX3_drinksBehind_45 (by decide) ?_
    refine gr_goto C 50 dX3_drinksBehind_46 (by decide) ?_
    cases hF
    exact gr_zret C dX3_drinksBehind_50 rfl ⟨rfl, rfl⟩
  refine gr_icmp_gt C 45 dX3_drinksBehind_12 (by decide) (fun c7 => ?_) (fun c7 => ?_)
  · rw [if_pos c7] at hF
    refine gr_sub [] [] rfl ?_
    exact JK5  σ hF
  · rw [if_neg c7] at hF
    refine gr_aload_n C 0 dX3_drinksBehind_15 rfl rfl ?_
    refine gr_getR C t 1 (t + 2) dX3_drinksBehind_16 ht.1 rfl inX3 (by decide) ln15 rfl ?_
    refine gr_iload_n C 1 dX3_drinksBehind_19 rfl rfl ?_
    obtain ⟨h9, x8, ex8, hF⟩ := gRd_e hF
    refine gr_iald C (t + 2) 8 dX3_drinksBehind_20 ht.2.2.1 h9 ?_
    refine gr_nmI ex8 ?_
    refine gr_aload_n C 0 dX3_drinksBehind_21 rfl rfl ?_
    refine gr_getR C t 1 (t + 2) dX3_drinksBehind_22 ht.1 rfl inX3 (by decide) ln15 rfl ?_
    refine gr_iload_n C 2 dX3_drinksBehind_25 rfl rfl ?_
    obtain ⟨h11, x10, ex10, hF⟩ := gRd_e hF
    refine gr_iald C (t + 2) 8 dX3_drinksBehind_26 ht.2.2.1 h11 ?_
    refine gr_nmI ex10 ?_
    refine gr_icmp_ne C 49 dX3_drinksBehind_27 (by decide) (fun c12 => ?_) (fun c12 => ?_)
    · rw [if_neg c12] at hF
      refine gr_sub [] [] rfl ?_
      refine gr_iconst C (v := 0) dX3_drinksBehind_49 (by decide) ?_
      cases hF
      exact gr_zret C dX3_drinksBehind_50 rfl ⟨rfl, rfl⟩
    · rw [if_pos c12] at hF
      refine gr_aload_n C 0 dX3_drinksBehind_30 rfl rfl ?_
      refine gr_getR C t 2 (t + 3) dX3_drinksBehind_31 ht.1 rfl inX3 (by decide) ln18 rfl ?_
      refine gr_iload_n C 1 dX3_drinksBehind_34 rfl rfl ?_
      obtain ⟨h14, x13, ex13, hF⟩ := gRd_e hF
      refine gr_iald C (t + 3) 8 dX3_drinksBehind_35 ht.2.2.2.1 h14 ?_
      refine gr_nmI ex13 ?_
      refine gr_aload_n C 0 dX3_drinksBehind_36 rfl rfl ?_
      refine gr_getR C t 2 (t + 3) dX3_drinksBehind_37 ht.1 rfl inX3 (by decide) ln18 rfl ?_
      refine gr_iload_n C 2 dX3_drinksBehind_40 rfl rfl ?_
      obtain ⟨h16, x15, ex15, hF⟩ := gRd_e hF
      refine gr_iald C (t + 3) 8 dX3_drinksBehind_41 ht.2.2.2.1 h16 ?_
      refine gr_nmI ex15 ?_
      refine gr_icmp_le C 49 dX3_drinksBehind_42 (by decide) (fun c17 => ?_) (fun c17 => ?_)
      · rw [if_pos c17] at hF
        refine gr_sub [] [] rfl ?_
        refine gr_iconst C (v := 0) dX3_drinksBehind_49 (by decide) ?_
        cases hF
        exact gr_zret C dX3_drinksBehind_50 rfl ⟨rfl, rfl⟩
      · rw [if_neg c17] at hF
        refine gr_sub [] [] rfl ?_
        exact JK5  σ hF
