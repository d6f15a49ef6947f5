-- X2_goBy: 30 instructions, frames 3, locals 79
set_option maxRecDepth 100000 in
set_option maxHeartbeats 4000000 in
theorem mX2_goBy (l : Launch) {w : Wl} (hw : w.2.2.2 = shC) {σ : Sg} {s0 : Nat} (hs0 : gSt w s0) {r : Int32} {σ' : Sg} (hF : fX2_goBy σ s0 = some (r, σ')) : gMI l w yX2_goBy wsX2_goBy ({ frames := 3, cells := 0, slots := 0, locals := 79 } : Room) [.ref (w.2.2.1 72), .ref (w.2.2.1 s0)] σ r σ' := by
  have inX2 : ∀ v ∈ u_ws RX2 TX2 2, v ∈ wsX2_goBy := by decide +kernel
  have inX3 : ∀ v ∈ u_ws RX3 TX3 13, v ∈ wsX2_goBy := by decide +kernel
  have inX9 : ∀ v ∈ u_ws RX9 TX9 5, v ∈ wsX2_goBy := by decide +kernel
  have ln15 : Cond.fieldLink RX2 15 (TX2 0).1 (TX2 0).2.1 (TX2 0).2.2.1 ∈ wsX2_goBy := by decide +kernel
  have ln54 : Cond.fieldLink RX2 54 (TX9 0).1 (TX9 0).2.1 (TX9 0).2.2.1 ∈ wsX2_goBy := by decide +kernel
  have ln77 : Cond.fieldLink RX2 77 (TX3 9).1 (TX3 9).2.1 (TX3 9).2.2.1 ∈ wsX2_goBy := by decide +kernel
  have ln84 : Cond.fieldLink RX2 84 (TX9 4).1 (TX9 4).2.1 (TX9 4).2.2.1 ∈ wsX2_goBy := by decide +kernel
  refine gStartI cX2_goBy 4 RX2 rfl (by decide) rfl (Nat.le_of_ble_eq_true rfl) ?_
  intro X hl C
  show gG X w σ 0 [(0, .ref (w.2.2.1 72)), (1, .ref (w.2.2.1 s0))] []
  unfold fX2_goBy at hF
  refine gr_iconst C (v := 0) dX2_goBy_0 (by decide) ?_
  refine gr_istore_n C [(2, .int (0 : Int32)), (0, .ref (w.2.2.1 72)), (1, .ref (w.2.2.1 s0))] dX2_goBy_1 rfl (by decide) rfl ?_
  refine gr_iconst C (v := 0) dX2_goBy_2 (by decide) ?_
  refine gr_istore_n C [(3, .int (0 : Int32)), (2, .int (0 : Int32)), (0, .ref (w.2.2.1 72)), (1, .ref (w.2.2.1 s0))] dX2_goBy_3 rfl (by decide) rfl ?_
  refine gr_sub [2, 3, 1, 0] [(0, .ref (w.2.2.1 72)), (1, .ref (w.2.2.1 s0)), (2, .int (0 : Int32)), (3, .int (0 : Int32))] rfl ?_
  have L13 : ∀ (n : Nat) (x2 : Int32) (x3 : Int32) (g4 : Sg) (K1 : Int32 → Sg → Option (Int32 × Sg)), (∀ (x14 : Int32) (g15 : Sg), K1 x14 g15 = some (r, σ') → gG X w g15 36 [(1, .ref (w.2.2.1 s0)), (2, .int x14)] []) → fX2_goBy_4 s0 n x2 x3 g4 K1 = some (r, σ') → gG X w g4 4 [(0, .ref (w.2.2.1 72)), (1, .ref (w.2.2.1 s0)), (2, .int x2), (3, .int x3)] [] := by
    intro n
    induction n with
    | zero =>
      intro x2 x3 g4 K1 hK1 hF
      rw [fX2_goBy_4] at hF
      cases hF
    | succ n ih =>
      intro x2 x3 g4 K1 hK1 hF
      rw [fX2_goBy_4] at hF
      refine gr_iload_n C 3 dX2_goBy_4 rfl rfl ?_
      refine gr_aload_n C 0 dX2_goBy_5 rfl rfl ?_
      refine gr_getR C 72 0 4 dX2_goBy_6 (sc_72 hw) rfl inX2 (by decide) ln15 rfl ?_
      refine gr_getI C 4 9 dX2_goBy_9 (sc_4 hw) rfl inX3 (by decide) ln77 rfl ?_
      refine gr_icmp_ge C 36 dX2_goBy_12 (by decide) (fun c5 => ?_) (fun c5 => ?_)
      · rw [if_pos c5] at hF
        refine gr_sub [1, 2] [(1, .ref (w.2.2.1 s0)), (2, .int x2)] rfl ?_
        exact hK1 x2 g4 hF
      · rw [if_neg c5] at hF
        refine gr_iload_n C 2 dX2_goBy_15 rfl rfl ?_
        refine gr_aload_n C 0 dX2_goBy_16 rfl rfl ?_
        refine gr_aload_n C 1 dX2_goBy_17 rfl rfl ?_
        refine gr_iload_n C 3 dX2_goBy_18 rfl rfl ?_
        refine gr_aload_n C 1 dX2_goBy_19 rfl rfl ?_
        refine gr_getR C s0 0 (s0 + 1) dX2_goBy_20 hs0.1 rfl inX9 (by decide) ln54 rfl ?_
        refine gr_iload_n C 3 dX2_goBy_23 rfl rfl ?_
        obtain ⟨h7, x6, ex6, hF⟩ := gRd_e hF
        refine gr_iald C (s0 + 1) 9 dX2_goBy_24 hs0.2.1 h7 ?_
        refine gr_nmI ex6 ?_
        obtain ⟨r10, g9, hc8, hF⟩ := gCl_e hF
        refine gr_callVI C (n := 3) (As := [.ref (w.2.2.1 s0), .int x3, .int x6]) (rest := [.int x2]) 72 (mX2_goByAt X.2.1 hw hs0 hc8) gX2_goBy_X2_goByAt rfl ⟨rfl, rfl⟩ ⟨by decide, by decide⟩ rfl (Nat.le_of_ble_eq_true rfl) rfl (by decide +kernel) (sc_72 hw) rfl dX2_goBy_25 ?_
        refine gr_iadd C dX2_goBy_28 ?_
        obtain ⟨x11, ex11, hF⟩ := gLet_e hF
        refine gr_nmI ex11 ?_
        refine gr_istore_n C [(2, .int x11), (0, .ref (w.2.2.1 72)), (1, .ref (w.2.2.1 s0)), (3, .int x3)] dX2_goBy_29 rfl (by decide) rfl ?_
        obtain ⟨x12, ex12, hF⟩ := gLet_e hF
        refine gr_iinc C (v := x12) 3 [(3, .int x12), (2, .int x11), (0, .ref (w.2.2.1 72)), (1, .ref (w.2.2.1 s0))] dX2_goBy_30 rfl (by rw [ex12]; rfl) (by decide) rfl ?_
        refine gr_goto C 4 dX2_goBy_33 (by decide) ?_
        refine gr_sub [2, 3, 1, 0] [(0, .ref (w.2.2.1 72)), (1, .ref (w.2.2.1 s0)), (2, .int x11), (3, .int x12)] rfl ?_
        exact ih x11 x12 g9 K1 hK1 hF
  refine L13 _ (0 : Int32) (0 : Int32) σ _ ?_ hF
  intro x16 g17 hF
  try dsimp only at hF
  refine gr_aload_n C 0 dX2_goBy_36 rfl rfl ?_
  refine gr_dup C dX2_goBy_37 rfl ?_
  refine gr_getI C s0 4 dX2_goBy_38 hs0.1 rfl inX9 (by decide) ln84 rfl ?_
  refine gr_iconst C (v := 1) dX2_goBy_41 (by decide) ?_
  refine gr_iadd C dX2_goBy_42 ?_
  obtain ⟨g18, eg18, hF⟩ := gLet_e hF
  refine gr_putI C s0 4 dX2_goBy_43 hs0.1 rfl inX9 (by decide) ln84 rfl tyX9 tyX9_ok nmX9 rfl .int rfl rfl rfl ?_
  refine gr_nmS eg18 ?_
  refine gr_iload_n C 1 dX2_goBy_46 rfl rfl ?_
  cases hF
  exact gr_iret C dX2_goBy_47 ⟨rfl, rfl⟩
-- X10_pass: 29 instructions, frames 4, locals 102
set_option maxRecDepth 100000 in
set_option maxHeartbeats 4000000 in
theorem mX10_pass (l : Launch) {w : Wl} (hw : w.2.2.2 = shC) {σ : Sg} {a0 : Int32}  {r : Int32} {σ' : Sg} (hF : fX10_pass σ a0 = some (r, σ')) : gMI l w yX10_pass wsX10_pass ({ frames := 4, cells := 0, slots := 0, locals := 102 } : Room) [.ref (w.2.2.1 0), .int a0] σ r σ' := by
  have inX10 : ∀ v ∈ u_ws RX10 TX10 12, v ∈ wsX10_pass := by decide +kernel
  have inX9 : ∀ v ∈ u_ws RX9 TX9 5, v ∈ wsX10_pass := by decide +kernel
  have ln29 : Cond.fieldLink RX10 29 (TX10 3).1 (TX10 3).2.1 (TX10 3).2.2.1 ∈ wsX10_pass := by decide +kernel
  have ln38 : Cond.fieldLink RX10 38 (TX10 4).1 (TX10 4).2.1 (TX10 4).2.2.1 ∈ wsX10_pass := by decide +kernel
  have ln50 : Cond.fieldLink RX10 50 (TX10 6).1 (TX10 6).2.1 (TX10 6).2.2.1 ∈ wsX10_pass := by decide +kernel
  have ln176 : Cond.fieldLink RX10 176 (TX9 4).1 (TX9 4).2.1 (TX9 4).2.2.1 ∈ wsX10_pass := by decide +kernel
  refine gStartI cX10_pass 3 RX10 rfl (by decide) rfl (Nat.le_of_ble_eq_true rfl) ?_
  intro X hl C
  show gG X w σ 0 [(0, .ref (w.2.2.1 0)), (1, .int a0)] []
  unfold fX10_pass at hF
  refine gr_iload_n C 1 dX10_pass_0 rfl rfl ?_
  refine gr_iconst C (v := 1) dX10_pass_1 (by decide) ?_
  refine gr_bipush C (v := 20) dX10_pass_2 (by decide) ?_
  obtain ⟨r3, g2, hc1, hF⟩ := gCl_e hF
  refine gr_callSI C (n := 3) (As := [.int a0, .int (1 : Int32), .int (20 : Int32)]) (rest := []) (mX10_outside X.2.1 hw  hc1) gX10_pass_X10_outside rfl ⟨rfl, rfl⟩ ⟨by decide, by decide⟩ rfl (Nat.le_of_ble_eq_true rfl) rfl (by decide +kernel) dX10_pass_4 ?_
  refine gr_if_eq C 12 dX10_pass_7 (by decide) (fun c4 => ?_) (fun c4 => ?_)
  · rw [if_pos c4] at hF
    refine gr_aload_n C 0 dX10_pass_12 rfl rfl ?_
    refine gr_getR C 0 4 28 dX10_pass_13 (sc_0 hw) rfl inX10 (by decide) ln38 rfl ?_
    refine gr_aload_n C 0 dX10_pass_16 rfl rfl ?_
    refine gr_getR C 0 3 24 dX10_pass_17 (sc_0 hw) rfl inX10 (by decide) ln29 rfl ?_
    obtain ⟨g6, hc5, hF⟩ := gCv_e hF
    refine gr_callVV C (n := 1) (As := [.ref (w.2.2.1 24)]) (rest := []) 28 (mX7_push X.2.1 hw (sh_28 hw) hc5) gX10_pass_X7_push rfl ⟨rfl, rfl⟩ ⟨by decide, by decide⟩ rfl (Nat.le_of_ble_eq_true rfl) rfl (by decide +kernel) (sc_28 hw) rfl dX10_pass_20 ?_
    refine gr_iconst C (v := 0) dX10_pass_23 (by decide) ?_
    refine gr_istore_n C [(2, .int (0 : Int32)), (0, .ref (w.2.2.1 0)), (1, .int a0)] dX10_pass_24 rfl (by decide) rfl ?_
    refine gr_sub [1, 2, 0] [(0, .ref (w.2.2.1 0)), (1, .int a0), (2, .int (0 : Int32))] rfl ?_
    have L14 : ∀ (n : Nat) (x7 : Int32) (g8 : Sg) , fX10_pass_25 a0 n x7 g8  = some (r, σ') → gG X w g8 25 [(0, .ref (w.2.2.1 0)), (1, .int a0), (2, .int x7)] [] := by
      intro n
      induction n with
      | zero =>
        intro x7 g8 hF
        rw [fX10_pass_25] at hF
        cases hF
      | succ n ih =>
        intro x7 g8 hF
        rw [fX10_pass_25] at hF
        refine gr_iload_n C 2 dX10_pass_25 rfl rfl ?_
        refine gr_iload_n C 1 dX10_pass_26 rfl rfl ?_
        refine gr_icmp_ge C 48 dX10_pass_27 (by decide) (fun c9 => ?_) (fun c9 => ?_)
        · rw [if_pos c9] at hF
          refine gr_sub [0] [(0, .ref (w.2.2.1 0))] rfl ?_
          refine gr_aload_n C 0 dX10_pass_48 rfl rfl ?_
          refine gr_sub [] [] rfl ?_
          refine gr_getR C 0 3 24 dX10_pass_49 (sc_0 hw) rfl inX10 (by decide) ln29 rfl ?_
          refine gr_getI C 24 4 dX10_pass_52 (sc_24 hw) rfl inX9 (by decide) ln176 rfl ?_
          cases hF
          exact gr_iret C dX10_pass_55 ⟨rfl, rfl⟩
        · rw [if_neg c9] at hF
          refine gr_aload_n C 0 dX10_pass_30 rfl rfl ?_
          refine gr_getR C 0 6 72 dX10_pass_31 (sc_0 hw) rfl inX10 (by decide) ln50 rfl ?_
          refine gr_aload_n C 0 dX10_pass_34 rfl rfl ?_
          refine gr_getR C 0 3 24 dX10_pass_35 (sc_0 hw) rfl inX10 (by decide) ln29 rfl ?_
          obtain ⟨r12, g11, hc10, hF⟩ := gCl_e hF
          refine gr_callVI C (n := 1) (As := [.ref (w.2.2.1 24)]) (rest := []) 72 (mX2_goBy X.2.1 hw (st_24 hw) hc10) gX10_pass_X2_goBy rfl ⟨rfl, rfl⟩ ⟨by decide, by decide⟩ rfl (Nat.le_of_ble_eq_true rfl) rfl (by decide +kernel) (sc_72 hw) rfl dX10_pass_38 ?_
          refine gr_pop C dX10_pass_41 rfl ?_
          obtain ⟨x13, ex13, hF⟩ := gLet_e hF
          refine gr_iinc C (v := x13) 2 [(2, .int x13), (0, .ref (w.2.2.1 0)), (1, .int a0)] dX10_pass_42 rfl (by rw [ex13]; rfl) (by decide) rfl ?_
          refine gr_goto C 25 dX10_pass_45 (by decide) ?_
          refine gr_sub [1, 2, 0] [(0, .ref (w.2.2.1 0)), (1, .int a0), (2, .int x13)] rfl ?_
          exact ih x13 g11   hF
    refine L14 _ (0 : Int32) g6   hF
  · rw [if_neg c4] at hF
    refine gr_sub [] [] rfl ?_
    refine gr_iconst C (v := -1) dX10_pass_10 (by decide) ?_
    cases hF
    exact gr_iret C dX10_pass_11 ⟨rfl, rfl⟩
-- X10_put: 30 instructions, frames 2, locals 45
set_option maxRecDepth 100000 in
set_option maxHeartbeats 4000000 in
theorem mX10_put (l : Launch) {w : Wl} (hw : w.2.2.2 = shC) {σ : Sg} {a0 : Int32} {a1 : Int32}  {r : Int32} {σ' : Sg} (hF : fX10_put σ a0 a1 = some (r, σ')) : gMI l w yX10_put wsX10_put ({ frames := 2, cells := 0, slots := 0, locals := 45 } : Room) [.ref (w.2.2.1 0), .int a0, .int a1] σ r σ' := by
  have inX10 : ∀ v ∈ u_ws RX10 TX10 12, v ∈ wsX10_put := by decide +kernel
  have inX9 : ∀ v ∈ u_ws RX9 TX9 5, v ∈ wsX10_put := by decide +kernel
  have ln29 : Cond.fieldLink RX10 29 (TX10 3).1 (TX10 3).2.1 (TX10 3).2.2.1 ∈ wsX10_put := by decide +kernel
  have ln38 : Cond.fieldLink RX10 38 (TX10 4).1 (TX10 4).2.1 (TX10 4).2.2.1 ∈ wsX10_put := by decide +kernel
  have ln130 : Cond.fieldLink RX10 130 (TX9 0).1 (TX9 0).2.1 (TX9 0).2.2.1 ∈ wsX10_put := by decide +kernel
  refine gStartI cX10_put 4 RX10 rfl (by decide) rfl (Nat.le_of_ble_eq_true rfl) ?_
  intro X hl C
  show gG X w σ 0 [(0, .ref (w.2.2.1 0)), (1, .int a0), (2, .int a1)] []
  unfold fX10_put at hF
  refine gr_aload_n C 0 dX10_put_0 rfl rfl ?_
  refine gr_iload_n C 1 dX10_put_1 rfl rfl ?_
  obtain ⟨r3, g2, hc1, hF⟩ := gCl_e hF
  refine gr_callVI C (n := 1) (As := [.int a0]) (rest := []) 0 (mX10_noStep X.2.1 hw  hc1) gX10_put_X10_noStep rfl ⟨rfl, rfl⟩ ⟨by decide, by decide⟩ rfl (Nat.le_of_ble_eq_true rfl) rfl (by decide +kernel) (sc_0 hw) rfl dX10_put_2 ?_
  refine gr_if_ne C 18 dX10_put_5 (by decide) (fun c4 => ?_) (fun c4 => ?_)
  · rw [if_neg c4] at hF
    refine gr_sub [] [] rfl ?_
    refine gr_iconst C (v := -1) dX10_put_18 (by decide) ?_
    cases hF
    exact gr_iret C dX10_put_19 ⟨rfl, rfl⟩
  · rw [if_pos c4] at hF
    refine gr_iload_n C 2 dX10_put_8 rfl rfl ?_
    refine gr_iconst C (v := 0) dX10_put_9 (by decide) ?_
    refine gr_bipush C (v := 40) dX10_put_10 (by decide) ?_
    obtain ⟨r7, g6, hc5, hF⟩ := gCl_e hF
    refine gr_callSI C (n := 3) (As := [.int a1, .int (0 : Int32), .int (40 : Int32)]) (rest := []) (mX10_outside X.2.1 hw  hc5) gX10_put_X10_outside rfl ⟨rfl, rfl⟩ ⟨by decide, by decide⟩ rfl (Nat.le_of_ble_eq_true rfl) rfl (by decide +kernel) dX10_put_12 ?_
    refine gr_if_eq C 20 dX10_put_15 (by decide) (fun c8 => ?_) (fun c8 => ?_)
    · rw [if_pos c8] at hF
      refine gr_aload_n C 0 dX10_put_20 rfl rfl ?_
      refine gr_getR C 0 4 28 dX10_put_21 (sc_0 hw) rfl inX10 (by decide) ln38 rfl ?_
      refine gr_aload_n C 0 dX10_put_24 rfl rfl ?_
      refine gr_getR C 0 3 24 dX10_put_25 (sc_0 hw) rfl inX10 (by decide) ln29 rfl ?_
      obtain ⟨g10, hc9, hF⟩ := gCv_e hF
      refine gr_callVV C (n := 1) (As := [.ref (w.2.2.1 24)]) (rest := []) 28 (mX7_push X.2.1 hw (sh_28 hw) hc9) gX10_put_X7_push rfl ⟨rfl, rfl⟩ ⟨by decide, by decide⟩ rfl (Nat.le_of_ble_eq_true rfl) rfl (by decide +kernel) (sc_28 hw) rfl dX10_put_28 ?_
      refine gr_aload_n C 0 dX10_put_31 rfl rfl ?_
      refine gr_getR C 0 3 24 dX10_put_32 (sc_0 hw) rfl inX10 (by decide) ln29 rfl ?_
      refine gr_getR C 24 0 25 dX10_put_35 (sc_24 hw) rfl inX9 (by decide) ln130 rfl ?_
      refine gr_iload_n C 1 dX10_put_38 rfl rfl ?_
      obtain ⟨h12, x11, ex11, hF⟩ := gRd_e hF
      refine gr_iald C 25 9 dX10_put_39 (sc_25 hw) h12 ?_
      refine gr_nmI ex11 ?_
      refine gr_istore_n C [(3, .int x11), (0, .ref (w.2.2.1 0)), (1, .int a0), (2, .int a1)] dX10_put_40 rfl (by decide) rfl ?_
      refine gr_aload_n C 1 dX10_put_41 rfl rfl ?_
      refine gr_getR C 0 3 24 dX10_put_42 (sc_0 hw) rfl inX10 (by decide) ln29 rfl ?_
      refine gr_getR C 24 0 25 dX10_put_45 (sc_24 hw) rfl inX9 (by decide) ln130 rfl ?_
      refine gr_iload_n C 2 dX10_put_48 rfl rfl ?_
      refine gr_iload_n C 3 dX10_put_49 rfl rfl ?_
      obtain ⟨h13, g14, eg14, hF⟩ := gWr_e hF
      refine gr_iast C 25 9 dX10_put_50 (sc_25 hw) h13 ?_
      refine gr_nmS eg14 ?_
      refine gr_iload_n C 0 dX10_put_51 rfl rfl ?_
      cases hF
      exact gr_iret C dX10_put_52 ⟨rfl, rfl⟩
    · rw [if_neg c8] at hF
      refine gr_sub [] [] rfl ?_
      refine gr_iconst C (v := -1) dX10_put_18 (by decide) ?_
      cases hF
      exact gr_iret C dX10_put_19 ⟨rfl, rfl⟩
-- X9_turn: 9 instructions, frames 0, locals 0
set_option maxRecDepth 100000 in
set_option maxHeartbeats 4000000 in
theorem mX9_turn (l : Launch) {w : Wl} (hw : w.2.2.2 = shC) {σ : Sg} {t : Nat} {a0 : Int32} (ht : gSt w t) {σ' : Sg} (hF : fX9_turn σ t a0 = some σ') : gMV l w yX9_turn wsX9_turn ({ frames := 0, cells := 0, slots := 0, locals := 0 } : Room) [.ref (w.2.2.1 t), .int a0] σ σ' := by
  have inX9 : ∀ v ∈ u_ws RX9 TX9 5, v ∈ wsX9_turn := by decide +kernel
  have ln30 : Cond.fieldLink RX9 30 (TX9 3).1 (TX9 3).2.1 (TX9 3).2.2.1 ∈ wsX9_turn := by decide +kernel
  refine gStartV cX9_turn 2 RX9 rfl (by decide) rfl (Nat.le_of_ble_eq_true rfl) ?_
  intro X hl C
  show gG X w σ 0 [(0, .ref (w.2.2.1 t)), (1, .int a0)] []
  unfold fX9_turn at hF
  refine gr_aload_n C 0 dX9_turn_0 rfl rfl ?_
  refine gr_dup C dX9_turn_1 rfl ?_
  refine gr_getI C t 3 dX9_turn_2 ht.1 rfl inX9 (by decide) ln30 rfl ?_
  refine gr_iconst C (v := 1) dX9_turn_5 (by decide) ?_
  refine gr_iload_n C 1 dX9_turn_6 rfl rfl ?_
  refine gr_ishl C dX9_turn_7 ?_
  refine gr_ixor C dX9_turn_8 ?_
  obtain ⟨g1, eg1, hF⟩ := gLet_e hF
  refine gr_putI C t 3 dX9_turn_9 ht.1 rfl inX9 (by decide) ln30 rfl tyX9 tyX9_ok nmX9 rfl .int rfl rfl rfl ?_
  refine gr_nmS eg1 ?_
  cases hF
  exact gr_vret C dX9_turn_12 ⟨rfl, rfl⟩
-- X10_quarrel: 44 instructions, frames 2, locals 45
set_option maxRecDepth 100000 in
set_option maxHeartbeats 4000000 in
theorem mX10_quarrel (l : Launch) {w : Wl} (hw : w.2.2.2 = shC) {σ : Sg} {a0 : Int32} {a1 : Int32}  {r : Int32} {σ' : Sg} (hF : fX10_quarrel σ a0 a1 = some (r, σ')) : gMI l w yX10_quarrel wsX10_quarrel ({ frames := 2, cells := 0, slots := 0, locals := 45 } : Room) [.ref (w.2.2.1 0), .int a0, .int a1] σ r σ' := by
  have inX10 : ∀ v ∈ u_ws RX10 TX10 12, v ∈ wsX10_quarrel := by decide +kernel
  have inX9 : ∀ v ∈ u_ws RX9 TX9 5, v ∈ wsX10_quarrel := by decide +kernel
  have ln29 : Cond.fieldLink RX10 29 (TX10 3).1 (TX10 3).2.1 (TX10 3).2.2.1 ∈ wsX10_quarrel := by decide +kernel
  have ln38 : Cond.fieldLink RX10 38 (TX10 4).1 (TX10 4).2.1 (TX10 4).2.2.1 ∈ wsX10_quarrel := by decide +kernel
  have ln159 : Cond.fieldLink RX10 159 (TX9 2).1 (TX9 2).2.1 (TX9 2).2.2.1 ∈ wsX10_quarrel := by decide +kernel
  have ln182 : Cond.fieldLink RX10 182 (TX9 3).1 (TX9 3).2.1 (TX9 3).2.2.1 ∈ wsX10_quarrel := by decide +kernel
  refine gStartI cX10_quarrel 3 RX10 rfl (by decide) rfl (Nat.le_of_ble_eq_true rfl) ?_
  intro X hl C
  show gG X w σ 0 [(0, .ref (w.2.2.1 0)), (1, .int a0), (2, .int a1)] []
  unfold fX10_quarrel at hF
  refine gr_aload_n C 0 dX10_quarrel_0 rfl rfl ?_
  refine gr_iload_n C 1 dX10_quarrel_1 rfl rfl ?_
  obtain ⟨r3, g2, hc1, hF⟩ := gCl_e hF
  refine gr_callVI C (n := 1) (As := [.int a0]) (rest := []) 0 (mX10_noYounger X.2.1 hw  hc1) gX10_quarrel_X10_noYounger rfl ⟨rfl, rfl⟩ ⟨by decide, by decide⟩ rfl (Nat.le_of_ble_eq_true rfl) rfl (by decide +kernel) (sc_0 hw) rfl dX10_quarrel_2 ?_
  refine gr_if_ne C 17 dX10_quarrel_5 (by decide) (fun c4 => ?_) (fun c4 => ?_)
  · rw [if_neg c4] at hF
    refine gr_sub [] [] rfl ?_
    refine gr_iconst C (v := -1) dX10_quarrel_17 (by decide) ?_
    cases hF
    exact gr_iret C dX10_quarrel_18 ⟨rfl, rfl⟩
  · rw [if_pos c4] at hF
    refine gr_iload_n C 2 dX10_quarrel_8 rfl rfl ?_
    refine gr_iconst C (v := 0) dX10_quarrel_9 (by decide) ?_
    refine gr_iconst C (v := 1) dX10_quarrel_10 (by decide) ?_
    obtain ⟨r7, g6, hc5, hF⟩ := gCl_e hF
    refine gr_callSI C (n := 3) (As := [.int a1, .int (0 : Int32), .int (1 : Int32)]) (rest := []) (mX10_outside X.2.1 hw  hc5) gX10_quarrel_X10_outside rfl ⟨rfl, rfl⟩ ⟨by decide, by decide⟩ rfl (Nat.le_of_ble_eq_true rfl) rfl (by decide +kernel) dX10_quarrel_11 ?_
    refine gr_if_eq C 19 dX10_quarrel_14 (by decide) (fun c8 => ?_) (fun c8 => ?_)
    · rw [if_pos c8] at hF
      refine gr_aload_n C 0 dX10_quarrel_19 rfl rfl ?_
      refine gr_getR C 0 3 24 dX10_quarrel_20 (sc_0 hw) rfl inX10 (by decide) ln29 rfl ?_
      refine gr_iload_n C 1 dX10_quarrel_23 rfl rfl ?_
      obtain ⟨r11, g10, hc9, hF⟩ := gCl_e hF
      refine gr_callVI C (n := 1) (As := [.int a0]) (rest := []) 24 (mX9_hasQuarrelled X.2.1 hw (st_24 hw) hc9) gX10_quarrel_X9_hasQuarrelled rfl ⟨rfl, rfl⟩ ⟨by decide, by decide⟩ rfl (Nat.le_of_ble_eq_true rfl) rfl (by decide +kernel) (sc_24 hw) rfl dX10_quarrel_24 ?_
      refine gr_iload_n C 2 dX10_quarrel_27 rfl rfl ?_
      refine gr_iconst C (v := 1) dX10_quarrel_28 (by decide) ?_
      obtain ⟨K12, eK12, hF⟩ := gLet_e hF
      have JK12 : ∀ (x13 : Int32) (g14 : Sg), K12 x13 g14 = some (r, σ') → gG X w g14 37 [(0, .ref (w.2.2.1 0)), (1, .int a0)] [.int x13, .int r11] := by
        intro x13 g14 hF
        rw [eK12] at hF
        try dsimp only at hF
        refine gr_icmp_eq C 52 dX10_quarrel_37 (by decide) (fun c15 => ?_) (fun c15 => ?_)
        · rw [if_pos c15] at hF
          refine gr_sub [] [] rfl ?_
          refine gr_bipush C (v := -2) dX10_quarrel_52 (by decide) ?_
          cases hF
          exact gr_iret C dX10_quarrel_54 ⟨rfl, rfl⟩
        · rw [if_neg c15] at hF
          refine gr_aload_n C 0 dX10_quarrel_40 rfl rfl ?_
          refine gr_getR C 0 3 24 dX10_quarrel_41 (sc_0 hw) rfl inX10 (by decide) ln29 rfl ?_
          refine gr_getR C 24 2 27 dX10_quarrel_44 (sc_24 hw) rfl inX9 (by decide) ln159 rfl ?_
          refine gr_iload_n C 1 dX10_quarrel_47 rfl rfl ?_
          obtain ⟨h17, x16, ex16, hF⟩ := gRd_e hF
          refine gr_iald C 27 8 dX10_quarrel_48 (sc_27 hw) h17 ?_
          refine gr_nmI ex16 ?_
          refine gr_if_ne C 55 dX10_quarrel_49 (by decide) (fun c18 => ?_) (fun c18 => ?_)
          · rw [if_neg c18] at hF
            refine gr_aload_n C 0 dX10_quarrel_55 rfl rfl ?_
            refine gr_getR C 0 4 28 dX10_quarrel_56 (sc_0 hw) rfl inX10 (by decide) ln38 rfl ?_
            refine gr_aload_n C 0 dX10_quarrel_59 rfl rfl ?_
            refine gr_getR C 0 3 24 dX10_quarrel_60 (sc_0 hw) rfl inX10 (by decide) ln29 rfl ?_
            obtain ⟨g20, hc19, hF⟩ := gCv_e hF
            refine gr_callVV C (n := 1) (As := [.ref (w.2.2.1 24)]) (rest := []) 28 (mX7_push X.2.1 hw (sh_28 hw) hc19) gX10_quarrel_X7_push rfl ⟨rfl, rfl⟩ ⟨by decide, by decide⟩ rfl (Nat.le_of_ble_eq_true rfl) rfl (by decide +kernel) (sc_28 hw) rfl dX10_quarrel_63 ?_
            refine gr_aload_n C 0 dX10_quarrel_66 rfl rfl ?_
            refine gr_getR C 0 3 24 dX10_quarrel_67 (sc_0 hw) rfl inX10 (by decide) ln29 rfl ?_
            refine gr_iload_n C 1 dX10_quarrel_70 rfl rfl ?_
            obtain ⟨g22, hc21, hF⟩ := gCv_e hF
            refine gr_callVV C (n := 1) (As := [.int a0]) (rest := []) 24 (mX9_turn X.2.1 hw (st_24 hw) hc21) gX10_quarrel_X9_turn rfl ⟨rfl, rfl⟩ ⟨by decide, by decide⟩ rfl (Nat.le_of_ble_eq_true rfl) rfl (by decide +kernel) (sc_24 hw) rfl dX10_quarrel_71 ?_
            refine gr_aload_n C 0 dX10_quarrel_74 rfl rfl ?_
            refine gr_getR C 0 3 24 dX10_quarrel_75 (sc_0 hw) rfl inX10 (by decide) ln29 rfl ?_
            refine gr_getI C 24 3 dX10_quarrel_78 (sc_24 hw) rfl inX9 (by decide) ln182 rfl ?_
            obtain ⟨r25, g24, hc23, hF⟩ := gCl_e hF
            refine gr_callSI C (n := 1) (As := [.int (g22 24 3)]) (rest := []) (mJ6_bitCount_0f7a4 X.2.1 hw  hc23) gX10_quarrel_J6_bitCount_0f7a4 rfl ⟨rfl, rfl⟩ ⟨by decide, by decide⟩ rfl (Nat.le_of_ble_eq_true rfl) rfl (by decide +kernel) dX10_quarrel_81 ?_
            cases hF
            exact gr_iret C dX10_quarrel_84 ⟨rfl, rfl⟩
          · rw [if_pos c18] at hF
            refine gr_sub [] [] rfl ?_
            refine gr_bipush C (v := -2) dX10_quarrel_52 (by decide) ?_
            cases hF
            exact gr_iret C dX10_quarrel_54 ⟨rfl, rfl⟩
      refine gr_icmp_ne C 36 dX10_quarrel_29 (by decide) (fun c26 => ?_) (fun c26 => ?_)
      · rw [if_neg c26] at hF
        refine gr_sub [0, 1] [(0, .ref (w.2.2.1 0)), (1, .int a0)] rfl ?_
        refine gr_iconst C (v := 0) dX10_quarrel_36 (by decide) ?_
        exact JK12 (0 : Int32) g10 hF
      · rw [if_pos c26] at hF
        refine gr_sub [0, 1] [(0, .ref (w.2.2.1 0)), (1, .int a0)] rfl ?_
        refine gr_iconst C (v := 1) dX10_quarrel_32 (by decide) ?_
        refine gr_goto C 37 dX10_quarrel_33 (by decide) ?_
        exact JK12 (1 : Int32) g10 hF
    · rw [if_neg c8] at hF
      refine gr_sub [] [] rfl ?_
      refine gr_iconst C (v := -1) dX10_quarrel_17 (by decide) ?_
      cases hF
      exact gr_iret C dX10_quarrel_18 ⟨rfl, rfl⟩
-- X10_cats: 30 instructions, frames 2, locals 45
set_option maxRecDepth 100000 in
set_option maxHeartbeats 4000000 in
theorem mX10_cats (l : Launch) {w : Wl} (hw : w.2.2.2 = shC) {σ : Sg} {a0 : Int32} {a1 : Int32}  {r : Int32} {σ' : Sg} (hF : fX10_cats σ a0 a1 = some (r, σ')) : gMI l w yX10_cats wsX10_cats ({ frames := 2, cells := 0, slots := 0, locals := 45 } : Room) [.ref (w.2.2.1 0), .int a0, .int a1] σ r σ' := by
  have inX10 : ∀ v ∈ u_ws RX10 TX10 12, v ∈ wsX10_cats := by decide +kernel
  have inX9 : ∀ v ∈ u_ws RX9 TX9 5, v ∈ wsX10_cats := by decide +kernel
  have ln29 : Cond.fieldLink RX10 29 (TX10 3).1 (TX10 3).2.1 (TX10 3).2.2.1 ∈ wsX10_cats := by decide +kernel
  have ln38 : Cond.fieldLink RX10 38 (TX10 4).1 (TX10 4).2.1 (TX10 4).2.2.1 ∈ wsX10_cats := by decide +kernel
  have ln134 : Cond.fieldLink RX10 134 (TX9 1).1 (TX9 1).2.1 (TX9 1).2.2.1 ∈ wsX10_cats := by decide +kernel
  refine gStartI cX10_cats 4 RX10 rfl (by decide) rfl (Nat.le_of_ble_eq_true rfl) ?_
  intro X hl C
  show gG X w σ 0 [(0, .ref (w.2.2.1 0)), (1, .int a0), (2, .int a1)] []
  unfold fX10_cats at hF
  refine gr_aload_n C 0 dX10_cats_0 rfl rfl ?_
  refine gr_iload_n C 1 dX10_cats_1 rfl rfl ?_
  obtain ⟨r3, g2, hc1, hF⟩ := gCl_e hF
  refine gr_callVI C (n := 1) (As := [.int a0]) (rest := []) 0 (mX10_noStep X.2.1 hw  hc1) gX10_cats_X10_noStep rfl ⟨rfl, rfl⟩ ⟨by decide, by decide⟩ rfl (Nat.le_of_ble_eq_true rfl) rfl (by decide +kernel) (sc_0 hw) rfl dX10_cats_2 ?_
  refine gr_if_ne C 18 dX10_cats_5 (by decide) (fun c4 => ?_) (fun c4 => ?_)
  · rw [if_neg c4] at hF
    refine gr_sub [] [] rfl ?_
    refine gr_iconst C (v := -1) dX10_cats_18 (by decide) ?_
    cases hF
    exact gr_iret C dX10_cats_19 ⟨rfl, rfl⟩
  · rw [if_pos c4] at hF
    refine gr_iload_n C 2 dX10_cats_8 rfl rfl ?_
    refine gr_iconst C (v := 0) dX10_cats_9 (by decide) ?_
    refine gr_bipush C (v := 9) dX10_cats_10 (by decide) ?_
    obtain ⟨r7, g6, hc5, hF⟩ := gCl_e hF
    refine gr_callSI C (n := 3) (As := [.int a1, .int (0 : Int32), .int (9 : Int32)]) (rest := []) (mX10_outside X.2.1 hw  hc5) gX10_cats_X10_outside rfl ⟨rfl, rfl⟩ ⟨by decide, by decide⟩ rfl (Nat.le_of_ble_eq_true rfl) rfl (by decide +kernel) dX10_cats_12 ?_
    refine gr_if_eq C 20 dX10_cats_15 (by decide) (fun c8 => ?_) (fun c8 => ?_)
    · rw [if_pos c8] at hF
      refine gr_aload_n C 0 dX10_cats_20 rfl rfl ?_
      refine gr_getR C 0 4 28 dX10_cats_21 (sc_0 hw) rfl inX10 (by decide) ln38 rfl ?_
      refine gr_aload_n C 0 dX10_cats_24 rfl rfl ?_
      refine gr_getR C 0 3 24 dX10_cats_25 (sc_0 hw) rfl inX10 (by decide) ln29 rfl ?_
      obtain ⟨g10, hc9, hF⟩ := gCv_e hF
      refine gr_callVV C (n := 1) (As := [.ref (w.2.2.1 24)]) (rest := []) 28 (mX7_push X.2.1 hw (sh_28 hw) hc9) gX10_cats_X7_push rfl ⟨rfl, rfl⟩ ⟨by decide, by decide⟩ rfl (Nat.le_of_ble_eq_true rfl) rfl (by decide +kernel) (sc_28 hw) rfl dX10_cats_28 ?_
      refine gr_aload_n C 0 dX10_cats_31 rfl rfl ?_
      refine gr_getR C 0 3 24 dX10_cats_32 (sc_0 hw) rfl inX10 (by decide) ln29 rfl ?_
      refine gr_getR C 24 1 26 dX10_cats_35 (sc_24 hw) rfl inX9 (by decide) ln134 rfl ?_
      refine gr_iload_n C 1 dX10_cats_38 rfl rfl ?_
      obtain ⟨h12, x11, ex11, hF⟩ := gRd_e hF
      refine gr_iald C 26 9 dX10_cats_39 (sc_26 hw) h12 ?_
      refine gr_nmI ex11 ?_
      refine gr_istore_n C [(3, .int x11), (0, .ref (w.2.2.1 0)), (1, .int a0), (2, .int a1)] dX10_cats_40 rfl (by decide) rfl ?_
      refine gr_aload_n C 1 dX10_cats_41 rfl rfl ?_
      refine gr_getR C 0 3 24 dX10_cats_42 (sc_0 hw) rfl inX10 (by decide) ln29 rfl ?_
      refine gr_getR C 24 1 26 dX10_cats_45 (sc_24 hw) rfl inX9 (by decide) ln134 rfl ?_
      refine gr_iload_n C 2 dX10_cats_48 rfl rfl ?_
      refine gr_iload_n C 3 dX10_cats_49 rfl rfl ?_
      obtain ⟨h13, g14, eg14, hF⟩ := gWr_e hF
      refine gr_iast C 26 9 dX10_cats_50 (sc_26 hw) h13 ?_
      refine gr_nmS eg14 ?_
      refine gr_iload_n C 0 dX10_cats_51 rfl rfl ?_
      cases hF
      exact gr_iret C dX10_cats_52 ⟨rfl, rfl⟩
    · rw [if_neg c8] at hF
      refine gr_sub [] [] rfl ?_
      refine gr_iconst C (v := -1) dX10_cats_18 (by decide) ?_
      cases hF
      exact gr_iret C dX10_cats_19 ⟨rfl, rfl⟩
-- X7_popInto: 40 instructions, frames 1, locals 22
set_option maxRecDepth 100000 in
set_option maxHeartbeats 4000000 in
theorem mX7_popInto (l : Launch) {w : Wl} (hw : w.2.2.2 = shC) {σ : Sg} {t : Nat} {nt : Nat} {bt : Nat} (ht : gSh w t nt bt) {σ' : Sg} (hF : fX7_popInto σ t nt bt = some σ') : gMV l w yX7_popInto wsX7_popInto ({ frames := 1, cells := 0, slots := 0, locals := 22 } : Room) [.ref (w.2.2.1 t), .ref (w.2.2.1 24)] σ σ' := by
  have inX7 : ∀ v ∈ u_ws RX7 TX7 3, v ∈ wsX7_popInto := by decide +kernel
  have ln9 : Cond.fieldLink RX7 9 (TX7 0).1 (TX7 0).2.1 (TX7 0).2.2.1 ∈ wsX7_popInto := by decide +kernel
  have ln16 : Cond.fieldLink RX7 16 (TX7 2).1 (TX7 2).2.1 (TX7 2).2.2.1 ∈ wsX7_popInto := by decide +kernel
  have ln20 : Cond.fieldLink RX7 20 (TX7 1).1 (TX7 1).2.1 (TX7 1).2.2.1 ∈ wsX7_popInto := by decide +kernel
  refine gStartV cX7_popInto 3 RX7 rfl (by decide) rfl (Nat.le_of_ble_eq_true rfl) ?_
  intro X hl C
  show gG X w σ 0 [(0, .ref (w.2.2.1 t)), (1, .ref (w.2.2.1 24))] []
  unfold fX7_popInto at hF
  refine gr_aload_n C 0 dX7_popInto_0 rfl rfl ?_
  refine gr_getI C t 1 dX7_popInto_1 ht.1 rfl inX7 (by decide) ln20 rfl ?_
  obtain ⟨K1, eK1, hF⟩ := gLet_e hF
  have JK1 : ∀ (x2 : Int32) (g3 : Sg), K1 x2 g3 = some σ' → gG X w g3 23 [(0, .ref (w.2.2.1 t)), (1, .ref (w.2.2.1 24))] [.int x2] := by
    intro x2 g3 hF
    rw [eK1] at hF
    try dsimp only at hF
    refine gr_istore_n C [(2, .int x2), (0, .ref (w.2.2.1 t)), (1, .ref (w.2.2.1 24))] dX7_popInto_23 rfl (by decide) rfl ?_
    refine gr_aload_n C 1 dX7_popInto_24 rfl rfl ?_
    refine gr_getI C t 2 dX7_popInto_25 ht.1 rfl inX7 (by decide) ln16 rfl ?_
    refine gr_if_le C 69 dX7_popInto_28 (by decide) (fun c4 => ?_) (fun c4 => ?_)
    · rw [if_pos c4] at hF
      refine gr_sub [] [] rfl ?_
      cases hF
      exact gr_vret C dX7_popInto_69 ⟨rfl, rfl⟩
    · rw [if_neg c4] at hF
      refine gr_sub [1, 2, 0] [(0, .ref (w.2.2.1 t)), (1, .ref (w.2.2.1 24)), (2, .int x2)] rfl ?_
      refine gr_iload_n C 2 dX7_popInto_31 rfl rfl ?_
      refine gr_if_lt C 69 dX7_popInto_32 (by decide) (fun c5 => ?_) (fun c5 => ?_)
      · rw [if_pos c5] at hF
        refine gr_sub [] [] rfl ?_
        cases hF
        exact gr_vret C dX7_popInto_69 ⟨rfl, rfl⟩
      · rw [if_neg c5] at hF
        refine gr_iload_n C 2 dX7_popInto_35 rfl rfl ?_
        refine gr_aload_n C 0 dX7_popInto_36 rfl rfl ?_
        refine gr_getR C t 0 (t + 1) dX7_popInto_37 ht.1 rfl inX7 (by decide) ln9 rfl ?_
        refine gr_alenS C (t + 1) nt bt 4 dX7_popInto_40 ht.2.1 rfl ?_
        refine gr_icmp_ge C 69 dX7_popInto_41 (by decide) (fun c6 => ?_) (fun c6 => ?_)
        · rw [if_pos c6] at hF
          refine gr_sub [] [] rfl ?_
          cases hF
          exact gr_vret C dX7_popInto_69 ⟨rfl, rfl⟩
        · rw [if_neg c6] at hF
          refine gr_aload_n C 1 dX7_popInto_44 rfl rfl ?_
          refine gr_aload_n C 0 dX7_popInto_45 rfl rfl ?_
          refine gr_getR C t 0 (t + 1) dX7_popInto_46 ht.1 rfl inX7 (by decide) ln9 rfl ?_
          refine gr_iload_n C 2 dX7_popInto_49 rfl rfl ?_
          obtain ⟨h8, j7, ej7, h9, hF⟩ := gIx_e hF
          refine gr_aldS C (t + 1) nt bt 4 dX7_popInto_50 ht.2.1 h8 ?_
          refine gr_nmR (show (bt + 4 * j7) = _ by rw [ej7]) ?_
          have hs10 : gSt w (bt + 4 * j7) := ht.2.2 j7 h9
          obtain ⟨g12, hc11, hF⟩ := gCv_e hF
          refine gr_callVV C (n := 1) (As := [.ref (w.2.2.1 (bt + 4 * j7))]) (rest := []) 24 (mX9_become X.2.1 hw (st_24 hw) hs10 hc11) gX7_popInto_X9_become rfl ⟨rfl, rfl⟩ ⟨by decide, by decide⟩ rfl (Nat.le_of_ble_eq_true rfl) rfl (by decide +kernel) (sc_24 hw) rfl dX7_popInto_51 ?_
          refine gr_aload_n C 0 dX7_popInto_54 rfl rfl ?_
          refine gr_iload_n C 2 dX7_popInto_55 rfl rfl ?_
          obtain ⟨g13, eg13, hF⟩ := gLet_e hF
          refine gr_putI C t 1 dX7_popInto_56 ht.1 rfl inX7 (by decide) ln20 rfl tyX7 tyX7_ok nmX7 rfl .int rfl rfl rfl ?_
          refine gr_nmS eg13 ?_
          refine gr_aload_n C 0 dX7_popInto_59 rfl rfl ?_
          refine gr_dup C dX7_popInto_60 rfl ?_
          refine gr_getI C t 2 dX7_popInto_61 ht.1 rfl inX7 (by decide) ln16 rfl ?_
          refine gr_iconst C (v := 1) dX7_popInto_64 (by decide) ?_
          refine gr_isub C dX7_popInto_65 ?_
          obtain ⟨g14, eg14, hF⟩ := gLet_e hF
          refine gr_putI C t 2 dX7_popInto_66 ht.1 rfl inX7 (by decide) ln16 rfl tyX7 tyX7_ok nmX7 rfl .int rfl rfl rfl ?_
          refine gr_nmS eg14 ?_
          cases hF
          exact gr_vret C dX7_popInto_69 ⟨rfl, rfl⟩
  refine gr_if_ne C 17 dX7_popInto_4 (by decide) (fun c15 => ?_) (fun c15 => ?_)
  · rw [if_neg c15] at hF
    refine gr_aload_n C 0 dX7_popInto_17 rfl rfl ?_
    refine gr_getI C t 1 dX7_popInto_18 ht.1 rfl inX7 (by decide) ln20 rfl ?_
    refine gr_iconst C (v := 1) dX7_popInto_21 (by decide) ?_
    refine gr_isub C dX7_popInto_22 ?_
    exact JK1 ((σ t 1) - (1 : Int32)) σ hF
  · rw [if_pos c15] at hF
    refine gr_aload_n C 0 dX7_popInto_7 rfl rfl ?_
    refine gr_getR C t 0 (t + 1) dX7_popInto_8 ht.1 rfl inX7 (by decide) ln9 rfl ?_
    refine gr_alenS C (t + 1) nt bt 4 dX7_popInto_11 ht.2.1 rfl ?_
    refine gr_iconst C (v := 1) dX7_popInto_12 (by decide) ?_
    refine gr_isub C dX7_popInto_13 ?_
    refine gr_goto C 23 dX7_popInto_14 (by decide) ?_
    exact JK1 ((Int32.ofNat nt) - (1 : Int32)) σ hF
-- X10_undo: 15 instructions, frames 2, locals 44
set_option maxRecDepth 100000 in
set_option maxHeartbeats 4000000 in
theorem mX10_undo (l : Launch) {w : Wl} (hw : w.2.2.2 = shC) {σ : Sg}   {r : Int32} {σ' : Sg} (hF : fX10_undo σ  = some (r, σ')) : gMI l w yX10_undo wsX10_undo ({ frames := 2, cells := 0, slots := 0, locals := 44 } : Room) [.ref (w.2.2.1 0)] σ r σ' := by
  have inX10 : ∀ v ∈ u_ws RX10 TX10 12, v ∈ wsX10_undo := by decide +kernel
  have inX7 : ∀ v ∈ u_ws RX7 TX7 3, v ∈ wsX10_undo := by decide +kernel
  have ln29 : Cond.fieldLink RX10 29 (TX10 3).1 (TX10 3).2.1 (TX10 3).2.2.1 ∈ wsX10_undo := by decide +kernel
  have ln38 : Cond.fieldLink RX10 38 (TX10 4).1 (TX10 4).2.1 (TX10 4).2.2.1 ∈ wsX10_undo := by decide +kernel
  have ln191 : Cond.fieldLink RX10 191 (TX7 2).1 (TX7 2).2.1 (TX7 2).2.2.1 ∈ wsX10_undo := by decide +kernel
  refine gStartI cX10_undo 1 RX10 rfl (by decide) rfl (Nat.le_of_ble_eq_true rfl) ?_
  intro X hl C
  show gG X w σ 0 [(0, .ref (w.2.2.1 0))] []
  unfold fX10_undo at hF
  refine gr_aload_n C 0 dX10_undo_0 rfl rfl ?_
  refine gr_getR C 0 4 28 dX10_undo_1 (sc_0 hw) rfl inX10 (by decide) ln38 rfl ?_
  refine gr_getI C 28 2 dX10_undo_4 (sc_28 hw) rfl inX7 (by decide) ln191 rfl ?_
  refine gr_if_ne C 13 dX10_undo_7 (by decide) (fun c1 => ?_) (fun c1 => ?_)
  · rw [if_neg c1] at hF
    refine gr_aload_n C 0 dX10_undo_13 rfl rfl ?_
    refine gr_getR C 0 4 28 dX10_undo_14 (sc_0 hw) rfl inX10 (by decide) ln38 rfl ?_
    refine gr_aload_n C 0 dX10_undo_17 rfl rfl ?_
    refine gr_getR C 0 3 24 dX10_undo_18 (sc_0 hw) rfl inX10 (by decide) ln29 rfl ?_
    obtain ⟨g3, hc2, hF⟩ := gCv_e hF
    refine gr_callVV C (n := 1) (As := [.ref (w.2.2.1 24)]) (rest := []) 28 (mX7_popInto X.2.1 hw (sh_28 hw) hc2) gX10_undo_X7_popInto rfl ⟨rfl, rfl⟩ ⟨by decide, by decide⟩ rfl (Nat.le_of_ble_eq_true rfl) rfl (by decide +kernel) (sc_28 hw) rfl dX10_undo_21 ?_
    refine gr_aload_n C 0 dX10_undo_24 rfl rfl ?_
    refine gr_getR C 0 4 28 dX10_undo_25 (sc_0 hw) rfl inX10 (by decide) ln38 rfl ?_
    refine gr_getI C 28 2 dX10_undo_28 (sc_28 hw) rfl inX7 (by decide) ln191 rfl ?_
    cases hF
    exact gr_iret C dX10_undo_31 ⟨rfl, rfl⟩
  · rw [if_pos c1] at hF
    refine gr_sub [] [] rfl ?_
    refine gr_bipush C (v := -2) dX10_undo_10 (by decide) ?_
    cases hF
    exact gr_iret C dX10_undo_12 ⟨rfl, rfl⟩
-- X1_goByAt: 20 instructions, frames 3, locals 79
set_option maxRecDepth 100000 in
set_option maxHeartbeats 4000000 in
theorem mX1_goByAt (l : Launch) {w : Wl} (hw : w.2.2.2 = shC) {σ : Sg} {a0 : Int32} {a1 : Int32}  {σ' : Sg} (hF : fX1_goByAt σ a0 a1 = some σ') : gMV l w yX1_goByAt wsX1_goByAt ({ frames := 3, cells := 0, slots := 0, locals := 79 } : Room) [.ref (w.2.2.1 77), .int a0, .int a1] σ σ' := by
  have inX1 : ∀ v ∈ u_ws RX1 TX1 3, v ∈ wsX1_goByAt := by decide +kernel
  have inX9 : ∀ v ∈ u_ws RX9 TX9 5, v ∈ wsX1_goByAt := by decide +kernel
  have ln12 : Cond.fieldLink RX1 12 (TX1 2).1 (TX1 2).2.1 (TX1 2).2.2.1 ∈ wsX1_goByAt := by decide +kernel
  have ln22 : Cond.fieldLink RX1 22 (TX1 1).1 (TX1 1).2.1 (TX1 1).2.2.1 ∈ wsX1_goByAt := by decide +kernel
  have ln26 : Cond.fieldLink RX1 26 (TX9 0).1 (TX9 0).2.1 (TX9 0).2.2.1 ∈ wsX1_goByAt := by decide +kernel
  refine gStartV cX1_goByAt 4 RX1 rfl (by decide) rfl (Nat.le_of_ble_eq_true rfl) ?_
  intro X hl C
  show gG X w σ 0 [(0, .ref (w.2.2.1 77)), (1, .int a0), (2, .int a1)] []
  unfold fX1_goByAt at hF
  refine gr_iconst C (v := 0) dX1_goByAt_0 (by decide) ?_
  refine gr_istore_n C [(3, .int (0 : Int32)), (0, .ref (w.2.2.1 77)), (1, .int a0), (2, .int a1)] dX1_goByAt_1 rfl (by decide) rfl ?_
  refine gr_sub [1, 2, 3, 0] [(0, .ref (w.2.2.1 77)), (1, .int a0), (2, .int a1), (3, .int (0 : Int32))] rfl ?_
  have L10 : ∀ (n : Nat) (x1 : Int32) (g2 : Sg) , fX1_goByAt_2 a0 a1 n x1 g2  = some σ' → gG X w g2 2 [(0, .ref (w.2.2.1 77)), (1, .int a0), (2, .int a1), (3, .int x1)] [] := by
    intro n
    induction n with
    | zero =>
      intro x1 g2 hF
      rw [fX1_goByAt_2] at hF
      cases hF
    | succ n ih =>
      intro x1 g2 hF
      rw [fX1_goByAt_2] at hF
      refine gr_iload_n C 3 dX1_goByAt_2 rfl rfl ?_
      refine gr_iload_n C 2 dX1_goByAt_3 rfl rfl ?_
      refine gr_icmp_ge C 35 dX1_goByAt_4 (by decide) (fun c3 => ?_) (fun c3 => ?_)
      · rw [if_pos c3] at hF
        refine gr_sub [] [] rfl ?_
        cases hF
        exact gr_vret C dX1_goByAt_35 ⟨rfl, rfl⟩
      · rw [if_neg c3] at hF
        refine gr_aload_n C 0 dX1_goByAt_7 rfl rfl ?_
        refine gr_getR C 77 1 72 dX1_goByAt_8 (sc_77 hw) rfl inX1 (by decide) ln22 rfl ?_
        refine gr_aload_n C 0 dX1_goByAt_11 rfl rfl ?_
        refine gr_getR C 77 2 78 dX1_goByAt_12 (sc_77 hw) rfl inX1 (by decide) ln12 rfl ?_
        refine gr_iload_n C 1 dX1_goByAt_15 rfl rfl ?_
        refine gr_aload_n C 0 dX1_goByAt_16 rfl rfl ?_
        refine gr_getR C 77 2 78 dX1_goByAt_17 (sc_77 hw) rfl inX1 (by decide) ln12 rfl ?_
        refine gr_getR C 78 0 79 dX1_goByAt_20 (sc_78 hw) rfl inX9 (by decide) ln26 rfl ?_
        refine gr_iload_n C 1 dX1_goByAt_23 rfl rfl ?_
        obtain ⟨h5, x4, ex4, hF⟩ := gRd_e hF
        refine gr_iald C 79 9 dX1_goByAt_24 (sc_79 hw) h5 ?_
        refine gr_nmI ex4 ?_
        obtain ⟨r8, g7, hc6, hF⟩ := gCl_e hF
        refine gr_callVI C (n := 3) (As := [.ref (w.2.2.1 78), .int a0, .int x4]) (rest := []) 72 (mX2_goByAt X.2.1 hw (st_78 hw) hc6) gX1_goByAt_X2_goByAt rfl ⟨rfl, rfl⟩ ⟨by decide, by decide⟩ rfl (Nat.le_of_ble_eq_true rfl) rfl (by decide +kernel) (sc_72 hw) rfl dX1_goByAt_25 ?_
        refine gr_pop C dX1_goByAt_28 rfl ?_
        obtain ⟨x9, ex9, hF⟩ := gLet_e hF
        refine gr_iinc C (v := x9) 3 [(3, .int x9), (0, .ref (w.2.2.1 77)), (1, .int a0), (2, .int a1)] dX1_goByAt_29 rfl (by rw [ex9]; rfl) (by decide) rfl ?_
        refine gr_goto C 2 dX1_goByAt_32 (by decide) ?_
        refine gr_sub [1, 2, 3, 0] [(0, .ref (w.2.2.1 77)), (1, .int a0), (2, .int a1), (3, .int x9)] rfl ?_
        exact ih x9 g7   hF
  refine L10 _ (0 : Int32) σ   hF
-- X1_wellBehindFrom: 24 instructions, frames 4, locals 102
set_option maxRecDepth 100000 in
set_option maxHeartbeats 4000000 in
theorem mX1_wellBehindFrom (l : Launch) {w : Wl} (hw : w.2.2.2 = shC) {σ : Sg} {a1 : Int32} {a2 : Int32} {a3 : Int32}  {r : Int32} {σ' : Sg} (hF : fX1_wellBehindFrom σ a1 a2 a3 = some (r, σ')) : gMI l w yX1_wellBehindFrom wsX1_wellBehindFrom ({ frames := 4, cells := 0, slots := 0, locals := 102 } : Room) [.ref (w.2.2.1 77), .ref (w.2.2.1 24), .int a1, .int a2, .int a3] σ r σ' := by
  have inX1 : ∀ v ∈ u_ws RX1 TX1 3, v ∈ wsX1_wellBehindFrom := by decide +kernel
  have inX3 : ∀ v ∈ u_ws RX3 TX3 13, v ∈ wsX1_wellBehindFrom := by decide +kernel
  have inX9 : ∀ v ∈ u_ws RX9 TX9 5, v ∈ wsX1_wellBehindFrom := by decide +kernel
  have ln12 : Cond.fieldLink RX1 12 (TX1 2).1 (TX1 2).2.1 (TX1 2).2.2.1 ∈ wsX1_wellBehindFrom := by decide +kernel
  have ln18 : Cond.fieldLink RX1 18 (TX1 0).1 (TX1 0).2.1 (TX1 0).2.2.1 ∈ wsX1_wellBehindFrom := by decide +kernel
  have ln36 : Cond.fieldLink RX1 36 (TX9 2).1 (TX9 2).2.1 (TX9 2).2.2.1 ∈ wsX1_wellBehindFrom := by decide +kernel
  have ln47 : Cond.fieldLink RX1 47 (TX3 1).1 (TX3 1).2.1 (TX3 1).2.2.1 ∈ wsX1_wellBehindFrom := by decide +kernel
  refine gStartI cX1_wellBehindFrom 5 RX1 rfl (by decide) rfl (Nat.le_of_ble_eq_true rfl) ?_
  intro X hl C
  show gG X w σ 0 [(0, .ref (w.2.2.1 77)), (1, .ref (w.2.2.1 24)), (2, .int a1), (3, .int a2), (4, .int a3)] []
  unfold fX1_wellBehindFrom at hF
  refine gr_aload_n C 0 dX1_wellBehindFrom_0 rfl rfl ?_
  refine gr_getR C 77 2 78 dX1_wellBehindFrom_1 (sc_77 hw) rfl inX1 (by decide) ln12 rfl ?_
  refine gr_aload_n C 1 dX1_wellBehindFrom_4 rfl rfl ?_
  obtain ⟨g2, hc1, hF⟩ := gCv_e hF
  refine gr_callVV C (n := 1) (As := [.ref (w.2.2.1 24)]) (rest := []) 78 (mX9_become X.2.1 hw (st_78 hw) (st_24 hw) hc1) gX1_wellBehindFrom_X9_become rfl ⟨rfl, rfl⟩ ⟨by decide, by decide⟩ rfl (Nat.le_of_ble_eq_true rfl) rfl (by decide +kernel) (sc_78 hw) rfl dX1_wellBehindFrom_5 ?_
  refine gr_aload_n C 0 dX1_wellBehindFrom_8 rfl rfl ?_
  refine gr_getR C 77 2 78 dX1_wellBehindFrom_9 (sc_77 hw) rfl inX1 (by decide) ln12 rfl ?_
  refine gr_getR C 78 2 81 dX1_wellBehindFrom_12 (sc_78 hw) rfl inX9 (by decide) ln36 rfl ?_
  refine gr_iload_n C 3 dX1_wellBehindFrom_15 rfl rfl ?_
  refine gr_iload C 4 dX1_wellBehindFrom_16 rfl ?_
  obtain ⟨h3, g4, eg4, hF⟩ := gWr_e hF
  refine gr_iast C 81 8 dX1_wellBehindFrom_18 (sc_81 hw) h3 ?_
  refine gr_nmS eg4 ?_
  refine gr_aload_n C 0 dX1_wellBehindFrom_19 rfl rfl ?_
  refine gr_aload_n C 0 dX1_wellBehindFrom_20 rfl rfl ?_
  refine gr_getR C 77 0 4 dX1_wellBehindFrom_21 (sc_77 hw) rfl inX1 (by decide) ln18 rfl ?_
  refine gr_getR C 4 1 6 dX1_wellBehindFrom_24 (sc_4 hw) rfl inX3 (by decide) ln47 rfl ?_
  refine gr_iload_n C 3 dX1_wellBehindFrom_27 rfl rfl ?_
  obtain ⟨h6, x5, ex5, hF⟩ := gRd_e hF
  refine gr_iald C 6 8 dX1_wellBehindFrom_28 (sc_6 hw) h6 ?_
  refine gr_nmI ex5 ?_
  refine gr_iload_n C 2 dX1_wellBehindFrom_29 rfl rfl ?_
  obtain ⟨g8, hc7, hF⟩ := gCv_e hF
  refine gr_callVV C (n := 2) (As := [.int x5, .int a1]) (rest := []) 77 (mX1_goByAt X.2.1 hw  hc7) gX1_wellBehindFrom_X1_goByAt rfl ⟨rfl, rfl⟩ ⟨by decide, by decide⟩ rfl (Nat.le_of_ble_eq_true rfl) rfl (by decide +kernel) (sc_77 hw) rfl dX1_wellBehindFrom_30 ?_
  refine gr_aload_n C 0 dX1_wellBehindFrom_33 rfl rfl ?_
  refine gr_getR C 77 2 78 dX1_wellBehindFrom_34 (sc_77 hw) rfl inX1 (by decide) ln12 rfl ?_
  refine gr_getR C 78 2 81 dX1_wellBehindFrom_37 (sc_78 hw) rfl inX9 (by decide) ln36 rfl ?_
  refine gr_iload_n C 3 dX1_wellBehindFrom_40 rfl rfl ?_
  obtain ⟨h10, x9, ex9, hF⟩ := gRd_e hF
  refine gr_iald C 81 8 dX1_wellBehindFrom_41 (sc_81 hw) h10 ?_
  refine gr_nmI ex9 ?_
  cases hF
  exact gr_iret C dX1_wellBehindFrom_42 ⟨rfl, rfl⟩
-- X1_wellBehind: 10 instructions, frames 5, locals 126
set_option maxRecDepth 100000 in
set_option maxHeartbeats 4000000 in
theorem mX1_wellBehind (l : Launch) {w : Wl} (hw : w.2.2.2 = shC) {σ : Sg} {a1 : Int32} {a2 : Int32}  {r : Int32} {σ' : Sg} (hF : fX1_wellBehind σ a1 a2 = some (r, σ')) : gMI l w yX1_wellBehind wsX1_wellBehind ({ frames := 5, cells := 0, slots := 0, locals := 126 } : Room) [.ref (w.2.2.1 77), .ref (w.2.2.1 24), .int a1, .int a2] σ r σ' := by
  have inX9 : ∀ v ∈ u_ws RX9 TX9 5, v ∈ wsX1_wellBehind := by decide +kernel
  have ln36 : Cond.fieldLink RX1 36 (TX9 2).1 (TX9 2).2.1 (TX9 2).2.2.1 ∈ wsX1_wellBehind := by decide +kernel
  refine gStartI cX1_wellBehind 4 RX1 rfl (by decide) rfl (Nat.le_of_ble_eq_true rfl) ?_
  intro X hl C
  show gG X w σ 0 [(0, .ref (w.2.2.1 77)), (1, .ref (w.2.2.1 24)), (2, .int a1), (3, .int a2)] []
  unfold fX1_wellBehind at hF
  refine gr_aload_n C 0 dX1_wellBehind_0 rfl rfl ?_
  refine gr_aload_n C 1 dX1_wellBehind_1 rfl rfl ?_
  refine gr_iload_n C 2 dX1_wellBehind_2 rfl rfl ?_
  refine gr_iload_n C 3 dX1_wellBehind_3 rfl rfl ?_
  refine gr_aload_n C 1 dX1_wellBehind_4 rfl rfl ?_
  refine gr_getR C 24 2 27 dX1_wellBehind_5 (sc_24 hw) rfl inX9 (by decide) ln36 rfl ?_
  refine gr_iload_n C 3 dX1_wellBehind_8 rfl rfl ?_
  obtain ⟨h2, x1, ex1, hF⟩ := gRd_e hF
  refine gr_iald C 27 8 dX1_wellBehind_9 (sc_27 hw) h2 ?_
  refine gr_nmI ex1 ?_
  obtain ⟨r5, g4, hc3, hF⟩ := gCl_e hF
  refine gr_callVI C (n := 4) (As := [.ref (w.2.2.1 24), .int a1, .int a2, .int x1]) (rest := []) 77 (mX1_wellBehindFrom X.2.1 hw  hc3) gX1_wellBehind_X1_wellBehindFrom rfl ⟨rfl, rfl⟩ ⟨by decide, by decide⟩ rfl (Nat.le_of_ble_eq_true rfl) rfl (by decide +kernel) (sc_77 hw) rfl dX1_wellBehind_10 ?_
  cases hF
  exact gr_iret C dX1_wellBehind_13 ⟨rfl, rfl⟩
-- X10_behind: 19 instructions, frames 6, locals 149
set_option maxRecDepth 100000 in
set_option maxHeartbeats 4000000 in
theorem mX10_behind (l : Launch) {w : Wl} (hw : w.2.2.2 = shC) {σ : Sg} {a0 : Int32} {a1 : Int32}  {r : Int32} {σ' : Sg} (hF : fX10_behind σ a0 a1 = some (r, σ')) : gMI l w yX10_behind wsX10_behind ({ frames := 6, cells := 0, slots := 0, locals := 149 } : Room) [.ref (w.2.2.1 0), .int a0, .int a1] σ r σ' := by
  have inX10 : ∀ v ∈ u_ws RX10 TX10 12, v ∈ wsX10_behind := by decide +kernel
  have ln29 : Cond.fieldLink RX10 29 (TX10 3).1 (TX10 3).2.1 (TX10 3).2.2.1 ∈ wsX10_behind := by decide +kernel
  have ln66 : Cond.fieldLink RX10 66 (TX10 8).1 (TX10 8).2.1 (TX10 8).2.2.1 ∈ wsX10_behind := by decide +kernel
  refine gStartI cX10_behind 3 RX10 rfl (by decide) rfl (Nat.le_of_ble_eq_true rfl) ?_
  intro X hl C
  show gG X w σ 0 [(0, .ref (w.2.2.1 0)), (1, .int a0), (2, .int a1)] []
  unfold fX10_behind at hF
  refine gr_iload_n C 1 dX10_behind_0 rfl rfl ?_
  refine gr_iconst C (v := 0) dX10_behind_1 (by decide) ?_
  refine gr_bipush C (v := 30) dX10_behind_2 (by decide) ?_
  obtain ⟨r3, g2, hc1, hF⟩ := gCl_e hF
  refine gr_callSI C (n := 3) (As := [.int a0, .int (0 : Int32), .int (30 : Int32)]) (rest := []) (mX10_outside X.2.1 hw  hc1) gX10_behind_X10_outside rfl ⟨rfl, rfl⟩ ⟨by decide, by decide⟩ rfl (Nat.le_of_ble_eq_true rfl) rfl (by decide +kernel) dX10_behind_4 ?_
  refine gr_if_ne C 18 dX10_behind_7 (by decide) (fun c4 => ?_) (fun c4 => ?_)
  · rw [if_neg c4] at hF
    refine gr_sub [] [] rfl ?_
    refine gr_iconst C (v := -1) dX10_behind_18 (by decide) ?_
    cases hF
    exact gr_iret C dX10_behind_19 ⟨rfl, rfl⟩
  · rw [if_pos c4] at hF
    refine gr_aload_n C 0 dX10_behind_10 rfl rfl ?_
    refine gr_iload_n C 2 dX10_behind_11 rfl rfl ?_
    obtain ⟨r7, g6, hc5, hF⟩ := gCl_e hF
    refine gr_callVI C (n := 1) (As := [.int a1]) (rest := []) 0 (mX10_noYounger X.2.1 hw  hc5) gX10_behind_X10_noYounger rfl ⟨rfl, rfl⟩ ⟨by decide, by decide⟩ rfl (Nat.le_of_ble_eq_true rfl) rfl (by decide +kernel) (sc_0 hw) rfl dX10_behind_12 ?_
    refine gr_if_eq C 20 dX10_behind_15 (by decide) (fun c8 => ?_) (fun c8 => ?_)
    · rw [if_pos c8] at hF
      refine gr_aload_n C 0 dX10_behind_20 rfl rfl ?_
      refine gr_getR C 0 8 77 dX10_behind_21 (sc_0 hw) rfl inX10 (by decide) ln66 rfl ?_
      refine gr_aload_n C 0 dX10_behind_24 rfl rfl ?_
      refine gr_getR C 0 3 24 dX10_behind_25 (sc_0 hw) rfl inX10 (by decide) ln29 rfl ?_
      refine gr_iload_n C 1 dX10_behind_28 rfl rfl ?_
      refine gr_iload_n C 2 dX10_behind_29 rfl rfl ?_
      obtain ⟨r11, g10, hc9, hF⟩ := gCl_e hF
      refine gr_callVI C (n := 3) (As := [.ref (w.2.2.1 24), .int a0, .int a1]) (rest := []) 77 (mX1_wellBehind X.2.1 hw  hc9) gX10_behind_X1_wellBehind rfl ⟨rfl, rfl⟩ ⟨by decide, by decide⟩ rfl (Nat.le_of_ble_eq_true rfl) rfl (by decide +kernel) (sc_77 hw) rfl dX10_behind_30 ?_
      cases hF
      exact gr_iret C dX10_behind_33 ⟨rfl, rfl⟩
    · rw [if_neg c8] at hF
      refine gr_sub [] [] rfl ?_
      refine gr_iconst C (v := -1) dX10_behind_18 (by decide) ?_
      cases hF
      exact gr_iret C dX10_behind_19 ⟨rfl, rfl⟩
-- X1_daysToGo: 29 instructions, frames 4, locals 102
set_option maxRecDepth 100000 in
set_option maxHeartbeats 4000000 in
theorem mX1_daysToGo (l : Launch) {w : Wl} (hw : w.2.2.2 = shC) {σ : Sg} {a1 : Int32}  {r : Int32} {σ' : Sg} (hF : fX1_daysToGo σ a1 = some (r, σ')) : gMI l w yX1_daysToGo wsX1_daysToGo ({ frames := 4, cells := 0, slots := 0, locals := 102 } : Room) [.ref (w.2.2.1 77), .ref (w.2.2.1 24), .int a1] σ r σ' := by
  have inX1 : ∀ v ∈ u_ws RX1 TX1 3, v ∈ wsX1_daysToGo := by decide +kernel
  have inX3 : ∀ v ∈ u_ws RX3 TX3 13, v ∈ wsX1_daysToGo := by decide +kernel
  have inX9 : ∀ v ∈ u_ws RX9 TX9 5, v ∈ wsX1_daysToGo := by decide +kernel
  have ln12 : Cond.fieldLink RX1 12 (TX1 2).1 (TX1 2).2.1 (TX1 2).2.2.1 ∈ wsX1_daysToGo := by decide +kernel
  have ln18 : Cond.fieldLink RX1 18 (TX1 0).1 (TX1 0).2.1 (TX1 0).2.2.1 ∈ wsX1_daysToGo := by decide +kernel
  have ln36 : Cond.fieldLink RX1 36 (TX9 2).1 (TX9 2).2.1 (TX9 2).2.2.1 ∈ wsX1_daysToGo := by decide +kernel
  have ln47 : Cond.fieldLink RX1 47 (TX3 1).1 (TX3 1).2.1 (TX3 1).2.2.1 ∈ wsX1_daysToGo := by decide +kernel
  refine gStartI cX1_daysToGo 4 RX1 rfl (by decide) rfl (Nat.le_of_ble_eq_true rfl) ?_
  intro X hl C
  show gG X w σ 0 [(0, .ref (w.2.2.1 77)), (1, .ref (w.2.2.1 24)), (2, .int a1)] []
  unfold fX1_daysToGo at hF
  refine gr_aload_n C 0 dX1_daysToGo_0 rfl rfl ?_
  refine gr_getR C 77 2 78 dX1_daysToGo_1 (sc_77 hw) rfl inX1 (by decide) ln12 rfl ?_
  refine gr_aload_n C 1 dX1_daysToGo_4 rfl rfl ?_
  obtain ⟨g2, hc1, hF⟩ := gCv_e hF
  refine gr_callVV C (n := 1) (As := [.ref (w.2.2.1 24)]) (rest := []) 78 (mX9_become X.2.1 hw (st_78 hw) (st_24 hw) hc1) gX1_daysToGo_X9_become rfl ⟨rfl, rfl⟩ ⟨by decide, by decide⟩ rfl (Nat.le_of_ble_eq_true rfl) rfl (by decide +kernel) (sc_78 hw) rfl dX1_daysToGo_5 ?_
  refine gr_iconst C (v := 0) dX1_daysToGo_8 (by decide) ?_
  refine gr_istore_n C [(3, .int (0 : Int32)), (0, .ref (w.2.2.1 77)), (1, .ref (w.2.2.1 24)), (2, .int a1)] dX1_daysToGo_9 rfl (by decide) rfl ?_
  refine gr_sub [1, 3, 0] [(0, .ref (w.2.2.1 77)), (2, .int a1), (3, .int (0 : Int32))] rfl ?_
  have L14 : ∀ (n : Nat) (x3 : Int32) (g4 : Sg) , fX1_daysToGo_10 a1 n x3 g4  = some (r, σ') → gG X w g4 10 [(0, .ref (w.2.2.1 77)), (2, .int a1), (3, .int x3)] [] := by
    intro n
    induction n with
    | zero =>
      intro x3 g4 hF
      rw [fX1_daysToGo_10] at hF
      cases hF
    | succ n ih =>
      intro x3 g4 hF
      rw [fX1_daysToGo_10] at hF
      refine gr_iload_n C 2 dX1_daysToGo_10 rfl rfl ?_
      refine gr_bipush C (v := 60) dX1_daysToGo_11 (by decide) ?_
      refine gr_icmp_gt C 50 dX1_daysToGo_13 (by decide) (fun c5 => ?_) (fun c5 => ?_)
      · rw [if_pos c5] at hF
        refine gr_sub [] [] rfl ?_
        refine gr_bipush C (v := -4) dX1_daysToGo_50 (by decide) ?_
        cases hF
        exact gr_iret C dX1_daysToGo_52 ⟨rfl, rfl⟩
      · rw [if_neg c5] at hF
        refine gr_aload_n C 0 dX1_daysToGo_16 rfl rfl ?_
        refine gr_getR C 77 2 78 dX1_daysToGo_17 (sc_77 hw) rfl inX1 (by decide) ln12 rfl ?_
        refine gr_getR C 78 2 81 dX1_daysToGo_20 (sc_78 hw) rfl inX9 (by decide) ln36 rfl ?_
        refine gr_iload_n C 1 dX1_daysToGo_23 rfl rfl ?_
        obtain ⟨h7, x6, ex6, hF⟩ := gRd_e hF
        refine gr_iald C 81 8 dX1_daysToGo_24 (sc_81 hw) h7 ?_
        refine gr_nmI ex6 ?_
        refine gr_if_ne C 30 dX1_daysToGo_25 (by decide) (fun c8 => ?_) (fun c8 => ?_)
        · rw [if_neg c8] at hF
          refine gr_aload_n C 0 dX1_daysToGo_30 rfl rfl ?_
          refine gr_aload_n C 0 dX1_daysToGo_31 rfl rfl ?_
          refine gr_getR C 77 0 4 dX1_daysToGo_32 (sc_77 hw) rfl inX1 (by decide) ln18 rfl ?_
          refine gr_getR C 4 1 6 dX1_daysToGo_35 (sc_4 hw) rfl inX3 (by decide) ln47 rfl ?_
          refine gr_iload_n C 1 dX1_daysToGo_38 rfl rfl ?_
          obtain ⟨h10, x9, ex9, hF⟩ := gRd_e hF
          refine gr_iald C 6 8 dX1_daysToGo_39 (sc_6 hw) h10 ?_
          refine gr_nmI ex9 ?_
          refine gr_iconst C (v := 1) dX1_daysToGo_40 (by decide) ?_
          obtain ⟨g12, hc11, hF⟩ := gCv_e hF
          refine gr_callVV C (n := 2) (As := [.int x9, .int (1 : Int32)]) (rest := []) 77 (mX1_goByAt X.2.1 hw  hc11) gX1_daysToGo_X1_goByAt rfl ⟨rfl, rfl⟩ ⟨by decide, by decide⟩ rfl (Nat.le_of_ble_eq_true rfl) rfl (by decide +kernel) (sc_77 hw) rfl dX1_daysToGo_41 ?_
          obtain ⟨x13, ex13, hF⟩ := gLet_e hF
          refine gr_iinc C (v := x13) 2 [(3, .int x13), (0, .ref (w.2.2.1 77)), (2, .int a1)] dX1_daysToGo_44 rfl (by rw [ex13]; rfl) (by decide) rfl ?_
          refine gr_goto C 10 dX1_daysToGo_47 (by decide) ?_
          refine gr_sub [1, 2, 0] [(0, .ref (w.2.2.1 77)), (2, .int a1), (3, .int x13)] rfl ?_
          exact ih x13 g12   hF
        · rw [if_pos c8] at hF
          refine gr_sub [2] [(3, .int x3)] rfl ?_
          refine gr_iload_n C 0 dX1_daysToGo_28 rfl rfl ?_
          refine gr_sub [] [] rfl ?_
          cases hF
          exact gr_iret C dX1_daysToGo_29 ⟨rfl, rfl⟩
  refine L14 _ (0 : Int32) g2   hF
-- X10_goes: 13 instructions, frames 5, locals 125
set_option maxRecDepth 100000 in
set_option maxHeartbeats 4000000 in
theorem mX10_goes (l : Launch) {w : Wl} (hw : w.2.2.2 = shC) {σ : Sg} {a0 : Int32}  {r : Int32} {σ' : Sg} (hF : fX10_goes σ a0 = some (r, σ')) : gMI l w yX10_goes wsX10_goes ({ frames := 5, cells := 0, slots := 0, locals := 125 } : Room) [.ref (w.2.2.1 0), .int a0] σ r σ' := by
  have inX10 : ∀ v ∈ u_ws RX10 TX10 12, v ∈ wsX10_goes := by decide +kernel
  have ln29 : Cond.fieldLink RX10 29 (TX10 3).1 (TX10 3).2.1 (TX10 3).2.2.1 ∈ wsX10_goes := by decide +kernel
  have ln66 : Cond.fieldLink RX10 66 (TX10 8).1 (TX10 8).2.1 (TX10 8).2.2.1 ∈ wsX10_goes := by decide +kernel
  refine gStartI cX10_goes 2 RX10 rfl (by decide) rfl (Nat.le_of_ble_eq_true rfl) ?_
  intro X hl C
  show gG X w σ 0 [(0, .ref (w.2.2.1 0)), (1, .int a0)] []
  unfold fX10_goes at hF
  refine gr_aload_n C 0 dX10_goes_0 rfl rfl ?_
  refine gr_iload_n C 1 dX10_goes_1 rfl rfl ?_
  obtain ⟨r3, g2, hc1, hF⟩ := gCl_e hF
  refine gr_callVI C (n := 1) (As := [.int a0]) (rest := []) 0 (mX10_noYounger X.2.1 hw  hc1) gX10_goes_X10_noYounger rfl ⟨rfl, rfl⟩ ⟨by decide, by decide⟩ rfl (Nat.le_of_ble_eq_true rfl) rfl (by decide +kernel) (sc_0 hw) rfl dX10_goes_2 ?_
  refine gr_if_eq C 12 dX10_goes_5 (by decide) (fun c4 => ?_) (fun c4 => ?_)
  · rw [if_pos c4] at hF
    refine gr_aload_n C 0 dX10_goes_12 rfl rfl ?_
    refine gr_getR C 0 8 77 dX10_goes_13 (sc_0 hw) rfl inX10 (by decide) ln66 rfl ?_
    refine gr_aload_n C 0 dX10_goes_16 rfl rfl ?_
    refine gr_getR C 0 3 24 dX10_goes_17 (sc_0 hw) rfl inX10 (by decide) ln29 rfl ?_
    refine gr_iload_n C 1 dX10_goes_20 rfl rfl ?_
    obtain ⟨r7, g6, hc5, hF⟩ := gCl_e hF
    refine gr_callVI C (n := 2) (As := [.ref (w.2.2.1 24), .int a0]) (rest := []) 77 (mX1_daysToGo X.2.1 hw  hc5) gX10_goes_X1_daysToGo rfl ⟨rfl, rfl⟩ ⟨by decide, by decide⟩ rfl (Nat.le_of_ble_eq_true rfl) rfl (by decide +kernel) (sc_77 hw) rfl dX10_goes_21 ?_
    cases hF
    exact gr_iret C dX10_goes_24 ⟨rfl, rfl⟩
  · rw [if_neg c4] at hF
    refine gr_sub [] [] rfl ?_
    refine gr_iconst C (v := -1) dX10_goes_8 (by decide) ?_
    refine gr_goto C 24 dX10_goes_9 (by decide) ?_
    cases hF
    exact gr_iret C dX10_goes_24 ⟨rfl, rfl⟩
-- X1_leastFor: 39 instructions, frames 4, locals 102
set_option maxRecDepth 100000 in
set_option maxHeartbeats 4000000 in
theorem mX1_leastFor (l : Launch) {w : Wl} (hw : w.2.2.2 = shC) {σ : Sg} {a1 : Int32} {a2 : Int32}  {r : Int32} {σ' : Sg} (hF : fX1_leastFor σ a1 a2 = some (r, σ')) : gMI l w yX1_leastFor wsX1_leastFor ({ frames := 4, cells := 0, slots := 0, locals := 102 } : Room) [.ref (w.2.2.1 77), .ref (w.2.2.1 24), .int a1, .int a2] σ r σ' := by
  have inX1 : ∀ v ∈ u_ws RX1 TX1 3, v ∈ wsX1_leastFor := by decide +kernel
  have inX9 : ∀ v ∈ u_ws RX9 TX9 5, v ∈ wsX1_leastFor := by decide +kernel
  have ln12 : Cond.fieldLink RX1 12 (TX1 2).1 (TX1 2).2.1 (TX1 2).2.2.1 ∈ wsX1_leastFor := by decide +kernel
  have ln22 : Cond.fieldLink RX1 22 (TX1 1).1 (TX1 1).2.1 (TX1 1).2.2.1 ∈ wsX1_leastFor := by decide +kernel
  have ln26 : Cond.fieldLink RX1 26 (TX9 0).1 (TX9 0).2.1 (TX9 0).2.2.1 ∈ wsX1_leastFor := by decide +kernel
  refine gStartI cX1_leastFor 6 RX1 rfl (by decide) rfl (Nat.le_of_ble_eq_true rfl) ?_
  intro X hl C
  show gG X w σ 0 [(0, .ref (w.2.2.1 77)), (1, .ref (w.2.2.1 24)), (2, .int a1), (3, .int a2)] []
  unfold fX1_leastFor at hF
  refine gr_aload_n C 0 dX1_leastFor_0 rfl rfl ?_
  refine gr_getR C 77 1 72 dX1_leastFor_1 (sc_77 hw) rfl inX1 (by decide) ln22 rfl ?_
  refine gr_aload_n C 1 dX1_leastFor_4 rfl rfl ?_
  refine gr_iload_n C 2 dX1_leastFor_5 rfl rfl ?_
  obtain ⟨r3, g2, hc1, hF⟩ := gCl_e hF
  refine gr_callVI C (n := 2) (As := [.ref (w.2.2.1 24), .int a1]) (rest := []) 72 (mX2_notGoneAt X.2.1 hw (st_24 hw) hc1) gX1_leastFor_X2_notGoneAt rfl ⟨rfl, rfl⟩ ⟨by decide, by decide⟩ rfl (Nat.le_of_ble_eq_true rfl) rfl (by decide +kernel) (sc_72 hw) rfl dX1_leastFor_6 ?_
  refine gr_istore C [(4, .int r3), (0, .ref (w.2.2.1 77)), (1, .ref (w.2.2.1 24)), (2, .int a1), (3, .int a2)] dX1_leastFor_9 (by decide) rfl ?_
  refine gr_iconst C (v := 0) dX1_leastFor_11 (by decide) ?_
  refine gr_istore C [(5, .int (0 : Int32)), (4, .int r3), (0, .ref (w.2.2.1 77)), (1, .ref (w.2.2.1 24)), (2, .int a1), (3, .int a2)] dX1_leastFor_12 (by decide) rfl ?_
  refine gr_sub [2, 3, 4, 5, 1, 0] [(0, .ref (w.2.2.1 77)), (1, .ref (w.2.2.1 24)), (2, .int a1), (3, .int a2), (4, .int r3), (5, .int (0 : Int32))] rfl ?_
  have L18 : ∀ (n : Nat) (x4 : Int32) (g5 : Sg) , fX1_leastFor_14 a1 a2 r3 n x4 g5  = some (r, σ') → gG X w g5 14 [(0, .ref (w.2.2.1 77)), (1, .ref (w.2.2.1 24)), (2, .int a1), (3, .int a2), (4, .int r3), (5, .int x4)] [] := by
    intro n
    induction n with
    | zero =>
      intro x4 g5 hF
      rw [fX1_leastFor_14] at hF
      cases hF
    | succ n ih =>
      intro x4 g5 hF
      rw [fX1_leastFor_14] at hF
      refine gr_iload C 5 dX1_leastFor_14 rfl ?_
      refine gr_bipush C (v := 40) dX1_leastFor_16 (by decide) ?_
      refine gr_icmp_gt C 72 dX1_leastFor_18 (by decide) (fun c6 => ?_) (fun c6 => ?_)
      · rw [if_pos c6] at hF
        refine gr_sub [] [] rfl ?_
        refine gr_bipush C (v := -4) dX1_leastFor_72 (by decide) ?_
        cases hF
        exact gr_iret C dX1_leastFor_74 ⟨rfl, rfl⟩
      · rw [if_neg c6] at hF
        refine gr_aload_n C 0 dX1_leastFor_21 rfl rfl ?_
        refine gr_getR C 77 2 78 dX1_leastFor_22 (sc_77 hw) rfl inX1 (by decide) ln12 rfl ?_
        refine gr_aload_n C 1 dX1_leastFor_25 rfl rfl ?_
        obtain ⟨g8, hc7, hF⟩ := gCv_e hF
        refine gr_callVV C (n := 1) (As := [.ref (w.2.2.1 24)]) (rest := []) 78 (mX9_become X.2.1 hw (st_78 hw) (st_24 hw) hc7) gX1_leastFor_X9_become rfl ⟨rfl, rfl⟩ ⟨by decide, by decide⟩ rfl (Nat.le_of_ble_eq_true rfl) rfl (by decide +kernel) (sc_78 hw) rfl dX1_leastFor_26 ?_
        refine gr_aload_n C 0 dX1_leastFor_29 rfl rfl ?_
        refine gr_getR C 77 2 78 dX1_leastFor_30 (sc_77 hw) rfl inX1 (by decide) ln12 rfl ?_
        refine gr_getR C 78 0 79 dX1_leastFor_33 (sc_78 hw) rfl inX9 (by decide) ln26 rfl ?_
        refine gr_iload_n C 2 dX1_leastFor_36 rfl rfl ?_
        refine gr_iload C 5 dX1_leastFor_37 rfl ?_
        obtain ⟨h9, g10, eg10, hF⟩ := gWr_e hF
        refine gr_iast C 79 9 dX1_leastFor_39 (sc_79 hw) h9 ?_
        refine gr_nmS eg10 ?_
        refine gr_aload_n C 0 dX1_leastFor_40 rfl rfl ?_
        refine gr_iload_n C 2 dX1_leastFor_41 rfl rfl ?_
        refine gr_iload_n C 3 dX1_leastFor_42 rfl rfl ?_
        obtain ⟨g12, hc11, hF⟩ := gCv_e hF
        refine gr_callVV C (n := 2) (As := [.int a1, .int a2]) (rest := []) 77 (mX1_goByAt X.2.1 hw  hc11) gX1_leastFor_X1_goByAt rfl ⟨rfl, rfl⟩ ⟨by decide, by decide⟩ rfl (Nat.le_of_ble_eq_true rfl) rfl (by decide +kernel) (sc_77 hw) rfl dX1_leastFor_43 ?_
        refine gr_aload_n C 0 dX1_leastFor_46 rfl rfl ?_
        refine gr_getR C 77 1 72 dX1_leastFor_47 (sc_77 hw) rfl inX1 (by decide) ln22 rfl ?_
        refine gr_aload_n C 0 dX1_leastFor_50 rfl rfl ?_
        refine gr_getR C 77 2 78 dX1_leastFor_51 (sc_77 hw) rfl inX1 (by decide) ln12 rfl ?_
        refine gr_iload_n C 2 dX1_leastFor_54 rfl rfl ?_
        obtain ⟨r15, g14, hc13, hF⟩ := gCl_e hF
        refine gr_callVI C (n := 2) (As := [.ref (w.2.2.1 78), .int a1]) (rest := []) 72 (mX2_notGoneAt X.2.1 hw (st_78 hw) hc13) gX1_leastFor_X2_notGoneAt rfl ⟨rfl, rfl⟩ ⟨by decide, by decide⟩ rfl (Nat.le_of_ble_eq_true rfl) rfl (by decide +kernel) (sc_72 hw) rfl dX1_leastFor_55 ?_
        refine gr_iload C 4 dX1_leastFor_58 rfl ?_
        refine gr_icmp_ne C 66 dX1_leastFor_60 (by decide) (fun c16 => ?_) (fun c16 => ?_)
        · rw [if_neg c16] at hF
          obtain ⟨x17, ex17, hF⟩ := gLet_e hF
          refine gr_iinc C (v := x17) 5 [(5, .int x17), (0, .ref (w.2.2.1 77)), (1, .ref (w.2.2.1 24)), (2, .int a1), (3, .int a2), (4, .int r3)] dX1_leastFor_66 rfl (by rw [ex17]; rfl) (by decide) rfl ?_
          refine gr_goto C 14 dX1_leastFor_69 (by decide) ?_
          refine gr_sub [1, 2, 3, 4, 5, 0] [(0, .ref (w.2.2.1 77)), (1, .ref (w.2.2.1 24)), (2, .int a1), (3, .int a2), (4, .int r3), (5, .int x17)] rfl ?_
          exact ih x17 g14   hF
        · rw [if_pos c16] at hF
          refine gr_sub [5] [(5, .int x4)] rfl ?_
          refine gr_iload C 0 dX1_leastFor_63 rfl ?_
          refine gr_sub [] [] rfl ?_
          cases hF
          exact gr_iret C dX1_leastFor_65 ⟨rfl, rfl⟩
  refine L18 _ (0 : Int32) g2   hF
-- X10_least: 19 instructions, frames 5, locals 127
set_option maxRecDepth 100000 in
set_option maxHeartbeats 4000000 in
theorem mX10_least (l : Launch) {w : Wl} (hw : w.2.2.2 = shC) {σ : Sg} {a0 : Int32} {a1 : Int32}  {r : Int32} {σ' : Sg} (hF : fX10_least σ a0 a1 = some (r, σ')) : gMI l w yX10_least wsX10_least ({ frames := 5, cells := 0, slots := 0, locals := 127 } : Room) [.ref (w.2.2.1 0), .int a0, .int a1] σ r σ' := by
  have inX10 : ∀ v ∈ u_ws RX10 TX10 12, v ∈ wsX10_least := by decide +kernel
  have ln29 : Cond.fieldLink RX10 29 (TX10 3).1 (TX10 3).2.1 (TX10 3).2.2.1 ∈ wsX10_least := by decide +kernel
  have ln66 : Cond.fieldLink RX10 66 (TX10 8).1 (TX10 8).2.1 (TX10 8).2.2.1 ∈ wsX10_least := by decide +kernel
  refine gStartI cX10_least 3 RX10 rfl (by decide) rfl (Nat.le_of_ble_eq_true rfl) ?_
  intro X hl C
  show gG X w σ 0 [(0, .ref (w.2.2.1 0)), (1, .int a0), (2, .int a1)] []
  unfold fX10_least at hF
  refine gr_aload_n C 0 dX10_least_0 rfl rfl ?_
  refine gr_iload_n C 1 dX10_least_1 rfl rfl ?_
  obtain ⟨r3, g2, hc1, hF⟩ := gCl_e hF
  refine gr_callVI C (n := 1) (As := [.int a0]) (rest := []) 0 (mX10_noStep X.2.1 hw  hc1) gX10_least_X10_noStep rfl ⟨rfl, rfl⟩ ⟨by decide, by decide⟩ rfl (Nat.le_of_ble_eq_true rfl) rfl (by decide +kernel) (sc_0 hw) rfl dX10_least_2 ?_
  refine gr_if_ne C 18 dX10_least_5 (by decide) (fun c4 => ?_) (fun c4 => ?_)
  · rw [if_neg c4] at hF
    refine gr_sub [] [] rfl ?_
    refine gr_iconst C (v := -1) dX10_least_18 (by decide) ?_
    cases hF
    exact gr_iret C dX10_least_19 ⟨rfl, rfl⟩
  · rw [if_pos c4] at hF
    refine gr_iload_n C 2 dX10_least_8 rfl rfl ?_
    refine gr_iconst C (v := 1) dX10_least_9 (by decide) ?_
    refine gr_bipush C (v := 20) dX10_least_10 (by decide) ?_
    obtain ⟨r7, g6, hc5, hF⟩ := gCl_e hF
    refine gr_callSI C (n := 3) (As := [.int a1, .int (1 : Int32), .int (20 : Int32)]) (rest := []) (mX10_outside X.2.1 hw  hc5) gX10_least_X10_outside rfl ⟨rfl, rfl⟩ ⟨by decide, by decide⟩ rfl (Nat.le_of_ble_eq_true rfl) rfl (by decide +kernel) dX10_least_12 ?_
    refine gr_if_eq C 20 dX10_least_15 (by decide) (fun c8 => ?_) (fun c8 => ?_)
    · rw [if_pos c8] at hF
      refine gr_aload_n C 0 dX10_least_20 rfl rfl ?_
      refine gr_getR C 0 8 77 dX10_least_21 (sc_0 hw) rfl inX10 (by decide) ln66 rfl ?_
      refine gr_aload_n C 0 dX10_least_24 rfl rfl ?_
      refine gr_getR C 0 3 24 dX10_least_25 (sc_0 hw) rfl inX10 (by decide) ln29 rfl ?_
      refine gr_iload_n C 1 dX10_least_28 rfl rfl ?_
      refine gr_iload_n C 2 dX10_least_29 rfl rfl ?_
      obtain ⟨r11, g10, hc9, hF⟩ := gCl_e hF
      refine gr_callVI C (n := 3) (As := [.ref (w.2.2.1 24), .int a0, .int a1]) (rest := []) 77 (mX1_leastFor X.2.1 hw  hc9) gX10_least_X1_leastFor rfl ⟨rfl, rfl⟩ ⟨by decide, by decide⟩ rfl (Nat.le_of_ble_eq_true rfl) rfl (by decide +kernel) (sc_77 hw) rfl dX10_least_30 ?_
      cases hF
      exact gr_iret C dX10_least_33 ⟨rfl, rfl⟩
    · rw [if_neg c8] at hF
      refine gr_sub [] [] rfl ?_
      refine gr_iconst C (v := -1) dX10_least_18 (by decide) ?_
      cases hF
      exact gr_iret C dX10_least_19 ⟨rfl, rfl⟩
