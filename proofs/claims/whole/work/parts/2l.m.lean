-- X11_cats: 30 instructions, frames 2, locals 46
set_option maxRecDepth 100000 in
set_option maxHeartbeats 4000000 in
theorem mX11_cats (l : Launch) {w : Wl} (hw : w.2.2.2 = shM) {σ : Sg} {a0 : Int32} {a1 : Int32}  {r : Int32} {σ' : Sg} (hF : fX11_cats σ a0 a1 = some (r, σ')) : gMI l w yX11_cats wsX11_cats ({ frames := 2, cells := 0, slots := 0, locals := 46 } : Room) [.ref (w.2.2.1 0), .int a0, .int a1] σ r σ' := by
  have inX11 : ∀ v ∈ u_ws RX11 TX11 32, v ∈ wsX11_cats := by decide +kernel
  have ln37 : Cond.fieldLink RX11 37 (TX11 15).1 (TX11 15).2.1 (TX11 15).2.2.1 ∈ wsX11_cats := by decide +kernel
  have k210 : Cond.constantLong RX11 210 (9) ∈ wsX11_cats := by decide +kernel
  refine gStartI cX11_cats 4 RX11 rfl (by decide) rfl (Nat.le_of_ble_eq_true rfl) ?_
  intro X hl C
  show gG X w σ 0 [(0, .ref (w.2.2.1 0)), (1, .int a0), (2, .int a1)] []
  unfold fX11_cats at hF
  refine gr_aload_n C 0 dX11_cats_0 rfl rfl ?_
  refine gr_iload_n C 1 dX11_cats_1 rfl rfl ?_
  obtain ⟨r3, g2, hc1, hF⟩ := gCl_e hF
  refine gr_callVI C (n := 1) (As := [.int a0]) (rest := []) 0 (mX11_isStep X.2.1 hw  hc1) gX11_cats_X11_isStep rfl ⟨rfl, rfl⟩ ⟨by decide, by decide⟩ rfl (Nat.le_of_ble_eq_true rfl) rfl (by decide +kernel) (scm_0 hw) rfl dX11_cats_2 ?_
  refine gr_if_eq C 20 dX11_cats_5 (by decide) (fun c4 => ?_) (fun c4 => ?_)
  · rw [if_pos c4] at hF
    refine gr_sub [] [] rfl ?_
    refine gr_iconst C (v := -1) dX11_cats_20 (by decide) ?_
    cases hF
    exact gr_iret C dX11_cats_21 ⟨rfl, rfl⟩
  · rw [if_neg c4] at hF
    refine gr_iload_n C 2 dX11_cats_8 rfl rfl ?_
    refine gr_i2l C dX11_cats_9 ?_
    refine gr_lconst C (v := 0) dX11_cats_10 (by decide) ?_
    refine gr_ldc2 C (v := 9) dX11_cats_11 k210 ?_
    obtain ⟨r7, g6, hc5, hF⟩ := gCl_e hF
    refine gr_callSI C (n := 3) (As := [.long (a1.toInt64), .long (0 : Int64), .long (9 : Int64)]) (rest := []) (mX11_in X.2.1 hw  hc5) gX11_cats_X11_in rfl ⟨rfl, rfl⟩ ⟨by decide, by decide⟩ rfl (Nat.le_of_ble_eq_true rfl) rfl (by decide +kernel) dX11_cats_14 ?_
    refine gr_if_ne C 22 dX11_cats_17 (by decide) (fun c8 => ?_) (fun c8 => ?_)
    · rw [if_neg c8] at hF
      refine gr_aload_n C 0 dX11_cats_22 rfl rfl ?_
      obtain ⟨g10, hc9, hF⟩ := gCv_e hF
      refine gr_callVV C (n := 0) (As := []) (rest := []) 0 (mX11_known X.2.1 hw  hc9) gX11_cats_X11_known rfl ⟨rfl, rfl⟩ ⟨by decide, by decide⟩ rfl (Nat.le_of_ble_eq_true rfl) rfl (by decide +kernel) (scm_0 hw) rfl dX11_cats_23 ?_
      refine gr_aload_n C 0 dX11_cats_26 rfl rfl ?_
      refine gr_getR C 0 15 10 dX11_cats_27 (scm_0 hw) rfl inX11 (by decide) ln37 rfl ?_
      refine gr_bipush C (v := 18) dX11_cats_30 (by decide) ?_
      refine gr_iload_n C 1 dX11_cats_32 rfl rfl ?_
      refine gr_iadd C dX11_cats_33 ?_
      obtain ⟨h12, x11, ex11, hF⟩ := gRd_e hF
      refine gr_iald C 10 336 dX11_cats_34 (scm_10 hw) h12 ?_
      refine gr_nmI ex11 ?_
      refine gr_istore_n C [(3, .int x11), (0, .ref (w.2.2.1 0)), (1, .int a0), (2, .int a1)] dX11_cats_35 rfl (by decide) rfl ?_
      refine gr_aload_n C 1 dX11_cats_36 rfl rfl ?_
      refine gr_getR C 0 15 10 dX11_cats_37 (scm_0 hw) rfl inX11 (by decide) ln37 rfl ?_
      refine gr_bipush C (v := 18) dX11_cats_40 (by decide) ?_
      refine gr_iload_n C 2 dX11_cats_42 rfl rfl ?_
      refine gr_iadd C dX11_cats_43 ?_
      refine gr_iload_n C 3 dX11_cats_44 rfl rfl ?_
      obtain ⟨h13, g14, eg14, hF⟩ := gWr_e hF
      refine gr_iast C 10 336 dX11_cats_45 (scm_10 hw) h13 ?_
      refine gr_nmS eg14 ?_
      refine gr_iload_n C 0 dX11_cats_46 rfl rfl ?_
      cases hF
      exact gr_iret C dX11_cats_47 ⟨rfl, rfl⟩
    · rw [if_pos c8] at hF
      refine gr_sub [] [] rfl ?_
      refine gr_iconst C (v := -1) dX11_cats_20 (by decide) ?_
      cases hF
      exact gr_iret C dX11_cats_21 ⟨rfl, rfl⟩
-- X11_undo: 21 instructions, frames 1, locals 23
set_option maxRecDepth 100000 in
set_option maxHeartbeats 4000000 in
theorem mX11_undo (l : Launch) {w : Wl} (hw : w.2.2.2 = shM) {σ : Sg}   {r : Int32} {σ' : Sg} (hF : fX11_undo σ  = some (r, σ')) : gMI l w yX11_undo wsX11_undo ({ frames := 1, cells := 0, slots := 0, locals := 23 } : Room) [.ref (w.2.2.1 0)] σ r σ' := by
  have inX11 : ∀ v ∈ u_ws RX11 TX11 32, v ∈ wsX11_undo := by decide +kernel
  have ln148 : Cond.fieldLink RX11 148 (TX11 16).1 (TX11 16).2.1 (TX11 16).2.2.1 ∈ wsX11_undo := by decide +kernel
  refine gStartI cX11_undo 1 RX11 rfl (by decide) rfl (Nat.le_of_ble_eq_true rfl) ?_
  intro X hl C
  show gG X w σ 0 [(0, .ref (w.2.2.1 0))] []
  unfold fX11_undo at hF
  refine gr_aload_n C 0 dX11_undo_0 rfl rfl ?_
  refine gr_getI C 0 16 dX11_undo_1 (scm_0 hw) rfl inX11 (by decide) ln148 rfl ?_
  refine gr_if_ne C 10 dX11_undo_4 (by decide) (fun c1 => ?_) (fun c1 => ?_)
  · rw [if_neg c1] at hF
    refine gr_aload_n C 0 dX11_undo_10 rfl rfl ?_
    refine gr_aload_n C 0 dX11_undo_11 rfl rfl ?_
    refine gr_getI C 0 16 dX11_undo_12 (scm_0 hw) rfl inX11 (by decide) ln148 rfl ?_
    refine gr_bipush C (v := 28) dX11_undo_15 (by decide) ?_
    refine gr_imul C dX11_undo_17 ?_
    refine gr_iconst C (v := 0) dX11_undo_18 (by decide) ?_
    obtain ⟨g3, hc2, hF⟩ := gCv_e hF
    refine gr_callVV C (n := 2) (As := [.int ((σ 0 16) * (28 : Int32)), .int (0 : Int32)]) (rest := []) 0 (mX11_copies X.2.1 hw  hc2) gX11_undo_X11_copies rfl ⟨rfl, rfl⟩ ⟨by decide, by decide⟩ rfl (Nat.le_of_ble_eq_true rfl) rfl (by decide +kernel) (scm_0 hw) rfl dX11_undo_19 ?_
    refine gr_aload_n C 0 dX11_undo_22 rfl rfl ?_
    refine gr_dup C dX11_undo_23 rfl ?_
    refine gr_getI C 0 16 dX11_undo_24 (scm_0 hw) rfl inX11 (by decide) ln148 rfl ?_
    refine gr_iconst C (v := 1) dX11_undo_27 (by decide) ?_
    refine gr_isub C dX11_undo_28 ?_
    obtain ⟨g4, eg4, hF⟩ := gLet_e hF
    refine gr_putI C 0 16 dX11_undo_29 (scm_0 hw) rfl inX11 (by decide) ln148 rfl tyX11 tyX11_ok nmX11 rfl .int rfl rfl rfl ?_
    refine gr_nmS eg4 ?_
    refine gr_aload_n C 0 dX11_undo_32 rfl rfl ?_
    refine gr_getI C 0 16 dX11_undo_33 (scm_0 hw) rfl inX11 (by decide) ln148 rfl ?_
    cases hF
    exact gr_iret C dX11_undo_36 ⟨rfl, rfl⟩
  · rw [if_pos c1] at hF
    refine gr_sub [] [] rfl ?_
    refine gr_bipush C (v := -2) dX11_undo_7 (by decide) ?_
    cases hF
    exact gr_iret C dX11_undo_9 ⟨rfl, rfl⟩
-- X11_tries: 19 instructions, frames 3, locals 79
set_option maxRecDepth 100000 in
set_option maxHeartbeats 4000000 in
theorem mX11_tries (l : Launch) {w : Wl} (hw : w.2.2.2 = shM) {σ : Sg} {a0 : Int32}  {σ' : Sg} (hF : fX11_tries σ a0 = some σ') : gMV l w yX11_tries wsX11_tries ({ frames := 3, cells := 0, slots := 0, locals := 79 } : Room) [.ref (w.2.2.1 0), .int a0] σ σ' := by
  refine gStartV cX11_tries 4 RX11 rfl (by decide) rfl (Nat.le_of_ble_eq_true rfl) ?_
  intro X hl C
  show gG X w σ 0 [(0, .ref (w.2.2.1 0)), (1, .int a0)] []
  unfold fX11_tries at hF
  refine gr_iconst C (v := 0) dX11_tries_0 (by decide) ?_
  refine gr_istore_n C [(2, .int (0 : Int32)), (0, .ref (w.2.2.1 0)), (1, .int a0)] dX11_tries_1 rfl (by decide) rfl ?_
  refine gr_iconst C (v := 0) dX11_tries_2 (by decide) ?_
  refine gr_istore_n C [(3, .int (0 : Int32)), (2, .int (0 : Int32)), (0, .ref (w.2.2.1 0)), (1, .int a0)] dX11_tries_3 rfl (by decide) rfl ?_
  refine gr_sub [2, 3, 1, 0] [(0, .ref (w.2.2.1 0)), (1, .int a0), (2, .int (0 : Int32)), (3, .int (0 : Int32))] rfl ?_
  have L11 : ∀ (n : Nat) (x1 : Int32) (x2 : Int32) (g3 : Sg) , fX11_tries_4 a0 n x1 x2 g3  = some σ' → gG X w g3 4 [(0, .ref (w.2.2.1 0)), (1, .int a0), (2, .int x1), (3, .int x2)] [] := by
    intro n
    induction n with
    | zero =>
      intro x1 x2 g3 hF
      rw [fX11_tries_4] at hF
      cases hF
    | succ n ih =>
      intro x1 x2 g3 hF
      rw [fX11_tries_4] at hF
      refine gr_iload_n C 3 dX11_tries_4 rfl rfl ?_
      refine gr_iload_n C 1 dX11_tries_5 rfl rfl ?_
      refine gr_icmp_ge C 30 dX11_tries_6 (by decide) (fun c4 => ?_) (fun c4 => ?_)
      · rw [if_pos c4] at hF
        refine gr_sub [] [] rfl ?_
        cases hF
        exact gr_vret C dX11_tries_30 ⟨rfl, rfl⟩
      · rw [if_neg c4] at hF
        refine gr_iload_n C 2 dX11_tries_9 rfl rfl ?_
        refine gr_if_lt C 30 dX11_tries_10 (by decide) (fun c5 => ?_) (fun c5 => ?_)
        · rw [if_pos c5] at hF
          refine gr_sub [] [] rfl ?_
          cases hF
          exact gr_vret C dX11_tries_30 ⟨rfl, rfl⟩
        · rw [if_neg c5] at hF
          refine gr_iload_n C 2 dX11_tries_13 rfl rfl ?_
          refine gr_aload_n C 0 dX11_tries_14 rfl rfl ?_
          refine gr_sipush C (v := 308) dX11_tries_15 (by decide) ?_
          refine gr_iconst C (v := 0) dX11_tries_18 (by decide) ?_
          obtain ⟨r8, g7, hc6, hF⟩ := gCl_e hF
          refine gr_callVI C (n := 2) (As := [.int (308 : Int32), .int (0 : Int32)]) (rest := [.int x1]) 0 (mX11_goesOn X.2.1 hw  hc6) gX11_tries_X11_goesOn rfl ⟨rfl, rfl⟩ ⟨by decide, by decide⟩ rfl (Nat.le_of_ble_eq_true rfl) rfl (by decide +kernel) (scm_0 hw) rfl dX11_tries_19 ?_
          refine gr_iadd C dX11_tries_22 ?_
          obtain ⟨x9, ex9, hF⟩ := gLet_e hF
          refine gr_nmI ex9 ?_
          refine gr_istore_n C [(2, .int x9), (0, .ref (w.2.2.1 0)), (1, .int a0), (3, .int x2)] dX11_tries_23 rfl (by decide) rfl ?_
          obtain ⟨x10, ex10, hF⟩ := gLet_e hF
          refine gr_iinc C (v := x10) 3 [(3, .int x10), (2, .int x9), (0, .ref (w.2.2.1 0)), (1, .int a0)] dX11_tries_24 rfl (by rw [ex10]; rfl) (by decide) rfl ?_
          refine gr_goto C 4 dX11_tries_27 (by decide) ?_
          refine gr_sub [2, 3, 1, 0] [(0, .ref (w.2.2.1 0)), (1, .int a0), (2, .int x9), (3, .int x10)] rfl ?_
          exact ih x9 x10 g7   hF
  refine L11 _ (0 : Int32) (0 : Int32) σ   hF
-- X11_behind: 26 instructions, frames 4, locals 102
set_option maxRecDepth 100000 in
set_option maxHeartbeats 4000000 in
theorem mX11_behind (l : Launch) {w : Wl} (hw : w.2.2.2 = shM) {σ : Sg} {a0 : Int32} {a1 : Int32}  {r : Int32} {σ' : Sg} (hF : fX11_behind σ a0 a1 = some (r, σ')) : gMI l w yX11_behind wsX11_behind ({ frames := 4, cells := 0, slots := 0, locals := 102 } : Room) [.ref (w.2.2.1 0), .int a0, .int a1] σ r σ' := by
  have inX11 : ∀ v ∈ u_ws RX11 TX11 32, v ∈ wsX11_behind := by decide +kernel
  have ln37 : Cond.fieldLink RX11 37 (TX11 15).1 (TX11 15).2.1 (TX11 15).2.2.1 ∈ wsX11_behind := by decide +kernel
  have k212 : Cond.constantLong RX11 212 (30) ∈ wsX11_behind := by decide +kernel
  refine gStartI cX11_behind 3 RX11 rfl (by decide) rfl (Nat.le_of_ble_eq_true rfl) ?_
  intro X hl C
  show gG X w σ 0 [(0, .ref (w.2.2.1 0)), (1, .int a0), (2, .int a1)] []
  unfold fX11_behind at hF
  refine gr_iload_n C 1 dX11_behind_0 rfl rfl ?_
  refine gr_i2l C dX11_behind_1 ?_
  refine gr_lconst C (v := 0) dX11_behind_2 (by decide) ?_
  refine gr_ldc2 C (v := 30) dX11_behind_3 k212 ?_
  obtain ⟨r3, g2, hc1, hF⟩ := gCl_e hF
  refine gr_callSI C (n := 3) (As := [.long (a0.toInt64), .long (0 : Int64), .long (30 : Int64)]) (rest := []) (mX11_in X.2.1 hw  hc1) gX11_behind_X11_in rfl ⟨rfl, rfl⟩ ⟨by decide, by decide⟩ rfl (Nat.le_of_ble_eq_true rfl) rfl (by decide +kernel) dX11_behind_6 ?_
  refine gr_if_eq C 20 dX11_behind_9 (by decide) (fun c4 => ?_) (fun c4 => ?_)
  · rw [if_pos c4] at hF
    refine gr_sub [] [] rfl ?_
    refine gr_iconst C (v := -1) dX11_behind_20 (by decide) ?_
    cases hF
    exact gr_iret C dX11_behind_21 ⟨rfl, rfl⟩
  · rw [if_neg c4] at hF
    refine gr_aload_n C 0 dX11_behind_12 rfl rfl ?_
    refine gr_iload_n C 2 dX11_behind_13 rfl rfl ?_
    obtain ⟨r7, g6, hc5, hF⟩ := gCl_e hF
    refine gr_callVI C (n := 1) (As := [.int a1]) (rest := []) 0 (mX11_isOne X.2.1 hw  hc5) gX11_behind_X11_isOne rfl ⟨rfl, rfl⟩ ⟨by decide, by decide⟩ rfl (Nat.le_of_ble_eq_true rfl) rfl (by decide +kernel) (scm_0 hw) rfl dX11_behind_14 ?_
    refine gr_if_ne C 22 dX11_behind_17 (by decide) (fun c8 => ?_) (fun c8 => ?_)
    · rw [if_neg c8] at hF
      refine gr_aload_n C 0 dX11_behind_22 rfl rfl ?_
      refine gr_iconst C (v := 0) dX11_behind_23 (by decide) ?_
      refine gr_sipush C (v := 308) dX11_behind_24 (by decide) ?_
      obtain ⟨g10, hc9, hF⟩ := gCv_e hF
      refine gr_callVV C (n := 2) (As := [.int (0 : Int32), .int (308 : Int32)]) (rest := []) 0 (mX11_copies X.2.1 hw  hc9) gX11_behind_X11_copies rfl ⟨rfl, rfl⟩ ⟨by decide, by decide⟩ rfl (Nat.le_of_ble_eq_true rfl) rfl (by decide +kernel) (scm_0 hw) rfl dX11_behind_27 ?_
      refine gr_aload_n C 0 dX11_behind_30 rfl rfl ?_
      refine gr_iload_n C 1 dX11_behind_31 rfl rfl ?_
      obtain ⟨g12, hc11, hF⟩ := gCv_e hF
      refine gr_callVV C (n := 1) (As := [.int a0]) (rest := []) 0 (mX11_tries X.2.1 hw  hc11) gX11_behind_X11_tries rfl ⟨rfl, rfl⟩ ⟨by decide, by decide⟩ rfl (Nat.le_of_ble_eq_true rfl) rfl (by decide +kernel) (scm_0 hw) rfl dX11_behind_32 ?_
      refine gr_aload_n C 0 dX11_behind_35 rfl rfl ?_
      refine gr_getR C 0 15 10 dX11_behind_36 (scm_0 hw) rfl inX11 (by decide) ln37 rfl ?_
      refine gr_sipush C (v := 308) dX11_behind_39 (by decide) ?_
      refine gr_iload_n C 2 dX11_behind_42 rfl rfl ?_
      refine gr_iadd C dX11_behind_43 ?_
      obtain ⟨h14, x13, ex13, hF⟩ := gRd_e hF
      refine gr_iald C 10 336 dX11_behind_44 (scm_10 hw) h14 ?_
      refine gr_nmI ex13 ?_
      cases hF
      exact gr_iret C dX11_behind_45 ⟨rfl, rfl⟩
    · rw [if_pos c8] at hF
      refine gr_sub [] [] rfl ?_
      refine gr_iconst C (v := -1) dX11_behind_20 (by decide) ?_
      cases hF
      exact gr_iret C dX11_behind_21 ⟨rfl, rfl⟩
-- X11_goes: 31 instructions, frames 4, locals 102
set_option maxRecDepth 100000 in
set_option maxHeartbeats 4000000 in
theorem mX11_goes (l : Launch) {w : Wl} (hw : w.2.2.2 = shM) {σ : Sg} {a0 : Int32}  {r : Int32} {σ' : Sg} (hF : fX11_goes σ a0 = some (r, σ')) : gMI l w yX11_goes wsX11_goes ({ frames := 4, cells := 0, slots := 0, locals := 102 } : Room) [.ref (w.2.2.1 0), .int a0] σ r σ' := by
  have inX11 : ∀ v ∈ u_ws RX11 TX11 32, v ∈ wsX11_goes := by decide +kernel
  have ln37 : Cond.fieldLink RX11 37 (TX11 15).1 (TX11 15).2.1 (TX11 15).2.2.1 ∈ wsX11_goes := by decide +kernel
  refine gStartI cX11_goes 3 RX11 rfl (by decide) rfl (Nat.le_of_ble_eq_true rfl) ?_
  intro X hl C
  show gG X w σ 0 [(0, .ref (w.2.2.1 0)), (1, .int a0)] []
  unfold fX11_goes at hF
  refine gr_aload_n C 0 dX11_goes_0 rfl rfl ?_
  refine gr_iload_n C 1 dX11_goes_1 rfl rfl ?_
  obtain ⟨r3, g2, hc1, hF⟩ := gCl_e hF
  refine gr_callVI C (n := 1) (As := [.int a0]) (rest := []) 0 (mX11_isOne X.2.1 hw  hc1) gX11_goes_X11_isOne rfl ⟨rfl, rfl⟩ ⟨by decide, by decide⟩ rfl (Nat.le_of_ble_eq_true rfl) rfl (by decide +kernel) (scm_0 hw) rfl dX11_goes_2 ?_
  refine gr_if_ne C 10 dX11_goes_5 (by decide) (fun c4 => ?_) (fun c4 => ?_)
  · rw [if_neg c4] at hF
    refine gr_aload_n C 0 dX11_goes_10 rfl rfl ?_
    refine gr_iconst C (v := 0) dX11_goes_11 (by decide) ?_
    refine gr_sipush C (v := 308) dX11_goes_12 (by decide) ?_
    obtain ⟨g6, hc5, hF⟩ := gCv_e hF
    refine gr_callVV C (n := 2) (As := [.int (0 : Int32), .int (308 : Int32)]) (rest := []) 0 (mX11_copies X.2.1 hw  hc5) gX11_goes_X11_copies rfl ⟨rfl, rfl⟩ ⟨by decide, by decide⟩ rfl (Nat.le_of_ble_eq_true rfl) rfl (by decide +kernel) (scm_0 hw) rfl dX11_goes_15 ?_
    refine gr_iconst C (v := 0) dX11_goes_18 (by decide) ?_
    refine gr_istore_n C [(2, .int (0 : Int32)), (0, .ref (w.2.2.1 0)), (1, .int a0)] dX11_goes_19 rfl (by decide) rfl ?_
    refine gr_sub [1, 2, 0] [(0, .ref (w.2.2.1 0)), (1, .int a0), (2, .int (0 : Int32))] rfl ?_
    have L16 : ∀ (n : Nat) (x7 : Int32) (g8 : Sg) , fX11_goes_20 a0 n x7 g8  = some (r, σ') → gG X w g8 20 [(0, .ref (w.2.2.1 0)), (1, .int a0), (2, .int x7)] [] := by
      intro n
      induction n with
      | zero =>
        intro x7 g8 hF
        rw [fX11_goes_20] at hF
        cases hF
      | succ n ih =>
        intro x7 g8 hF
        rw [fX11_goes_20] at hF
        refine gr_iload_n C 2 dX11_goes_20 rfl rfl ?_
        refine gr_bipush C (v := 60) dX11_goes_21 (by decide) ?_
        refine gr_icmp_gt C 52 dX11_goes_23 (by decide) (fun c9 => ?_) (fun c9 => ?_)
        · rw [if_pos c9] at hF
          refine gr_sub [] [] rfl ?_
          refine gr_bipush C (v := -4) dX11_goes_52 (by decide) ?_
          cases hF
          exact gr_iret C dX11_goes_54 ⟨rfl, rfl⟩
        · rw [if_neg c9] at hF
          refine gr_aload_n C 0 dX11_goes_26 rfl rfl ?_
          refine gr_getR C 0 15 10 dX11_goes_27 (scm_0 hw) rfl inX11 (by decide) ln37 rfl ?_
          refine gr_sipush C (v := 308) dX11_goes_30 (by decide) ?_
          refine gr_iload_n C 1 dX11_goes_33 rfl rfl ?_
          refine gr_iadd C dX11_goes_34 ?_
          obtain ⟨h11, x10, ex10, hF⟩ := gRd_e hF
          refine gr_iald C 10 336 dX11_goes_35 (scm_10 hw) h11 ?_
          refine gr_nmI ex10 ?_
          refine gr_if_ne C 41 dX11_goes_36 (by decide) (fun c12 => ?_) (fun c12 => ?_)
          · rw [if_neg c12] at hF
            refine gr_aload_n C 0 dX11_goes_41 rfl rfl ?_
            refine gr_iconst C (v := 1) dX11_goes_42 (by decide) ?_
            obtain ⟨g14, hc13, hF⟩ := gCv_e hF
            refine gr_callVV C (n := 1) (As := [.int (1 : Int32)]) (rest := []) 0 (mX11_tries X.2.1 hw  hc13) gX11_goes_X11_tries rfl ⟨rfl, rfl⟩ ⟨by decide, by decide⟩ rfl (Nat.le_of_ble_eq_true rfl) rfl (by decide +kernel) (scm_0 hw) rfl dX11_goes_43 ?_
            obtain ⟨x15, ex15, hF⟩ := gLet_e hF
            refine gr_iinc C (v := x15) 2 [(2, .int x15), (0, .ref (w.2.2.1 0)), (1, .int a0)] dX11_goes_46 rfl (by rw [ex15]; rfl) (by decide) rfl ?_
            refine gr_goto C 20 dX11_goes_49 (by decide) ?_
            refine gr_sub [1, 2, 0] [(0, .ref (w.2.2.1 0)), (1, .int a0), (2, .int x15)] rfl ?_
            exact ih x15 g14   hF
          · rw [if_pos c12] at hF
            refine gr_sub [2] [(2, .int x7)] rfl ?_
            refine gr_iload_n C 0 dX11_goes_39 rfl rfl ?_
            refine gr_sub [] [] rfl ?_
            cases hF
            exact gr_iret C dX11_goes_40 ⟨rfl, rfl⟩
    refine L16 _ (0 : Int32) g6   hF
  · rw [if_pos c4] at hF
    refine gr_sub [] [] rfl ?_
    refine gr_iconst C (v := -1) dX11_goes_8 (by decide) ?_
    cases hF
    exact gr_iret C dX11_goes_9 ⟨rfl, rfl⟩
-- X11_staysAt: 19 instructions, frames 4, locals 102
set_option maxRecDepth 100000 in
set_option maxHeartbeats 4000000 in
theorem mX11_staysAt (l : Launch) {w : Wl} (hw : w.2.2.2 = shM) {σ : Sg} {a0 : Int32} {a1 : Int32} {a2 : Int32}  {r : Int32} {σ' : Sg} (hF : fX11_staysAt σ a0 a1 a2 = some (r, σ')) : gMI l w yX11_staysAt wsX11_staysAt ({ frames := 4, cells := 0, slots := 0, locals := 102 } : Room) [.ref (w.2.2.1 0), .int a0, .int a1, .int a2] σ r σ' := by
  have inX11 : ∀ v ∈ u_ws RX11 TX11 32, v ∈ wsX11_staysAt := by decide +kernel
  have ln37 : Cond.fieldLink RX11 37 (TX11 15).1 (TX11 15).2.1 (TX11 15).2.2.1 ∈ wsX11_staysAt := by decide +kernel
  refine gStartI cX11_staysAt 4 RX11 rfl (by decide) rfl (Nat.le_of_ble_eq_true rfl) ?_
  intro X hl C
  show gG X w σ 0 [(0, .ref (w.2.2.1 0)), (1, .int a0), (2, .int a1), (3, .int a2)] []
  unfold fX11_staysAt at hF
  refine gr_aload_n C 0 dX11_staysAt_0 rfl rfl ?_
  refine gr_iconst C (v := 0) dX11_staysAt_1 (by decide) ?_
  refine gr_sipush C (v := 308) dX11_staysAt_2 (by decide) ?_
  obtain ⟨g2, hc1, hF⟩ := gCv_e hF
  refine gr_callVV C (n := 2) (As := [.int (0 : Int32), .int (308 : Int32)]) (rest := []) 0 (mX11_copies X.2.1 hw  hc1) gX11_staysAt_X11_copies rfl ⟨rfl, rfl⟩ ⟨by decide, by decide⟩ rfl (Nat.le_of_ble_eq_true rfl) rfl (by decide +kernel) (scm_0 hw) rfl dX11_staysAt_5 ?_
  refine gr_aload_n C 0 dX11_staysAt_8 rfl rfl ?_
  refine gr_getR C 0 15 10 dX11_staysAt_9 (scm_0 hw) rfl inX11 (by decide) ln37 rfl ?_
  refine gr_sipush C (v := 317) dX11_staysAt_12 (by decide) ?_
  refine gr_iload_n C 1 dX11_staysAt_15 rfl rfl ?_
  refine gr_iadd C dX11_staysAt_16 ?_
  refine gr_iload_n C 2 dX11_staysAt_17 rfl rfl ?_
  obtain ⟨h3, g4, eg4, hF⟩ := gWr_e hF
  refine gr_iast C 10 336 dX11_staysAt_18 (scm_10 hw) h3 ?_
  refine gr_nmS eg4 ?_
  refine gr_aload_n C 0 dX11_staysAt_19 rfl rfl ?_
  refine gr_iload_n C 3 dX11_staysAt_20 rfl rfl ?_
  obtain ⟨g6, hc5, hF⟩ := gCv_e hF
  refine gr_callVV C (n := 1) (As := [.int a2]) (rest := []) 0 (mX11_tries X.2.1 hw  hc5) gX11_staysAt_X11_tries rfl ⟨rfl, rfl⟩ ⟨by decide, by decide⟩ rfl (Nat.le_of_ble_eq_true rfl) rfl (by decide +kernel) (scm_0 hw) rfl dX11_staysAt_21 ?_
  refine gr_aload_n C 0 dX11_staysAt_24 rfl rfl ?_
  refine gr_sipush C (v := 308) dX11_staysAt_25 (by decide) ?_
  refine gr_iload_n C 1 dX11_staysAt_28 rfl rfl ?_
  obtain ⟨r9, g8, hc7, hF⟩ := gCl_e hF
  refine gr_callVI C (n := 2) (As := [.int (308 : Int32), .int a0]) (rest := []) 0 (mX11_thereAt X.2.1 hw  hc7) gX11_staysAt_X11_thereAt rfl ⟨rfl, rfl⟩ ⟨by decide, by decide⟩ rfl (Nat.le_of_ble_eq_true rfl) rfl (by decide +kernel) (scm_0 hw) rfl dX11_staysAt_29 ?_
  cases hF
  exact gr_iret C dX11_staysAt_32 ⟨rfl, rfl⟩
-- X11_least: 35 instructions, frames 5, locals 125
set_option maxRecDepth 100000 in
set_option maxHeartbeats 4000000 in
theorem mX11_least (l : Launch) {w : Wl} (hw : w.2.2.2 = shM) {σ : Sg} {a0 : Int32} {a1 : Int32}  {r : Int32} {σ' : Sg} (hF : fX11_least σ a0 a1 = some (r, σ')) : gMI l w yX11_least wsX11_least ({ frames := 5, cells := 0, slots := 0, locals := 125 } : Room) [.ref (w.2.2.1 0), .int a0, .int a1] σ r σ' := by
  have k196 : Cond.constantLong RX11 196 (20) ∈ wsX11_least := by decide +kernel
  refine gStartI cX11_least 5 RX11 rfl (by decide) rfl (Nat.le_of_ble_eq_true rfl) ?_
  intro X hl C
  show gG X w σ 0 [(0, .ref (w.2.2.1 0)), (1, .int a0), (2, .int a1)] []
  unfold fX11_least at hF
  refine gr_aload_n C 0 dX11_least_0 rfl rfl ?_
  refine gr_iload_n C 1 dX11_least_1 rfl rfl ?_
  obtain ⟨r3, g2, hc1, hF⟩ := gCl_e hF
  refine gr_callVI C (n := 1) (As := [.int a0]) (rest := []) 0 (mX11_isStep X.2.1 hw  hc1) gX11_least_X11_isStep rfl ⟨rfl, rfl⟩ ⟨by decide, by decide⟩ rfl (Nat.le_of_ble_eq_true rfl) rfl (by decide +kernel) (scm_0 hw) rfl dX11_least_2 ?_
  refine gr_if_eq C 20 dX11_least_5 (by decide) (fun c4 => ?_) (fun c4 => ?_)
  · rw [if_pos c4] at hF
    refine gr_sub [] [] rfl ?_
    refine gr_iconst C (v := -1) dX11_least_20 (by decide) ?_
    cases hF
    exact gr_iret C dX11_least_21 ⟨rfl, rfl⟩
  · rw [if_neg c4] at hF
    refine gr_iload_n C 2 dX11_least_8 rfl rfl ?_
    refine gr_i2l C dX11_least_9 ?_
    refine gr_lconst C (v := 1) dX11_least_10 (by decide) ?_
    refine gr_ldc2 C (v := 20) dX11_least_11 k196 ?_
    obtain ⟨r7, g6, hc5, hF⟩ := gCl_e hF
    refine gr_callSI C (n := 3) (As := [.long (a1.toInt64), .long (1 : Int64), .long (20 : Int64)]) (rest := []) (mX11_in X.2.1 hw  hc5) gX11_least_X11_in rfl ⟨rfl, rfl⟩ ⟨by decide, by decide⟩ rfl (Nat.le_of_ble_eq_true rfl) rfl (by decide +kernel) dX11_least_14 ?_
    refine gr_if_ne C 22 dX11_least_17 (by decide) (fun c8 => ?_) (fun c8 => ?_)
    · rw [if_neg c8] at hF
      refine gr_aload_n C 0 dX11_least_22 rfl rfl ?_
      refine gr_iconst C (v := 0) dX11_least_23 (by decide) ?_
      refine gr_iload_n C 1 dX11_least_24 rfl rfl ?_
      obtain ⟨r11, g10, hc9, hF⟩ := gCl_e hF
      refine gr_callVI C (n := 2) (As := [.int (0 : Int32), .int a0]) (rest := []) 0 (mX11_thereAt X.2.1 hw  hc9) gX11_least_X11_thereAt rfl ⟨rfl, rfl⟩ ⟨by decide, by decide⟩ rfl (Nat.le_of_ble_eq_true rfl) rfl (by decide +kernel) (scm_0 hw) rfl dX11_least_25 ?_
      refine gr_istore_n C [(3, .int r11), (0, .ref (w.2.2.1 0)), (1, .int a0), (2, .int a1)] dX11_least_28 rfl (by decide) rfl ?_
      refine gr_iconst C (v := 0) dX11_least_29 (by decide) ?_
      refine gr_istore C [(4, .int (0 : Int32)), (3, .int r11), (0, .ref (w.2.2.1 0)), (1, .int a0), (2, .int a1)] dX11_least_30 (by decide) rfl ?_
      refine gr_sub [2, 3, 4, 1, 0] [(0, .ref (w.2.2.1 0)), (1, .int a0), (2, .int a1), (3, .int r11), (4, .int (0 : Int32))] rfl ?_
      have L20 : ∀ (n : Nat) (x12 : Int32) (g13 : Sg) , fX11_least_32 a0 a1 r11 n x12 g13  = some (r, σ') → gG X w g13 32 [(0, .ref (w.2.2.1 0)), (1, .int a0), (2, .int a1), (3, .int r11), (4, .int x12)] [] := by
        intro n
        induction n with
        | zero =>
          intro x12 g13 hF
          rw [fX11_least_32] at hF
          cases hF
        | succ n ih =>
          intro x12 g13 hF
          rw [fX11_least_32] at hF
          refine gr_iload C 4 dX11_least_32 rfl ?_
          refine gr_bipush C (v := 40) dX11_least_34 (by decide) ?_
          refine gr_icmp_gt C 60 dX11_least_36 (by decide) (fun c14 => ?_) (fun c14 => ?_)
          · rw [if_pos c14] at hF
            refine gr_sub [] [] rfl ?_
            refine gr_bipush C (v := -4) dX11_least_60 (by decide) ?_
            cases hF
            exact gr_iret C dX11_least_62 ⟨rfl, rfl⟩
          · rw [if_neg c14] at hF
            refine gr_aload_n C 0 dX11_least_39 rfl rfl ?_
            refine gr_iload_n C 1 dX11_least_40 rfl rfl ?_
            refine gr_iload C 4 dX11_least_41 rfl ?_
            refine gr_iload_n C 2 dX11_least_43 rfl rfl ?_
            obtain ⟨r17, g16, hc15, hF⟩ := gCl_e hF
            refine gr_callVI C (n := 3) (As := [.int a0, .int x12, .int a1]) (rest := []) 0 (mX11_staysAt X.2.1 hw  hc15) gX11_least_X11_staysAt rfl ⟨rfl, rfl⟩ ⟨by decide, by decide⟩ rfl (Nat.le_of_ble_eq_true rfl) rfl (by decide +kernel) (scm_0 hw) rfl dX11_least_44 ?_
            refine gr_iload_n C 3 dX11_least_47 rfl rfl ?_
            refine gr_icmp_ne C 54 dX11_least_48 (by decide) (fun c18 => ?_) (fun c18 => ?_)
            · rw [if_neg c18] at hF
              obtain ⟨x19, ex19, hF⟩ := gLet_e hF
              refine gr_iinc C (v := x19) 4 [(4, .int x19), (0, .ref (w.2.2.1 0)), (1, .int a0), (2, .int a1), (3, .int r11)] dX11_least_54 rfl (by rw [ex19]; rfl) (by decide) rfl ?_
              refine gr_goto C 32 dX11_least_57 (by decide) ?_
              refine gr_sub [1, 2, 3, 4, 0] [(0, .ref (w.2.2.1 0)), (1, .int a0), (2, .int a1), (3, .int r11), (4, .int x19)] rfl ?_
              exact ih x19 g16   hF
            · rw [if_pos c18] at hF
              refine gr_sub [4] [(4, .int x12)] rfl ?_
              refine gr_iload C 0 dX11_least_51 rfl ?_
              refine gr_sub [] [] rfl ?_
              cases hF
              exact gr_iret C dX11_least_53 ⟨rfl, rfl⟩
      refine L20 _ (0 : Int32) g10   hF
    · rw [if_pos c8] at hF
      refine gr_sub [] [] rfl ?_
      refine gr_iconst C (v := -1) dX11_least_20 (by decide) ?_
      cases hF
      exact gr_iret C dX11_least_21 ⟨rfl, rfl⟩
-- X11_load: 10 instructions, frames 1, locals 21
set_option maxRecDepth 100000 in
set_option maxHeartbeats 4000000 in
theorem mX11_load (l : Launch) {w : Wl} (hw : w.2.2.2 = shM) {σ : Sg} {a0 : Int32}  {r : Int32} {σ' : Sg} (hF : fX11_load σ a0 = some (r, σ')) : gMI l w yX11_load wsX11_load ({ frames := 1, cells := 0, slots := 0, locals := 21 } : Room) [.ref (w.2.2.1 0), .int a0] σ r σ' := by
  have inX11 : ∀ v ∈ u_ws RX11 TX11 32, v ∈ wsX11_load := by decide +kernel
  have ln37 : Cond.fieldLink RX11 37 (TX11 15).1 (TX11 15).2.1 (TX11 15).2.2.1 ∈ wsX11_load := by decide +kernel
  have ln91 : Cond.fieldLink RX11 91 (TX11 1).1 (TX11 1).2.1 (TX11 1).2.2.1 ∈ wsX11_load := by decide +kernel
  refine gStartI cX11_load 2 RX11 rfl (by decide) rfl (Nat.le_of_ble_eq_true rfl) ?_
  intro X hl C
  show gG X w σ 0 [(0, .ref (w.2.2.1 0)), (1, .int a0)] []
  unfold fX11_load at hF
  refine gr_aload_n C 0 dX11_load_0 rfl rfl ?_
  refine gr_getI C 0 1 dX11_load_1 (scm_0 hw) rfl inX11 (by decide) ln91 rfl ?_
  refine gr_aload_n C 0 dX11_load_4 rfl rfl ?_
  refine gr_getR C 0 15 10 dX11_load_5 (scm_0 hw) rfl inX11 (by decide) ln37 rfl ?_
  refine gr_bipush C (v := 9) dX11_load_8 (by decide) ?_
  refine gr_iload_n C 1 dX11_load_10 rfl rfl ?_
  refine gr_iadd C dX11_load_11 ?_
  obtain ⟨h2, x1, ex1, hF⟩ := gRd_e hF
  refine gr_iald C 10 336 dX11_load_12 (scm_10 hw) h2 ?_
  refine gr_nmI ex1 ?_
  obtain ⟨r5, g4, hc3, hF⟩ := gCl_e hF
  refine gr_callSI C (n := 2) (As := [.int (σ 0 1), .int x1]) (rest := []) (mX11_smaller X.2.1 hw  hc3) gX11_load_X11_smaller rfl ⟨rfl, rfl⟩ ⟨by decide, by decide⟩ rfl (Nat.le_of_ble_eq_true rfl) rfl (by decide +kernel) dX11_load_13 ?_
  cases hF
  exact gr_iret C dX11_load_16 ⟨rfl, rfl⟩
-- X11_journey: 44 instructions, frames 2, locals 42
set_option maxRecDepth 100000 in
set_option maxHeartbeats 4000000 in
theorem mX11_journey (l : Launch) {w : Wl} (hw : w.2.2.2 = shM) {σ : Sg} {a0 : Int32}  {r : Int32} {σ' : Sg} (hF : fX11_journey σ a0 = some (r, σ')) : gMI l w yX11_journey wsX11_journey ({ frames := 2, cells := 0, slots := 0, locals := 42 } : Room) [.ref (w.2.2.1 0), .int a0] σ r σ' := by
  have inX11 : ∀ v ∈ u_ws RX11 TX11 32, v ∈ wsX11_journey := by decide +kernel
  have ln88 : Cond.fieldLink RX11 88 (TX11 0).1 (TX11 0).2.1 (TX11 0).2.2.1 ∈ wsX11_journey := by decide +kernel
  have ln91 : Cond.fieldLink RX11 91 (TX11 1).1 (TX11 1).2.1 (TX11 1).2.2.1 ∈ wsX11_journey := by decide +kernel
  refine gStartI cX11_journey 5 RX11 rfl (by decide) rfl (Nat.le_of_ble_eq_true rfl) ?_
  intro X hl C
  show gG X w σ 0 [(0, .ref (w.2.2.1 0)), (1, .int a0)] []
  unfold fX11_journey at hF
  refine gr_iconst C (v := 0) dX11_journey_0 (by decide) ?_
  refine gr_istore_n C [(2, .int (0 : Int32)), (0, .ref (w.2.2.1 0)), (1, .int a0)] dX11_journey_1 rfl (by decide) rfl ?_
  refine gr_iconst C (v := 0) dX11_journey_2 (by decide) ?_
  refine gr_istore_n C [(3, .int (0 : Int32)), (2, .int (0 : Int32)), (0, .ref (w.2.2.1 0)), (1, .int a0)] dX11_journey_3 rfl (by decide) rfl ?_
  refine gr_iconst C (v := 0) dX11_journey_4 (by decide) ?_
  refine gr_istore C [(4, .int (0 : Int32)), (3, .int (0 : Int32)), (2, .int (0 : Int32)), (0, .ref (w.2.2.1 0)), (1, .int a0)] dX11_journey_5 (by decide) rfl ?_
  refine gr_sub [3, 4, 2, 1, 0] [(0, .ref (w.2.2.1 0)), (1, .int a0), (2, .int (0 : Int32)), (3, .int (0 : Int32)), (4, .int (0 : Int32))] rfl ?_
  have L26 : ∀ (n : Nat) (x2 : Int32) (x3 : Int32) (x4 : Int32) (g5 : Sg) (K1 : Int32 → Int32 → Sg → Option (Int32 × Sg)), (∀ (x27 : Int32) (x28 : Int32) (g29 : Sg), K1 x27 x28 g29 = some (r, σ') → gG X w g29 62 [(0, .ref (w.2.2.1 0)), (2, .int x27), (3, .int x28)] []) → fX11_journey_7 a0 n x2 x3 x4 g5 K1 = some (r, σ') → gG X w g5 7 [(0, .ref (w.2.2.1 0)), (1, .int a0), (2, .int x2), (3, .int x3), (4, .int x4)] [] := by
    intro n
    induction n with
    | zero =>
      intro x2 x3 x4 g5 K1 hK1 hF
      rw [fX11_journey_7] at hF
      cases hF
    | succ n ih =>
      intro x2 x3 x4 g5 K1 hK1 hF
      rw [fX11_journey_7] at hF
      refine gr_iload C 4 dX11_journey_7 rfl ?_
      refine gr_aload_n C 0 dX11_journey_9 rfl rfl ?_
      refine gr_getI C 0 0 dX11_journey_10 (scm_0 hw) rfl inX11 (by decide) ln88 rfl ?_
      refine gr_icmp_ge C 62 dX11_journey_13 (by decide) (fun c6 => ?_) (fun c6 => ?_)
      · rw [if_pos c6] at hF
        refine gr_sub [0, 2, 3] [(0, .ref (w.2.2.1 0)), (2, .int x2), (3, .int x3)] rfl ?_
        exact hK1 x2 x3 g5 hF
      · rw [if_neg c6] at hF
        refine gr_iload_n C 2 dX11_journey_16 rfl rfl ?_
        refine gr_iload_n C 1 dX11_journey_17 rfl rfl ?_
        refine gr_iload C 4 dX11_journey_18 rfl ?_
        obtain ⟨r9, g8, hc7, hF⟩ := gCl_e hF
        refine gr_callSI C (n := 2) (As := [.int a0, .int x4]) (rest := [.int x2]) (mX11_has X.2.1 hw  hc7) gX11_journey_X11_has rfl ⟨rfl, rfl⟩ ⟨by decide, by decide⟩ rfl (Nat.le_of_ble_eq_true rfl) rfl (by decide +kernel) dX11_journey_20 ?_
        obtain ⟨K10, eK10, hF⟩ := gLet_e hF
        have JK10 : ∀ (x11 : Int32) (g12 : Sg), K10 x11 g12 = some (r, σ') → gG X w g12 36 [(0, .ref (w.2.2.1 0)), (1, .int a0), (3, .int x3), (4, .int x4)] [.int x11, .int x2] := by
          intro x11 g12 hF
          rw [eK10] at hF
          try dsimp only at hF
          refine gr_iadd C dX11_journey_36 ?_
          obtain ⟨x13, ex13, hF⟩ := gLet_e hF
          refine gr_nmI ex13 ?_
          refine gr_istore_n C [(2, .int x13), (0, .ref (w.2.2.1 0)), (1, .int a0), (3, .int x3), (4, .int x4)] dX11_journey_37 rfl (by decide) rfl ?_
          refine gr_iload_n C 2 dX11_journey_38 rfl rfl ?_
          refine gr_iload C 4 dX11_journey_39 rfl ?_
          obtain ⟨r16, g15, hc14, hF⟩ := gCl_e hF
          refine gr_callSI C (n := 2) (As := [.int a0, .int x4]) (rest := []) (mX11_has X.2.1 hw  hc14) gX11_journey_X11_has rfl ⟨rfl, rfl⟩ ⟨by decide, by decide⟩ rfl (Nat.le_of_ble_eq_true rfl) rfl (by decide +kernel) dX11_journey_41 ?_
          obtain ⟨K17, eK17, hF⟩ := gLet_e hF
          have JK17 : ∀ (x18 : Int32) (g19 : Sg), K17 x18 g19 = some (r, σ') → gG X w g19 55 [(0, .ref (w.2.2.1 0)), (1, .int a0), (2, .int x13), (4, .int x4)] [.int x18] := by
            intro x18 g19 hF
            rw [eK17] at hF
            try dsimp only at hF
            refine gr_istore_n C [(3, .int x18), (0, .ref (w.2.2.1 0)), (1, .int a0), (2, .int x13), (4, .int x4)] dX11_journey_55 rfl (by decide) rfl ?_
            obtain ⟨x20, ex20, hF⟩ := gLet_e hF
            refine gr_iinc C (v := x20) 4 [(4, .int x20), (3, .int x18), (0, .ref (w.2.2.1 0)), (1, .int a0), (2, .int x13)] dX11_journey_56 rfl (by rw [ex20]; rfl) (by decide) rfl ?_
            refine gr_goto C 7 dX11_journey_59 (by decide) ?_
            refine gr_sub [2, 3, 4, 1, 0] [(0, .ref (w.2.2.1 0)), (1, .int a0), (2, .int x13), (3, .int x18), (4, .int x20)] rfl ?_
            exact ih x13 x18 x20 g19 K1 hK1 hF
          refine gr_if_eq C 54 dX11_journey_44 (by decide) (fun c21 => ?_) (fun c21 => ?_)
          · rw [if_pos c21] at hF
            refine gr_sub [1, 2, 0, 3, 4] [(0, .ref (w.2.2.1 0)), (1, .int a0), (2, .int x13), (3, .int x3), (4, .int x4)] rfl ?_
            refine gr_iload_n C 3 dX11_journey_54 rfl rfl ?_
            refine gr_sub [0, 1, 2, 4] [(0, .ref (w.2.2.1 0)), (1, .int a0), (2, .int x13), (4, .int x4)] rfl ?_
            exact JK17 x3 g15 hF
          · rw [if_neg c21] at hF
            refine gr_sub [1, 2, 0, 4] [(0, .ref (w.2.2.1 0)), (1, .int a0), (2, .int x13), (4, .int x4)] rfl ?_
            refine gr_iload C 3 dX11_journey_47 rfl ?_
            refine gr_iconst C (v := 1) dX11_journey_49 (by decide) ?_
            refine gr_iadd C dX11_journey_50 ?_
            refine gr_goto C 55 dX11_journey_51 (by decide) ?_
            exact JK17 (x4 + (1 : Int32)) g15 hF
        refine gr_if_eq C 35 dX11_journey_23 (by decide) (fun c22 => ?_) (fun c22 => ?_)
        · rw [if_pos c22] at hF
          refine gr_sub [0, 1, 3, 4] [(0, .ref (w.2.2.1 0)), (1, .int a0), (3, .int x3), (4, .int x4)] rfl ?_
          refine gr_iconst C (v := 0) dX11_journey_35 (by decide) ?_
          exact JK10 (0 : Int32) g8 hF
        · rw [if_neg c22] at hF
          refine gr_sub [0, 1, 3, 4] [(0, .ref (w.2.2.1 0)), (1, .int a0), (3, .int x3), (4, .int x4)] rfl ?_
          refine gr_aload_n C 0 dX11_journey_26 rfl rfl ?_
          refine gr_iload C 3 dX11_journey_27 rfl ?_
          obtain ⟨r25, g24, hc23, hF⟩ := gCl_e hF
          refine gr_callVI C (n := 1) (As := [.int x4]) (rest := [.int x2]) 0 (mX11_load X.2.1 hw  hc23) gX11_journey_X11_load rfl ⟨rfl, rfl⟩ ⟨by decide, by decide⟩ rfl (Nat.le_of_ble_eq_true rfl) rfl (by decide +kernel) (scm_0 hw) rfl dX11_journey_29 ?_
          refine gr_goto C 36 dX11_journey_32 (by decide) ?_
          exact JK10 r25 g24 hF
  refine L26 _ (0 : Int32) (0 : Int32) (0 : Int32) σ _ ?_ hF
  intro x30 x31 g32 hF
  try dsimp only at hF
  refine gr_iload_n C 1 dX11_journey_62 rfl rfl ?_
  refine gr_aload_n C 0 dX11_journey_63 rfl rfl ?_
  refine gr_getI C 0 1 dX11_journey_64 (scm_0 hw) rfl inX11 (by decide) ln91 rfl ?_
  refine gr_icmp_le C 75 dX11_journey_67 (by decide) (fun c33 => ?_) (fun c33 => ?_)
  · rw [if_pos c33] at hF
    refine gr_sub [2] [(3, .int x31)] rfl ?_
    refine gr_iconst C (v := 2) dX11_journey_75 (by decide) ?_
    refine gr_iload_n C 0 dX11_journey_76 rfl rfl ?_
    refine gr_imul C dX11_journey_77 ?_
    cases hF
    exact gr_iret C dX11_journey_78 ⟨rfl, rfl⟩
  · rw [if_neg c33] at hF
    refine gr_sub [] [] rfl ?_
    refine gr_bipush C (v := -4) dX11_journey_70 (by decide) ?_
    refine gr_goto C 78 dX11_journey_72 (by decide) ?_
    cases hF
    exact gr_iret C dX11_journey_78 ⟨rfl, rfl⟩
-- X11_round: 89 instructions, frames 3, locals 66
set_option maxRecDepth 100000 in
set_option maxHeartbeats 4000000 in
theorem mX11_round (l : Launch) {w : Wl} (hw : w.2.2.2 = shM) {σ : Sg}   {r : Int32} {σ' : Sg} (hF : fX11_round σ  = some (r, σ')) : gMI l w yX11_round wsX11_round ({ frames := 3, cells := 0, slots := 0, locals := 66 } : Room) [.ref (w.2.2.1 0)] σ r σ' := by
  have inX11 : ∀ v ∈ u_ws RX11 TX11 32, v ∈ wsX11_round := by decide +kernel
  have ln37 : Cond.fieldLink RX11 37 (TX11 15).1 (TX11 15).2.1 (TX11 15).2.2.1 ∈ wsX11_round := by decide +kernel
  have ln53 : Cond.fieldLink RX11 53 (TX11 27).1 (TX11 27).2.1 (TX11 27).2.2.1 ∈ wsX11_round := by decide +kernel
  have ln88 : Cond.fieldLink RX11 88 (TX11 0).1 (TX11 0).2.1 (TX11 0).2.2.1 ∈ wsX11_round := by decide +kernel
  refine gStartI cX11_round 5 RX11 rfl (by decide) rfl (Nat.le_of_ble_eq_true rfl) ?_
  intro X hl C
  show gG X w σ 0 [(0, .ref (w.2.2.1 0))] []
  unfold fX11_round at hF
  refine gr_iconst C (v := 0) dX11_round_0 (by decide) ?_
  refine gr_istore_n C [(1, .int (0 : Int32)), (0, .ref (w.2.2.1 0))] dX11_round_1 rfl (by decide) rfl ?_
  refine gr_iconst C (v := 0) dX11_round_2 (by decide) ?_
  refine gr_istore_n C [(2, .int (0 : Int32)), (1, .int (0 : Int32)), (0, .ref (w.2.2.1 0))] dX11_round_3 rfl (by decide) rfl ?_
  refine gr_sub [2, 1, 0] [(0, .ref (w.2.2.1 0)), (1, .int (0 : Int32)), (2, .int (0 : Int32))] rfl ?_
  have L14 : ∀ (n : Nat) (x2 : Int32) (x3 : Int32) (g4 : Sg) (K1 : Int32 → Sg → Option (Int32 × Sg)), (∀ (x15 : Int32) (g16 : Sg), K1 x15 g16 = some (r, σ') → gG X w g16 40 [(0, .ref (w.2.2.1 0)), (1, .int x15)] []) → fX11_round_4  n x2 x3 g4 K1 = some (r, σ') → gG X w g4 4 [(0, .ref (w.2.2.1 0)), (1, .int x2), (2, .int x3)] [] := by
    intro n
    induction n with
    | zero =>
      intro x2 x3 g4 K1 hK1 hF
      rw [fX11_round_4] at hF
      cases hF
    | succ n ih =>
      intro x2 x3 g4 K1 hK1 hF
      rw [fX11_round_4] at hF
      refine gr_iload_n C 2 dX11_round_4 rfl rfl ?_
      refine gr_aload_n C 0 dX11_round_5 rfl rfl ?_
      refine gr_getI C 0 0 dX11_round_6 (scm_0 hw) rfl inX11 (by decide) ln88 rfl ?_
      refine gr_icmp_ge C 40 dX11_round_9 (by decide) (fun c5 => ?_) (fun c5 => ?_)
      · rw [if_pos c5] at hF
        refine gr_sub [0, 1] [(0, .ref (w.2.2.1 0)), (1, .int x2)] rfl ?_
        exact hK1 x2 g4 hF
      · rw [if_neg c5] at hF
        refine gr_iload_n C 1 dX11_round_12 rfl rfl ?_
        refine gr_aload_n C 0 dX11_round_13 rfl rfl ?_
        refine gr_getR C 0 15 10 dX11_round_14 (scm_0 hw) rfl inX11 (by decide) ln37 rfl ?_
        refine gr_bipush C (v := 9) dX11_round_17 (by decide) ?_
        refine gr_iload_n C 2 dX11_round_19 rfl rfl ?_
        refine gr_iadd C dX11_round_20 ?_
        obtain ⟨h7, x6, ex6, hF⟩ := gRd_e hF
        refine gr_iald C 10 336 dX11_round_21 (scm_10 hw) h7 ?_
        refine gr_nmI ex6 ?_
        obtain ⟨K8, eK8, hF⟩ := gLet_e hF
        have JK8 : ∀ (x9 : Int32) (g10 : Sg), K8 x9 g10 = some (r, σ') → gG X w g10 32 [(0, .ref (w.2.2.1 0)), (2, .int x3)] [.int x9, .int x2] := by
          intro x9 g10 hF
          rw [eK8] at hF
          try dsimp only at hF
          refine gr_ior C dX11_round_32 ?_
          obtain ⟨x11, ex11, hF⟩ := gLet_e hF
          refine gr_nmI ex11 ?_
          refine gr_istore_n C [(1, .int x11), (0, .ref (w.2.2.1 0)), (2, .int x3)] dX11_round_33 rfl (by decide) rfl ?_
          obtain ⟨x12, ex12, hF⟩ := gLet_e hF
          refine gr_iinc C (v := x12) 2 [(2, .int x12), (1, .int x11), (0, .ref (w.2.2.1 0))] dX11_round_34 rfl (by rw [ex12]; rfl) (by decide) rfl ?_
          refine gr_goto C 4 dX11_round_37 (by decide) ?_
          refine gr_sub [2, 1, 0] [(0, .ref (w.2.2.1 0)), (1, .int x11), (2, .int x12)] rfl ?_
          exact ih x11 x12 g10 K1 hK1 hF
        refine gr_if_le C 31 dX11_round_22 (by decide) (fun c13 => ?_) (fun c13 => ?_)
        · rw [if_pos c13] at hF
          refine gr_sub [0, 2] [(0, .ref (w.2.2.1 0)), (2, .int x3)] rfl ?_
          refine gr_iconst C (v := 0) dX11_round_31 (by decide) ?_
          exact JK8 (0 : Int32) g4 hF
        · rw [if_neg c13] at hF
          refine gr_sub [0, 2] [(0, .ref (w.2.2.1 0)), (2, .int x3)] rfl ?_
          refine gr_iconst C (v := 1) dX11_round_25 (by decide) ?_
          refine gr_iload_n C 1 dX11_round_26 rfl rfl ?_
          refine gr_ishl C dX11_round_27 ?_
          refine gr_goto C 32 dX11_round_28 (by decide) ?_
          exact JK8 ((1 : Int32) <<< (x3 &&& 31)) g4 hF
  refine L14 _ (0 : Int32) (0 : Int32) σ _ ?_ hF
  intro x17 g18 hF
  try dsimp only at hF
  refine gr_iconst C (v := 0) dX11_round_40 (by decide) ?_
  refine gr_istore_n C [(2, .int (0 : Int32)), (0, .ref (w.2.2.1 0)), (1, .int x17)] dX11_round_41 rfl (by decide) rfl ?_
  refine gr_sub [1, 2, 0] [(0, .ref (w.2.2.1 0)), (1, .int x17), (2, .int (0 : Int32))] rfl ?_
  have L58 : ∀ (n : Nat) (x19 : Int32) (g20 : Sg) , fX11_round_42 x17 n x19 g20  = some (r, σ') → gG X w g20 42 [(0, .ref (w.2.2.1 0)), (1, .int x17), (2, .int x19)] [] := by
    intro n
    induction n with
    | zero =>
      intro x19 g20 hF
      rw [fX11_round_42] at hF
      cases hF
    | succ n ih =>
      intro x19 g20 hF
      rw [fX11_round_42] at hF
      refine gr_iload_n C 2 dX11_round_42 rfl rfl ?_
      refine gr_iload_n C 1 dX11_round_43 rfl rfl ?_
      refine gr_icmp_gt C 136 dX11_round_44 (by decide) (fun c21 => ?_) (fun c21 => ?_)
      · rw [if_pos c21] at hF
        refine gr_sub [0, 1] [(0, .ref (w.2.2.1 0)), (1, .int x17)] rfl ?_
        refine gr_aload_n C 0 dX11_round_136 rfl rfl ?_
        refine gr_sub [1] [(1, .int x17)] rfl ?_
        refine gr_getR C 0 27 15 dX11_round_137 (scm_0 hw) rfl inX11 (by decide) ln53 rfl ?_
        refine gr_iload_n C 0 dX11_round_140 rfl rfl ?_
        refine gr_sub [] [] rfl ?_
        obtain ⟨h23, x22, ex22, hF⟩ := gRd_e hF
        refine gr_iald C 15 512 dX11_round_141 (scm_15 hw) h23 ?_
        refine gr_nmI ex22 ?_
        cases hF
        exact gr_iret C dX11_round_142 ⟨rfl, rfl⟩
      · rw [if_neg c21] at hF
        refine gr_aload_n C 0 dX11_round_47 rfl rfl ?_
        refine gr_getR C 0 27 15 dX11_round_48 (scm_0 hw) rfl inX11 (by decide) ln53 rfl ?_
        refine gr_iload_n C 2 dX11_round_51 rfl rfl ?_
        refine gr_iload_n C 2 dX11_round_52 rfl rfl ?_
        obtain ⟨K24, eK24, hF⟩ := gLet_e hF
        have JK24 : ∀ (x25 : Int32) (g26 : Sg), K24 x25 g26 = some (r, σ') → gG X w g26 63 [(0, .ref (w.2.2.1 0)), (1, .int x17), (2, .int x19)] [.int x25, .int x19, .ref (w.2.2.1 15)] := by
          intro x25 g26 hF
          rw [eK24] at hF
          try dsimp only at hF
          obtain ⟨h27, g28, eg28, hF⟩ := gWr_e hF
          refine gr_iast C 15 512 dX11_round_63 (scm_15 hw) h27 ?_
          refine gr_nmS eg28 ?_
          refine gr_iload_n C 2 dX11_round_64 rfl rfl ?_
          refine gr_iload_n C 1 dX11_round_65 rfl rfl ?_
          refine gr_iand C dX11_round_66 ?_
          obtain ⟨x29, ex29, hF⟩ := gLet_e hF
          refine gr_nmI ex29 ?_
          refine gr_istore_n C [(3, .int x29), (0, .ref (w.2.2.1 0)), (1, .int x17), (2, .int x19)] dX11_round_67 rfl (by decide) rfl ?_
          refine gr_sub [1, 2, 3, 0] [(0, .ref (w.2.2.1 0)), (1, .int x17), (2, .int x19), (3, .int x29)] rfl ?_
          have L53 : ∀ (n : Nat) (x31 : Int32) (g32 : Sg) (K30 : Sg → Option (Int32 × Sg)), (∀  (g54 : Sg), K30  g54 = some (r, σ') → gG X w g54 130 [(0, .ref (w.2.2.1 0)), (1, .int x17), (2, .int x19)] []) → fX11_round_68 x19 n x31 g32 K30 = some (r, σ') → gG X w g32 68 [(0, .ref (w.2.2.1 0)), (1, .int x17), (2, .int x19), (3, .int x31)] [] := by
            intro n
            induction n with
            | zero =>
              intro x31 g32 K30 hK30 hF
              rw [fX11_round_68] at hF
              cases hF
            | succ n ih =>
              intro x31 g32 K30 hK30 hF
              rw [fX11_round_68] at hF
              refine gr_iload_n C 3 dX11_round_68 rfl rfl ?_
              refine gr_if_le C 130 dX11_round_69 (by decide) (fun c33 => ?_) (fun c33 => ?_)
              · rw [if_pos c33] at hF
                refine gr_sub [0, 1, 2] [(0, .ref (w.2.2.1 0)), (1, .int x17), (2, .int x19)] rfl ?_
                exact hK30  g32 hF
              · rw [if_neg c33] at hF
                refine gr_aload_n C 0 dX11_round_72 rfl rfl ?_
                refine gr_iload_n C 3 dX11_round_73 rfl rfl ?_
                obtain ⟨r36, g35, hc34, hF⟩ := gCl_e hF
                refine gr_callVI C (n := 1) (As := [.int x31]) (rest := []) 0 (mX11_journey X.2.1 hw  hc34) gX11_round_X11_journey rfl ⟨rfl, rfl⟩ ⟨by decide, by decide⟩ rfl (Nat.le_of_ble_eq_true rfl) rfl (by decide +kernel) (scm_0 hw) rfl dX11_round_74 ?_
                refine gr_istore C [(4, .int r36), (0, .ref (w.2.2.1 0)), (1, .int x17), (2, .int x19), (3, .int x31)] dX11_round_77 (by decide) rfl ?_
                refine gr_aload_n C 1 dX11_round_79 rfl rfl ?_
                refine gr_getR C 0 27 15 dX11_round_80 (scm_0 hw) rfl inX11 (by decide) ln53 rfl ?_
                refine gr_iload_n C 3 dX11_round_83 rfl rfl ?_
                refine gr_iload C 0 dX11_round_84 rfl ?_
                obtain ⟨K37, eK37, hF⟩ := gLet_e hF
                have JK37 : ∀ (x38 : Int32) (g39 : Sg), K37 x38 g39 = some (r, σ') → gG X w g39 120 [(0, .ref (w.2.2.1 0)), (1, .int x17), (2, .int x19), (3, .int x31)] [.int x38, .int x19, .ref (w.2.2.1 15)] := by
                  intro x38 g39 hF
                  rw [eK37] at hF
                  try dsimp only at hF
                  obtain ⟨h40, g41, eg41, hF⟩ := gWr_e hF
                  refine gr_iast C 15 512 dX11_round_120 (scm_15 hw) h40 ?_
                  refine gr_nmS eg41 ?_
                  refine gr_iload_n C 3 dX11_round_121 rfl rfl ?_
                  refine gr_iconst C (v := 1) dX11_round_122 (by decide) ?_
                  refine gr_isub C dX11_round_123 ?_
                  refine gr_iload_n C 2 dX11_round_124 rfl rfl ?_
                  refine gr_iand C dX11_round_125 ?_
                  obtain ⟨x42, ex42, hF⟩ := gLet_e hF
                  refine gr_nmI ex42 ?_
                  refine gr_istore_n C [(3, .int x42), (0, .ref (w.2.2.1 0)), (1, .int x17), (2, .int x19)] dX11_round_126 rfl (by decide) rfl ?_
                  refine gr_goto C 68 dX11_round_127 (by decide) ?_
                  refine gr_sub [1, 2, 3, 0] [(0, .ref (w.2.2.1 0)), (1, .int x17), (2, .int x19), (3, .int x42)] rfl ?_
                  exact ih x42 g41 K30 hK30 hF
                refine gr_if_ge C 98 dX11_round_86 (by decide) (fun c43 => ?_) (fun c43 => ?_)
                · rw [if_pos c43] at hF
                  refine gr_sub [1, 2, 3, 4, 0] [(0, .ref (w.2.2.1 0)), (1, .int x17), (2, .int x19), (3, .int x31), (4, .int r36)] rfl ?_
                  refine gr_aload_n C 0 dX11_round_98 rfl rfl ?_
                  refine gr_getR C 0 27 15 dX11_round_99 (scm_0 hw) rfl inX11 (by decide) ln53 rfl ?_
                  refine gr_iload_n C 2 dX11_round_102 rfl rfl ?_
                  obtain ⟨h45, x44, ex44, hF⟩ := gRd_e hF
                  refine gr_iald C 15 512 dX11_round_103 (scm_15 hw) h45 ?_
                  refine gr_nmI ex44 ?_
                  refine gr_aload_n C 0 dX11_round_104 rfl rfl ?_
                  refine gr_getR C 0 27 15 dX11_round_105 (scm_0 hw) rfl inX11 (by decide) ln53 rfl ?_
                  refine gr_iload_n C 2 dX11_round_108 rfl rfl ?_
                  refine gr_iload_n C 3 dX11_round_109 rfl rfl ?_
                  refine gr_iconst C (v := -1) dX11_round_110 (by decide) ?_
                  refine gr_ixor C dX11_round_111 ?_
                  refine gr_iand C dX11_round_112 ?_
                  obtain ⟨h47, x46, ex46, hF⟩ := gRd_e hF
                  refine gr_iald C 15 512 dX11_round_113 (scm_15 hw) h47 ?_
                  refine gr_nmI ex46 ?_
                  refine gr_iload C 4 dX11_round_114 rfl ?_
                  refine gr_iadd C dX11_round_116 ?_
                  obtain ⟨r50, g49, hc48, hF⟩ := gCl_e hF
                  refine gr_callSI C (n := 2) (As := [.int x44, .int (x46 + r36)]) (rest := [.int x19, .ref (w.2.2.1 15)]) (mX11_smaller X.2.1 hw  hc48) gX11_round_X11_smaller rfl ⟨rfl, rfl⟩ ⟨by decide, by decide⟩ rfl (Nat.le_of_ble_eq_true rfl) rfl (by decide +kernel) dX11_round_117 ?_
                  refine gr_sub [0, 1, 2, 3] [(0, .ref (w.2.2.1 0)), (1, .int x17), (2, .int x19), (3, .int x31)] rfl ?_
                  exact JK37 r50 g49 hF
                · rw [if_neg c43] at hF
                  refine gr_sub [1, 2, 3, 4] [(0, .ref (w.2.2.1 0)), (1, .int x17), (2, .int x19), (3, .int x31)] rfl ?_
                  refine gr_aload_n C 0 dX11_round_89 rfl rfl ?_
                  refine gr_getR C 0 27 15 dX11_round_90 (scm_0 hw) rfl inX11 (by decide) ln53 rfl ?_
                  refine gr_iload_n C 2 dX11_round_93 rfl rfl ?_
                  obtain ⟨h52, x51, ex51, hF⟩ := gRd_e hF
                  refine gr_iald C 15 512 dX11_round_94 (scm_15 hw) h52 ?_
                  refine gr_nmI ex51 ?_
                  refine gr_goto C 120 dX11_round_95 (by decide) ?_
                  exact JK37 x51 g35 hF
          refine L53 _ x29 g28 _ ?_ hF
          intro g55 hF
          try dsimp only at hF
          obtain ⟨x56, ex56, hF⟩ := gLet_e hF
          refine gr_iinc C (v := x56) 2 [(2, .int x56), (0, .ref (w.2.2.1 0)), (1, .int x17)] dX11_round_130 rfl (by rw [ex56]; rfl) (by decide) rfl ?_
          refine gr_goto C 42 dX11_round_133 (by decide) ?_
          refine gr_sub [1, 2, 0] [(0, .ref (w.2.2.1 0)), (1, .int x17), (2, .int x56)] rfl ?_
          exact ih x56 g55   hF
        refine gr_if_ne C 60 dX11_round_53 (by decide) (fun c57 => ?_) (fun c57 => ?_)
        · rw [if_neg c57] at hF
          refine gr_sipush C (v := 9999) dX11_round_60 (by decide) ?_
          exact JK24 (9999 : Int32) g20 hF
        · rw [if_pos c57] at hF
          refine gr_iconst C (v := 0) dX11_round_56 (by decide) ?_
          refine gr_goto C 63 dX11_round_57 (by decide) ?_
          exact JK24 (0 : Int32) g20 hF
  refine L58 _ (0 : Int32) g18   hF
