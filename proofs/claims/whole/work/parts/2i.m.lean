-- X11_in: 12 instructions, frames 0, locals 0
set_option maxRecDepth 100000 in
set_option maxHeartbeats 4000000 in
theorem mX11_in (l : Launch) {w : Wl} (hw : w.2.2.2 = shM) {σ : Sg} {a0 : Int64} {a1 : Int64} {a2 : Int64}  {r : Int32} {σ' : Sg} (hF : fX11_in σ a0 a1 a2 = some (r, σ')) : gMI l w yX11_in wsX11_in ({ frames := 0, cells := 0, slots := 0, locals := 0 } : Room) [.long a0, .long a1, .long a2] σ r σ' := by
  refine gStartZ cX11_in 6 RX11 rfl (by decide) rfl (Nat.le_of_ble_eq_true rfl) ?_
  intro X hl C
  show gG X w σ 0 [(0, .long a0), (2, .long a1), (4, .long a2)] []
  unfold fX11_in at hF
  refine gr_lload_n C 0 dX11_in_0 rfl rfl ?_
  refine gr_lload_n C 1 dX11_in_1 rfl rfl ?_
  refine gr_lcmp C dX11_in_2 ?_
  refine gr_if_lt C 17 dX11_in_3 (by decide) (fun c1 => ?_) (fun c1 => ?_)
  · rw [if_pos c1] at hF
    refine gr_sub [] [] rfl ?_
    refine gr_iconst C (v := 0) dX11_in_17 (by decide) ?_
    cases hF
    exact gr_zret C dX11_in_18 rfl ⟨rfl, rfl⟩
  · rw [if_neg c1] at hF
    refine gr_sub [0, 2] [(0, .long a0), (4, .long a2)] rfl ?_
    refine gr_lload_n C 0 dX11_in_6 rfl rfl ?_
    refine gr_lload C 1 dX11_in_7 rfl ?_
    refine gr_lcmp C dX11_in_9 ?_
    refine gr_if_gt C 17 dX11_in_10 (by decide) (fun c2 => ?_) (fun c2 => ?_)
    · rw [if_pos c2] at hF
      refine gr_sub [] [] rfl ?_
      refine gr_iconst C (v := 0) dX11_in_17 (by decide) ?_
      cases hF
      exact gr_zret C dX11_in_18 rfl ⟨rfl, rfl⟩
    · rw [if_neg c2] at hF
      refine gr_sub [] [] rfl ?_
      refine gr_iconst C (v := 1) dX11_in_13 (by decide) ?_
      refine gr_goto C 18 dX11_in_14 (by decide) ?_
      cases hF
      exact gr_zret C dX11_in_18 rfl ⟨rfl, rfl⟩
-- X11_has: 11 instructions, frames 0, locals 0
set_option maxRecDepth 100000 in
set_option maxHeartbeats 4000000 in
theorem mX11_has (l : Launch) {w : Wl} (hw : w.2.2.2 = shM) {σ : Sg} {a0 : Int32} {a1 : Int32}  {r : Int32} {σ' : Sg} (hF : fX11_has σ a0 a1 = some (r, σ')) : gMI l w yX11_has wsX11_has ({ frames := 0, cells := 0, slots := 0, locals := 0 } : Room) [.int a0, .int a1] σ r σ' := by
  refine gStartZ cX11_has 2 RX11 rfl (by decide) rfl (Nat.le_of_ble_eq_true rfl) ?_
  intro X hl C
  show gG X w σ 0 [(0, .int a0), (1, .int a1)] []
  unfold fX11_has at hF
  refine gr_iload_n C 0 dX11_has_0 rfl rfl ?_
  refine gr_iload_n C 1 dX11_has_1 rfl rfl ?_
  refine gr_ishr C dX11_has_2 ?_
  refine gr_iconst C (v := 1) dX11_has_3 (by decide) ?_
  refine gr_iand C dX11_has_4 ?_
  refine gr_iconst C (v := 1) dX11_has_5 (by decide) ?_
  refine gr_icmp_ne C 13 dX11_has_6 (by decide) (fun c1 => ?_) (fun c1 => ?_)
  · rw [if_neg c1] at hF
    refine gr_sub [] [] rfl ?_
    refine gr_iconst C (v := 0) dX11_has_13 (by decide) ?_
    cases hF
    exact gr_zret C dX11_has_14 rfl ⟨rfl, rfl⟩
  · rw [if_pos c1] at hF
    refine gr_sub [] [] rfl ?_
    refine gr_iconst C (v := 1) dX11_has_9 (by decide) ?_
    refine gr_goto C 14 dX11_has_10 (by decide) ?_
    cases hF
    exact gr_zret C dX11_has_14 rfl ⟨rfl, rfl⟩
-- X11_smaller: 7 instructions, frames 0, locals 0
set_option maxRecDepth 100000 in
set_option maxHeartbeats 4000000 in
theorem mX11_smaller (l : Launch) {w : Wl} (hw : w.2.2.2 = shM) {σ : Sg} {a0 : Int32} {a1 : Int32}  {r : Int32} {σ' : Sg} (hF : fX11_smaller σ a0 a1 = some (r, σ')) : gMI l w yX11_smaller wsX11_smaller ({ frames := 0, cells := 0, slots := 0, locals := 0 } : Room) [.int a0, .int a1] σ r σ' := by
  refine gStartI cX11_smaller 2 RX11 rfl (by decide) rfl (Nat.le_of_ble_eq_true rfl) ?_
  intro X hl C
  show gG X w σ 0 [(0, .int a0), (1, .int a1)] []
  unfold fX11_smaller at hF
  refine gr_iload_n C 0 dX11_smaller_0 rfl rfl ?_
  refine gr_iload_n C 1 dX11_smaller_1 rfl rfl ?_
  refine gr_icmp_ge C 9 dX11_smaller_2 (by decide) (fun c1 => ?_) (fun c1 => ?_)
  · rw [if_pos c1] at hF
    refine gr_sub [1] [(1, .int a1)] rfl ?_
    refine gr_iload_n C 0 dX11_smaller_9 rfl rfl ?_
    cases hF
    exact gr_iret C dX11_smaller_10 ⟨rfl, rfl⟩
  · rw [if_neg c1] at hF
    refine gr_sub [0] [(0, .int a0)] rfl ?_
    refine gr_iload_n C 0 dX11_smaller_5 rfl rfl ?_
    refine gr_goto C 10 dX11_smaller_6 (by decide) ?_
    refine gr_sub [] [] rfl ?_
    cases hF
    exact gr_iret C dX11_smaller_10 ⟨rfl, rfl⟩
-- X11_larger: 7 instructions, frames 0, locals 0
set_option maxRecDepth 100000 in
set_option maxHeartbeats 4000000 in
theorem mX11_larger (l : Launch) {w : Wl} (hw : w.2.2.2 = shM) {σ : Sg} {a0 : Int32} {a1 : Int32}  {r : Int32} {σ' : Sg} (hF : fX11_larger σ a0 a1 = some (r, σ')) : gMI l w yX11_larger wsX11_larger ({ frames := 0, cells := 0, slots := 0, locals := 0 } : Room) [.int a0, .int a1] σ r σ' := by
  refine gStartI cX11_larger 2 RX11 rfl (by decide) rfl (Nat.le_of_ble_eq_true rfl) ?_
  intro X hl C
  show gG X w σ 0 [(0, .int a0), (1, .int a1)] []
  unfold fX11_larger at hF
  refine gr_iload_n C 0 dX11_larger_0 rfl rfl ?_
  refine gr_iload_n C 1 dX11_larger_1 rfl rfl ?_
  refine gr_icmp_ge C 9 dX11_larger_2 (by decide) (fun c1 => ?_) (fun c1 => ?_)
  · rw [if_pos c1] at hF
    refine gr_sub [0] [(0, .int a0)] rfl ?_
    refine gr_iload_n C 0 dX11_larger_9 rfl rfl ?_
    cases hF
    exact gr_iret C dX11_larger_10 ⟨rfl, rfl⟩
  · rw [if_neg c1] at hF
    refine gr_sub [1] [(1, .int a1)] rfl ?_
    refine gr_iload_n C 0 dX11_larger_5 rfl rfl ?_
    refine gr_goto C 10 dX11_larger_6 (by decide) ?_
    refine gr_sub [] [] rfl ?_
    cases hF
    exact gr_iret C dX11_larger_10 ⟨rfl, rfl⟩
-- X11_clears: 24 instructions, frames 0, locals 0
set_option maxRecDepth 100000 in
set_option maxHeartbeats 4000000 in
theorem mX11_clears (l : Launch) {w : Wl} (hw : w.2.2.2 = shM) {σ : Sg}   {σ' : Sg} (hF : fX11_clears σ  = some σ') : gMV l w yX11_clears wsX11_clears ({ frames := 0, cells := 0, slots := 0, locals := 0 } : Room) [.ref (w.2.2.1 0)] σ σ' := by
  have inX11 : ∀ v ∈ u_ws RX11 TX11 32, v ∈ wsX11_clears := by decide +kernel
  have ln37 : Cond.fieldLink RX11 37 (TX11 15).1 (TX11 15).2.1 (TX11 15).2.2.1 ∈ wsX11_clears := by decide +kernel
  have ln75 : Cond.fieldLink RX11 75 (TX11 9).1 (TX11 9).2.1 (TX11 9).2.2.1 ∈ wsX11_clears := by decide +kernel
  have ln82 : Cond.fieldLink RX11 82 (TX11 8).1 (TX11 8).2.1 (TX11 8).2.2.1 ∈ wsX11_clears := by decide +kernel
  have ln85 : Cond.fieldLink RX11 85 (TX11 10).1 (TX11 10).2.1 (TX11 10).2.2.1 ∈ wsX11_clears := by decide +kernel
  refine gStartV cX11_clears 2 RX11 rfl (by decide) rfl (Nat.le_of_ble_eq_true rfl) ?_
  intro X hl C
  show gG X w σ 0 [(0, .ref (w.2.2.1 0))] []
  unfold fX11_clears at hF
  refine gr_aload_n C 0 dX11_clears_0 rfl rfl ?_
  refine gr_iconst C (v := 5) dX11_clears_1 (by decide) ?_
  obtain ⟨g1, eg1, hF⟩ := gLet_e hF
  refine gr_putI C 0 8 dX11_clears_2 (scm_0 hw) rfl inX11 (by decide) ln82 rfl tyX11 tyX11_ok nmX11 rfl .int rfl rfl rfl ?_
  refine gr_nmS eg1 ?_
  refine gr_aload_n C 0 dX11_clears_5 rfl rfl ?_
  refine gr_bipush C (v := 20) dX11_clears_6 (by decide) ?_
  obtain ⟨g2, eg2, hF⟩ := gLet_e hF
  refine gr_putI C 0 9 dX11_clears_8 (scm_0 hw) rfl inX11 (by decide) ln75 rfl tyX11 tyX11_ok nmX11 rfl .int rfl rfl rfl ?_
  refine gr_nmS eg2 ?_
  refine gr_aload_n C 0 dX11_clears_11 rfl rfl ?_
  refine gr_iconst C (v := 0) dX11_clears_12 (by decide) ?_
  obtain ⟨g3, eg3, hF⟩ := gLet_e hF
  refine gr_putI C 0 10 dX11_clears_13 (scm_0 hw) rfl inX11 (by decide) ln85 rfl tyX11 tyX11_ok nmX11 rfl .int rfl rfl rfl ?_
  refine gr_nmS eg3 ?_
  refine gr_iconst C (v := 0) dX11_clears_16 (by decide) ?_
  refine gr_istore_n C [(1, .int (0 : Int32)), (0, .ref (w.2.2.1 0))] dX11_clears_17 rfl (by decide) rfl ?_
  refine gr_sub [1, 0] [(0, .ref (w.2.2.1 0)), (1, .int (0 : Int32))] rfl ?_
  have L10 : ∀ (n : Nat) (x4 : Int32) (g5 : Sg) , fX11_clears_18  n x4 g5  = some σ' → gG X w g5 18 [(0, .ref (w.2.2.1 0)), (1, .int x4)] [] := by
    intro n
    induction n with
    | zero =>
      intro x4 g5 hF
      rw [fX11_clears_18] at hF
      cases hF
    | succ n ih =>
      intro x4 g5 hF
      rw [fX11_clears_18] at hF
      refine gr_iload_n C 1 dX11_clears_18 rfl rfl ?_
      refine gr_bipush C (v := 28) dX11_clears_19 (by decide) ?_
      refine gr_icmp_ge C 41 dX11_clears_21 (by decide) (fun c6 => ?_) (fun c6 => ?_)
      · rw [if_pos c6] at hF
        refine gr_sub [] [] rfl ?_
        cases hF
        exact gr_vret C dX11_clears_41 ⟨rfl, rfl⟩
      · rw [if_neg c6] at hF
        refine gr_aload_n C 0 dX11_clears_24 rfl rfl ?_
        refine gr_getR C 0 15 10 dX11_clears_25 (scm_0 hw) rfl inX11 (by decide) ln37 rfl ?_
        refine gr_sipush C (v := 308) dX11_clears_28 (by decide) ?_
        refine gr_iload_n C 1 dX11_clears_31 rfl rfl ?_
        refine gr_iadd C dX11_clears_32 ?_
        refine gr_iconst C (v := 0) dX11_clears_33 (by decide) ?_
        obtain ⟨h7, g8, eg8, hF⟩ := gWr_e hF
        refine gr_iast C 10 336 dX11_clears_34 (scm_10 hw) h7 ?_
        refine gr_nmS eg8 ?_
        obtain ⟨x9, ex9, hF⟩ := gLet_e hF
        refine gr_iinc C (v := x9) 1 [(1, .int x9), (0, .ref (w.2.2.1 0))] dX11_clears_35 rfl (by rw [ex9]; rfl) (by decide) rfl ?_
        refine gr_goto C 18 dX11_clears_38 (by decide) ?_
        refine gr_sub [1, 0] [(0, .ref (w.2.2.1 0)), (1, .int x9)] rfl ?_
        exact ih x9 g8   hF
  refine L10 _ (0 : Int32) g3   hF
-- X11_comes: 39 instructions, frames 0, locals 0
set_option maxRecDepth 100000 in
set_option maxHeartbeats 4000000 in
theorem mX11_comes (l : Launch) {w : Wl} (hw : w.2.2.2 = shM) {σ : Sg} {a0 : Int32} {a1 : Int32} {a2 : Int32} {a3 : Int32} {a4 : Int32}  {σ' : Sg} (hF : fX11_comes σ a0 a1 a2 a3 a4 = some σ') : gMV l w yX11_comes wsX11_comes ({ frames := 0, cells := 0, slots := 0, locals := 0 } : Room) [.ref (w.2.2.1 0), .int a0, .int a1, .int a2, .int a3, .int a4] σ σ' := by
  have inX11 : ∀ v ∈ u_ws RX11 TX11 32, v ∈ wsX11_comes := by decide +kernel
  have ln25 : Cond.fieldLink RX11 25 (TX11 11).1 (TX11 11).2.1 (TX11 11).2.2.1 ∈ wsX11_comes := by decide +kernel
  have ln28 : Cond.fieldLink RX11 28 (TX11 12).1 (TX11 12).2.1 (TX11 12).2.2.1 ∈ wsX11_comes := by decide +kernel
  have ln31 : Cond.fieldLink RX11 31 (TX11 13).1 (TX11 13).2.1 (TX11 13).2.2.1 ∈ wsX11_comes := by decide +kernel
  have ln34 : Cond.fieldLink RX11 34 (TX11 14).1 (TX11 14).2.1 (TX11 14).2.2.1 ∈ wsX11_comes := by decide +kernel
  have ln37 : Cond.fieldLink RX11 37 (TX11 15).1 (TX11 15).2.1 (TX11 15).2.2.1 ∈ wsX11_comes := by decide +kernel
  have ln85 : Cond.fieldLink RX11 85 (TX11 10).1 (TX11 10).2.1 (TX11 10).2.2.1 ∈ wsX11_comes := by decide +kernel
  refine gStartV cX11_comes 6 RX11 rfl (by decide) rfl (Nat.le_of_ble_eq_true rfl) ?_
  intro X hl C
  show gG X w σ 0 [(0, .ref (w.2.2.1 0)), (1, .int a0), (2, .int a1), (3, .int a2), (4, .int a3), (5, .int a4)] []
  unfold fX11_comes at hF
  refine gr_aload_n C 0 dX11_comes_0 rfl rfl ?_
  refine gr_getR C 0 11 6 dX11_comes_1 (scm_0 hw) rfl inX11 (by decide) ln25 rfl ?_
  refine gr_aload_n C 0 dX11_comes_4 rfl rfl ?_
  refine gr_getI C 0 10 dX11_comes_5 (scm_0 hw) rfl inX11 (by decide) ln85 rfl ?_
  refine gr_iload_n C 1 dX11_comes_8 rfl rfl ?_
  obtain ⟨h1, g2, eg2, hF⟩ := gWr_e hF
  refine gr_iast C 6 8 dX11_comes_9 (scm_6 hw) h1 ?_
  refine gr_nmS eg2 ?_
  refine gr_aload_n C 0 dX11_comes_10 rfl rfl ?_
  refine gr_getR C 0 12 7 dX11_comes_11 (scm_0 hw) rfl inX11 (by decide) ln28 rfl ?_
  refine gr_aload_n C 0 dX11_comes_14 rfl rfl ?_
  refine gr_getI C 0 10 dX11_comes_15 (scm_0 hw) rfl inX11 (by decide) ln85 rfl ?_
  refine gr_iload_n C 2 dX11_comes_18 rfl rfl ?_
  obtain ⟨h3, g4, eg4, hF⟩ := gWr_e hF
  refine gr_iast C 7 8 dX11_comes_19 (scm_7 hw) h3 ?_
  refine gr_nmS eg4 ?_
  refine gr_aload_n C 0 dX11_comes_20 rfl rfl ?_
  refine gr_getR C 0 13 8 dX11_comes_21 (scm_0 hw) rfl inX11 (by decide) ln31 rfl ?_
  refine gr_aload_n C 0 dX11_comes_24 rfl rfl ?_
  refine gr_getI C 0 10 dX11_comes_25 (scm_0 hw) rfl inX11 (by decide) ln85 rfl ?_
  refine gr_iload_n C 3 dX11_comes_28 rfl rfl ?_
  obtain ⟨h5, g6, eg6, hF⟩ := gWr_e hF
  refine gr_iast C 8 8 dX11_comes_29 (scm_8 hw) h5 ?_
  refine gr_nmS eg6 ?_
  refine gr_aload_n C 0 dX11_comes_30 rfl rfl ?_
  refine gr_getR C 0 14 9 dX11_comes_31 (scm_0 hw) rfl inX11 (by decide) ln34 rfl ?_
  refine gr_aload_n C 0 dX11_comes_34 rfl rfl ?_
  refine gr_getI C 0 10 dX11_comes_35 (scm_0 hw) rfl inX11 (by decide) ln85 rfl ?_
  refine gr_iload C 4 dX11_comes_38 rfl ?_
  obtain ⟨h7, g8, eg8, hF⟩ := gWr_e hF
  refine gr_iast C 9 8 dX11_comes_40 (scm_9 hw) h7 ?_
  refine gr_nmS eg8 ?_
  refine gr_aload_n C 0 dX11_comes_41 rfl rfl ?_
  refine gr_getR C 0 15 10 dX11_comes_42 (scm_0 hw) rfl inX11 (by decide) ln37 rfl ?_
  refine gr_sipush C (v := 308) dX11_comes_45 (by decide) ?_
  refine gr_aload_n C 0 dX11_comes_48 rfl rfl ?_
  refine gr_getI C 0 10 dX11_comes_49 (scm_0 hw) rfl inX11 (by decide) ln85 rfl ?_
  refine gr_iadd C dX11_comes_52 ?_
  refine gr_iload C 5 dX11_comes_53 rfl ?_
  obtain ⟨h9, g10, eg10, hF⟩ := gWr_e hF
  refine gr_iast C 10 336 dX11_comes_55 (scm_10 hw) h9 ?_
  refine gr_nmS eg10 ?_
  refine gr_aload_n C 0 dX11_comes_56 rfl rfl ?_
  refine gr_dup C dX11_comes_57 rfl ?_
  refine gr_getI C 0 10 dX11_comes_58 (scm_0 hw) rfl inX11 (by decide) ln85 rfl ?_
  refine gr_iconst C (v := 1) dX11_comes_61 (by decide) ?_
  refine gr_iadd C dX11_comes_62 ?_
  obtain ⟨g11, eg11, hF⟩ := gLet_e hF
  refine gr_putI C 0 10 dX11_comes_63 (scm_0 hw) rfl inX11 (by decide) ln85 rfl tyX11 tyX11_ok nmX11 rfl .int rfl rfl rfl ?_
  refine gr_nmS eg11 ?_
  cases hF
  exact gr_vret C dX11_comes_66 ⟨rfl, rfl⟩
-- X11_copies: 20 instructions, frames 0, locals 0
set_option maxRecDepth 100000 in
set_option maxHeartbeats 4000000 in
theorem mX11_copies (l : Launch) {w : Wl} (hw : w.2.2.2 = shM) {σ : Sg} {a0 : Int32} {a1 : Int32}  {σ' : Sg} (hF : fX11_copies σ a0 a1 = some σ') : gMV l w yX11_copies wsX11_copies ({ frames := 0, cells := 0, slots := 0, locals := 0 } : Room) [.ref (w.2.2.1 0), .int a0, .int a1] σ σ' := by
  have inX11 : ∀ v ∈ u_ws RX11 TX11 32, v ∈ wsX11_copies := by decide +kernel
  have ln37 : Cond.fieldLink RX11 37 (TX11 15).1 (TX11 15).2.1 (TX11 15).2.2.1 ∈ wsX11_copies := by decide +kernel
  refine gStartV cX11_copies 4 RX11 rfl (by decide) rfl (Nat.le_of_ble_eq_true rfl) ?_
  intro X hl C
  show gG X w σ 0 [(0, .ref (w.2.2.1 0)), (1, .int a0), (2, .int a1)] []
  unfold fX11_copies at hF
  refine gr_iconst C (v := 0) dX11_copies_0 (by decide) ?_
  refine gr_istore_n C [(3, .int (0 : Int32)), (0, .ref (w.2.2.1 0)), (1, .int a0), (2, .int a1)] dX11_copies_1 rfl (by decide) rfl ?_
  refine gr_sub [1, 2, 3, 0] [(0, .ref (w.2.2.1 0)), (1, .int a0), (2, .int a1), (3, .int (0 : Int32))] rfl ?_
  have L9 : ∀ (n : Nat) (x1 : Int32) (g2 : Sg) , fX11_copies_2 a0 a1 n x1 g2  = some σ' → gG X w g2 2 [(0, .ref (w.2.2.1 0)), (1, .int a0), (2, .int a1), (3, .int x1)] [] := by
    intro n
    induction n with
    | zero =>
      intro x1 g2 hF
      rw [fX11_copies_2] at hF
      cases hF
    | succ n ih =>
      intro x1 g2 hF
      rw [fX11_copies_2] at hF
      refine gr_iload_n C 3 dX11_copies_2 rfl rfl ?_
      refine gr_bipush C (v := 28) dX11_copies_3 (by decide) ?_
      refine gr_icmp_ge C 30 dX11_copies_5 (by decide) (fun c3 => ?_) (fun c3 => ?_)
      · rw [if_pos c3] at hF
        refine gr_sub [] [] rfl ?_
        cases hF
        exact gr_vret C dX11_copies_30 ⟨rfl, rfl⟩
      · rw [if_neg c3] at hF
        refine gr_aload_n C 0 dX11_copies_8 rfl rfl ?_
        refine gr_getR C 0 15 10 dX11_copies_9 (scm_0 hw) rfl inX11 (by decide) ln37 rfl ?_
        refine gr_iload_n C 2 dX11_copies_12 rfl rfl ?_
        refine gr_iload_n C 3 dX11_copies_13 rfl rfl ?_
        refine gr_iadd C dX11_copies_14 ?_
        refine gr_aload_n C 0 dX11_copies_15 rfl rfl ?_
        refine gr_getR C 0 15 10 dX11_copies_16 (scm_0 hw) rfl inX11 (by decide) ln37 rfl ?_
        refine gr_iload_n C 1 dX11_copies_19 rfl rfl ?_
        refine gr_iload_n C 3 dX11_copies_20 rfl rfl ?_
        refine gr_iadd C dX11_copies_21 ?_
        obtain ⟨h5, x4, ex4, hF⟩ := gRd_e hF
        refine gr_iald C 10 336 dX11_copies_22 (scm_10 hw) h5 ?_
        refine gr_nmI ex4 ?_
        obtain ⟨h6, g7, eg7, hF⟩ := gWr_e hF
        refine gr_iast C 10 336 dX11_copies_23 (scm_10 hw) h6 ?_
        refine gr_nmS eg7 ?_
        obtain ⟨x8, ex8, hF⟩ := gLet_e hF
        refine gr_iinc C (v := x8) 3 [(3, .int x8), (0, .ref (w.2.2.1 0)), (1, .int a0), (2, .int a1)] dX11_copies_24 rfl (by rw [ex8]; rfl) (by decide) rfl ?_
        refine gr_goto C 2 dX11_copies_27 (by decide) ?_
        refine gr_sub [1, 2, 3, 0] [(0, .ref (w.2.2.1 0)), (1, .int a0), (2, .int a1), (3, .int x8)] rfl ?_
        exact ih x8 g7   hF
  refine L9 _ (0 : Int32) σ   hF
-- X11_settles: 85 instructions, frames 1, locals 23
set_option maxRecDepth 100000 in
set_option maxHeartbeats 4000000 in
theorem mX11_settles (l : Launch) {w : Wl} (hw : w.2.2.2 = shM) {σ : Sg}   {σ' : Sg} (hF : fX11_settles σ  = some σ') : gMV l w yX11_settles wsX11_settles ({ frames := 1, cells := 0, slots := 0, locals := 23 } : Room) [.ref (w.2.2.1 0)] σ σ' := by
  have inX11 : ∀ v ∈ u_ws RX11 TX11 32, v ∈ wsX11_settles := by decide +kernel
  have ln7 : Cond.fieldLink RX11 7 (TX11 3).1 (TX11 3).2.1 (TX11 3).2.2.1 ∈ wsX11_settles := by decide +kernel
  have ln13 : Cond.fieldLink RX11 13 (TX11 4).1 (TX11 4).2.1 (TX11 4).2.2.1 ∈ wsX11_settles := by decide +kernel
  have ln16 : Cond.fieldLink RX11 16 (TX11 5).1 (TX11 5).2.1 (TX11 5).2.2.1 ∈ wsX11_settles := by decide +kernel
  have ln19 : Cond.fieldLink RX11 19 (TX11 6).1 (TX11 6).2.1 (TX11 6).2.2.1 ∈ wsX11_settles := by decide +kernel
  have ln22 : Cond.fieldLink RX11 22 (TX11 7).1 (TX11 7).2.1 (TX11 7).2.2.1 ∈ wsX11_settles := by decide +kernel
  have ln25 : Cond.fieldLink RX11 25 (TX11 11).1 (TX11 11).2.1 (TX11 11).2.2.1 ∈ wsX11_settles := by decide +kernel
  have ln28 : Cond.fieldLink RX11 28 (TX11 12).1 (TX11 12).2.1 (TX11 12).2.2.1 ∈ wsX11_settles := by decide +kernel
  have ln31 : Cond.fieldLink RX11 31 (TX11 13).1 (TX11 13).2.1 (TX11 13).2.2.1 ∈ wsX11_settles := by decide +kernel
  have ln34 : Cond.fieldLink RX11 34 (TX11 14).1 (TX11 14).2.1 (TX11 14).2.2.1 ∈ wsX11_settles := by decide +kernel
  have ln75 : Cond.fieldLink RX11 75 (TX11 9).1 (TX11 9).2.1 (TX11 9).2.2.1 ∈ wsX11_settles := by decide +kernel
  have ln82 : Cond.fieldLink RX11 82 (TX11 8).1 (TX11 8).2.1 (TX11 8).2.2.1 ∈ wsX11_settles := by decide +kernel
  have ln85 : Cond.fieldLink RX11 85 (TX11 10).1 (TX11 10).2.1 (TX11 10).2.2.1 ∈ wsX11_settles := by decide +kernel
  have ln88 : Cond.fieldLink RX11 88 (TX11 0).1 (TX11 0).2.1 (TX11 0).2.2.1 ∈ wsX11_settles := by decide +kernel
  have ln91 : Cond.fieldLink RX11 91 (TX11 1).1 (TX11 1).2.1 (TX11 1).2.2.1 ∈ wsX11_settles := by decide +kernel
  have ln94 : Cond.fieldLink RX11 94 (TX11 2).1 (TX11 2).2.1 (TX11 2).2.2.1 ∈ wsX11_settles := by decide +kernel
  refine gStartV cX11_settles 4 RX11 rfl (by decide) rfl (Nat.le_of_ble_eq_true rfl) ?_
  intro X hl C
  show gG X w σ 0 [(0, .ref (w.2.2.1 0))] []
  unfold fX11_settles at hF
  refine gr_aload_n C 0 dX11_settles_0 rfl rfl ?_
  refine gr_aload_n C 0 dX11_settles_1 rfl rfl ?_
  refine gr_getI C 0 8 dX11_settles_2 (scm_0 hw) rfl inX11 (by decide) ln82 rfl ?_
  obtain ⟨g1, eg1, hF⟩ := gLet_e hF
  refine gr_putI C 0 0 dX11_settles_5 (scm_0 hw) rfl inX11 (by decide) ln88 rfl tyX11 tyX11_ok nmX11 rfl .int rfl rfl rfl ?_
  refine gr_nmS eg1 ?_
  refine gr_aload_n C 0 dX11_settles_8 rfl rfl ?_
  refine gr_aload_n C 0 dX11_settles_9 rfl rfl ?_
  refine gr_getI C 0 9 dX11_settles_10 (scm_0 hw) rfl inX11 (by decide) ln75 rfl ?_
  obtain ⟨g2, eg2, hF⟩ := gLet_e hF
  refine gr_putI C 0 1 dX11_settles_13 (scm_0 hw) rfl inX11 (by decide) ln91 rfl tyX11 tyX11_ok nmX11 rfl .int rfl rfl rfl ?_
  refine gr_nmS eg2 ?_
  refine gr_aload_n C 0 dX11_settles_16 rfl rfl ?_
  refine gr_aload_n C 0 dX11_settles_17 rfl rfl ?_
  refine gr_getI C 0 10 dX11_settles_18 (scm_0 hw) rfl inX11 (by decide) ln85 rfl ?_
  obtain ⟨g3, eg3, hF⟩ := gLet_e hF
  refine gr_putI C 0 2 dX11_settles_21 (scm_0 hw) rfl inX11 (by decide) ln94 rfl tyX11 tyX11_ok nmX11 rfl .int rfl rfl rfl ?_
  refine gr_nmS eg3 ?_
  refine gr_iconst C (v := 0) dX11_settles_24 (by decide) ?_
  refine gr_istore_n C [(1, .int (0 : Int32)), (0, .ref (w.2.2.1 0))] dX11_settles_25 rfl (by decide) rfl ?_
  refine gr_sub [1, 0] [(0, .ref (w.2.2.1 0)), (1, .int (0 : Int32))] rfl ?_
  have L25 : ∀ (n : Nat) (x5 : Int32) (g6 : Sg) (K4 : Sg → Option Sg), (∀  (g26 : Sg), K4  g26 = some σ' → gG X w g26 86 [(0, .ref (w.2.2.1 0))] []) → fX11_settles_26  n x5 g6 K4 = some σ' → gG X w g6 26 [(0, .ref (w.2.2.1 0)), (1, .int x5)] [] := by
    intro n
    induction n with
    | zero =>
      intro x5 g6 K4 hK4 hF
      rw [fX11_settles_26] at hF
      cases hF
    | succ n ih =>
      intro x5 g6 K4 hK4 hF
      rw [fX11_settles_26] at hF
      refine gr_iload_n C 1 dX11_settles_26 rfl rfl ?_
      refine gr_bipush C (v := 8) dX11_settles_27 (by decide) ?_
      refine gr_icmp_ge C 86 dX11_settles_29 (by decide) (fun c7 => ?_) (fun c7 => ?_)
      · rw [if_pos c7] at hF
        refine gr_sub [0] [(0, .ref (w.2.2.1 0))] rfl ?_
        exact hK4  g6 hF
      · rw [if_neg c7] at hF
        refine gr_aload_n C 0 dX11_settles_32 rfl rfl ?_
        refine gr_getR C 0 3 1 dX11_settles_33 (scm_0 hw) rfl inX11 (by decide) ln7 rfl ?_
        refine gr_iload_n C 1 dX11_settles_36 rfl rfl ?_
        refine gr_aload_n C 0 dX11_settles_37 rfl rfl ?_
        refine gr_getR C 0 11 6 dX11_settles_38 (scm_0 hw) rfl inX11 (by decide) ln25 rfl ?_
        refine gr_iload_n C 1 dX11_settles_41 rfl rfl ?_
        obtain ⟨h9, x8, ex8, hF⟩ := gRd_e hF
        refine gr_iald C 6 8 dX11_settles_42 (scm_6 hw) h9 ?_
        refine gr_nmI ex8 ?_
        obtain ⟨h10, g11, eg11, hF⟩ := gWr_e hF
        refine gr_iast C 1 8 dX11_settles_43 (scm_1 hw) h10 ?_
        refine gr_nmS eg11 ?_
        refine gr_aload_n C 0 dX11_settles_44 rfl rfl ?_
        refine gr_getR C 0 4 2 dX11_settles_45 (scm_0 hw) rfl inX11 (by decide) ln13 rfl ?_
        refine gr_iload_n C 1 dX11_settles_48 rfl rfl ?_
        refine gr_aload_n C 0 dX11_settles_49 rfl rfl ?_
        refine gr_getR C 0 12 7 dX11_settles_50 (scm_0 hw) rfl inX11 (by decide) ln28 rfl ?_
        refine gr_iload_n C 1 dX11_settles_53 rfl rfl ?_
        obtain ⟨h13, x12, ex12, hF⟩ := gRd_e hF
        refine gr_iald C 7 8 dX11_settles_54 (scm_7 hw) h13 ?_
        refine gr_nmI ex12 ?_
        obtain ⟨h14, g15, eg15, hF⟩ := gWr_e hF
        refine gr_iast C 2 8 dX11_settles_55 (scm_2 hw) h14 ?_
        refine gr_nmS eg15 ?_
        refine gr_aload_n C 0 dX11_settles_56 rfl rfl ?_
        refine gr_getR C 0 5 3 dX11_settles_57 (scm_0 hw) rfl inX11 (by decide) ln16 rfl ?_
        refine gr_iload_n C 1 dX11_settles_60 rfl rfl ?_
        refine gr_aload_n C 0 dX11_settles_61 rfl rfl ?_
        refine gr_getR C 0 13 8 dX11_settles_62 (scm_0 hw) rfl inX11 (by decide) ln31 rfl ?_
        refine gr_iload_n C 1 dX11_settles_65 rfl rfl ?_
        obtain ⟨h17, x16, ex16, hF⟩ := gRd_e hF
        refine gr_iald C 8 8 dX11_settles_66 (scm_8 hw) h17 ?_
        refine gr_nmI ex16 ?_
        obtain ⟨h18, g19, eg19, hF⟩ := gWr_e hF
        refine gr_iast C 3 8 dX11_settles_67 (scm_3 hw) h18 ?_
        refine gr_nmS eg19 ?_
        refine gr_aload_n C 0 dX11_settles_68 rfl rfl ?_
        refine gr_getR C 0 6 4 dX11_settles_69 (scm_0 hw) rfl inX11 (by decide) ln19 rfl ?_
        refine gr_iload_n C 1 dX11_settles_72 rfl rfl ?_
        refine gr_aload_n C 0 dX11_settles_73 rfl rfl ?_
        refine gr_getR C 0 14 9 dX11_settles_74 (scm_0 hw) rfl inX11 (by decide) ln34 rfl ?_
        refine gr_iload_n C 1 dX11_settles_77 rfl rfl ?_
        obtain ⟨h21, x20, ex20, hF⟩ := gRd_e hF
        refine gr_iald C 9 8 dX11_settles_78 (scm_9 hw) h21 ?_
        refine gr_nmI ex20 ?_
        obtain ⟨h22, g23, eg23, hF⟩ := gWr_e hF
        refine gr_iast C 4 8 dX11_settles_79 (scm_4 hw) h22 ?_
        refine gr_nmS eg23 ?_
        obtain ⟨x24, ex24, hF⟩ := gLet_e hF
        refine gr_iinc C (v := x24) 1 [(1, .int x24), (0, .ref (w.2.2.1 0))] dX11_settles_80 rfl (by rw [ex24]; rfl) (by decide) rfl ?_
        refine gr_goto C 26 dX11_settles_83 (by decide) ?_
        refine gr_sub [1, 0] [(0, .ref (w.2.2.1 0)), (1, .int x24)] rfl ?_
        exact ih x24 g23 K4 hK4 hF
  refine L25 _ (0 : Int32) g3 _ ?_ hF
  intro g27 hF
  try dsimp only at hF
  refine gr_iconst C (v := 0) dX11_settles_86 (by decide) ?_
  refine gr_istore_n C [(1, .int (0 : Int32)), (0, .ref (w.2.2.1 0))] dX11_settles_87 rfl (by decide) rfl ?_
  refine gr_iconst C (v := 0) dX11_settles_88 (by decide) ?_
  refine gr_istore_n C [(2, .int (0 : Int32)), (1, .int (0 : Int32)), (0, .ref (w.2.2.1 0))] dX11_settles_89 rfl (by decide) rfl ?_
  refine gr_sub [2, 1, 0] [(0, .ref (w.2.2.1 0)), (1, .int (0 : Int32)), (2, .int (0 : Int32))] rfl ?_
  have L54 : ∀ (n : Nat) (x29 : Int32) (x30 : Int32) (g31 : Sg) (K28 : Sg → Option Sg), (∀  (g55 : Sg), K28  g55 = some σ' → gG X w g55 138 [(0, .ref (w.2.2.1 0))] []) → fX11_settles_90  n x29 x30 g31 K28 = some σ' → gG X w g31 90 [(0, .ref (w.2.2.1 0)), (1, .int x29), (2, .int x30)] [] := by
    intro n
    induction n with
    | zero =>
      intro x29 x30 g31 K28 hK28 hF
      rw [fX11_settles_90] at hF
      cases hF
    | succ n ih =>
      intro x29 x30 g31 K28 hK28 hF
      rw [fX11_settles_90] at hF
      refine gr_iload_n C 2 dX11_settles_90 rfl rfl ?_
      refine gr_bipush C (v := 20) dX11_settles_91 (by decide) ?_
      refine gr_icmp_gt C 138 dX11_settles_93 (by decide) (fun c32 => ?_) (fun c32 => ?_)
      · rw [if_pos c32] at hF
        refine gr_sub [0] [(0, .ref (w.2.2.1 0))] rfl ?_
        exact hK28  g31 hF
      · rw [if_neg c32] at hF
        refine gr_iconst C (v := 0) dX11_settles_96 (by decide) ?_
        refine gr_istore_n C [(3, .int (0 : Int32)), (0, .ref (w.2.2.1 0)), (1, .int x29), (2, .int x30)] dX11_settles_97 rfl (by decide) rfl ?_
        refine gr_sub [1, 2, 3, 0] [(0, .ref (w.2.2.1 0)), (1, .int x29), (2, .int x30), (3, .int (0 : Int32))] rfl ?_
        have L48 : ∀ (n : Nat) (x34 : Int32) (x35 : Int32) (g36 : Sg) (K33 : Int32 → Sg → Option Sg), (∀ (x49 : Int32) (g50 : Sg), K33 x49 g50 = some σ' → gG X w g50 132 [(0, .ref (w.2.2.1 0)), (1, .int x49), (2, .int x30)] []) → fX11_settles_98 x30 n x34 x35 g36 K33 = some σ' → gG X w g36 98 [(0, .ref (w.2.2.1 0)), (1, .int x34), (2, .int x30), (3, .int x35)] [] := by
          intro n
          induction n with
          | zero =>
            intro x34 x35 g36 K33 hK33 hF
            rw [fX11_settles_98] at hF
            cases hF
          | succ n ih =>
            intro x34 x35 g36 K33 hK33 hF
            rw [fX11_settles_98] at hF
            refine gr_iload_n C 3 dX11_settles_98 rfl rfl ?_
            refine gr_aload_n C 0 dX11_settles_99 rfl rfl ?_
            refine gr_getI C 0 2 dX11_settles_100 (scm_0 hw) rfl inX11 (by decide) ln94 rfl ?_
            refine gr_icmp_ge C 132 dX11_settles_103 (by decide) (fun c37 => ?_) (fun c37 => ?_)
            · rw [if_pos c37] at hF
              refine gr_sub [0, 1, 2] [(0, .ref (w.2.2.1 0)), (1, .int x34), (2, .int x30)] rfl ?_
              exact hK33 x34 g36 hF
            · rw [if_neg c37] at hF
              refine gr_aload_n C 0 dX11_settles_106 rfl rfl ?_
              refine gr_getR C 0 5 3 dX11_settles_107 (scm_0 hw) rfl inX11 (by decide) ln16 rfl ?_
              refine gr_iload_n C 3 dX11_settles_110 rfl rfl ?_
              obtain ⟨h39, x38, ex38, hF⟩ := gRd_e hF
              refine gr_iald C 3 8 dX11_settles_111 (scm_3 hw) h39 ?_
              refine gr_nmI ex38 ?_
              refine gr_iload_n C 2 dX11_settles_112 rfl rfl ?_
              obtain ⟨K40, eK40, hF⟩ := gLet_e hF
              have JK40 : ∀ (x41 : Int32) (g42 : Sg), K40 x41 g42 = some σ' → gG X w g42 126 [(0, .ref (w.2.2.1 0)), (1, .int x41), (2, .int x30), (3, .int x35)] [] := by
                intro x41 g42 hF
                rw [eK40] at hF
                try dsimp only at hF
                obtain ⟨x43, ex43, hF⟩ := gLet_e hF
                refine gr_iinc C (v := x43) 3 [(3, .int x43), (0, .ref (w.2.2.1 0)), (1, .int x41), (2, .int x30)] dX11_settles_126 rfl (by rw [ex43]; rfl) (by decide) rfl ?_
                refine gr_goto C 98 dX11_settles_129 (by decide) ?_
                refine gr_sub [1, 2, 3, 0] [(0, .ref (w.2.2.1 0)), (1, .int x41), (2, .int x30), (3, .int x43)] rfl ?_
                exact ih x41 x43 g42 K33 hK33 hF
              refine gr_icmp_ne C 126 dX11_settles_113 (by decide) (fun c44 => ?_) (fun c44 => ?_)
              · rw [if_neg c44] at hF
                exact JK40 x34 g36 hF
              · rw [if_pos c44] at hF
                refine gr_aload_n C 0 dX11_settles_116 rfl rfl ?_
                refine gr_getR C 0 7 5 dX11_settles_117 (scm_0 hw) rfl inX11 (by decide) ln22 rfl ?_
                refine gr_iload_n C 1 dX11_settles_120 rfl rfl ?_
                refine gr_iload_n C 3 dX11_settles_121 rfl rfl ?_
                obtain ⟨h45, g46, eg46, hF⟩ := gWr_e hF
                refine gr_iast C 5 8 dX11_settles_122 (scm_5 hw) h45 ?_
                refine gr_nmS eg46 ?_
                obtain ⟨x47, ex47, hF⟩ := gLet_e hF
                refine gr_iinc C (v := x47) 1 [(1, .int x47), (0, .ref (w.2.2.1 0)), (2, .int x30), (3, .int x35)] dX11_settles_123 rfl (by rw [ex47]; rfl) (by decide) rfl ?_
                refine gr_sub [1, 0, 2, 3] [(0, .ref (w.2.2.1 0)), (1, .int x47), (2, .int x30), (3, .int x35)] rfl ?_
                exact JK40 x47 g46 hF
        refine L48 _ x29 (0 : Int32) g31 _ ?_ hF
        intro x51 g52 hF
        try dsimp only at hF
        obtain ⟨x53, ex53, hF⟩ := gLet_e hF
        refine gr_iinc C (v := x53) 2 [(2, .int x53), (0, .ref (w.2.2.1 0)), (1, .int x51)] dX11_settles_132 rfl (by rw [ex53]; rfl) (by decide) rfl ?_
        refine gr_goto C 90 dX11_settles_135 (by decide) ?_
        refine gr_sub [1, 2, 0] [(0, .ref (w.2.2.1 0)), (1, .int x51), (2, .int x53)] rfl ?_
        exact ih x51 x53 g52 K28 hK28 hF
  refine L54 _ (0 : Int32) (0 : Int32) g27 _ ?_ hF
  intro g56 hF
  try dsimp only at hF
  refine gr_aload_n C 0 dX11_settles_138 rfl rfl ?_
  refine gr_sipush C (v := 308) dX11_settles_139 (by decide) ?_
  refine gr_iconst C (v := 0) dX11_settles_142 (by decide) ?_
  obtain ⟨g58, hc57, hF⟩ := gCv_e hF
  refine gr_callVV C (n := 2) (As := [.int (308 : Int32), .int (0 : Int32)]) (rest := []) 0 (mX11_copies X.2.1 hw  hc57) gX11_settles_X11_copies rfl ⟨rfl, rfl⟩ ⟨by decide, by decide⟩ rfl (Nat.le_of_ble_eq_true rfl) rfl (by decide +kernel) (scm_0 hw) rfl dX11_settles_143 ?_
  cases hF
  exact gr_vret C dX11_settles_146 ⟨rfl, rfl⟩
-- X11_isStep: 10 instructions, frames 1, locals 25
set_option maxRecDepth 100000 in
set_option maxHeartbeats 4000000 in
theorem mX11_isStep (l : Launch) {w : Wl} (hw : w.2.2.2 = shM) {σ : Sg} {a0 : Int32}  {r : Int32} {σ' : Sg} (hF : fX11_isStep σ a0 = some (r, σ')) : gMI l w yX11_isStep wsX11_isStep ({ frames := 1, cells := 0, slots := 0, locals := 25 } : Room) [.ref (w.2.2.1 0), .int a0] σ r σ' := by
  have inX11 : ∀ v ∈ u_ws RX11 TX11 32, v ∈ wsX11_isStep := by decide +kernel
  have ln88 : Cond.fieldLink RX11 88 (TX11 0).1 (TX11 0).2.1 (TX11 0).2.2.1 ∈ wsX11_isStep := by decide +kernel
  refine gStartZ cX11_isStep 2 RX11 rfl (by decide) rfl (Nat.le_of_ble_eq_true rfl) ?_
  intro X hl C
  show gG X w σ 0 [(0, .ref (w.2.2.1 0)), (1, .int a0)] []
  unfold fX11_isStep at hF
  refine gr_iload_n C 1 dX11_isStep_0 rfl rfl ?_
  refine gr_i2l C dX11_isStep_1 ?_
  refine gr_lconst C (v := 0) dX11_isStep_2 (by decide) ?_
  refine gr_aload_n C 0 dX11_isStep_3 rfl rfl ?_
  refine gr_getI C 0 0 dX11_isStep_4 (scm_0 hw) rfl inX11 (by decide) ln88 rfl ?_
  refine gr_iconst C (v := 1) dX11_isStep_7 (by decide) ?_
  refine gr_isub C dX11_isStep_8 ?_
  refine gr_i2l C dX11_isStep_9 ?_
  obtain ⟨r3, g2, hc1, hF⟩ := gCl_e hF
  refine gr_callSI C (n := 3) (As := [.long (a0.toInt64), .long (0 : Int64), .long (((σ 0 0) - (1 : Int32)).toInt64)]) (rest := []) (mX11_in X.2.1 hw  hc1) gX11_isStep_X11_in rfl ⟨rfl, rfl⟩ ⟨by decide, by decide⟩ rfl (Nat.le_of_ble_eq_true rfl) rfl (by decide +kernel) dX11_isStep_10 ?_
  obtain ⟨h4, hF⟩ := gZ_e hF
  cases hF
  exact gr_zret C dX11_isStep_13 h4.1 ⟨rfl, rfl⟩
-- X11_isOne: 10 instructions, frames 1, locals 25
set_option maxRecDepth 100000 in
set_option maxHeartbeats 4000000 in
theorem mX11_isOne (l : Launch) {w : Wl} (hw : w.2.2.2 = shM) {σ : Sg} {a0 : Int32}  {r : Int32} {σ' : Sg} (hF : fX11_isOne σ a0 = some (r, σ')) : gMI l w yX11_isOne wsX11_isOne ({ frames := 1, cells := 0, slots := 0, locals := 25 } : Room) [.ref (w.2.2.1 0), .int a0] σ r σ' := by
  have inX11 : ∀ v ∈ u_ws RX11 TX11 32, v ∈ wsX11_isOne := by decide +kernel
  have ln94 : Cond.fieldLink RX11 94 (TX11 2).1 (TX11 2).2.1 (TX11 2).2.2.1 ∈ wsX11_isOne := by decide +kernel
  refine gStartZ cX11_isOne 2 RX11 rfl (by decide) rfl (Nat.le_of_ble_eq_true rfl) ?_
  intro X hl C
  show gG X w σ 0 [(0, .ref (w.2.2.1 0)), (1, .int a0)] []
  unfold fX11_isOne at hF
  refine gr_iload_n C 1 dX11_isOne_0 rfl rfl ?_
  refine gr_i2l C dX11_isOne_1 ?_
  refine gr_lconst C (v := 0) dX11_isOne_2 (by decide) ?_
  refine gr_aload_n C 0 dX11_isOne_3 rfl rfl ?_
  refine gr_getI C 0 2 dX11_isOne_4 (scm_0 hw) rfl inX11 (by decide) ln94 rfl ?_
  refine gr_iconst C (v := 1) dX11_isOne_7 (by decide) ?_
  refine gr_isub C dX11_isOne_8 ?_
  refine gr_i2l C dX11_isOne_9 ?_
  obtain ⟨r3, g2, hc1, hF⟩ := gCl_e hF
  refine gr_callSI C (n := 3) (As := [.long (a0.toInt64), .long (0 : Int64), .long (((σ 0 2) - (1 : Int32)).toInt64)]) (rest := []) (mX11_in X.2.1 hw  hc1) gX11_isOne_X11_in rfl ⟨rfl, rfl⟩ ⟨by decide, by decide⟩ rfl (Nat.le_of_ble_eq_true rfl) rfl (by decide +kernel) dX11_isOne_10 ?_
  obtain ⟨h4, hF⟩ := gZ_e hF
  cases hF
  exact gr_zret C dX11_isOne_13 h4.1 ⟨rfl, rfl⟩
-- X11_write: 30 instructions, frames 1, locals 25
set_option maxRecDepth 100000 in
set_option maxHeartbeats 4000000 in
theorem mX11_write (l : Launch) {w : Wl} (hw : w.2.2.2 = shM) {σ : Sg} {a0 : Int32}  {r : Int32} {σ' : Sg} (hF : fX11_write σ a0 = some (r, σ')) : gMI l w yX11_write wsX11_write ({ frames := 1, cells := 0, slots := 0, locals := 25 } : Room) [.ref (w.2.2.1 0), .int a0] σ r σ' := by
  have inX11 : ∀ v ∈ u_ws RX11 TX11 32, v ∈ wsX11_write := by decide +kernel
  have ln40 : Cond.fieldLink RX11 40 (TX11 19).1 (TX11 19).2.1 (TX11 19).2.2.1 ∈ wsX11_write := by decide +kernel
  have ln109 : Cond.fieldLink RX11 109 (TX11 18).1 (TX11 18).2.1 (TX11 18).2.2.1 ∈ wsX11_write := by decide +kernel
  have k105 : Cond.constantLong RX11 105 (32) ∈ wsX11_write := by decide +kernel
  have k107 : Cond.constantLong RX11 107 (126) ∈ wsX11_write := by decide +kernel
  refine gStartI cX11_write 2 RX11 rfl (by decide) rfl (Nat.le_of_ble_eq_true rfl) ?_
  intro X hl C
  show gG X w σ 0 [(0, .ref (w.2.2.1 0)), (1, .int a0)] []
  unfold fX11_write at hF
  refine gr_iload_n C 1 dX11_write_0 rfl rfl ?_
  refine gr_i2l C dX11_write_1 ?_
  refine gr_ldc2 C (v := 32) dX11_write_2 k105 ?_
  refine gr_ldc2 C (v := 126) dX11_write_5 k107 ?_
  obtain ⟨r3, g2, hc1, hF⟩ := gCl_e hF
  refine gr_callSI C (n := 3) (As := [.long (a0.toInt64), .long (32 : Int64), .long (126 : Int64)]) (rest := []) (mX11_in X.2.1 hw  hc1) gX11_write_X11_in rfl ⟨rfl, rfl⟩ ⟨by decide, by decide⟩ rfl (Nat.le_of_ble_eq_true rfl) rfl (by decide +kernel) dX11_write_8 ?_
  refine gr_if_ne C 16 dX11_write_11 (by decide) (fun c4 => ?_) (fun c4 => ?_)
  · rw [if_neg c4] at hF
    refine gr_aload_n C 0 dX11_write_16 rfl rfl ?_
    refine gr_getI C 0 18 dX11_write_17 (scm_0 hw) rfl inX11 (by decide) ln109 rfl ?_
    refine gr_sipush C (v := 200) dX11_write_20 (by decide) ?_
    refine gr_icmp_ne C 29 dX11_write_23 (by decide) (fun c5 => ?_) (fun c5 => ?_)
    · rw [if_neg c5] at hF
      refine gr_aload_n C 0 dX11_write_29 rfl rfl ?_
      refine gr_getR C 0 19 11 dX11_write_30 (scm_0 hw) rfl inX11 (by decide) ln40 rfl ?_
      refine gr_aload_n C 0 dX11_write_33 rfl rfl ?_
      refine gr_getI C 0 18 dX11_write_34 (scm_0 hw) rfl inX11 (by decide) ln109 rfl ?_
      refine gr_iload_n C 1 dX11_write_37 rfl rfl ?_
      refine gr_i2b C dX11_write_38 ?_
      obtain ⟨h6, g7, eg7, hF⟩ := gWr_e hF
      refine gr_bast C 11 200 dX11_write_39 (scm_11 hw) h6 ?_
      refine gr_nmS eg7 ?_
      refine gr_aload_n C 0 dX11_write_40 rfl rfl ?_
      refine gr_dup C dX11_write_41 rfl ?_
      refine gr_getI C 0 18 dX11_write_42 (scm_0 hw) rfl inX11 (by decide) ln109 rfl ?_
      refine gr_iconst C (v := 1) dX11_write_45 (by decide) ?_
      refine gr_iadd C dX11_write_46 ?_
      obtain ⟨g8, eg8, hF⟩ := gLet_e hF
      refine gr_putI C 0 18 dX11_write_47 (scm_0 hw) rfl inX11 (by decide) ln109 rfl tyX11 tyX11_ok nmX11 rfl .int rfl rfl rfl ?_
      refine gr_nmS eg8 ?_
      refine gr_aload_n C 0 dX11_write_50 rfl rfl ?_
      refine gr_getI C 0 18 dX11_write_51 (scm_0 hw) rfl inX11 (by decide) ln109 rfl ?_
      cases hF
      exact gr_iret C dX11_write_54 ⟨rfl, rfl⟩
    · rw [if_pos c5] at hF
      refine gr_sub [] [] rfl ?_
      refine gr_bipush C (v := -3) dX11_write_26 (by decide) ?_
      cases hF
      exact gr_iret C dX11_write_28 ⟨rfl, rfl⟩
  · rw [if_pos c4] at hF
    refine gr_sub [] [] rfl ?_
    refine gr_iconst C (v := -1) dX11_write_14 (by decide) ?_
    cases hF
    exact gr_iret C dX11_write_15 ⟨rfl, rfl⟩
-- X11_wipe: 8 instructions, frames 0, locals 0
set_option maxRecDepth 100000 in
set_option maxHeartbeats 4000000 in
theorem mX11_wipe (l : Launch) {w : Wl} (hw : w.2.2.2 = shM) {σ : Sg}   {r : Int32} {σ' : Sg} (hF : fX11_wipe σ  = some (r, σ')) : gMI l w yX11_wipe wsX11_wipe ({ frames := 0, cells := 0, slots := 0, locals := 0 } : Room) [.ref (w.2.2.1 0)] σ r σ' := by
  have inX11 : ∀ v ∈ u_ws RX11 TX11 32, v ∈ wsX11_wipe := by decide +kernel
  have ln109 : Cond.fieldLink RX11 109 (TX11 18).1 (TX11 18).2.1 (TX11 18).2.2.1 ∈ wsX11_wipe := by decide +kernel
  refine gStartI cX11_wipe 2 RX11 rfl (by decide) rfl (Nat.le_of_ble_eq_true rfl) ?_
  intro X hl C
  show gG X w σ 0 [(0, .ref (w.2.2.1 0))] []
  unfold fX11_wipe at hF
  refine gr_aload_n C 0 dX11_wipe_0 rfl rfl ?_
  refine gr_getI C 0 18 dX11_wipe_1 (scm_0 hw) rfl inX11 (by decide) ln109 rfl ?_
  obtain ⟨x1, ex1, hF⟩ := gLet_e hF
  refine gr_nmI ex1 ?_
  refine gr_istore_n C [(1, .int x1), (0, .ref (w.2.2.1 0))] dX11_wipe_4 rfl (by decide) rfl ?_
  refine gr_aload_n C 1 dX11_wipe_5 rfl rfl ?_
  refine gr_iconst C (v := 0) dX11_wipe_6 (by decide) ?_
  obtain ⟨g2, eg2, hF⟩ := gLet_e hF
  refine gr_putI C 0 18 dX11_wipe_7 (scm_0 hw) rfl inX11 (by decide) ln109 rfl tyX11 tyX11_ok nmX11 rfl .int rfl rfl rfl ?_
  refine gr_nmS eg2 ?_
  refine gr_iload_n C 0 dX11_wipe_10 rfl rfl ?_
  cases hF
  exact gr_iret C dX11_wipe_11 ⟨rfl, rfl⟩
-- X11_next: 13 instructions, frames 0, locals 0
set_option maxRecDepth 100000 in
set_option maxHeartbeats 4000000 in
theorem mX11_next (l : Launch) {w : Wl} (hw : w.2.2.2 = shM) {σ : Sg}   {r : Int32} {σ' : Sg} (hF : fX11_next σ  = some (r, σ')) : gMI l w yX11_next wsX11_next ({ frames := 0, cells := 0, slots := 0, locals := 0 } : Room) [.ref (w.2.2.1 0)] σ r σ' := by
  have inX11 : ∀ v ∈ u_ws RX11 TX11 32, v ∈ wsX11_next := by decide +kernel
  have ln40 : Cond.fieldLink RX11 40 (TX11 19).1 (TX11 19).2.1 (TX11 19).2.2.1 ∈ wsX11_next := by decide +kernel
  have ln109 : Cond.fieldLink RX11 109 (TX11 18).1 (TX11 18).2.1 (TX11 18).2.2.1 ∈ wsX11_next := by decide +kernel
  have ln112 : Cond.fieldLink RX11 112 (TX11 20).1 (TX11 20).2.1 (TX11 20).2.2.1 ∈ wsX11_next := by decide +kernel
  refine gStartI cX11_next 1 RX11 rfl (by decide) rfl (Nat.le_of_ble_eq_true rfl) ?_
  intro X hl C
  show gG X w σ 0 [(0, .ref (w.2.2.1 0))] []
  unfold fX11_next at hF
  refine gr_aload_n C 0 dX11_next_0 rfl rfl ?_
  refine gr_getI C 0 20 dX11_next_1 (scm_0 hw) rfl inX11 (by decide) ln112 rfl ?_
  refine gr_aload_n C 0 dX11_next_4 rfl rfl ?_
  refine gr_getI C 0 18 dX11_next_5 (scm_0 hw) rfl inX11 (by decide) ln109 rfl ?_
  refine gr_icmp_ge C 23 dX11_next_8 (by decide) (fun c1 => ?_) (fun c1 => ?_)
  · rw [if_pos c1] at hF
    refine gr_sub [] [] rfl ?_
    refine gr_iconst C (v := -1) dX11_next_23 (by decide) ?_
    cases hF
    exact gr_iret C dX11_next_24 ⟨rfl, rfl⟩
  · rw [if_neg c1] at hF
    refine gr_aload_n C 0 dX11_next_11 rfl rfl ?_
    refine gr_getR C 0 19 11 dX11_next_12 (scm_0 hw) rfl inX11 (by decide) ln40 rfl ?_
    refine gr_aload_n C 0 dX11_next_15 rfl rfl ?_
    refine gr_getI C 0 20 dX11_next_16 (scm_0 hw) rfl inX11 (by decide) ln112 rfl ?_
    obtain ⟨h3, x2, ex2, hF⟩ := gRd_e hF
    refine gr_bald C 11 200 dX11_next_19 (scm_11 hw) h3 ?_
    refine gr_nmI ex2 ?_
    refine gr_goto C 24 dX11_next_20 (by decide) ?_
    refine gr_sub [] [] rfl ?_
    cases hF
    exact gr_iret C dX11_next_24 ⟨rfl, rfl⟩
-- X11_number: 59 instructions, frames 1, locals 25
set_option maxRecDepth 100000 in
set_option maxHeartbeats 4000000 in
theorem mX11_number (l : Launch) {w : Wl} (hw : w.2.2.2 = shM) {σ : Sg} {a0 : Int32} {a1 : Int32}  {r : Int32} {σ' : Sg} (hF : fX11_number σ a0 a1 = some (r, σ')) : gMI l w yX11_number wsX11_number ({ frames := 1, cells := 0, slots := 0, locals := 25 } : Room) [.ref (w.2.2.1 0), .int a0, .int a1] σ r σ' := by
  have inX11 : ∀ v ∈ u_ws RX11 TX11 32, v ∈ wsX11_number := by decide +kernel
  have ln112 : Cond.fieldLink RX11 112 (TX11 20).1 (TX11 20).2.1 (TX11 20).2.2.1 ∈ wsX11_number := by decide +kernel
  have ln123 : Cond.fieldLink RX11 123 (TX11 22).1 (TX11 22).2.1 (TX11 22).2.2.1 ∈ wsX11_number := by decide +kernel
  have k119 : Cond.constantLong RX11 119 (48) ∈ wsX11_number := by decide +kernel
  have k121 : Cond.constantLong RX11 121 (57) ∈ wsX11_number := by decide +kernel
  refine gStartI cX11_number 5 RX11 rfl (by decide) rfl (Nat.le_of_ble_eq_true rfl) ?_
  intro X hl C
  show gG X w σ 0 [(0, .ref (w.2.2.1 0)), (1, .int a0), (2, .int a1)] []
  unfold fX11_number at hF
  refine gr_iconst C (v := 0) dX11_number_0 (by decide) ?_
  refine gr_istore_n C [(3, .int (0 : Int32)), (0, .ref (w.2.2.1 0)), (1, .int a0), (2, .int a1)] dX11_number_1 rfl (by decide) rfl ?_
  refine gr_iconst C (v := 0) dX11_number_2 (by decide) ?_
  refine gr_istore C [(4, .int (0 : Int32)), (3, .int (0 : Int32)), (0, .ref (w.2.2.1 0)), (1, .int a0), (2, .int a1)] dX11_number_3 (by decide) rfl ?_
  refine gr_sub [2, 3, 4, 1, 0] [(0, .ref (w.2.2.1 0)), (1, .int a0), (2, .int a1), (3, .int (0 : Int32)), (4, .int (0 : Int32))] rfl ?_
  have L19 : ∀ (n : Nat) (x2 : Int32) (x3 : Int32) (g4 : Sg) (K1 : Int32 → Int32 → Sg → Option (Int32 × Sg)), (∀ (x20 : Int32) (x21 : Int32) (g22 : Sg), K1 x20 x21 g22 = some (r, σ') → gG X w g22 57 [(0, .ref (w.2.2.1 0)), (1, .int a0), (2, .int a1), (3, .int x20), (4, .int x21)] []) → fX11_number_5  n x2 x3 g4 K1 = some (r, σ') → gG X w g4 5 [(0, .ref (w.2.2.1 0)), (1, .int a0), (2, .int a1), (3, .int x2), (4, .int x3)] [] := by
    intro n
    induction n with
    | zero =>
      intro x2 x3 g4 K1 hK1 hF
      rw [fX11_number_5] at hF
      cases hF
    | succ n ih =>
      intro x2 x3 g4 K1 hK1 hF
      rw [fX11_number_5] at hF
      refine gr_aload_n C 0 dX11_number_5 rfl rfl ?_
      obtain ⟨r7, g6, hc5, hF⟩ := gCl_e hF
      refine gr_callVI C (n := 0) (As := []) (rest := []) 0 (mX11_next X.2.1 hw  hc5) gX11_number_X11_next rfl ⟨rfl, rfl⟩ ⟨by decide, by decide⟩ rfl (Nat.le_of_ble_eq_true rfl) rfl (by decide +kernel) (scm_0 hw) rfl dX11_number_6 ?_
      refine gr_i2l C dX11_number_9 ?_
      refine gr_ldc2 C (v := 48) dX11_number_10 k119 ?_
      refine gr_ldc2 C (v := 57) dX11_number_13 k121 ?_
      obtain ⟨r10, g9, hc8, hF⟩ := gCl_e hF
      refine gr_callSI C (n := 3) (As := [.long (r7.toInt64), .long (48 : Int64), .long (57 : Int64)]) (rest := []) (mX11_in X.2.1 hw  hc8) gX11_number_X11_in rfl ⟨rfl, rfl⟩ ⟨by decide, by decide⟩ rfl (Nat.le_of_ble_eq_true rfl) rfl (by decide +kernel) dX11_number_16 ?_
      refine gr_if_eq C 57 dX11_number_19 (by decide) (fun c11 => ?_) (fun c11 => ?_)
      · rw [if_pos c11] at hF
        exact hK1 x2 x3 g9 hF
      · rw [if_neg c11] at hF
        refine gr_iload C 4 dX11_number_22 rfl ?_
        refine gr_iconst C (v := 3) dX11_number_24 (by decide) ?_
        refine gr_icmp_ge C 57 dX11_number_25 (by decide) (fun c12 => ?_) (fun c12 => ?_)
        · rw [if_pos c12] at hF
          exact hK1 x2 x3 g9 hF
        · rw [if_neg c12] at hF
          refine gr_bipush C (v := 10) dX11_number_28 (by decide) ?_
          refine gr_iload_n C 3 dX11_number_30 rfl rfl ?_
          refine gr_imul C dX11_number_31 ?_
          refine gr_aload_n C 0 dX11_number_32 rfl rfl ?_
          obtain ⟨r15, g14, hc13, hF⟩ := gCl_e hF
          refine gr_callVI C (n := 0) (As := []) (rest := [.int ((10 : Int32) * x2)]) 0 (mX11_next X.2.1 hw  hc13) gX11_number_X11_next rfl ⟨rfl, rfl⟩ ⟨by decide, by decide⟩ rfl (Nat.le_of_ble_eq_true rfl) rfl (by decide +kernel) (scm_0 hw) rfl dX11_number_33 ?_
          refine gr_iadd C dX11_number_36 ?_
          refine gr_bipush C (v := 48) dX11_number_37 (by decide) ?_
          refine gr_isub C dX11_number_39 ?_
          obtain ⟨x16, ex16, hF⟩ := gLet_e hF
          refine gr_nmI ex16 ?_
          refine gr_istore_n C [(3, .int x16), (0, .ref (w.2.2.1 0)), (1, .int a0), (2, .int a1), (4, .int x3)] dX11_number_40 rfl (by decide) rfl ?_
          obtain ⟨x17, ex17, hF⟩ := gLet_e hF
          refine gr_iinc C (v := x17) 4 [(4, .int x17), (3, .int x16), (0, .ref (w.2.2.1 0)), (1, .int a0), (2, .int a1)] dX11_number_41 rfl (by rw [ex17]; rfl) (by decide) rfl ?_
          refine gr_aload_n C 2 dX11_number_44 rfl rfl ?_
          refine gr_dup C dX11_number_45 rfl ?_
          refine gr_getI C 0 20 dX11_number_46 (scm_0 hw) rfl inX11 (by decide) ln112 rfl ?_
          refine gr_iconst C (v := 1) dX11_number_49 (by decide) ?_
          refine gr_iadd C dX11_number_50 ?_
          obtain ⟨g18, eg18, hF⟩ := gLet_e hF
          refine gr_putI C 0 20 dX11_number_51 (scm_0 hw) rfl inX11 (by decide) ln112 rfl tyX11 tyX11_ok nmX11 rfl .int rfl rfl rfl ?_
          refine gr_nmS eg18 ?_
          refine gr_goto C 5 dX11_number_54 (by decide) ?_
          refine gr_sub [2, 3, 4, 1, 0] [(0, .ref (w.2.2.1 0)), (1, .int a0), (2, .int a1), (3, .int x16), (4, .int x17)] rfl ?_
          exact ih x16 x17 g18 K1 hK1 hF
  refine L19 _ (0 : Int32) (0 : Int32) σ _ ?_ hF
  intro x23 x24 g25 hF
  try dsimp only at hF
  refine gr_aload_n C 0 dX11_number_57 rfl rfl ?_
  refine gr_aload_n C 0 dX11_number_58 rfl rfl ?_
  refine gr_getI C 0 22 dX11_number_59 (scm_0 hw) rfl inX11 (by decide) ln123 rfl ?_
  obtain ⟨K26, eK26, hF⟩ := gLet_e hF
  have JK26 : ∀ (x27 : Int32) (g28 : Sg), K26 x27 g28 = some (r, σ') → gG X w g28 93 [(0, .ref (w.2.2.1 0)), (3, .int x23)] [.int x27, .ref (w.2.2.1 0)] := by
    intro x27 g28 hF
    rw [eK26] at hF
    try dsimp only at hF
    obtain ⟨h30, hF⟩ := gZ_e hF
    obtain ⟨g29, eg29, hF⟩ := gLet_e hF
    refine gr_putI C 0 22 dX11_number_93 (scm_0 hw) rfl inX11 (by decide) ln123 rfl tyX11 tyX11_ok nmX11 rfl .boolean rfl h30.1 h30.2 ?_
    refine gr_nmS eg29 ?_
    refine gr_aload_n C 0 dX11_number_96 rfl rfl ?_
    refine gr_getI C 0 22 dX11_number_97 (scm_0 hw) rfl inX11 (by decide) ln123 rfl ?_
    refine gr_if_eq C 107 dX11_number_100 (by decide) (fun c31 => ?_) (fun c31 => ?_)
    · rw [if_pos c31] at hF
      refine gr_sub [1] [(3, .int x23)] rfl ?_
      refine gr_iload_n C 0 dX11_number_107 rfl rfl ?_
      cases hF
      exact gr_iret C dX11_number_108 ⟨rfl, rfl⟩
    · rw [if_neg c31] at hF
      refine gr_sub [] [] rfl ?_
      refine gr_iconst C (v := 0) dX11_number_103 (by decide) ?_
      refine gr_goto C 108 dX11_number_104 (by decide) ?_
      cases hF
      exact gr_iret C dX11_number_108 ⟨rfl, rfl⟩
  obtain ⟨K32, eK32, hF⟩ := gLet_e hF
  have JK32 : ∀  (g33 : Sg), K32  g33 = some (r, σ') → gG X w g33 88 [(0, .ref (w.2.2.1 0)), (3, .int x23)] [.ref (w.2.2.1 0)] := by
    intro g33 hF
    rw [eK32] at hF
    try dsimp only at hF
    refine gr_iconst C (v := 1) dX11_number_88 (by decide) ?_
    refine gr_goto C 93 dX11_number_89 (by decide) ?_
    exact JK26 (1 : Int32) g33 hF
  refine gr_if_ne C 88 dX11_number_62 (by decide) (fun c34 => ?_) (fun c34 => ?_)
  · rw [if_neg c34] at hF
    refine gr_sub [0, 3] [(0, .ref (w.2.2.1 0)), (3, .int x23)] rfl ?_
    exact JK32  g25 hF
  · rw [if_pos c34] at hF
    refine gr_iload C 4 dX11_number_65 rfl ?_
    refine gr_if_eq C 88 dX11_number_67 (by decide) (fun c35 => ?_) (fun c35 => ?_)
    · rw [if_pos c35] at hF
      refine gr_sub [0, 3] [(0, .ref (w.2.2.1 0)), (3, .int x23)] rfl ?_
      exact JK32  g25 hF
    · rw [if_neg c35] at hF
      refine gr_iload C 4 dX11_number_70 rfl ?_
      refine gr_iconst C (v := 2) dX11_number_72 (by decide) ?_
      refine gr_icmp_gt C 88 dX11_number_73 (by decide) (fun c36 => ?_) (fun c36 => ?_)
      · rw [if_pos c36] at hF
        refine gr_sub [0, 3] [(0, .ref (w.2.2.1 0)), (3, .int x23)] rfl ?_
        exact JK32  g25 hF
      · rw [if_neg c36] at hF
        refine gr_sub [0, 1, 2, 3] [(0, .ref (w.2.2.1 0)), (1, .int a0), (2, .int a1), (3, .int x23)] rfl ?_
        refine gr_iload_n C 3 dX11_number_76 rfl rfl ?_
        refine gr_i2l C dX11_number_77 ?_
        refine gr_iload_n C 1 dX11_number_78 rfl rfl ?_
        refine gr_i2l C dX11_number_79 ?_
        refine gr_iload_n C 2 dX11_number_80 rfl rfl ?_
        refine gr_i2l C dX11_number_81 ?_
        obtain ⟨r39, g38, hc37, hF⟩ := gCl_e hF
        refine gr_callSI C (n := 3) (As := [.long (x23.toInt64), .long (a0.toInt64), .long (a1.toInt64)]) (rest := [.ref (w.2.2.1 0)]) (mX11_in X.2.1 hw  hc37) gX11_number_X11_in rfl ⟨rfl, rfl⟩ ⟨by decide, by decide⟩ rfl (Nat.le_of_ble_eq_true rfl) rfl (by decide +kernel) dX11_number_82 ?_
        refine gr_if_ne C 92 dX11_number_85 (by decide) (fun c40 => ?_) (fun c40 => ?_)
        · rw [if_neg c40] at hF
          refine gr_sub [0, 3] [(0, .ref (w.2.2.1 0)), (3, .int x23)] rfl ?_
          refine gr_iconst C (v := 0) dX11_number_92 (by decide) ?_
          exact JK26 (0 : Int32) g38 hF
        · rw [if_pos c40] at hF
          refine gr_sub [0, 3] [(0, .ref (w.2.2.1 0)), (3, .int x23)] rfl ?_
          exact JK32  g38 hF
-- X11_more: 28 instructions, frames 2, locals 49
set_option maxRecDepth 100000 in
set_option maxHeartbeats 4000000 in
theorem mX11_more (l : Launch) {w : Wl} (hw : w.2.2.2 = shM) {σ : Sg} {a0 : Int32} {a1 : Int32}  {r : Int32} {σ' : Sg} (hF : fX11_more σ a0 a1 = some (r, σ')) : gMI l w yX11_more wsX11_more ({ frames := 2, cells := 0, slots := 0, locals := 49 } : Room) [.ref (w.2.2.1 0), .int a0, .int a1] σ r σ' := by
  have inX11 : ∀ v ∈ u_ws RX11 TX11 32, v ∈ wsX11_more := by decide +kernel
  have ln112 : Cond.fieldLink RX11 112 (TX11 20).1 (TX11 20).2.1 (TX11 20).2.2.1 ∈ wsX11_more := by decide +kernel
  have ln123 : Cond.fieldLink RX11 123 (TX11 22).1 (TX11 22).2.1 (TX11 22).2.2.1 ∈ wsX11_more := by decide +kernel
  refine gStartI cX11_more 3 RX11 rfl (by decide) rfl (Nat.le_of_ble_eq_true rfl) ?_
  intro X hl C
  show gG X w σ 0 [(0, .ref (w.2.2.1 0)), (1, .int a0), (2, .int a1)] []
  unfold fX11_more at hF
  refine gr_aload_n C 0 dX11_more_0 rfl rfl ?_
  refine gr_aload_n C 0 dX11_more_1 rfl rfl ?_
  refine gr_getI C 0 22 dX11_more_2 (scm_0 hw) rfl inX11 (by decide) ln123 rfl ?_
  obtain ⟨K1, eK1, hF⟩ := gLet_e hF
  have JK1 : ∀ (x2 : Int32) (g3 : Sg), K1 x2 g3 = some (r, σ') → gG X w g3 22 [(0, .ref (w.2.2.1 0)), (1, .int a0), (2, .int a1)] [.int x2, .ref (w.2.2.1 0)] := by
    intro x2 g3 hF
    rw [eK1] at hF
    try dsimp only at hF
    obtain ⟨h5, hF⟩ := gZ_e hF
    obtain ⟨g4, eg4, hF⟩ := gLet_e hF
    refine gr_putI C 0 22 dX11_more_22 (scm_0 hw) rfl inX11 (by decide) ln123 rfl tyX11 tyX11_ok nmX11 rfl .boolean rfl h5.1 h5.2 ?_
    refine gr_nmS eg4 ?_
    refine gr_aload_n C 0 dX11_more_25 rfl rfl ?_
    refine gr_dup C dX11_more_26 rfl ?_
    refine gr_getI C 0 20 dX11_more_27 (scm_0 hw) rfl inX11 (by decide) ln112 rfl ?_
    refine gr_iconst C (v := 1) dX11_more_30 (by decide) ?_
    refine gr_iadd C dX11_more_31 ?_
    obtain ⟨g6, eg6, hF⟩ := gLet_e hF
    refine gr_putI C 0 20 dX11_more_32 (scm_0 hw) rfl inX11 (by decide) ln112 rfl tyX11 tyX11_ok nmX11 rfl .int rfl rfl rfl ?_
    refine gr_nmS eg6 ?_
    refine gr_aload_n C 0 dX11_more_35 rfl rfl ?_
    refine gr_getI C 0 22 dX11_more_36 (scm_0 hw) rfl inX11 (by decide) ln123 rfl ?_
    refine gr_if_eq C 46 dX11_more_39 (by decide) (fun c7 => ?_) (fun c7 => ?_)
    · rw [if_pos c7] at hF
      refine gr_aload_n C 0 dX11_more_46 rfl rfl ?_
      refine gr_iload_n C 1 dX11_more_47 rfl rfl ?_
      refine gr_iload_n C 2 dX11_more_48 rfl rfl ?_
      obtain ⟨r10, g9, hc8, hF⟩ := gCl_e hF
      refine gr_callVI C (n := 2) (As := [.int a0, .int a1]) (rest := []) 0 (mX11_number X.2.1 hw  hc8) gX11_more_X11_number rfl ⟨rfl, rfl⟩ ⟨by decide, by decide⟩ rfl (Nat.le_of_ble_eq_true rfl) rfl (by decide +kernel) (scm_0 hw) rfl dX11_more_49 ?_
      cases hF
      exact gr_iret C dX11_more_52 ⟨rfl, rfl⟩
    · rw [if_neg c7] at hF
      refine gr_sub [] [] rfl ?_
      refine gr_iconst C (v := 0) dX11_more_42 (by decide) ?_
      refine gr_goto C 52 dX11_more_43 (by decide) ?_
      cases hF
      exact gr_iret C dX11_more_52 ⟨rfl, rfl⟩
  obtain ⟨K11, eK11, hF⟩ := gLet_e hF
  have JK11 : ∀  (g12 : Sg), K11  g12 = some (r, σ') → gG X w g12 17 [(0, .ref (w.2.2.1 0)), (1, .int a0), (2, .int a1)] [.ref (w.2.2.1 0)] := by
    intro g12 hF
    rw [eK11] at hF
    try dsimp only at hF
    refine gr_iconst C (v := 1) dX11_more_17 (by decide) ?_
    refine gr_goto C 22 dX11_more_18 (by decide) ?_
    exact JK1 (1 : Int32) g12 hF
  refine gr_if_ne C 17 dX11_more_5 (by decide) (fun c13 => ?_) (fun c13 => ?_)
  · rw [if_neg c13] at hF
    exact JK11  σ hF
  · rw [if_pos c13] at hF
    refine gr_aload_n C 0 dX11_more_8 rfl rfl ?_
    obtain ⟨r16, g15, hc14, hF⟩ := gCl_e hF
    refine gr_callVI C (n := 0) (As := []) (rest := [.ref (w.2.2.1 0)]) 0 (mX11_next X.2.1 hw  hc14) gX11_more_X11_next rfl ⟨rfl, rfl⟩ ⟨by decide, by decide⟩ rfl (Nat.le_of_ble_eq_true rfl) rfl (by decide +kernel) (scm_0 hw) rfl dX11_more_9 ?_
    refine gr_bipush C (v := 44) dX11_more_12 (by decide) ?_
    refine gr_icmp_eq C 21 dX11_more_14 (by decide) (fun c17 => ?_) (fun c17 => ?_)
    · rw [if_pos c17] at hF
      refine gr_iconst C (v := 0) dX11_more_21 (by decide) ?_
      exact JK1 (0 : Int32) g15 hF
    · rw [if_neg c17] at hF
      exact JK11  g15 hF
-- X11_youngerItem: 53 instructions, frames 3, locals 71
set_option maxRecDepth 100000 in
set_option maxHeartbeats 4000000 in
theorem mX11_youngerItem (l : Launch) {w : Wl} (hw : w.2.2.2 = shM) {σ : Sg}   {σ' : Sg} (hF : fX11_youngerItem σ  = some σ') : gMV l w yX11_youngerItem wsX11_youngerItem ({ frames := 3, cells := 0, slots := 0, locals := 71 } : Room) [.ref (w.2.2.1 0)] σ σ' := by
  have inX11 : ∀ v ∈ u_ws RX11 TX11 32, v ∈ wsX11_youngerItem := by decide +kernel
  have ln82 : Cond.fieldLink RX11 82 (TX11 8).1 (TX11 8).2.1 (TX11 8).2.2.1 ∈ wsX11_youngerItem := by decide +kernel
  have ln85 : Cond.fieldLink RX11 85 (TX11 10).1 (TX11 10).2.1 (TX11 10).2.2.1 ∈ wsX11_youngerItem := by decide +kernel
  have ln123 : Cond.fieldLink RX11 123 (TX11 22).1 (TX11 22).2.1 (TX11 22).2.2.1 ∈ wsX11_youngerItem := by decide +kernel
  refine gStartV cX11_youngerItem 6 RX11 rfl (by decide) rfl (Nat.le_of_ble_eq_true rfl) ?_
  intro X hl C
  show gG X w σ 0 [(0, .ref (w.2.2.1 0))] []
  unfold fX11_youngerItem at hF
  refine gr_aload_n C 0 dX11_youngerItem_0 rfl rfl ?_
  refine gr_aload_n C 0 dX11_youngerItem_1 rfl rfl ?_
  refine gr_getI C 0 10 dX11_youngerItem_2 (scm_0 hw) rfl inX11 (by decide) ln85 rfl ?_
  refine gr_bipush C (v := 8) dX11_youngerItem_5 (by decide) ?_
  obtain ⟨K1, eK1, hF⟩ := gLet_e hF
  have JK1 : ∀ (x2 : Int32) (g3 : Sg), K1 x2 g3 = some σ' → gG X w g3 15 [(0, .ref (w.2.2.1 0))] [.int x2, .ref (w.2.2.1 0)] := by
    intro x2 g3 hF
    rw [eK1] at hF
    try dsimp only at hF
    obtain ⟨h5, hF⟩ := gZ_e hF
    obtain ⟨g4, eg4, hF⟩ := gLet_e hF
    refine gr_putI C 0 22 dX11_youngerItem_15 (scm_0 hw) rfl inX11 (by decide) ln123 rfl tyX11 tyX11_ok nmX11 rfl .boolean rfl h5.1 h5.2 ?_
    refine gr_nmS eg4 ?_
    refine gr_aload_n C 0 dX11_youngerItem_18 rfl rfl ?_
    refine gr_getI C 0 22 dX11_youngerItem_19 (scm_0 hw) rfl inX11 (by decide) ln123 rfl ?_
    obtain ⟨K6, eK6, hF⟩ := gLet_e hF
    have JK6 : ∀ (x7 : Int32) (g8 : Sg), K6 x7 g8 = some σ' → gG X w g8 35 [(0, .ref (w.2.2.1 0))] [.int x7] := by
      intro x7 g8 hF
      rw [eK6] at hF
      try dsimp only at hF
      refine gr_istore_n C [(1, .int x7), (0, .ref (w.2.2.1 0))] dX11_youngerItem_35 rfl (by decide) rfl ?_
      refine gr_aload_n C 1 dX11_youngerItem_36 rfl rfl ?_
      refine gr_iconst C (v := 0) dX11_youngerItem_37 (by decide) ?_
      refine gr_aload_n C 1 dX11_youngerItem_38 rfl rfl ?_
      refine gr_getI C 0 8 dX11_youngerItem_39 (scm_0 hw) rfl inX11 (by decide) ln82 rfl ?_
      refine gr_iconst C (v := 1) dX11_youngerItem_42 (by decide) ?_
      refine gr_isub C dX11_youngerItem_43 ?_
      obtain ⟨r11, g10, hc9, hF⟩ := gCl_e hF
      refine gr_callVI C (n := 2) (As := [.int (0 : Int32), .int ((g8 0 8) - (1 : Int32))]) (rest := []) 0 (mX11_more X.2.1 hw  hc9) gX11_youngerItem_X11_more rfl ⟨rfl, rfl⟩ ⟨by decide, by decide⟩ rfl (Nat.le_of_ble_eq_true rfl) rfl (by decide +kernel) (scm_0 hw) rfl dX11_youngerItem_44 ?_
      refine gr_istore_n C [(2, .int r11), (1, .int x7), (0, .ref (w.2.2.1 0))] dX11_youngerItem_47 rfl (by decide) rfl ?_
      refine gr_aload_n C 2 dX11_youngerItem_48 rfl rfl ?_
      refine gr_iconst C (v := 0) dX11_youngerItem_49 (by decide) ?_
      refine gr_bipush C (v := 20) dX11_youngerItem_50 (by decide) ?_
      obtain ⟨r14, g13, hc12, hF⟩ := gCl_e hF
      refine gr_callVI C (n := 2) (As := [.int (0 : Int32), .int (20 : Int32)]) (rest := []) 0 (mX11_more X.2.1 hw  hc12) gX11_youngerItem_X11_more rfl ⟨rfl, rfl⟩ ⟨by decide, by decide⟩ rfl (Nat.le_of_ble_eq_true rfl) rfl (by decide +kernel) (scm_0 hw) rfl dX11_youngerItem_52 ?_
      refine gr_istore_n C [(3, .int r14), (2, .int r11), (1, .int x7), (0, .ref (w.2.2.1 0))] dX11_youngerItem_55 rfl (by decide) rfl ?_
      refine gr_aload_n C 3 dX11_youngerItem_56 rfl rfl ?_
      refine gr_iconst C (v := 1) dX11_youngerItem_57 (by decide) ?_
      refine gr_bipush C (v := 9) dX11_youngerItem_58 (by decide) ?_
      obtain ⟨r17, g16, hc15, hF⟩ := gCl_e hF
      refine gr_callVI C (n := 2) (As := [.int (1 : Int32), .int (9 : Int32)]) (rest := []) 0 (mX11_more X.2.1 hw  hc15) gX11_youngerItem_X11_more rfl ⟨rfl, rfl⟩ ⟨by decide, by decide⟩ rfl (Nat.le_of_ble_eq_true rfl) rfl (by decide +kernel) (scm_0 hw) rfl dX11_youngerItem_60 ?_
      refine gr_istore C [(4, .int r17), (3, .int r14), (2, .int r11), (1, .int x7), (0, .ref (w.2.2.1 0))] dX11_youngerItem_63 (by decide) rfl ?_
      refine gr_aload_n C 4 dX11_youngerItem_65 rfl rfl ?_
      refine gr_iconst C (v := 1) dX11_youngerItem_66 (by decide) ?_
      refine gr_bipush C (v := 20) dX11_youngerItem_67 (by decide) ?_
      obtain ⟨r20, g19, hc18, hF⟩ := gCl_e hF
      refine gr_callVI C (n := 2) (As := [.int (1 : Int32), .int (20 : Int32)]) (rest := []) 0 (mX11_more X.2.1 hw  hc18) gX11_youngerItem_X11_more rfl ⟨rfl, rfl⟩ ⟨by decide, by decide⟩ rfl (Nat.le_of_ble_eq_true rfl) rfl (by decide +kernel) (scm_0 hw) rfl dX11_youngerItem_69 ?_
      refine gr_istore C [(5, .int r20), (4, .int r17), (3, .int r14), (2, .int r11), (1, .int x7), (0, .ref (w.2.2.1 0))] dX11_youngerItem_72 (by decide) rfl ?_
      refine gr_aload_n C 5 dX11_youngerItem_74 rfl rfl ?_
      refine gr_getI C 0 22 dX11_youngerItem_75 (scm_0 hw) rfl inX11 (by decide) ln123 rfl ?_
      refine gr_if_ne C 92 dX11_youngerItem_78 (by decide) (fun c21 => ?_) (fun c21 => ?_)
      · rw [if_neg c21] at hF
        refine gr_sub [] [] rfl ?_
        cases hF
        exact gr_vret C dX11_youngerItem_92 ⟨rfl, rfl⟩
      · rw [if_pos c21] at hF
        refine gr_sub [5, 4, 3, 2, 1, 0] [(0, .ref (w.2.2.1 0)), (1, .int x7), (2, .int r11), (3, .int r14), (4, .int r17), (5, .int r20)] rfl ?_
        refine gr_aload_n C 0 dX11_youngerItem_81 rfl rfl ?_
        refine gr_iload_n C 1 dX11_youngerItem_82 rfl rfl ?_
        refine gr_iload_n C 2 dX11_youngerItem_83 rfl rfl ?_
        refine gr_iload_n C 3 dX11_youngerItem_84 rfl rfl ?_
        refine gr_iload C 4 dX11_youngerItem_85 rfl ?_
        refine gr_iload C 5 dX11_youngerItem_87 rfl ?_
        obtain ⟨g23, hc22, hF⟩ := gCv_e hF
        refine gr_callVV C (n := 5) (As := [.int x7, .int r11, .int r14, .int r17, .int r20]) (rest := []) 0 (mX11_comes X.2.1 hw  hc22) gX11_youngerItem_X11_comes rfl ⟨rfl, rfl⟩ ⟨by decide, by decide⟩ rfl (Nat.le_of_ble_eq_true rfl) rfl (by decide +kernel) (scm_0 hw) rfl dX11_youngerItem_89 ?_
        cases hF
        exact gr_vret C dX11_youngerItem_92 ⟨rfl, rfl⟩
    refine gr_if_eq C 29 dX11_youngerItem_22 (by decide) (fun c24 => ?_) (fun c24 => ?_)
    · rw [if_pos c24] at hF
      refine gr_aload_n C 0 dX11_youngerItem_29 rfl rfl ?_
      refine gr_iconst C (v := 0) dX11_youngerItem_30 (by decide) ?_
      refine gr_iconst C (v := 3) dX11_youngerItem_31 (by decide) ?_
      obtain ⟨r27, g26, hc25, hF⟩ := gCl_e hF
      refine gr_callVI C (n := 2) (As := [.int (0 : Int32), .int (3 : Int32)]) (rest := []) 0 (mX11_number X.2.1 hw  hc25) gX11_youngerItem_X11_number rfl ⟨rfl, rfl⟩ ⟨by decide, by decide⟩ rfl (Nat.le_of_ble_eq_true rfl) rfl (by decide +kernel) (scm_0 hw) rfl dX11_youngerItem_32 ?_
      exact JK6 r27 g26 hF
    · rw [if_neg c24] at hF
      refine gr_iconst C (v := 0) dX11_youngerItem_25 (by decide) ?_
      refine gr_goto C 35 dX11_youngerItem_26 (by decide) ?_
      exact JK6 (0 : Int32) g4 hF
  refine gr_icmp_ne C 14 dX11_youngerItem_7 (by decide) (fun c28 => ?_) (fun c28 => ?_)
  · rw [if_neg c28] at hF
    refine gr_iconst C (v := 0) dX11_youngerItem_14 (by decide) ?_
    exact JK1 (0 : Int32) σ hF
  · rw [if_pos c28] at hF
    refine gr_iconst C (v := 1) dX11_youngerItem_10 (by decide) ?_
    refine gr_goto C 15 dX11_youngerItem_11 (by decide) ?_
    exact JK1 (1 : Int32) σ hF
