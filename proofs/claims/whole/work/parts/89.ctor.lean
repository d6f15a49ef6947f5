/-! ===== constructors of the small objects ===== -/
/-- the cells of a shape, from the o-th on -/
def gL (cA : Nat → ClassId) (ad : Nat → Nat) (σ : Sg) : Nat → List Sh → va_W
  | _, [] => []
  | o, sh :: l => (ad o, gCell cA ad (σ o) sh) :: gL cA ad σ (o + 1) l
theorem gL_idx (cA : Nat → ClassId) (ad : Nat → Nat) (σ : Sg) : ∀ (l : List Sh) (o : Nat), l.mapIdx (fun k sh => (ad (o + k), gCell cA ad (σ (o + k)) sh)) = gL cA ad σ o l
  | [], _ => rfl
  | sh :: l, o => by
    rw [List.mapIdx_cons, gL, ← gL_idx cA ad σ l (o + 1)]
    congr 1
    congr 1
    funext k sh
    rw [show o + (k + 1) = o + 1 + k by omega]
theorem gWs_L (w : Wl) (σ : Sg) : gWs w σ = gL w.2.1 w.2.2.1 σ 0 w.2.2.2 := by
  rw [← gL_idx]
  unfold gWs
  congr 1
  funext k sh
  rw [Nat.zero_add]
theorem gL_app (cA : Nat → ClassId) (ad : Nat → Nat) (σ : Sg) : ∀ (l l' : List Sh) (o : Nat), gL cA ad σ o (l ++ l') = gL cA ad σ o l ++ gL cA ad σ (o + l.length) l'
  | [], _, _ => rfl
  | sh :: l, l', o => by
    rw [List.cons_append, gL, gL, gL_app cA ad σ l l' (o + 1), List.length_cons, show o + 1 + l.length = o + (l.length + 1) by omega]
    rfl
/-- no number is there yet -/
def z0 : Sg := fun _ _ => 0
/-- shapes of what is made at one time; 1000: the plan, 1001: the day -/
def shRd : List Sh := [.inr (.inl (4, [some 1, some 2, none])), .inl (0, 200), .inl (0, 5)]
def shPn : List Sh := [.inr (.inl (3, [some 1, some 2, some 3, some 4, some 5, some 6, some 7, some 8, some 9, none, none, none, none])), .inl (0, 8), .inl (0, 8), .inl (0, 8), .inl (0, 8), .inl (0, 8), .inl (0, 9), .inl (0, 9), .inl (0, 8), .inl (0, 10)]
def shSg : List Sh := [.inr (.inl (9, [some 1, some 2, some 3, none, none])), .inl (0, 9), .inl (0, 9), .inl (0, 8)]
def shDy : List Sh := [.inr (.inl (2, [some 1000, some 1])), .inl (0, 8)]
def shSn : List Sh := [.inr (.inl (5, [some 1, some 2, none])), .inl (0, 6), .inl (0, 6)]
def shCr : List Sh := [.inr (.inl (0, [some 1, some 2])), .inl (0, 512), .inl (0, 512)]
def shCm : List Sh := [.inr (.inl (1, [some 1000, some 1001, some 1])), .inr (.inl (9, [some 2, some 3, some 4, none, none])), .inl (0, 9), .inl (0, 9), .inl (0, 8)]
/-- what a constructor leaves of a cell: a world of this shape -/
def bW (D : va_G) (cA : Nat → ClassId) (sh : List Sh) (h0 pl dy : Nat) (u : va_W) : Prop := ∃ ad : Nat → Nat, ad 0 = h0 ∧ ad 1000 = pl ∧ ad 1001 = dy ∧ u = gL cA ad z0 0 sh
set_option maxHeartbeats 1000000 in
theorem kStanding (l : Launch) (D : va_G) (cA : Nat → ClassId) (h0 : Nat) : gMN l D cA yX9_init wsX9_init ({ frames := 1, cells := 3, slots := 26, locals := 12 } : Room) [.ref h0] [(h0, .inr (9, [.null, .null, .null, .int 0, .int 0]))] (bW D cA shSg h0 0 0) := by
  have inX : ∀ v ∈ u_ws RX9 TX9 5, v ∈ wsX9_init := by decide +kernel
  have arI : Cond.arrayClass (newarray.typeOf .int) ∈ wsX9_init := by decide +kernel
  have ln9 : Cond.fieldLink RX9 9 (TX9 0).1 (TX9 0).2.1 (TX9 0).2.2.1 ∈ wsX9_init := by decide +kernel
  have ln15 : Cond.fieldLink RX9 15 (TX9 1).1 (TX9 1).2.1 (TX9 1).2.2.1 ∈ wsX9_init := by decide +kernel
  have ln18 : Cond.fieldLink RX9 18 (TX9 2).1 (TX9 2).2.1 (TX9 2).2.2.1 ∈ wsX9_init := by decide +kernel
  refine cStart cX9_init 1 RX9 rfl (by decide) rfl rfl (Nat.le_of_ble_eq_true rfl) ?_
  intro X hl C I E
  show cG X D [(h0, .inr (9, [.null, .null, .null, .int 0, .int 0]))] 0 0 0 [(0, .ref h0)] []
  refine cr_aload_n C 0 dX9_init_0 rfl rfl ?_
  refine cr_objInit C dX9_init_1 (by decide +kernel) (by decide +kernel) (by decide +kernel) (by decide) (by decide) ?_
  refine cr_aload_n C 0 dX9_init_4 rfl rfl ?_
  refine cr_bipush C (v := 9) dX9_init_5 (by decide) ?_
  refine cr_newa C 0 (by decide) 9 dX9_init_7 rfl arI (by decide) rfl (by decide) (by decide) (by decide) ?_
  intro q1
  refine cr_putF C I 0 (fs' := [.ref q1, .null, .null, .int 0, .int 0]) rfl rfl inX (by decide) ln9 tyX9 tyX9_ok nmX9 rfl rfl (.array .int) rfl rfl rfl (Nat.le_of_ble_eq_true rfl) rfl dX9_init_9 ?_
  refine cr_aload_n C 0 dX9_init_12 rfl rfl ?_
  refine cr_bipush C (v := 9) dX9_init_13 (by decide) ?_
  refine cr_newa C 0 (by decide) 9 dX9_init_15 rfl arI (by decide) rfl (by decide) (by decide) (by decide) ?_
  intro q2
  refine cr_putF C I 1 (fs' := [.ref q1, .ref q2, .null, .int 0, .int 0]) rfl rfl inX (by decide) ln15 tyX9 tyX9_ok nmX9 rfl rfl (.array .int) rfl rfl rfl (Nat.le_of_ble_eq_true rfl) rfl dX9_init_17 ?_
  refine cr_aload_n C 0 dX9_init_20 rfl rfl ?_
  refine cr_bipush C (v := 8) dX9_init_21 (by decide) ?_
  refine cr_newa C 0 (by decide) 8 dX9_init_23 rfl arI (by decide) rfl (by decide) (by decide) (by decide) ?_
  intro q3
  refine cr_putF C I 2 (fs' := [.ref q1, .ref q2, .ref q3, .int 0, .int 0]) rfl rfl inX (by decide) ln18 tyX9 tyX9_ok nmX9 rfl rfl (.array .int) rfl rfl rfl (Nat.le_of_ble_eq_true rfl) rfl dX9_init_25 ?_
  exact E _ _ _ _ _ (by decide) (by decide) ⟨fun k => if k = 1000 then 0 else if k = 1001 then 0 else ([h0, q1, q2, q3] : List Nat).getD k 0, rfl, rfl, rfl, rfl⟩ dX9_init_28
set_option maxHeartbeats 1000000 in
theorem kPlan (l : Launch) (D : va_G) (cA : Nat → ClassId) (h0 : Nat) : gMN l D cA yX3_init wsX3_init ({ frames := 1, cells := 9, slots := 76, locals := 12 } : Room) [.ref h0] [(h0, .inr (3, [.null, .null, .null, .null, .null, .null, .null, .null, .null, .int 0, .int 0, .int 0, .int 0]))] (bW D cA shPn h0 0 0) := by
  have inX : ∀ v ∈ u_ws RX3 TX3 13, v ∈ wsX3_init := by decide +kernel
  have arI : Cond.arrayClass (newarray.typeOf .int) ∈ wsX3_init := by decide +kernel
  have ln9 : Cond.fieldLink RX3 9 (TX3 0).1 (TX3 0).2.1 (TX3 0).2.2.1 ∈ wsX3_init := by decide +kernel
  have ln15 : Cond.fieldLink RX3 15 (TX3 1).1 (TX3 1).2.1 (TX3 1).2.2.1 ∈ wsX3_init := by decide +kernel
  have ln18 : Cond.fieldLink RX3 18 (TX3 2).1 (TX3 2).2.1 (TX3 2).2.2.1 ∈ wsX3_init := by decide +kernel
  have ln21 : Cond.fieldLink RX3 21 (TX3 3).1 (TX3 3).2.1 (TX3 3).2.2.1 ∈ wsX3_init := by decide +kernel
  have ln24 : Cond.fieldLink RX3 24 (TX3 4).1 (TX3 4).2.1 (TX3 4).2.2.1 ∈ wsX3_init := by decide +kernel
  have ln27 : Cond.fieldLink RX3 27 (TX3 5).1 (TX3 5).2.1 (TX3 5).2.2.1 ∈ wsX3_init := by decide +kernel
  have ln30 : Cond.fieldLink RX3 30 (TX3 6).1 (TX3 6).2.1 (TX3 6).2.2.1 ∈ wsX3_init := by decide +kernel
  have ln33 : Cond.fieldLink RX3 33 (TX3 7).1 (TX3 7).2.1 (TX3 7).2.2.1 ∈ wsX3_init := by decide +kernel
  have ln36 : Cond.fieldLink RX3 36 (TX3 8).1 (TX3 8).2.1 (TX3 8).2.2.1 ∈ wsX3_init := by decide +kernel
  refine cStart cX3_init 1 RX3 rfl (by decide) rfl rfl (Nat.le_of_ble_eq_true rfl) ?_
  intro X hl C I E
  show cG X D [(h0, .inr (3, [.null, .null, .null, .null, .null, .null, .null, .null, .null, .int 0, .int 0, .int 0, .int 0]))] 0 0 0 [(0, .ref h0)] []
  refine cr_aload_n C 0 dX3_init_0 rfl rfl ?_
  refine cr_objInit C dX3_init_1 (by decide +kernel) (by decide +kernel) (by decide +kernel) (by decide) (by decide) ?_
  refine cr_aload_n C 0 dX3_init_4 rfl rfl ?_
  refine cr_bipush C (v := 8) dX3_init_5 (by decide) ?_
  refine cr_newa C 0 (by decide) 8 dX3_init_7 rfl arI (by decide) rfl (by decide) (by decide) (by decide) ?_
  intro q1
  refine cr_putF C I 0 (fs' := [.ref q1, .null, .null, .null, .null, .null, .null, .null, .null, .int 0, .int 0, .int 0, .int 0]) rfl rfl inX (by decide) ln9 tyX3 tyX3_ok nmX3 rfl rfl (.array .int) rfl rfl rfl (Nat.le_of_ble_eq_true rfl) rfl dX3_init_9 ?_
  refine cr_aload_n C 0 dX3_init_12 rfl rfl ?_
  refine cr_bipush C (v := 8) dX3_init_13 (by decide) ?_
  refine cr_newa C 0 (by decide) 8 dX3_init_15 rfl arI (by decide) rfl (by decide) (by decide) (by decide) ?_
  intro q2
  refine cr_putF C I 1 (fs' := [.ref q1, .ref q2, .null, .null, .null, .null, .null, .null, .null, .int 0, .int 0, .int 0, .int 0]) rfl rfl inX (by decide) ln15 tyX3 tyX3_ok nmX3 rfl rfl (.array .int) rfl rfl rfl (Nat.le_of_ble_eq_true rfl) rfl dX3_init_17 ?_
  refine cr_aload_n C 0 dX3_init_20 rfl rfl ?_
  refine cr_bipush C (v := 8) dX3_init_21 (by decide) ?_
  refine cr_newa C 0 (by decide) 8 dX3_init_23 rfl arI (by decide) rfl (by decide) (by decide) (by decide) ?_
  intro q3
  refine cr_putF C I 2 (fs' := [.ref q1, .ref q2, .ref q3, .null, .null, .null, .null, .null, .null, .int 0, .int 0, .int 0, .int 0]) rfl rfl inX (by decide) ln18 tyX3 tyX3_ok nmX3 rfl rfl (.array .int) rfl rfl rfl (Nat.le_of_ble_eq_true rfl) rfl dX3_init_25 ?_
  refine cr_aload_n C 0 dX3_init_28 rfl rfl ?_
  refine cr_bipush C (v := 8) dX3_init_29 (by decide) ?_
  refine cr_newa C 0 (by decide) 8 dX3_init_31 rfl arI (by decide) rfl (by decide) (by decide) (by decide) ?_
  intro q4
  refine cr_putF C I 3 (fs' := [.ref q1, .ref q2, .ref q3, .ref q4, .null, .null, .null, .null, .null, .int 0, .int 0, .int 0, .int 0]) rfl rfl inX (by decide) ln21 tyX3 tyX3_ok nmX3 rfl rfl (.array .int) rfl rfl rfl (Nat.le_of_ble_eq_true rfl) rfl dX3_init_33 ?_
  refine cr_aload_n C 0 dX3_init_36 rfl rfl ?_
  refine cr_bipush C (v := 8) dX3_init_37 (by decide) ?_
  refine cr_newa C 0 (by decide) 8 dX3_init_39 rfl arI (by decide) rfl (by decide) (by decide) (by decide) ?_
  intro q5
  refine cr_putF C I 4 (fs' := [.ref q1, .ref q2, .ref q3, .ref q4, .ref q5, .null, .null, .null, .null, .int 0, .int 0, .int 0, .int 0]) rfl rfl inX (by decide) ln24 tyX3 tyX3_ok nmX3 rfl rfl (.array .int) rfl rfl rfl (Nat.le_of_ble_eq_true rfl) rfl dX3_init_41 ?_
  refine cr_aload_n C 0 dX3_init_44 rfl rfl ?_
  refine cr_bipush C (v := 9) dX3_init_45 (by decide) ?_
  refine cr_newa C 0 (by decide) 9 dX3_init_47 rfl arI (by decide) rfl (by decide) (by decide) (by decide) ?_
  intro q6
  refine cr_putF C I 5 (fs' := [.ref q1, .ref q2, .ref q3, .ref q4, .ref q5, .ref q6, .null, .null, .null, .int 0, .int 0, .int 0, .int 0]) rfl rfl inX (by decide) ln27 tyX3 tyX3_ok nmX3 rfl rfl (.array .int) rfl rfl rfl (Nat.le_of_ble_eq_true rfl) rfl dX3_init_49 ?_
  refine cr_aload_n C 0 dX3_init_52 rfl rfl ?_
  refine cr_bipush C (v := 9) dX3_init_53 (by decide) ?_
  refine cr_newa C 0 (by decide) 9 dX3_init_55 rfl arI (by decide) rfl (by decide) (by decide) (by decide) ?_
  intro q7
  refine cr_putF C I 6 (fs' := [.ref q1, .ref q2, .ref q3, .ref q4, .ref q5, .ref q6, .ref q7, .null, .null, .int 0, .int 0, .int 0, .int 0]) rfl rfl inX (by decide) ln30 tyX3 tyX3_ok nmX3 rfl rfl (.array .int) rfl rfl rfl (Nat.le_of_ble_eq_true rfl) rfl dX3_init_57 ?_
  refine cr_aload_n C 0 dX3_init_60 rfl rfl ?_
  refine cr_bipush C (v := 8) dX3_init_61 (by decide) ?_
  refine cr_newa C 0 (by decide) 8 dX3_init_63 rfl arI (by decide) rfl (by decide) (by decide) (by decide) ?_
  intro q8
  refine cr_putF C I 7 (fs' := [.ref q1, .ref q2, .ref q3, .ref q4, .ref q5, .ref q6, .ref q7, .ref q8, .null, .int 0, .int 0, .int 0, .int 0]) rfl rfl inX (by decide) ln33 tyX3 tyX3_ok nmX3 rfl rfl (.array .int) rfl rfl rfl (Nat.le_of_ble_eq_true rfl) rfl dX3_init_65 ?_
  refine cr_aload_n C 0 dX3_init_68 rfl rfl ?_
  refine cr_bipush C (v := 10) dX3_init_69 (by decide) ?_
  refine cr_newa C 0 (by decide) 10 dX3_init_71 rfl arI (by decide) rfl (by decide) (by decide) (by decide) ?_
  intro q9
  refine cr_putF C I 8 (fs' := [.ref q1, .ref q2, .ref q3, .ref q4, .ref q5, .ref q6, .ref q7, .ref q8, .ref q9, .int 0, .int 0, .int 0, .int 0]) rfl rfl inX (by decide) ln36 tyX3 tyX3_ok nmX3 rfl rfl (.array .int) rfl rfl rfl (Nat.le_of_ble_eq_true rfl) rfl dX3_init_73 ?_
  exact E _ _ _ _ _ (by decide) (by decide) ⟨fun k => if k = 1000 then 0 else if k = 1001 then 0 else ([h0, q1, q2, q3, q4, q5, q6, q7, q8, q9] : List Nat).getD k 0, rfl, rfl, rfl, rfl⟩ dX3_init_76
set_option maxHeartbeats 1000000 in
theorem kReader (l : Launch) (D : va_G) (cA : Nat → ClassId) (h0 : Nat) : gMN l D cA yX4_init wsX4_init ({ frames := 1, cells := 2, slots := 205, locals := 12 } : Room) [.ref h0] [(h0, .inr (4, [.null, .null, .int 0]))] (bW D cA shRd h0 0 0) := by
  have inX : ∀ v ∈ u_ws RX4 TX4 3, v ∈ wsX4_init := by decide +kernel
  have arI : Cond.arrayClass (newarray.typeOf .int) ∈ wsX4_init := by decide +kernel
  have ln9 : Cond.fieldLink RX4 9 (TX4 0).1 (TX4 0).2.1 (TX4 0).2.2.1 ∈ wsX4_init := by decide +kernel
  have ln15 : Cond.fieldLink RX4 15 (TX4 1).1 (TX4 1).2.1 (TX4 1).2.2.1 ∈ wsX4_init := by decide +kernel
  refine cStart cX4_init 1 RX4 rfl (by decide) rfl rfl (Nat.le_of_ble_eq_true rfl) ?_
  intro X hl C I E
  show cG X D [(h0, .inr (4, [.null, .null, .int 0]))] 0 0 0 [(0, .ref h0)] []
  refine cr_aload_n C 0 dX4_init_0 rfl rfl ?_
  refine cr_objInit C dX4_init_1 (by decide +kernel) (by decide +kernel) (by decide +kernel) (by decide) (by decide) ?_
  refine cr_aload_n C 0 dX4_init_4 rfl rfl ?_
  refine cr_sipush C (v := 200) dX4_init_5 (by decide) ?_
  refine cr_newa C 0 (by decide) 200 dX4_init_8 rfl arI (by decide) rfl (by decide) (by decide) (by decide) ?_
  intro q1
  refine cr_putF C I 0 (fs' := [.ref q1, .null, .int 0]) rfl rfl inX (by decide) ln9 tyX4 tyX4_ok nmX4 rfl rfl (.array .int) rfl rfl rfl (Nat.le_of_ble_eq_true rfl) rfl dX4_init_10 ?_
  refine cr_aload_n C 0 dX4_init_13 rfl rfl ?_
  refine cr_iconst C (v := 5) dX4_init_14 (by decide) ?_
  refine cr_newa C 0 (by decide) 5 dX4_init_15 rfl arI (by decide) rfl (by decide) (by decide) (by decide) ?_
  intro q2
  refine cr_putF C I 1 (fs' := [.ref q1, .ref q2, .int 0]) rfl rfl inX (by decide) ln15 tyX4 tyX4_ok nmX4 rfl rfl (.array .int) rfl rfl rfl (Nat.le_of_ble_eq_true rfl) rfl dX4_init_17 ?_
  exact E _ _ _ _ _ (by decide) (by decide) ⟨fun k => if k = 1000 then 0 else if k = 1001 then 0 else ([h0, q1, q2] : List Nat).getD k 0, rfl, rfl, rfl, rfl⟩ dX4_init_20
set_option maxHeartbeats 1000000 in
theorem kSeen (l : Launch) (D : va_G) (cA : Nat → ClassId) (h0 : Nat) : gMN l D cA yX5_init wsX5_init ({ frames := 1, cells := 2, slots := 12, locals := 12 } : Room) [.ref h0] [(h0, .inr (5, [.null, .null, .int 0]))] (bW D cA shSn h0 0 0) := by
  have inX : ∀ v ∈ u_ws RX5 TX5 3, v ∈ wsX5_init := by decide +kernel
  have arI : Cond.arrayClass (newarray.typeOf .int) ∈ wsX5_init := by decide +kernel
  have ln9 : Cond.fieldLink RX5 9 (TX5 0).1 (TX5 0).2.1 (TX5 0).2.2.1 ∈ wsX5_init := by decide +kernel
  have ln15 : Cond.fieldLink RX5 15 (TX5 1).1 (TX5 1).2.1 (TX5 1).2.2.1 ∈ wsX5_init := by decide +kernel
  refine cStart cX5_init 1 RX5 rfl (by decide) rfl rfl (Nat.le_of_ble_eq_true rfl) ?_
  intro X hl C I E
  show cG X D [(h0, .inr (5, [.null, .null, .int 0]))] 0 0 0 [(0, .ref h0)] []
  refine cr_aload_n C 0 dX5_init_0 rfl rfl ?_
  refine cr_objInit C dX5_init_1 (by decide +kernel) (by decide +kernel) (by decide +kernel) (by decide) (by decide) ?_
  refine cr_aload_n C 0 dX5_init_4 rfl rfl ?_
  refine cr_bipush C (v := 6) dX5_init_5 (by decide) ?_
  refine cr_newa C 0 (by decide) 6 dX5_init_7 rfl arI (by decide) rfl (by decide) (by decide) (by decide) ?_
  intro q1
  refine cr_putF C I 0 (fs' := [.ref q1, .null, .int 0]) rfl rfl inX (by decide) ln9 tyX5 tyX5_ok nmX5 rfl rfl (.array .int) rfl rfl rfl (Nat.le_of_ble_eq_true rfl) rfl dX5_init_9 ?_
  refine cr_aload_n C 0 dX5_init_12 rfl rfl ?_
  refine cr_bipush C (v := 6) dX5_init_13 (by decide) ?_
  refine cr_newa C 0 (by decide) 6 dX5_init_15 rfl arI (by decide) rfl (by decide) (by decide) (by decide) ?_
  intro q2
  refine cr_putF C I 1 (fs' := [.ref q1, .ref q2, .int 0]) rfl rfl inX (by decide) ln15 tyX5 tyX5_ok nmX5 rfl rfl (.array .int) rfl rfl rfl (Nat.le_of_ble_eq_true rfl) rfl dX5_init_17 ?_
  exact E _ _ _ _ _ (by decide) (by decide) ⟨fun k => if k = 1000 then 0 else if k = 1001 then 0 else ([h0, q1, q2] : List Nat).getD k 0, rfl, rfl, rfl, rfl⟩ dX5_init_20
set_option maxHeartbeats 1000000 in
theorem kCart (l : Launch) (D : va_G) (cA : Nat → ClassId) (h0 : Nat) : gMN l D cA yX0_init wsX0_init ({ frames := 1, cells := 2, slots := 1024, locals := 12 } : Room) [.ref h0] [(h0, .inr (0, [.null, .null]))] (bW D cA shCr h0 0 0) := by
  have inX : ∀ v ∈ u_ws RX0 TX0 2, v ∈ wsX0_init := by decide +kernel
  have arI : Cond.arrayClass (newarray.typeOf .int) ∈ wsX0_init := by decide +kernel
  have ln9 : Cond.fieldLink RX0 9 (TX0 0).1 (TX0 0).2.1 (TX0 0).2.2.1 ∈ wsX0_init := by decide +kernel
  have ln15 : Cond.fieldLink RX0 15 (TX0 1).1 (TX0 1).2.1 (TX0 1).2.2.1 ∈ wsX0_init := by decide +kernel
  refine cStart cX0_init 1 RX0 rfl (by decide) rfl rfl (Nat.le_of_ble_eq_true rfl) ?_
  intro X hl C I E
  show cG X D [(h0, .inr (0, [.null, .null]))] 0 0 0 [(0, .ref h0)] []
  refine cr_aload_n C 0 dX0_init_0 rfl rfl ?_
  refine cr_objInit C dX0_init_1 (by decide +kernel) (by decide +kernel) (by decide +kernel) (by decide) (by decide) ?_
  refine cr_aload_n C 0 dX0_init_4 rfl rfl ?_
  refine cr_sipush C (v := 512) dX0_init_5 (by decide) ?_
  refine cr_newa C 0 (by decide) 512 dX0_init_8 rfl arI (by decide) rfl (by decide) (by decide) (by decide) ?_
  intro q1
  refine cr_putF C I 0 (fs' := [.ref q1, .null]) rfl rfl inX (by decide) ln9 tyX0 tyX0_ok nmX0 rfl rfl (.array .int) rfl rfl rfl (Nat.le_of_ble_eq_true rfl) rfl dX0_init_10 ?_
  refine cr_aload_n C 0 dX0_init_13 rfl rfl ?_
  refine cr_sipush C (v := 512) dX0_init_14 (by decide) ?_
  refine cr_newa C 0 (by decide) 512 dX0_init_17 rfl arI (by decide) rfl (by decide) (by decide) (by decide) ?_
  intro q2
  refine cr_putF C I 1 (fs' := [.ref q1, .ref q2]) rfl rfl inX (by decide) ln15 tyX0 tyX0_ok nmX0 rfl rfl (.array .int) rfl rfl rfl (Nat.le_of_ble_eq_true rfl) rfl dX0_init_19 ?_
  exact E _ _ _ _ _ (by decide) (by decide) ⟨fun k => if k = 1000 then 0 else if k = 1001 then 0 else ([h0, q1, q2] : List Nat).getD k 0, rfl, rfl, rfl, rfl⟩ dX0_init_22
set_option maxHeartbeats 1000000 in
theorem kDay (l : Launch) (D : va_G) (cA : Nat → ClassId) (h0 pl : Nat) : gMN l D cA yX2_init wsX2_init ({ frames := 1, cells := 1, slots := 8, locals := 12 } : Room) [.ref h0, .ref pl] [(h0, .inr (2, [.null, .null]))] (bW D cA shDy h0 pl 0) := by
  have inX : ∀ v ∈ u_ws RX2 TX2 2, v ∈ wsX2_init := by decide +kernel
  have arI : Cond.arrayClass (newarray.typeOf .int) ∈ wsX2_init := by decide +kernel
  have ln9 : Cond.fieldLink RX2 9 (TX2 1).1 (TX2 1).2.1 (TX2 1).2.2.1 ∈ wsX2_init := by decide +kernel
  have ln15 : Cond.fieldLink RX2 15 (TX2 0).1 (TX2 0).2.1 (TX2 0).2.2.1 ∈ wsX2_init := by decide +kernel
  refine cStart cX2_init 2 RX2 rfl (by decide) rfl rfl (Nat.le_of_ble_eq_true rfl) ?_
  intro X hl C I E
  show cG X D [(h0, .inr (2, [.null, .null]))] 0 0 0 [(0, .ref h0), (1, .ref pl)] []
  refine cr_aload_n C 0 dX2_init_0 rfl rfl ?_
  refine cr_objInit C dX2_init_1 (by decide +kernel) (by decide +kernel) (by decide +kernel) (by decide) (by decide) ?_
  refine cr_aload_n C 0 dX2_init_4 rfl rfl ?_
  refine cr_bipush C (v := 8) dX2_init_5 (by decide) ?_
  refine cr_newa C 0 (by decide) 8 dX2_init_7 rfl arI (by decide) rfl (by decide) (by decide) (by decide) ?_
  intro q1
  refine cr_putF C I 1 (fs' := [.null, .ref q1]) rfl rfl inX (by decide) ln9 tyX2 tyX2_ok nmX2 rfl rfl (.array .int) rfl rfl rfl (Nat.le_of_ble_eq_true rfl) rfl dX2_init_9 ?_
  refine cr_aload_n C 0 dX2_init_12 rfl rfl ?_
  refine cr_aload_n C 1 dX2_init_13 rfl rfl ?_
  refine cr_putF C I 0 (fs' := [.ref pl, .ref q1]) rfl rfl inX (by decide) ln15 tyX2 tyX2_ok nmX2 rfl rfl (.object "YoungerMilk$Plan") rfl rfl rfl (Nat.le_of_ble_eq_true rfl) rfl dX2_init_14 ?_
  exact E _ _ _ _ _ (by decide) (by decide) ⟨fun k => if k = 1000 then pl else if k = 1001 then 0 else ([h0, q1] : List Nat).getD k 0, rfl, rfl, rfl, rfl⟩ dX2_init_17
