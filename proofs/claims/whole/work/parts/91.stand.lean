/-! ===== constructors with standings ===== -/
set_option maxHeartbeats 1000000 in
theorem kComes (l : Launch) (D : va_G) (cA : Nat → ClassId) (h0 pl dy : Nat) : gMN l D cA yX1_init wsX1_init ({ frames := 2, cells := 4, slots := 31, locals := 32 } : Room) [.ref h0, .ref pl, .ref dy] [(h0, .inr (1, [.null, .null, .null]))] (bW D cA shCm h0 pl dy) := by
  have inX : ∀ v ∈ u_ws RX1 TX1 3, v ∈ wsX1_init := by decide +kernel
  have inX9 : ∀ v ∈ u_ws RX9 TX9 5, v ∈ wsX1_init := by decide +kernel
  have ln12 : Cond.fieldLink RX1 12 (TX1 2).1 (TX1 2).2.1 (TX1 2).2.2.1 ∈ wsX1_init := by decide +kernel
  have ln18 : Cond.fieldLink RX1 18 (TX1 0).1 (TX1 0).2.1 (TX1 0).2.2.1 ∈ wsX1_init := by decide +kernel
  have ln22 : Cond.fieldLink RX1 22 (TX1 1).1 (TX1 1).2.1 (TX1 1).2.2.1 ∈ wsX1_init := by decide +kernel
  refine cStart cX1_init 3 RX1 rfl (by decide) rfl rfl (Nat.le_of_ble_eq_true rfl) ?_
  intro X hl C I E
  show cG X D [(h0, .inr (1, [.null, .null, .null]))] 0 0 0 [(0, .ref h0), (1, .ref pl), (2, .ref dy)] []
  refine cr_aload_n C 0 dX1_init_0 rfl rfl ?_
  refine cr_objInit C dX1_init_1 (by decide +kernel) (by decide +kernel) (by decide +kernel) (by decide) (by decide) ?_
  refine cr_aload_n C 0 dX1_init_4 rfl rfl ?_
  refine cr_new C 9 5 [.null, .null, .null, .int 0, .int 0] rfl inX9 tyX9 tyX9_ok (by decide +kernel) (by decide +kernel) (by decide +kernel) (fun j hj => by rcases (show j = 0 ∨ j = 1 ∨ j = 2 ∨ j = 3 ∨ j = 4 by omega) with rfl | rfl | rfl | rfl | rfl <;> rfl) (by decide) (by decide) dX1_init_5 ?_
  intro s
  refine cr_dup C dX1_init_8 rfl ?_
  refine cr_initN C (host := "YoungerMilk") (As := []) (rest := [.ref s, .ref h0]) (kStanding X.2.1 D cA s) gX1_init_X9_init_n11 rfl (by decide) rfl (Nat.le_of_ble_eq_true rfl) rfl rfl (by decide +kernel) (by decide +kernel) (by decide +kernel) (by decide) dX1_init_9 (by decide +kernel) ?_
  intro u hu
  obtain ⟨ad, a0, -, -, rfl⟩ := hu
  subst a0
  refine cr_putF C I 2 (fs' := [.null, .null, .ref (ad 0)]) rfl rfl inX (by decide) ln12 tyX1 tyX1_ok nmX1 rfl rfl (.object "YoungerMilk$Standing") rfl rfl rfl (Nat.le_of_ble_eq_true rfl) rfl dX1_init_12 ?_
  refine cr_aload_n C 0 dX1_init_15 rfl rfl ?_
  refine cr_aload_n C 1 dX1_init_16 rfl rfl ?_
  refine cr_putF C I 0 (fs' := [.ref pl, .null, .ref (ad 0)]) rfl rfl inX (by decide) ln18 tyX1 tyX1_ok nmX1 rfl rfl (.object "YoungerMilk$Plan") rfl rfl rfl (Nat.le_of_ble_eq_true rfl) rfl dX1_init_17 ?_
  refine cr_aload_n C 0 dX1_init_20 rfl rfl ?_
  refine cr_aload_n C 2 dX1_init_21 rfl rfl ?_
  refine cr_putF C I 1 (fs' := [.ref pl, .ref dy, .ref (ad 0)]) rfl rfl inX (by decide) ln22 tyX1 tyX1_ok nmX1 rfl rfl (.object "YoungerMilk$Day") rfl rfl rfl (Nat.le_of_ble_eq_true rfl) rfl dX1_init_22 ?_
  exact E _ _ _ _ _ (by decide) (by decide) ⟨fun k => if k = 1000 then pl else if k = 1001 then dy else if k = 0 then h0 else ad (k - 1), rfl, rfl, rfl, rfl⟩ dX1_init_25
set_option maxHeartbeats 1000000 in
theorem lpShelf {X : CX} {D : va_G} {cA : Nat → ClassId} {nL MC MS N : Nat} (C : cC X D cA cX7_init RX7 wsX7_init nL 2 32 MC MS) (hnL : 2 < nL) {h0 q : Nat} (hN : N ≤ 9) (hMC : 1 + 4 * N ≤ MC) (hMS : N + 31 * N ≤ MS) (K : ∀ r : Nat → Nat, cG X D ((h0, .inr (7, [.ref q, .int 0, .int 0])) :: stArr cA N q (stF r N) :: (([] : va_W) ++ stT cA r N)) (1 + 4 * N) (N + 31 * N) 38 [(2, .int (nI N)), (0, .ref h0), (1, .int (nI N))] []) : ∀ (d i : Nat) (r : Nat → Nat), i + d = N →
    cG X D ((h0, .inr (7, [.ref q, .int 0, .int 0])) :: stArr cA N q (stF r i) :: (([] : va_W) ++ stT cA r i)) (1 + 4 * i) (N + 31 * i) 14 [(2, .int (nI i)), (0, .ref h0), (1, .int (nI N))] [] := by
  have inX : ∀ v ∈ u_ws RX7 TX7 3, v ∈ wsX7_init := by decide +kernel
  have inX9 : ∀ v ∈ u_ws RX9 TX9 5, v ∈ wsX7_init := by decide +kernel
  have ln : Cond.fieldLink RX7 9 (TX7 0).1 (TX7 0).2.1 (TX7 0).2.2.1 ∈ wsX7_init := by decide +kernel
  intro d
  induction d with
  | zero =>
    intro i r hi
    have e : i = N := by omega
    subst e
    refine cr_iload_n C 0 dX7_init_14 rfl rfl ?_
    refine cr_iload_n C 2 dX7_init_15 rfl rfl ?_
    refine cr_icmp_ge C 38 dX7_init_16 (by decide) (fun _ => K r) (fun h => absurd (nI_le (Nat.le_refl _) (by omega)) h)
  | succ d ih =>
    intro i r hi
    have ih := fun r' => ih (i + 1) r' (by omega)
    refine cr_iload_n C 0 dX7_init_14 rfl rfl ?_
    refine cr_iload_n C 2 dX7_init_15 rfl rfl ?_
    refine cr_icmp_ge C 38 dX7_init_16 (by decide) (fun h => absurd h (by rw [nI_leN (by omega) (by omega)]; omega)) (fun _ => ?_)
    refine cr_aload_n C 1 dX7_init_19 rfl rfl ?_
    refine cr_get C 0 0 (v := .ref q) rfl rfl inX (by decide) ln rfl dX7_init_20 ?_
    refine cr_iload_n C 0 dX7_init_23 rfl rfl ?_
    refine cr_new C 9 5 [.null, .null, .null, .int 0, .int 0] rfl inX9 tyX9 tyX9_ok (by decide +kernel) (by decide +kernel) (by decide +kernel) (fun j hj => by rcases (show j = 0 ∨ j = 1 ∨ j = 2 ∨ j = 3 ∨ j = 4 by omega) with rfl | rfl | rfl | rfl | rfl <;> rfl) (by omega) (by omega) dX7_init_24 ?_
    intro s
    refine cr_dup C dX7_init_27 rfl ?_
    refine cr_initN C (host := "YoungerMilk") (As := []) (rest := [.ref s, .int (nI i), .ref q]) (kStanding X.2.1 D cA s) gX7_init_X9_init_n15 rfl (by decide) rfl (Nat.le_of_ble_eq_true rfl) rfl rfl (by decide +kernel) (by decide +kernel) (by decide +kernel) ⟨by show 1 + 4 * i + 1 + 3 ≤ MC; omega, by show N + 31 * i + 5 + 26 ≤ MS; omega⟩ dX7_init_28 (by decide +kernel) ?_
    intro u hu
    obtain ⟨ad, a0, -, -, rfl⟩ := hu
    subst a0
    refine cr_astS C 1 (2 + (0 + 4 * i)) (a := q) (N := N) (f := stF r i) (vs := [.ref (ad 1), .ref (ad 2), .ref (ad 3), .int 0, .int 0]) dX7_init_31 rfl ?_ (gIn_n (by omega) (by omega)) ?_
    · have e : ∀ (a b : Nat × va_E) (T : va_W), (a :: b :: T ++ gL cA ad z0 0 shSg)[2 + T.length]? = (gL cA ad z0 0 shSg)[0]? := fun a b T => by
        show (a :: b :: (T ++ gL cA ad z0 0 shSg))[2 + T.length]? = _
        rw [show 2 + T.length = T.length + 1 + 1 by omega, List.getElem?_cons_succ, List.getElem?_cons_succ, List.getElem?_append_right (by omega), Nat.sub_self]
      have hl : (([] : va_W) ++ stT cA r i : va_W).length = 0 + 4 * i := by rw [List.length_append, stT_len]; rfl
      rw [← hl]
      exact (e _ _ _).trans rfl
    · refine cr_iinc C (v := nI (i + 1)) 0 [(2, .int (nI (i + 1))), (0, .ref h0), (1, .int (nI N))] dX7_init_32 rfl (nI_1 i) hnL rfl ?_
      refine cr_goto C 14 dX7_init_35 (by decide) ?_
      have k2 := ih (stR r ad i)
      rw [← stT_s, ← stF_s, ← List.append_assoc] at k2
      rw [nI_cl (by omega)]
      exact k2
set_option maxHeartbeats 1000000 in
theorem lpSnowing {X : CX} {D : va_G} {cA : Nat → ClassId} {nL MC MS N : Nat} (C : cC X D cA cX8_init RX8 wsX8_init nL 2 32 MC MS) (hnL : 3 < nL) {h0 q pl dy v : Nat} (hN : N ≤ 9) (h9 : N = 9) (hMC : 2 + 4 * N ≤ MC) (hMS : 18 + 31 * N ≤ MS) (K : ∀ r : Nat → Nat, cG X D ((h0, .inr (8, [.ref pl, .ref dy, .ref q, .ref v])) :: stArr cA N q (stF r N) :: ([(v, .inl (cA 0, 9, .inl (fun _ => 0)))] ++ stT cA r N)) (2 + 4 * N) (18 + 31 * N) 58 [(3, .int (nI N)), (0, .ref h0), (1, .ref pl), (2, .ref dy)] []) : ∀ (d i : Nat) (r : Nat → Nat), i + d = N →
    cG X D ((h0, .inr (8, [.ref pl, .ref dy, .ref q, .ref v])) :: stArr cA N q (stF r i) :: ([(v, .inl (cA 0, 9, .inl (fun _ => 0)))] ++ stT cA r i)) (2 + 4 * i) (18 + 31 * i) 33 [(3, .int (nI i)), (0, .ref h0), (1, .ref pl), (2, .ref dy)] [] := by
  have inX : ∀ v ∈ u_ws RX8 TX8 4, v ∈ wsX8_init := by decide +kernel
  have inX9 : ∀ v ∈ u_ws RX9 TX9 5, v ∈ wsX8_init := by decide +kernel
  have ln : Cond.fieldLink RX8 11 (TX8 2).1 (TX8 2).2.1 (TX8 2).2.2.1 ∈ wsX8_init := by decide +kernel
  intro d
  induction d with
  | zero =>
    intro i r hi
    have e : i = N := by omega
    subst e
    refine cr_iload_n C 0 dX8_init_33 rfl rfl ?_
    refine cr_bipush C (v := nI 8) dX8_init_34 rfl ?_
    refine cr_icmp_gt C 58 dX8_init_36 (by decide) (fun _ => K r) (fun h => absurd (show nI 8 < nI i by rw [nI_ltN (by omega) (by omega)]; omega) h)
  | succ d ih =>
    intro i r hi
    have ih := fun r' => ih (i + 1) r' (by omega)
    refine cr_iload_n C 0 dX8_init_33 rfl rfl ?_
    refine cr_bipush C (v := nI 8) dX8_init_34 rfl ?_
    refine cr_icmp_gt C 58 dX8_init_36 (by decide) (fun h => absurd h (show ¬ nI 8 < nI i by rw [nI_ltN (by omega) (by omega)]; omega)) (fun _ => ?_)
    refine cr_aload_n C 1 dX8_init_39 rfl rfl ?_
    refine cr_get C 2 0 (v := .ref q) rfl rfl inX (by decide) ln rfl dX8_init_40 ?_
    refine cr_iload_n C 0 dX8_init_43 rfl rfl ?_
    refine cr_new C 9 5 [.null, .null, .null, .int 0, .int 0] rfl inX9 tyX9 tyX9_ok (by decide +kernel) (by decide +kernel) (by decide +kernel) (fun j hj => by rcases (show j = 0 ∨ j = 1 ∨ j = 2 ∨ j = 3 ∨ j = 4 by omega) with rfl | rfl | rfl | rfl | rfl <;> rfl) (by omega) (by omega) dX8_init_44 ?_
    intro s
    refine cr_dup C dX8_init_47 rfl ?_
    refine cr_initN C (host := "YoungerMilk") (As := []) (rest := [.ref s, .int (nI i), .ref q]) (kStanding X.2.1 D cA s) gX8_init_X9_init_n29 rfl (by decide) rfl (Nat.le_of_ble_eq_true rfl) rfl rfl (by decide +kernel) (by decide +kernel) (by decide +kernel) ⟨by show 2 + 4 * i + 1 + 3 ≤ MC; omega, by show 18 + 31 * i + 5 + 26 ≤ MS; omega⟩ dX8_init_48 (by decide +kernel) ?_
    intro u hu
    obtain ⟨ad, a0, -, -, rfl⟩ := hu
    subst a0
    refine cr_astS C 1 (2 + (1 + 4 * i)) (a := q) (N := N) (f := stF r i) (vs := [.ref (ad 1), .ref (ad 2), .ref (ad 3), .int 0, .int 0]) dX8_init_51 rfl ?_ (gIn_n (by omega) (by omega)) ?_
    · have e : ∀ (a b : Nat × va_E) (T : va_W), (a :: b :: T ++ gL cA ad z0 0 shSg)[2 + T.length]? = (gL cA ad z0 0 shSg)[0]? := fun a b T => by
        show (a :: b :: (T ++ gL cA ad z0 0 shSg))[2 + T.length]? = _
        rw [show 2 + T.length = T.length + 1 + 1 by omega, List.getElem?_cons_succ, List.getElem?_cons_succ, List.getElem?_append_right (by omega), Nat.sub_self]
      have hl : ([(v, .inl (cA 0, 9, .inl (fun _ => 0)))] ++ stT cA r i : va_W).length = 1 + 4 * i := by rw [List.length_append, stT_len]; rfl
      rw [← hl]
      exact (e _ _ _).trans rfl
    · refine cr_iinc C (v := nI (i + 1)) 0 [(3, .int (nI (i + 1))), (0, .ref h0), (1, .ref pl), (2, .ref dy)] dX8_init_52 rfl (nI_1 i) hnL rfl ?_
      refine cr_goto C 33 dX8_init_55 (by decide) ?_
      have k2 := ih (stR r ad i)
      rw [← stT_s, ← stF_s, ← List.append_assoc] at k2
      rw [nI_cl (by omega)]
      exact k2
/-- a shelf of so many -/
def shSf (N : Nat) : List Sh := .inr (.inl (7, [some 1, none, none])) :: .inr (.inr (2, N, 2, 4)) :: shT N 2
set_option maxHeartbeats 1000000 in
theorem kShelf (l : Launch) (D : va_G) (cA : Nat → ClassId) (h0 N : Nat) (hN : N ≤ 9) : gMN l D cA yX7_init wsX7_init ({ frames := 2, cells := 1 + 4 * N, slots := N + 31 * N, locals := 32 } : Room) [.ref h0, .int (nI N)] [(h0, .inr (7, [.null, .int 0, .int 0]))] (bW D cA (shSf N) h0 0 0) := by
  have inX : ∀ v ∈ u_ws RX7 TX7 3, v ∈ wsX7_init := by decide +kernel
  have ln9 : Cond.fieldLink RX7 9 (TX7 0).1 (TX7 0).2.1 (TX7 0).2.2.1 ∈ wsX7_init := by decide +kernel
  refine cStart cX7_init 3 RX7 rfl (by decide) rfl rfl (Nat.le_of_ble_eq_true rfl) ?_
  intro X hl C I E
  show cG X D [(h0, .inr (7, [.null, .int 0, .int 0]))] 0 0 0 [(0, .ref h0), (1, .int (nI N))] []
  refine cr_aload_n C 0 dX7_init_0 rfl rfl ?_
  refine cr_objInit C dX7_init_1 (by decide +kernel) (by decide +kernel) (by decide +kernel) (Nat.le_of_ble_eq_true rfl) (Nat.le_of_ble_eq_true rfl) ?_
  refine cr_aload_n C 0 dX7_init_4 rfl rfl ?_
  refine cr_iload_n C 1 dX7_init_5 rfl rfl ?_
  refine cr_newS C N dX7_init_6 (by decide +kernel) (nI_pos (by omega)) (nI_cl (by omega)) (by omega) (by show 0 + 1 ≤ 1 + 4 * N; omega) (by show 0 + N ≤ N + 31 * N; omega) ?_
  intro q
  refine cr_putF C I 0 (fs' := [.ref q, .int 0, .int 0]) rfl rfl inX (by decide) ln9 tyX7 tyX7_ok nmX7 rfl rfl (.array (.object "YoungerMilk$Standing")) rfl rfl rfl (Nat.le_of_ble_eq_true rfl) rfl dX7_init_9 ?_
  refine cr_iconst C (v := nI 0) dX7_init_12 rfl ?_
  refine cr_istore_n C [(2, .int (nI 0)), (0, .ref h0), (1, .int (nI N))] dX7_init_13 rfl (by decide) rfl ?_
  have lp := lpShelf C (by decide) (h0 := h0) (q := q) (N := N) hN (Nat.le_refl _) (Nat.le_refl _) (fun r => ?_) N 0 (fun _ => 0) (by omega)
  · have e1 : stF (fun _ => 0) 0 = fun _ => none := by
      funext j
      unfold stF
      rw [if_neg (by omega)]
    rw [e1] at lp
    have e2 : 0 + 1 = 1 + 4 * 0 := rfl
    have e3 : 0 + N = N + 31 * 0 := by omega
    rw [e2, e3]
    exact lp
  · refine cr_eqW (ws' := gL cA (fun k => if k = 1000 then 0 else if k = 1001 then 0 else if k = 0 then h0 else if k = 1 then q else r (k - 2)) z0 0 (shSf N)) ⟨rfl, eqE_rf, rfl, ?_, ?_⟩ ?_
    · refine Or.inr ⟨_, _, _, _, rfl, rfl, fun i hi => ?_⟩
      unfold stF
      rw [if_pos hi]
      show some (r (4 * i)) = some (if 2 + 4 * i = 1000 then 0 else if 2 + 4 * i = 1001 then 0 else if 2 + 4 * i = 0 then h0 else if 2 + 4 * i = 1 then q else r (2 + 4 * i - 2))
      rw [if_neg (by omega), if_neg (by omega), if_neg (by omega), if_neg (by omega), show 2 + 4 * i - 2 = 4 * i by omega]
    · rw [List.nil_append]
      have e : stT cA r N = gL cA (fun k => if k = 1000 then 0 else if k = 1001 then 0 else if k = 0 then h0 else if k = 1 then q else r (k - 2)) z0 2 (shT N 2) := by
        refine stT_L (fun k hk => ?_)
        show (if 2 + k = 1000 then 0 else if 2 + k = 1001 then 0 else if 2 + k = 0 then h0 else if 2 + k = 1 then q else r (2 + k - 2)) = r k
        rw [if_neg (by omega), if_neg (by omega), if_neg (by omega), if_neg (by omega), show 2 + k - 2 = k by omega]
      rw [e]
      exact eqW_rf
    · exact E _ _ _ _ _ (Nat.le_refl _) (Nat.le_refl _) ⟨_, rfl, rfl, rfl, rfl⟩ dX7_init_38
/-- the days on which it may snow; their plan and day 1000, 1001 -/
def shSw : List Sh := .inr (.inl (8, [some 1000, some 1001, some 1, some 38])) :: .inr (.inr (2, 9, 2, 4)) :: (shT 9 2 ++ [.inl (0, 9)])
set_option maxHeartbeats 1000000 in
theorem kSnowing (l : Launch) (D : va_G) (cA : Nat → ClassId) (h0 pl dy : Nat) : gMN l D cA yX8_init wsX8_init ({ frames := 2, cells := 38, slots := 297, locals := 32 } : Room) [.ref h0, .ref pl, .ref dy] [(h0, .inr (8, [.null, .null, .null, .null]))] (bW D cA shSw h0 pl dy) := by
  have inX : ∀ v ∈ u_ws RX8 TX8 4, v ∈ wsX8_init := by decide +kernel
  have arI : Cond.arrayClass (newarray.typeOf .int) ∈ wsX8_init := by decide +kernel
  have ln11 : Cond.fieldLink RX8 11 (TX8 2).1 (TX8 2).2.1 (TX8 2).2.2.1 ∈ wsX8_init := by decide +kernel
  have ln17 : Cond.fieldLink RX8 17 (TX8 3).1 (TX8 3).2.1 (TX8 3).2.2.1 ∈ wsX8_init := by decide +kernel
  have ln21 : Cond.fieldLink RX8 21 (TX8 0).1 (TX8 0).2.1 (TX8 0).2.2.1 ∈ wsX8_init := by decide +kernel
  have ln25 : Cond.fieldLink RX8 25 (TX8 1).1 (TX8 1).2.1 (TX8 1).2.2.1 ∈ wsX8_init := by decide +kernel
  refine cStart cX8_init 4 RX8 rfl (by decide) rfl rfl (Nat.le_of_ble_eq_true rfl) ?_
  intro X hl C I E
  show cG X D [(h0, .inr (8, [.null, .null, .null, .null]))] 0 0 0 [(0, .ref h0), (1, .ref pl), (2, .ref dy)] []
  refine cr_aload_n C 0 dX8_init_0 rfl rfl ?_
  refine cr_objInit C dX8_init_1 (by decide +kernel) (by decide +kernel) (by decide +kernel) (by decide) (by decide) ?_
  refine cr_aload_n C 0 dX8_init_4 rfl rfl ?_
  refine cr_bipush C (v := 9) dX8_init_5 (by decide) ?_
  refine cr_newS C 9 dX8_init_7 (by decide +kernel) (by decide) rfl (by decide) (by decide) (by decide) ?_
  intro q
  refine cr_putF C I 2 (fs' := [.null, .null, .ref q, .null]) rfl rfl inX (by decide) ln11 tyX8 tyX8_ok nmX8 rfl rfl (.array (.object "YoungerMilk$Standing")) rfl rfl rfl (Nat.le_of_ble_eq_true rfl) rfl dX8_init_10 ?_
  refine cr_aload_n C 0 dX8_init_13 rfl rfl ?_
  refine cr_bipush C (v := 9) dX8_init_14 (by decide) ?_
  refine cr_newa C 0 (by decide) 9 dX8_init_16 rfl arI (by decide) rfl (by decide) (by decide) (by decide) ?_
  intro v
  refine cr_putF C I 3 (fs' := [.null, .null, .ref q, .ref v]) rfl rfl inX (by decide) ln17 tyX8 tyX8_ok nmX8 rfl rfl (.array .int) rfl rfl rfl (Nat.le_of_ble_eq_true rfl) rfl dX8_init_18 ?_
  refine cr_aload_n C 0 dX8_init_21 rfl rfl ?_
  refine cr_aload_n C 1 dX8_init_22 rfl rfl ?_
  refine cr_putF C I 0 (fs' := [.ref pl, .null, .ref q, .ref v]) rfl rfl inX (by decide) ln21 tyX8 tyX8_ok nmX8 rfl rfl (.object "YoungerMilk$Plan") rfl rfl rfl (Nat.le_of_ble_eq_true rfl) rfl dX8_init_23 ?_
  refine cr_aload_n C 0 dX8_init_26 rfl rfl ?_
  refine cr_aload_n C 2 dX8_init_27 rfl rfl ?_
  refine cr_putF C I 1 (fs' := [.ref pl, .ref dy, .ref q, .ref v]) rfl rfl inX (by decide) ln25 tyX8 tyX8_ok nmX8 rfl rfl (.object "YoungerMilk$Day") rfl rfl rfl (Nat.le_of_ble_eq_true rfl) rfl dX8_init_28 ?_
  refine cr_iconst C (v := nI 0) dX8_init_31 rfl ?_
  refine cr_istore_n C [(3, .int (nI 0)), (0, .ref h0), (1, .ref pl), (2, .ref dy)] dX8_init_32 rfl (by decide) rfl ?_
  have lp := lpSnowing C (by decide) (h0 := h0) (q := q) (pl := pl) (dy := dy) (v := v) (N := 9) (by decide) rfl (by decide) (by decide) (fun r => ?_) 9 0 (fun _ => 0) (by decide)
  · have e1 : stF (fun _ => 0) 0 = fun _ => none := by
      funext j
      unfold stF
      rw [if_neg (by omega)]
    rw [e1] at lp
    exact lp
  · have e9 : ∀ k, k < 36 → (fun k => if k = 1000 then pl else if k = 1001 then dy else if k = 0 then h0 else if k = 1 then q else if k = 38 then v else r (k - 2)) (2 + k) = r k := fun k hk => by
      show (if 2 + k = 1000 then pl else if 2 + k = 1001 then dy else if 2 + k = 0 then h0 else if 2 + k = 1 then q else if 2 + k = 38 then v else r (2 + k - 2)) = r k
      rw [if_neg (by omega), if_neg (by omega), if_neg (by omega), if_neg (by omega), if_neg (by omega), show 2 + k - 2 = k by omega]
    refine cr_swap (a := [(h0, .inr (8, [.ref pl, .ref dy, .ref q, .ref v])), stArr cA 9 q (stF r 9)]) (b := [(v, .inl (cA 0, 9, .inl (fun _ => 0)))]) (c := stT cA r 9) ?_
    refine cr_eqW (ws' := gL cA (fun k => if k = 1000 then pl else if k = 1001 then dy else if k = 0 then h0 else if k = 1 then q else if k = 38 then v else r (k - 2)) z0 0 shSw) ?_ ?_
    · refine ⟨rfl, eqE_rf, rfl, ?_, ?_⟩
      · refine Or.inr ⟨_, _, _, _, rfl, rfl, fun i hi => ?_⟩
        unfold stF
        rw [if_pos hi]
        exact congrArg some (e9 (4 * i) (by omega)).symm
      · have e : stT cA r 9 = gL cA (fun k => if k = 1000 then pl else if k = 1001 then dy else if k = 0 then h0 else if k = 1 then q else if k = 38 then v else r (k - 2)) z0 2 (shT 9 2) := stT_L e9
        rw [gL_app, ← e]
        exact eqW_rf
    · exact E _ _ _ _ _ (by decide) (by decide) ⟨_, rfl, rfl, rfl, rfl⟩ dX8_init_58
