def gFl (ad : Nat → Nat) (f : Nat → Int32) : Nat → List (Option Nat) → List Value
  | _, [] => []
  | i, o :: l => gVal ad f i o :: gFl ad f (i + 1) l
theorem gFl_idx (ad : Nat → Nat) (f : Nat → Int32) : ∀ (l : List (Option Nat)) (i : Nat), l.mapIdx (fun j o => gVal ad f (i + j) o) = gFl ad f i l
  | [], _ => rfl
  | o :: l, i => by
    rw [List.mapIdx_cons, gFl, ← gFl_idx ad f l (i + 1)]
    congr 1
    congr 1
    funext j o
    rw [show i + (j + 1) = i + 1 + j by omega]
theorem gFld_l (ad : Nat → Nat) (f : Nat → Int32) (l : List (Option Nat)) : gFld ad f l = gFl ad f 0 l := by
  rw [← gFl_idx]
  unfold gFld
  congr 1
  funext j o
  rw [Nat.zero_add]
set_option maxHeartbeats 4000000 in
theorem kMod_w {cA : Nat → ClassId} {h0 q1 q2 q3 q4 q5 q6 q7 q8 q9 q10 q11 q12 q13 q14 q15 q16 q17 q18 q19 : Nat} {ad : Nat → Nat} (e0 : ad 0 = h0) (e1 : ad 1 = q1) (e2 : ad 2 = q2) (e3 : ad 3 = q3) (e4 : ad 4 = q4) (e5 : ad 5 = q5) (e6 : ad 6 = q6) (e7 : ad 7 = q7) (e8 : ad 8 = q8) (e9 : ad 9 = q9) (e10 : ad 10 = q10) (e11 : ad 11 = q11) (e12 : ad 12 = q12) (e13 : ad 13 = q13) (e14 : ad 14 = q14) (e15 : ad 15 = q15) (e16 : ad 16 = q16) (e17 : ad 17 = q17) (e18 : ad 18 = q18) (e19 : ad 19 = q19) : [(h0, .inr (11, [.int 0, .int 0, .int 0, .ref q1, .ref q2, .ref q3, .ref q4, .ref q5, .int 0, .int 0, .int 0, .ref q6, .ref q7, .ref q8, .ref q9, .ref q10, .int 0, .int 0, .int 0, .ref q11, .int 0, .int 0, .int 0, .int 0, .ref q12, .ref q13, .ref q14, .ref q15, .ref q16, .ref q17, .ref q18, .ref q19])), (q1, .inl (cA 0, 8, .inl (fun _ => 0))), (q2, .inl (cA 0, 8, .inl (fun _ => 0))), (q3, .inl (cA 0, 8, .inl (fun _ => 0))), (q4, .inl (cA 0, 8, .inl (fun _ => 0))), (q5, .inl (cA 0, 8, .inl (fun _ => 0))), (q6, .inl (cA 0, 8, .inl (fun _ => 0))), (q7, .inl (cA 0, 8, .inl (fun _ => 0))), (q8, .inl (cA 0, 8, .inl (fun _ => 0))), (q9, .inl (cA 0, 8, .inl (fun _ => 0))), (q10, .inl (cA 0, 336, .inl (fun _ => 0))), (q11, .inl (cA 1, 200, .inl (fun _ => 0))), (q12, .inl (cA 0, 6, .inl (fun _ => 0))), (q13, .inl (cA 0, 6, .inl (fun _ => 0))), (q14, .inl (cA 0, 8, .inl (fun _ => 0))), (q15, .inl (cA 0, 512, .inl (fun _ => 0))), (q16, .inl (cA 0, 90, .inl (fun _ => 0))), (q17, .inl (cA 0, 1000, .inl (fun _ => 0))), (q18, .inl (cA 0, 1000, .inl (fun _ => 0))), (q19, .inl (cA 0, 9, .inl (fun _ => 0)))] = gL cA ad z0 0 shM := by
  have e : gFld ad (z0 0) [none, none, none, some 1, some 2, some 3, some 4, some 5, none, none, none, some 6, some 7, some 8, some 9, some 10, none, none, none, some 11, none, none, none, none, some 12, some 13, some 14, some 15, some 16, some 17, some 18, some 19] = [.int 0, .int 0, .int 0, .ref q1, .ref q2, .ref q3, .ref q4, .ref q5, .int 0, .int 0, .int 0, .ref q6, .ref q7, .ref q8, .ref q9, .ref q10, .int 0, .int 0, .int 0, .ref q11, .int 0, .int 0, .int 0, .int 0, .ref q12, .ref q13, .ref q14, .ref q15, .ref q16, .ref q17, .ref q18, .ref q19] := by
    rw [gFld_l, ← e1, ← e2, ← e3, ← e4, ← e5, ← e6, ← e7, ← e8, ← e9, ← e10, ← e11, ← e12, ← e13, ← e14, ← e15, ← e16, ← e17, ← e18, ← e19]
    rfl
  rw [← e, ← e0, ← e1, ← e2, ← e3, ← e4, ← e5, ← e6, ← e7, ← e8, ← e9, ← e10, ← e11, ← e12, ← e13, ← e14, ← e15, ← e16, ← e17, ← e18, ← e19]
  rfl
set_option maxHeartbeats 4000000 in
theorem kModel (l : Launch) (D : va_G) (cA : Nat → ClassId) (h0 : Nat) : gMN l D cA yX11_init wsX11_init ({ frames := 2, cells := 19, slots := 3239, locals := 46 } : Room) [.ref h0] [(h0, .inr (11, [.int 0, .int 0, .int 0, .null, .null, .null, .null, .null, .int 0, .int 0, .int 0, .null, .null, .null, .null, .null, .int 0, .int 0, .int 0, .null, .int 0, .int 0, .int 0, .int 0, .null, .null, .null, .null, .null, .null, .null, .null]))] (fun u => ∃ (ad : Nat → Nat) (t : Sg), ad 0 = h0 ∧ iniM t ∧ u = gWs (D, cA, ad, shM) t) := by
  refine cStart cX11_init 1 RX11 rfl (by decide) rfl rfl (Nat.le_of_ble_eq_true rfl) ?_
  intro X hl C I E
  show cG X D [(h0, .inr (11, [.int 0, .int 0, .int 0, .null, .null, .null, .null, .null, .int 0, .int 0, .int 0, .null, .null, .null, .null, .null, .int 0, .int 0, .int 0, .null, .int 0, .int 0, .int 0, .int 0, .null, .null, .null, .null, .null, .null, .null, .null]))] 0 0 0 [(0, .ref h0)] []
  refine cr_aload_n C 0 dX11_init_0 rfl rfl ?_
  refine cr_objInit C dX11_init_1 (by decide +kernel) (by decide +kernel) (by decide +kernel) (by decide) (by decide) ?_
  refine kMod_0 C I h0 (fun q1 q2 q3 q4 q5 => kMod_1 C I h0 q1 q2 q3 q4 q5 (fun q6 q7 q8 q9 q10 => kMod_2 C I h0 q1 q2 q3 q4 q5 q6 q7 q8 q9 q10 (fun q11 q12 q13 q14 q15 => kMod_3 C I h0 q1 q2 q3 q4 q5 q6 q7 q8 q9 q10 q11 q12 q13 q14 q15 (fun q16 q17 q18 q19 => ?_))))
  obtain ⟨ad, e0, ew⟩ : ∃ ad : Nat → Nat, ad 0 = h0 ∧ [(h0, .inr (11, [.int 0, .int 0, .int 0, .ref q1, .ref q2, .ref q3, .ref q4, .ref q5, .int 0, .int 0, .int 0, .ref q6, .ref q7, .ref q8, .ref q9, .ref q10, .int 0, .int 0, .int 0, .ref q11, .int 0, .int 0, .int 0, .int 0, .ref q12, .ref q13, .ref q14, .ref q15, .ref q16, .ref q17, .ref q18, .ref q19])), (q1, .inl (cA 0, 8, .inl (fun _ => 0))), (q2, .inl (cA 0, 8, .inl (fun _ => 0))), (q3, .inl (cA 0, 8, .inl (fun _ => 0))), (q4, .inl (cA 0, 8, .inl (fun _ => 0))), (q5, .inl (cA 0, 8, .inl (fun _ => 0))), (q6, .inl (cA 0, 8, .inl (fun _ => 0))), (q7, .inl (cA 0, 8, .inl (fun _ => 0))), (q8, .inl (cA 0, 8, .inl (fun _ => 0))), (q9, .inl (cA 0, 8, .inl (fun _ => 0))), (q10, .inl (cA 0, 336, .inl (fun _ => 0))), (q11, .inl (cA 1, 200, .inl (fun _ => 0))), (q12, .inl (cA 0, 6, .inl (fun _ => 0))), (q13, .inl (cA 0, 6, .inl (fun _ => 0))), (q14, .inl (cA 0, 8, .inl (fun _ => 0))), (q15, .inl (cA 0, 512, .inl (fun _ => 0))), (q16, .inl (cA 0, 90, .inl (fun _ => 0))), (q17, .inl (cA 0, 1000, .inl (fun _ => 0))), (q18, .inl (cA 0, 1000, .inl (fun _ => 0))), (q19, .inl (cA 0, 9, .inl (fun _ => 0)))] = gL cA ad z0 0 shM := ⟨fun k => ([h0, q1, q2, q3, q4, q5, q6, q7, q8, q9, q10, q11, q12, q13, q14, q15, q16, q17, q18, q19] : List Nat).getD k 0, rfl, kMod_w rfl rfl rfl rfl rfl rfl rfl rfl rfl rfl rfl rfl rfl rfl rfl rfl rfl rfl rfl rfl⟩
  rw [ew]
  rw [show gL cA ad z0 0 shM = gWs (D, cA, ad, shM) z0 by rw [gWs_L]]
  subst e0
  exact kMod_t C ad E
