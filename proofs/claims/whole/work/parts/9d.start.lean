/-! ===== the law: its start ===== -/
theorem st_K {args : Array Value} {s : State} (hts : ∀ w ∈ lw_tbl, w.before args s = true) : ∃ (D : va_G) (cA : Nat → ClassId), va_K D vwCl (gTy cA) s := by
  obtain ⟨c0, i0, k0⟩ := u_known (C := RX0) (T := TX0) (N := 2) hts in_wsX00 (hts (.instantiable RX0 2) (wsL_law_in _ (by decide +kernel)))
  obtain ⟨c1, i1, k1⟩ := u_known (C := RX1) (T := TX1) (N := 3) hts in_wsX10 (hts (.instantiable RX1 3) (wsL_law_in _ (by decide +kernel)))
  obtain ⟨c2, i2, k2⟩ := u_known (C := RX2) (T := TX2) (N := 2) hts in_wsX20 (hts (.instantiable RX2 2) (wsL_law_in _ (by decide +kernel)))
  obtain ⟨c3, i3, k3⟩ := u_known (C := RX3) (T := TX3) (N := 13) hts in_wsX30 (hts (.instantiable RX3 13) (wsL_law_in _ (by decide +kernel)))
  obtain ⟨c4, i4, k4⟩ := u_known (C := RX4) (T := TX4) (N := 3) hts in_wsX40 (hts (.instantiable RX4 3) (wsL_law_in _ (by decide +kernel)))
  obtain ⟨c5, i5, k5⟩ := u_known (C := RX5) (T := TX5) (N := 3) hts in_wsX50 (hts (.instantiable RX5 3) (wsL_law_in _ (by decide +kernel)))
  obtain ⟨c6, i6, k6⟩ := u_known (C := RX6) (T := TX6) (N := 7) hts in_wsX60 (hts (.instantiable RX6 7) (wsL_law_in _ (by decide +kernel)))
  obtain ⟨c7, i7, k7⟩ := u_known (C := RX7) (T := TX7) (N := 3) hts in_wsX70 (hts (.instantiable RX7 3) (wsL_law_in _ (by decide +kernel)))
  obtain ⟨c8, i8, k8⟩ := u_known (C := RX8) (T := TX8) (N := 4) hts in_wsX80 (hts (.instantiable RX8 4) (wsL_law_in _ (by decide +kernel)))
  obtain ⟨c9, i9, k9⟩ := u_known (C := RX9) (T := TX9) (N := 5) hts in_wsX90 (hts (.instantiable RX9 5) (wsL_law_in _ (by decide +kernel)))
  obtain ⟨c10, i10, k10⟩ := u_known (C := RX10) (T := TX10) (N := 12) hts in_wsX100 (hts (.instantiable RX10 12) (wsL_law_in _ (by decide +kernel)))
  obtain ⟨c11, i11, k11⟩ := u_known (C := RX11) (T := TX11) (N := 32) hts in_wsX110 (hts (.instantiable RX11 32) (wsL_law_in _ (by decide +kernel)))
  obtain ⟨aI, kI, pI, fI1, fI2, fI3⟩ := Cond.arrayClass_spec (hts (.arrayClass .int) (wsL_law_in _ (by decide +kernel)))
  obtain ⟨aB, kB, pB, fB1, fB2, fB3⟩ := Cond.arrayClass_spec (hts (.arrayClass .byte) (wsL_law_in _ (by decide +kernel)))
  obtain ⟨pS, aS, kS, fS1, -, fS2, fS3, fS4⟩ := Cond.arrayOver_spec (hts (.arrayOver (.object "YoungerMilk$Standing")) (by decide +kernel))
  obtain ⟨pA, aA, kA, fA1, -, fA2, fA3, fA4⟩ := va_AAs (show va_AA s from hts (.arrayOver (.array .int)) (by decide +kernel))
  refine ⟨(fun c => match c with | 0 => c0 | 1 => c1 | 2 => c2 | 3 => c3 | 4 => c4 | 5 => c5 | 6 => c6 | 7 => c7 | 8 => c8 | 9 => c9 | 10 => c10 | _ => c11, fun c => match c with | 0 => i0 | 1 => i1 | 2 => i2 | 3 => i3 | 4 => i4 | 5 => i5 | 6 => i6 | 7 => i7 | 8 => i8 | 9 => i9 | 10 => i10 | _ => i11), fun t => match t with | 0 => aI | 1 => aB | 2 => aS | _ => aA, ?_, ?_⟩
  · intro c q hq
    match c, hq with
    | 0, hq =>
      obtain rfl : (RX0, TX0, 2) = q := Option.some.inj hq
      exact k0
    | 1, hq =>
      obtain rfl : (RX1, TX1, 3) = q := Option.some.inj hq
      exact k1
    | 2, hq =>
      obtain rfl : (RX2, TX2, 2) = q := Option.some.inj hq
      exact k2
    | 3, hq =>
      obtain rfl : (RX3, TX3, 13) = q := Option.some.inj hq
      exact k3
    | 4, hq =>
      obtain rfl : (RX4, TX4, 3) = q := Option.some.inj hq
      exact k4
    | 5, hq =>
      obtain rfl : (RX5, TX5, 3) = q := Option.some.inj hq
      exact k5
    | 6, hq =>
      obtain rfl : (RX6, TX6, 7) = q := Option.some.inj hq
      exact k6
    | 7, hq =>
      obtain rfl : (RX7, TX7, 3) = q := Option.some.inj hq
      exact k7
    | 8, hq =>
      obtain rfl : (RX8, TX8, 4) = q := Option.some.inj hq
      exact k8
    | 9, hq =>
      obtain rfl : (RX9, TX9, 5) = q := Option.some.inj hq
      exact k9
    | 10, hq =>
      obtain rfl : (RX10, TX10, 12) = q := Option.some.inj hq
      exact k10
    | 11, hq =>
      obtain rfl : (RX11, TX11, 32) = q := Option.some.inj hq
      exact k11
    | (c + 12), hq => exact absurd (List.getElem?_eq_some_iff.mp hq).1 (by show ¬ c + 12 < 12; omega)
  · intro k q hq
    match k, hq with
    | 0, hq =>
      obtain rfl : (aI, (.int : FieldType)) = q := Option.some.inj hq
      exact ⟨fun n z => ⟨fun k h => (by cases h), kI, fI2, pI, fI3⟩, fI1⟩
    | 1, hq =>
      obtain rfl : (aB, (.byte : FieldType)) = q := Option.some.inj hq
      exact ⟨fun n z => ⟨fun k h => (by cases h), kB, fB2, pB, fB3⟩, fB1⟩
    | 2, hq =>
      obtain rfl : (aS, (.object "YoungerMilk$Standing" : FieldType)) = q := Option.some.inj hq
      exact ⟨fun n z => ⟨fun k h => (by cases h), kS, fS2, pS, fS3⟩, ⟨kS, pS, fS2, fS3, fS1, fS4⟩⟩
    | 3, hq =>
      obtain rfl : (aA, (.array .int : FieldType)) = q := Option.some.inj hq
      exact ⟨fun n z => ⟨fun k h => (by cases h), kA, fA2, pA, fA3⟩, fA4⟩
    | (k + 4), hq => exact absurd (List.getElem?_eq_some_iff.mp hq).1 (by show ¬ k + 4 < 4; omega)
theorem st_Nk : ∀ q ∈ gNest, Cond.methodLinkNest q.1 q.2.1 q.2.2.1 q.2.2.2 ∈ lw_tbl := by decide +kernel
theorem st_N {args : Array Value} {s : State} (hts : ∀ w ∈ lw_tbl, w.before args s = true) : gNs s := fun q hq => va_Nw.of rfl (hts _ (st_Nk q hq))
theorem st_O {args : Array Value} {s : State} (hts : ∀ w ∈ lw_tbl, w.before args s = true) : gAo s := ⟨va_AO.of (hts (.arrayOver (.object "YoungerMilk$Standing")) (by decide +kernel)), hts (.arrayOver (.array .int)) (by decide +kernel)⟩
theorem st_ch : ∀ j, j < 106 → Cond.eq (.elem (Term.field (Term.string RX10 91) "java/lang/String" "value" "[B") (.int (Int32.ofNat j))) (.int (sBy.getD j 0)) ∈ flatC (Jvm.Cond.and given_1 narrow_1) := by decide +kernel
set_option maxHeartbeats 1000000 in
theorem st_V {args : Array Value} {s : State} (hts : ∀ w ∈ lw_tbl, w.before args s = true) (hgv : (Jvm.Cond.and given_1 narrow_1).before args s = true) : ∃ aK aV : Nat, vk_R RX10 91 cT aK s ∧ sW aK aV (fun q : Nat => s.heap.size ≤ q) s s.heap := by
  have hs := flat_of_before _ hgv
  have hA : ∀ a : Nat, a < s.heap.size → ¬ (fun q : Nat => s.heap.size ≤ q) a := fun a h => Nat.not_le.mpr h
  have h0 : ∀ i : Nat, i < 1 → i = 0 := fun i h => by omega
  have g106 : ([106] : List Nat).getD 0 0 = 106 := rfl
  obtain ⟨adK, adV, h1, h2⟩ := vk_Sof (args := args) (s := s) (N := 1) (tm := fun _ => Term.string RX10 91) (len := [106]) (byt := [sBy]) (A := fun q : Nat => s.heap.size ≤ q)
    (fun i hi => by rw [h0 i hi, g106]; decide)
    (fun i hi => hs (.exactly (.string RX10 91) "java/lang/String") (by decide +kernel))
    (fun i hi => hs (.eq (.field (.string RX10 91) "java/lang/String" "coder" "B") (.int 0)) (by decide +kernel))
    (fun i hi => hs (.arrayOf (Term.field (Term.string RX10 91) "java/lang/String" "value" "[B") .byte) (by decide +kernel))
    (fun i hi => by rw [h0 i hi]; exact hs (.eq (.length (Term.field (Term.string RX10 91) "java/lang/String" "value" "[B")) (.int 106)) (by decide +kernel))
    (fun i hi j hj => by
      rw [h0 i hi] at hj ⊢
      rw [g106] at hj
      exact hs _ (st_ch j hj))
    (fun i j hi hj hne => absurd ((h0 i hi).trans (h0 j hj).symm) hne) hA
  refine ⟨adK 0, adV 0, vk_R.of (hts (.stringRef RX10 91 cT) (by decide +kernel)) (h2 0 (by decide)), ⟨fun i hi => ?_, fun i j hi hj _ => by rw [h0 i hi, h0 j hj]⟩, ?_, ?_⟩
  · have := h1.1 0 (by decide)
    rw [h0 i hi]
    exact this
  · exact va_Zof (hts (.laysStatic "java/lang/String" "COMPACT_STRINGS" "Z") (by decide +kernel)) (hts (.initialized "java/lang/String") (by decide +kernel)) (va_eqt (hs (.eq (.static "java/lang/String" "COMPACT_STRINGS" "Z") (.int 1)) (by decide +kernel))) hA
  · exact va_Zqof (hts (.laysStatic "jdk/internal/util/Preconditions" "SIOOBE_FORMATTER" "Ljava/util/function/BiFunction;") (by decide +kernel)) (hts (.initialized "jdk/internal/util/Preconditions") (by decide +kernel)) (hs (.isRef (.static "jdk/internal/util/Preconditions" "SIOOBE_FORMATTER" "Ljava/util/function/BiFunction;")) (by decide +kernel)) hA
set_option maxHeartbeats 4000000 in
theorem st_walk {X : CX} {D : va_G} {cA : Nat → ClassId} (C : cCL X D cA) {aK aV b L : Nat} {xs : Nat → Int32} (V : cV X aK aV) (S : cS X b L xs) (hL : L ≤ 320) (E : ∀ (ws : va_W) (k n pc : Nat) (lv : List (Nat × Value)), k ≤ 600000 → n ≤ 7302250 → decode cL_law pc = .ok (.ireturn, 1) → cG X D ws k n pc lv [.int 1]) : cG X D [] 0 0 0 [(0, .ref b)] [] := by
  have in10 : ∀ v ∈ u_ws RX10 TX10 12, v ∈ wsL_law := by decide +kernel
  have in11 : ∀ v ∈ u_ws RX11 TX11 32, v ∈ wsL_law := by decide +kernel
  refine cr_new C 10 12 [.null, .null, .null, .null, .null, .null, .null, .null, .null, .null, .null, .null] rfl in10 tyX10 tyX10_ok (by decide +kernel) (by decide +kernel) (by decide +kernel) (fun j hj => by rcases (show j = 0 ∨ j = 1 ∨ j = 2 ∨ j = 3 ∨ j = 4 ∨ j = 5 ∨ j = 6 ∨ j = 7 ∨ j = 8 ∨ j = 9 ∨ j = 10 ∨ j = 11 by omega) with rfl | rfl | rfl | rfl | rfl | rfl | rfl | rfl | rfl | rfl | rfl | rfl <;> rfl) (Nat.le_of_ble_eq_true rfl) (Nat.le_of_ble_eq_true rfl) dL_law_0 ?_
  intro h0
  refine cr_dup C dL_law_3 rfl ?_
  refine cr_initX C (nA := 0) (As := []) (rest := [.ref h0]) V (kMilk X.2.1 D cA aK aV h0) gL_law_X10_init rfl ⟨Nat.le_of_ble_eq_true rfl, Nat.le_of_ble_eq_true rfl⟩ rfl (Nat.le_of_ble_eq_true rfl) rfl rfl (by decide +kernel) (by decide +kernel) (by decide +kernel) ⟨Nat.le_of_ble_eq_true rfl, Nat.le_of_ble_eq_true rfl⟩ dL_law_4 (by decide +kernel) ?_
  intro u hu
  obtain ⟨ad, g, e0, hg, eu⟩ := hu
  rw [eu]
  clear eu
  subst e0
  refine cr_unil ?_
  refine cr_astore_n C [(1, .ref (ad 0)), (0, .ref b)] dL_law_7 rfl (by decide) rfl ?_
  refine cr_new C 11 32 [.int 0, .int 0, .int 0, .null, .null, .null, .null, .null, .int 0, .int 0, .int 0, .null, .null, .null, .null, .null, .int 0, .int 0, .int 0, .null, .int 0, .int 0, .int 0, .int 0, .null, .null, .null, .null, .null, .null, .null, .null] rfl in11 tyX11 tyX11_ok (by decide +kernel) (by decide +kernel) (by decide +kernel) (fun j hj => by rcases (show j = 0 ∨ j = 1 ∨ j = 2 ∨ j = 3 ∨ j = 4 ∨ j = 5 ∨ j = 6 ∨ j = 7 ∨ j = 8 ∨ j = 9 ∨ j = 10 ∨ j = 11 ∨ j = 12 ∨ j = 13 ∨ j = 14 ∨ j = 15 ∨ j = 16 ∨ j = 17 ∨ j = 18 ∨ j = 19 ∨ j = 20 ∨ j = 21 ∨ j = 22 ∨ j = 23 ∨ j = 24 ∨ j = 25 ∨ j = 26 ∨ j = 27 ∨ j = 28 ∨ j = 29 ∨ j = 30 ∨ j = 31 by omega) with rfl | rfl | rfl | rfl | rfl | rfl | rfl | rfl | rfl | rfl | rfl | rfl | rfl | rfl | rfl | rfl | rfl | rfl | rfl | rfl | rfl | rfl | rfl | rfl | rfl | rfl | rfl | rfl | rfl | rfl | rfl | rfl <;> rfl) (Nat.le_of_ble_eq_true rfl) (Nat.le_of_ble_eq_true rfl) dL_law_8 ?_
  intro h1
  refine cr_dup C dL_law_11 rfl ?_
  refine cr_initI C (nA := 0) (As := []) (rest := [.ref h1]) (kModel X.2.1 D cA h1) gL_law_X11_init rfl ⟨Nat.le_of_ble_eq_true rfl, Nat.le_of_ble_eq_true rfl⟩ rfl (Nat.le_of_ble_eq_true rfl) rfl rfl (by decide +kernel) (by decide +kernel) (by decide +kernel) ⟨Nat.le_of_ble_eq_true rfl, Nat.le_of_ble_eq_true rfl⟩ dL_law_12 (by decide +kernel) ?_
  intro u hu
  obtain ⟨ad2, t, e1, ht, eu⟩ := hu
  rw [eu]
  clear eu
  subst e1
  refine cr_astore_n C [(2, .ref (ad2 0)), (1, .ref (ad 0)), (0, .ref b)] dL_law_15 rfl (by decide) rfl ?_
  refine cr_iconst C (v := nI 0) dL_law_16 rfl ?_
  refine cr_istore_n C (lvL 0 (ad2 0) (ad 0) b) dL_law_17 rfl (by decide) rfl ?_
  exact lw_loop C S hL ⟨Nat.le_of_ble_eq_true rfl, Nat.le_of_ble_eq_true rfl⟩ (fun ws pc lv hd => E ws _ _ pc lv (Nat.le_of_ble_eq_true rfl) (Nat.le_of_ble_eq_true rfl) hd) (L + 10) 0 g t (by omega) (by omega) (ini_both hg ht)
