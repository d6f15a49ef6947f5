/-! ===== calls over worlds that stand; the constructor of the class ===== -/
theorem gA_va {w : Wl} {σ : Sg} {sz q : Nat} : gA w sz q ↔ va_A (gWs w σ) sz q := by
  unfold gA va_A
  constructor
  · rintro (⟨i, h1, h2⟩ | h)
    · left
      refine ⟨i, gCell w.2.1 w.2.2.1 (σ i) w.2.2.2[i], ?_⟩
      rw [gWs_get w σ i (List.getElem?_eq_getElem h1), h2]
    · exact Or.inr h
  · rintro (⟨i, e, h⟩ | h)
    · left
      obtain ⟨sh, h1, h2⟩ := gWs_inv h
      exact ⟨i, (List.getElem?_eq_some_iff.mp h1).1, congrArg Prod.fst h2⟩
    · exact Or.inr h
theorem gWs_D2 {w : Wl} {σ σ' : Sg} {A : Nat → Prop} {sz : Nat} (h : va_D A (gWs w σ)) : va_D (va_A (gWs w σ) sz) (gWs w σ') := gWs_apart h (fun i hi => gA_va.mp (Or.inl ⟨i, hi, rfl⟩))
set_option maxHeartbeats 1000000 in
theorem cr_callVI {X : CX} {w : Wl} {cc : ByteArray} {own : String} {Ts : List Cond} {nL fr lo MC MS : Nat} (C : cC X w.1 w.2.1 cc own Ts nL fr lo MC MS) {ws : va_W} {k n pc : Nat} {lv : List (Nat × Value)} {st : List Value} (i0 : Nat) {σ σ2 : Sg} {r : Int32} {cret : Option FieldType} {index ci N nA : Nat} {y : MethodName} {wy wy' : List Cond} {rm : Room} {bytes : ByteArray} {maxL : Nat} {As rest : List Value} {fs : List (Option Nat)} {C1 : String} {T : u_T} (hM : gMI X.2.1 w y wy rm (.ref (w.2.2.1 i0) :: As) σ r σ2) (hG : GoodIn Ts (wsV own index C1 y wy)) (hw : wy = Cond.code y bytes maxL cret :: wy') (hcs : rm.cells = 0 ∧ rm.slots = 0) (hfr : rm.frames + 1 ≤ fr ∧ 8 + (maxL + 11) + rm.locals ≤ lo) (hst : st = As.reverse ++ .ref (w.2.2.1 i0) :: rest) (hrest : (rest.map fun v => v.category).sum ≤ 8) (hn : As.length = nA) (hdd : y.cls = C1 ∧ y.cls ≠ "java/lang/invoke/MethodHandle" ∧ y.cls ≠ "java/lang/invoke/VarHandle" ∧ (parseMethodDescriptor y.desc).map (fun d => d.parameters.length) = some nA) (hk : w.2.2.2[i0]? = some (.inr (.inl (ci, fs)))) (hcl : vwCl[ci]? = some (C1, T, N)) (hc : k ≤ MC ∧ n ≤ MS) (hd : decode cc pc = .ok (.invokevirtual index, 3)) (kk : cG X w.1 (ws ++ gWs w σ2) k n (pc + 3) lv (.int r :: rest)) : cG X w.1 (ws ++ gWs w σ) k n pc lv st := by
  obtain ⟨p, l, e, R, s, m, args, below, meth, c, A, Qt, nL'⟩ := X
  obtain ⟨hx, hb, hml, rfl, hown, hts, hK, hN, hO, hA, hR⟩ := C
  dsimp only at hM
  intro H locs ls hls hP hD hS
  have hFc := va_freeL hD hS hA
  subst hst
  refine va_calli (va_runV (As := As) (rest := rest) (b := w.2.2.1 i0) ⟨hx, hb, hml, hown, hts⟩ (hM H.size) (cwV nA hts hG hw hcs.1 hcs.2 hdd ⟨Nat.le_trans hfr.1 hR.1, Nat.le_trans hfr.2 hR.2.1⟩) ⟨fun a U g mk q => by obtain ⟨q0, q1, qP, qK, qD, qN⟩ := q; exact ⟨q0, q1, qP, va_K.moved (u := U) (U := U.calling g mk a) (Vm.Alike.refl U.vm) qK, qD, gNs_same (s := U) (U := U.calling g mk a) rfl qN⟩, va_recv hK (va_right hP) hcl (gWs_get w σ i0 hk), fun U hU hW => ⟨rfl, by rw [hU], by rw [hU]; exact va_right hP, va_K.moved hW.alike hK, va_rightD hD (fun _ _ => trivial), gNs_warm hW hN⟩⟩ rfl hn hls.1 rfl (lv_room hrest) hd ⟨Nat.le_trans hc.1 hR.2.2.1, Nat.le_trans hc.2 hR.2.2.2⟩) hS (fun q _ h => hFc q (gA_va.mp h)) (fun q h => hFc q (gA_va.mp h)) (fun r1 u t H1 locs1 ht hvm hw hB hz1 hk1 hS1 => ?_)
  obtain ⟨rfl, rfl⟩ := hw
  obtain ⟨hP1, hK1, hD1, -⟩ := hB
  rw [ht] at hP1
  obtain ⟨hP2, hD2⟩ := va_joinL hP hD (fun q h1 h2 => hk1 q h1 (fun h => h2 (gA_va.mp h))) hFc hP1 (gWs_D2 (va_rightD hD (fun _ h => h)))
  exact kk H1 locs1 ls hls hP2 hD2 hS1
set_option maxHeartbeats 1000000 in
theorem cr_callVV {X : CX} {w : Wl} {cc : ByteArray} {own : String} {Ts : List Cond} {nL fr lo MC MS : Nat} (C : cC X w.1 w.2.1 cc own Ts nL fr lo MC MS) {ws : va_W} {k n pc : Nat} {lv : List (Nat × Value)} {st : List Value} (i0 : Nat) {σ σ2 : Sg} {index ci N nA : Nat} {y : MethodName} {wy wy' : List Cond} {rm : Room} {bytes : ByteArray} {maxL : Nat} {As rest : List Value} {fs : List (Option Nat)} {C1 : String} {T : u_T} (hM : gMV X.2.1 w y wy rm (.ref (w.2.2.1 i0) :: As) σ σ2) (hG : GoodIn Ts (wsV own index C1 y wy)) (hw : wy = Cond.code y bytes maxL none :: wy') (hcs : rm.cells = 0 ∧ rm.slots = 0) (hfr : rm.frames + 1 ≤ fr ∧ 8 + (maxL + 11) + rm.locals ≤ lo) (hst : st = As.reverse ++ .ref (w.2.2.1 i0) :: rest) (hrest : (rest.map fun v => v.category).sum ≤ 8) (hn : As.length = nA) (hdd : y.cls = C1 ∧ y.cls ≠ "java/lang/invoke/MethodHandle" ∧ y.cls ≠ "java/lang/invoke/VarHandle" ∧ (parseMethodDescriptor y.desc).map (fun d => d.parameters.length) = some nA) (hk : w.2.2.2[i0]? = some (.inr (.inl (ci, fs)))) (hcl : vwCl[ci]? = some (C1, T, N)) (hc : k ≤ MC ∧ n ≤ MS) (hd : decode cc pc = .ok (.invokevirtual index, 3)) (kk : cG X w.1 (ws ++ gWs w σ2) k n (pc + 3) lv rest) : cG X w.1 (ws ++ gWs w σ) k n pc lv st := by
  obtain ⟨p, l, e, R, s, m, args, below, meth, c, A, Qt, nL'⟩ := X
  obtain ⟨hx, hb, hml, rfl, hown, hts, hK, hN, hO, hA, hR⟩ := C
  dsimp only at hM
  intro H locs ls hls hP hD hS
  have hFc := va_freeL hD hS hA
  subst hst
  refine va_callv (va_runV (As := As) (rest := rest) (b := w.2.2.1 i0) ⟨hx, hb, hml, hown, hts⟩ (hM H.size) (cwV nA hts hG hw hcs.1 hcs.2 hdd ⟨Nat.le_trans hfr.1 hR.1, Nat.le_trans hfr.2 hR.2.1⟩) ⟨fun a U g mk q => by obtain ⟨q0, q1, qP, qK, qD, qN⟩ := q; exact ⟨q0, q1, qP, va_K.moved (u := U) (U := U.calling g mk a) (Vm.Alike.refl U.vm) qK, qD, gNs_same (s := U) (U := U.calling g mk a) rfl qN⟩, va_recv hK (va_right hP) hcl (gWs_get w σ i0 hk), fun U hU hW => ⟨rfl, by rw [hU], by rw [hU]; exact va_right hP, va_K.moved hW.alike hK, va_rightD hD (fun _ _ => trivial), gNs_warm hW hN⟩⟩ rfl hn hls.1 rfl (lv_room hrest) hd ⟨Nat.le_trans hc.1 hR.2.2.1, Nat.le_trans hc.2 hR.2.2.2⟩) hS (fun q _ h => hFc q (gA_va.mp h)) (fun q h => hFc q (gA_va.mp h)) (fun u t H1 locs1 ht hvm hw hB hz1 hk1 hS1 => ?_)
  subst hw
  obtain ⟨hP1, hK1, hD1, -⟩ := hB
  rw [ht] at hP1
  obtain ⟨hP2, hD2⟩ := va_joinL hP hD (fun q h1 h2 => hk1 q h1 (fun h => h2 (gA_va.mp h))) hFc hP1 (gWs_D2 (va_rightD hD (fun _ h => h)))
  exact kk H1 locs1 ls hls hP2 hD2 hS1
theorem cr_getW {X : CX} {w : Wl} {cc : ByteArray} {own : String} {Ts : List Cond} {nL fr lo MC MS : Nat} (C : cC X w.1 w.2.1 cc own Ts nL fr lo MC MS) {k n pc : Nat} {lv : List (Nat × Value)} {st : List Value} (j i0 : Nat) {σ : Sg} {index ci N : Nat} {fs : List (Option Nat)} {C1 : String} {T : u_T} {o : Option Nat} (hk : w.2.2.2[i0]? = some (.inr (.inl (ci, fs)))) (hcl : vwCl[ci]? = some (C1, T, N)) (hin : ∀ v ∈ u_ws C1 T N, v ∈ Ts) (hlt : j < N) (hln : Cond.fieldLink own index (T j).1 (T j).2.1 (T j).2.2.1 ∈ Ts) (hv : fs[j]? = some o) (hd : decode cc pc = .ok (.getfield index, 3)) (kk : cG X w.1 (gWs w σ) k n (pc + 3) lv (gVal w.2.2.1 (σ i0) j o :: st)) : cG X w.1 (gWs w σ) k n pc lv (.ref (w.2.2.1 i0) :: st) := cr_get C j i0 (gWs_get w σ i0 hk) hcl hin hlt hln (gFld_get hv) hd kk
theorem cr_iastW {X : CX} {w : Wl} {cc : ByteArray} {own : String} {Ts : List Cond} {nL fr lo MC MS : Nat} (C : cC X w.1 w.2.1 cc own Ts nL fr lo MC MS) {k n pc : Nat} {lv : List (Nat × Value)} {st : List Value} (i0 : Nat) {σ : Sg} {N j : Nat} {v : Int32} (hk : w.2.2.2[i0]? = some (.inl (0, N))) (hj : j < N) (hN2 : N ≤ 1000) (hd : decode cc pc = .ok (.iastore, 1)) (kk : cG X w.1 (gWs w (setC σ i0 (upd (σ i0) j v))) k n (pc + 1) lv st) : cG X w.1 (gWs w σ) k n pc lv (.int v :: .int (nI j) :: .ref (w.2.2.1 i0) :: st) := by
  obtain ⟨p, l, e, R, s, m, args, below, meth, c, A, Qt, nL'⟩ := X
  obtain ⟨hx, hb, hml, rfl, hown, hts, hK, hN, hO, hA, hR⟩ := C
  intro H locs ls hls hP hD hS
  refine va_iast hx hb hK hP hD hS i0 0 (gWs_get w σ i0 hk) (gTy_at _ 0 (by decide)) (gIn_vp (gIn_n hj hN2)) hd (fun H1 locs1 hP1 hD1 hS1 => ?_)
  have e := gWs_set (σ := σ) (f := upd (σ i0) j v) hk
  rw [nI_cl (by omega)] at hP1 hD1
  have e2 : (gWs w σ).set i0 (w.2.2.1 i0, .inl (w.2.1 0, N, .inl (upd (σ i0) j v))) = gWs w (setC σ i0 (upd (σ i0) j v)) := e
  have hP2 : va_P w.1 vwCl ((gWs w σ).set i0 (w.2.2.1 i0, .inl (w.2.1 0, N, .inl (upd (σ i0) j v)))) H1 := hP1
  have hD2 : va_D A ((gWs w σ).set i0 (w.2.2.1 i0, .inl (w.2.1 0, N, .inl (upd (σ i0) j v)))) := hD1
  rw [e2] at hP2 hD2
  exact kk H1 locs1 ls hls hP2 hD2 hS1
theorem cr_putW {X : CX} {w : Wl} {cc : ByteArray} {own : String} {Ts : List Cond} {nL fr lo MC MS : Nat} (C : cC X w.1 w.2.1 cc own Ts nL fr lo MC MS) {k n pc : Nat} {lv : List (Nat × Value)} {st : List Value} (j i0 : Nat) {σ : Sg} {index ci N : Nat} {fs : List (Option Nat)} {C1 : String} {T : u_T} {x : Int32} (hk : w.2.2.2[i0]? = some (.inr (.inl (ci, fs)))) (hcl : vwCl[ci]? = some (C1, T, N)) (hin : ∀ v ∈ u_ws C1 T N, v ∈ Ts) (hlt : j < N) (hln : Cond.fieldLink own index (T j).1 (T j).2.1 (T j).2.2.1 ∈ Ts) (hf : fs[j]? = some none) (ty0 : Nat → FieldType) (hty : ∀ k, k < N → parseFieldDescriptor (T k).2.2.1 = some (ty0 k)) (hnm : ∀ a, a < N → ∀ b, b < N → a ≠ b → (T a).2.1 ≠ (T b).2.1) (hfin : (T j).2.2.2 = false) (ty : FieldType) (hpd : parseFieldDescriptor (T j).2.2.1 = some ty) (hnr : narrow ty (.int x) = .int x) (hft : fits ty (.int x) = true) (hd : decode cc pc = .ok (.putfield index, 3)) (kk : cG X w.1 (gWs w (setC σ i0 (upd (σ i0) j x))) k n (pc + 3) lv st) : cG X w.1 (gWs w σ) k n pc lv (.int x :: .ref (w.2.2.1 i0) :: st) := by
  obtain ⟨p, l, e, R, s, m, args, below, meth, c, A, Qt, nL'⟩ := X
  obtain ⟨hx, hb, hml, rfl, hown, hts, hK, hN, hO, hA, hR⟩ := C
  intro H locs ls hls hP hD hS
  refine va_put hx hb hts hin ty0 hty hnm hown hK hP hD hS i0 (gWs_get w σ i0 hk) hcl j hlt (hts _ hln) (fun _ h9 => h9) hfin hpd hnr hft (by rw [gFld_len]; exact (List.getElem?_eq_some_iff.mp hf).1) hd (fun H1 locs1 hP1 hD1 hS1 => ?_)
  have e := gWs_set (σ := σ) (f := upd (σ i0) j x) hk
  have e2 : (gWs w σ).set i0 (w.2.2.1 i0, .inr (ci, (gFld w.2.2.1 (σ i0) fs).set j (.int x))) = gWs w (setC σ i0 (upd (σ i0) j x)) := by
    rw [gFld_set hf]
    exact e
  rw [e2] at hP1 hD1
  exact kk H1 locs1 ls hls hP1 hD1 hS1
theorem cr_nil {X : CX} {D : va_G} {ws : va_W} {k n pc : Nat} {lv : List (Nat × Value)} {st : List Value} (kk : cG X D ([] ++ ws) k n pc lv st) : cG X D ws k n pc lv st := kk
theorem cr_unil {X : CX} {D : va_G} {ws : va_W} {k n pc : Nat} {lv : List (Nat × Value)} {st : List Value} (kk : cG X D ws k n pc lv st) : cG X D ([] ++ ws) k n pc lv st := kk
/-- the constant that the class's constructor reads -/
def cT : String := "s5;y0,0,9,2,8;y1,0,15,4,6;y2,2,7,3,5;y0,2,4,1,9;y3,3,11,2,7;y0,4,20,5,10;k2,2;k3,1;c0,5;c2,6;c3,2;c4,3;h9;"
def cV (X : CX) (aK aV : Nat) : Prop := match X with | (_, _, _, _, s, _, _, _, _, _, A, _, _) => vk_R RX10 91 cT aK s ∧ sW aK aV A s s.heap
theorem cr_ldcS {X : CX} {D : va_G} {cA : Nat → ClassId} {cc : ByteArray} {own : String} {Ts : List Cond} {nL fr lo MC MS : Nat} (C : cC X D cA cc own Ts nL fr lo MC MS) {ws : va_W} {k n pc : Nat} {lv : List (Nat × Value)} {st : List Value} {aK aV index : Nat} (V : cV X aK aV) (hi : index = 91) (ho : own = RX10) (hd : decode cc pc = .ok (.ldc index, 2)) (kk : cG X D ws k n (pc + 2) lv (.ref aK :: st)) : cG X D ws k n pc lv st := by
  obtain ⟨p, l, e, R, s, m, args, below, meth, c, A, Qt, nL'⟩ := X
  obtain ⟨hx, hb, hml, rfl, hown, hts, hK, hN, hO, hA, hR⟩ := C
  intro H locs ls hls hP hD hS
  subst hi
  subst ho
  exact va_ldcS hx hb hown V.1 hd (kk H locs ls hls hP hD hS)
set_option maxHeartbeats 1000000 in
theorem cr_len {X : CX} {D : va_G} {cA : Nat → ClassId} {cc : ByteArray} {own : String} {Ts : List Cond} {nL fr lo MC MS : Nat} (C : cC X D cA cc own Ts nL fr lo MC MS) {ws : va_W} {k n pc : Nat} {lv : List (Nat × Value)} {st : List Value} {aK aV index : Nat} (V : cV X aK aV) (hG : GoodIn Ts (wsV own index RJ0 yJ0_length_8abf5 wsJ0_length_8abf5)) (hfr : 2 ≤ fr ∧ 40 ≤ lo) (hrest : (st.map fun v => v.category).sum ≤ 8) (hc : k ≤ MC ∧ n ≤ MS) (hd : decode cc pc = .ok (.invokevirtual index, 3)) (kk : cG X D ws k n (pc + 3) lv (.int (nI 106) :: st)) : cG X D ws k n pc lv (.ref aK :: st) := by
  obtain ⟨p, l, e, R, s, m, args, below, meth, c, A, Qt, nL'⟩ := X
  obtain ⟨hx, hb, hml, rfl, hown, hts, hK, hN, hO, hA, hR⟩ := C
  intro H locs ls hls hP hD hS
  refine va_calli (va_runV (As := []) (rest := st) (b := aK) ⟨hx, hb, hml, hown, hts⟩ (jLen l aK aV H.size) (cwV 0 hts hG rfl rfl rfl (by decide +kernel) ⟨Nat.le_trans hfr.1 hR.1, Nat.le_trans hfr.2 hR.2.1⟩) ⟨fun a U g mk q => by obtain ⟨q0, q1, q2⟩ := q; exact ⟨q0, q1, sW.moved (u := U) (U := U.calling g mk a) (Vm.Alike.refl U.vm) q2⟩, vk_recv V.2.1 (i := 0) (by decide) hS, fun U hU hW => ⟨rfl, by rw [hU], by rw [hU]; exact sW.moved hW.alike ((V.2.kept hS.2.1).narrow (fun q hq => hA q (Nat.le_trans hS.1 hq)))⟩⟩ rfl rfl hls.1 rfl (lv_room hrest) hd ⟨Nat.le_trans hc.1 hR.2.2.1, Nat.le_trans hc.2 hR.2.2.2⟩) hS (fun q h1 h2 => absurd h1 (Nat.not_lt.mpr h2)) (fun q h => hA q (Nat.le_trans hS.1 h)) (fun r u t H1 locs1 ht hvm hw hB hz1 hk1 hS1 => ?_)
  subst hw
  have hk : ∀ (i : Nat) (x : Nat × va_E), ws[i]? = some x → H1[x.1]? = H[x.1]? := fun i x hx => hk1 x.1 ((hP i x hx).lt) (Nat.not_le.mpr ((hP i x hx).lt))
  exact kk H1 locs1 ls hls (hP.kept hk) hD hS1
set_option maxHeartbeats 1000000 in
theorem cr_chr {X : CX} {D : va_G} {cA : Nat → ClassId} {cc : ByteArray} {own : String} {Ts : List Cond} {nL fr lo MC MS : Nat} (C : cC X D cA cc own Ts nL fr lo MC MS) {ws : va_W} {k n pc : Nat} {lv : List (Nat × Value)} {st : List Value} {aK aV index : Nat} {j : Nat} (hj : j < 106) (V : cV X aK aV) (hG : GoodIn Ts (wsV own index RJ0 yJ0_charAt_5068e wsJ0_charAt_5068e)) (hfr : 4 ≤ fr ∧ 85 ≤ lo) (hrest : (st.map fun v => v.category).sum ≤ 8) (hc : k ≤ MC ∧ n ≤ MS) (hd : decode cc pc = .ok (.invokevirtual index, 3)) (kk : cG X D ws k n (pc + 3) lv (.int (nI (sTx.getD j 0)) :: st)) : cG X D ws k n pc lv (.int (nI j) :: .ref aK :: st) := by
  obtain ⟨p, l, e, R, s, m, args, below, meth, c, A, Qt, nL'⟩ := X
  obtain ⟨hx, hb, hml, rfl, hown, hts, hK, hN, hO, hA, hR⟩ := C
  intro H locs ls hls hP hD hS
  refine va_calli (va_runV (As := [.int (nI j)]) (rest := st) (b := aK) ⟨hx, hb, hml, hown, hts⟩ (jCha l aK aV j hj H.size) (cwV 1 hts hG rfl rfl rfl (by decide +kernel) ⟨Nat.le_trans hfr.1 hR.1, Nat.le_trans hfr.2 hR.2.1⟩) ⟨fun a U g mk q => by obtain ⟨q0, q1, q2⟩ := q; exact ⟨q0, q1, sW.moved (u := U) (U := U.calling g mk a) (Vm.Alike.refl U.vm) q2⟩, vk_recv V.2.1 (i := 0) (by decide) hS, fun U hU hW => ⟨rfl, by rw [hU], by rw [hU]; exact sW.moved hW.alike ((V.2.kept hS.2.1).narrow (fun q hq => hA q (Nat.le_trans hS.1 hq)))⟩⟩ rfl rfl hls.1 rfl (lv_room hrest) hd ⟨Nat.le_trans hc.1 hR.2.2.1, Nat.le_trans hc.2 hR.2.2.2⟩) hS (fun q h1 h2 => absurd h1 (Nat.not_lt.mpr h2)) (fun q h => hA q (Nat.le_trans hS.1 h)) (fun r u t H1 locs1 ht hvm hw hB hz1 hk1 hS1 => ?_)
  subst hw
  have hk : ∀ (i : Nat) (x : Nat × va_E), ws[i]? = some x → H1[x.1]? = H[x.1]? := fun i x hx => hk1 x.1 ((hP i x hx).lt) (Nat.not_le.mpr ((hP i x hx).lt))
  exact kk H1 locs1 ls hls (hP.kept hk) hD hS1
/-- the contract of the class's constructor, where the constant stands -/
def gMX (l : Launch) (D : va_G) (cA : Nat → ClassId) (aK aV : Nat) (y : MethodName) (ws : List Cond) (rm : Room) (av : List Value) (w0 : va_W) (w1 : va_W → Prop) : Prop := ∀ sz : Nat, Met l y ws rm (va_Pc av (fun U => U.heap.size = sz ∧ va_P D vwCl w0 U.heap ∧ va_K D vwCl (gTy cA) U ∧ va_D (fun _ => True) w0 ∧ gNs U ∧ gAo U ∧ vk_R RX10 91 cT aK U ∧ sW aK aV (va_A w0 sz) U U.heap)) (va_Qv (fun u : va_W => w1 u) (fun u U => va_P D vwCl u U.heap ∧ va_D (va_A w0 sz) u) (va_A w0 sz)) rm.cells rm.slots (va_A w0 sz)
set_option maxHeartbeats 1000000 in
theorem cStartX {l : Launch} {D : va_G} {cA : Nat → ClassId} {aK aV : Nat} {y : MethodName} {ws ws' : List Cond} {rm : Room} {av : List Value} {w0 : va_W} {w1 : va_W → Prop} (cc : ByteArray) (nL : Nat) (own : String) (hw : ws = Cond.code y cc nL none :: ws') (hpl : plainName y.cls = true) (hy : y.cls = own) (hnm : y.name = "<init>") (hav : (lg_sl av).length ≤ nL)
    (k : ∀ X : CX, X.2.1 = l → cC X D cA cc own ws nL rm.frames rm.locals rm.cells rm.slots → cI X → cV X aK aV → cE X D cc rm.cells rm.slots w1 → cG X D w0 0 0 0 (lv_args 0 av) []) : gMX l D cA aK aV y ws rm av w0 w1 := by
  intro sz
  refine Met.ofW (cc := cc) (maxL := nL) (ret := none) hpl hw ?_
  intro p e s m args below meth c s₁ B hml hv
  obtain ⟨rfl, hsz, hP, hK, hD0, hN, hO, hV1, hV2⟩ := hv
  have hts := atoms_spec (ws := ws) B.pre
  have hown : s.vm.findClass own = some m.cls := by rw [← hy]; exact findClass_of_methodNamed B.named
  have hin : meth.name = "<init>" := by rw [(name_of_methodNamed B.named B.method).1]; exact hnm
  have hx := B.exec
  have hb := B.bytes
  have hr := B.returns
  have hlk := B.notSynchronized
  subst hsz
  have hD := hD0.self (sz := s.heap.size)
  have hk := k (p, l, e, (headSpec ws rm).room, s, m, av.toArray, below, meth, c, va_A w0 s.heap.size, MQ below (va_Qv (fun u : va_W => w1 u) (fun u U => va_P D vwCl u U.heap ∧ va_D (va_A w0 s.heap.size) u) (va_A w0 s.heap.size)) av.toArray s rm.cells rm.slots (va_A w0 s.heap.size), nL) rfl ⟨hx, hb, hml, rfl, hown, hts, hK, hN, hO, fun q h => Or.inr h, ⟨Nat.le_refl _, Nat.le_refl _, Nat.le_refl _, Nat.le_refl _⟩⟩ hin ⟨hV1, hV2⟩ (by
    intro ws2 k n pc lv hk hn h1 hd H locs ls hls hP1 hD1 hS1
    refine W.widen (k := rm.cells) (n := rm.slots) hk hn ?_
    exact W.vret hx hb hr (fun t ht hW => ⟨⟨ws2, rfl, h1, by rw [ht]; exact hP1, hD1⟩, hS1.F ht⟩) hS1.2.2 hd)
  have hl := lv_entry av (n := nL) hav
  rw [lg_entry_eq]
  exact hk s.heap [] _ hl hP hD va_S.rf
