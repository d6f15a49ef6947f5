/-! ===== the law: rows of its own ===== -/
theorem cr_sw2 {X : CX} {D : va_G} {a b : va_W} {k n pc : Nat} {lv : List (Nat × Value)} {st : List Value} (kk : cG X D (b ++ a) k n pc lv st) : cG X D (a ++ b) k n pc lv st := by
  have h : cG X D (([] ++ b) ++ a) k n pc lv st := kk
  exact cr_swap (a := []) (b := a) (c := b) h
/-- the script -/
def cS (X : CX) (b L : Nat) (xs : Nat → Int32) : Prop := match X with | (_, _, _, _, s, _, _, _, _, _, A, _, _) => va_X b L xs s s.heap ∧ b < s.heap.size ∧ ¬ A b
theorem cr_slen {X : CX} {D : va_G} {cA : Nat → ClassId} {cc : ByteArray} {own : String} {Ts : List Cond} {nL fr lo MC MS : Nat} (C : cC X D cA cc own Ts nL fr lo MC MS) {ws : va_W} {k n pc : Nat} {lv : List (Nat × Value)} {st : List Value} {b L : Nat} {xs : Nat → Int32} (S : cS X b L xs) (hd : decode cc pc = .ok (.arraylength, 1)) (kk : cG X D ws k n (pc + 1) lv (.int (nI L) :: st)) : cG X D ws k n pc lv (.ref b :: st) := by
  obtain ⟨p, l, e, R, s, m, args, below, meth, c, A, Qt, nL'⟩ := X
  obtain ⟨hx, hb, hml, rfl, hown, hts, hK, hN, hO, hA, hR⟩ := C
  intro H locs ls hls hP hD hS
  exact va_slen hx hb S.1 S.2.1 S.2.2 hS hd (kk H locs ls hls hP hD hS)
theorem cr_sld {X : CX} {D : va_G} {cA : Nat → ClassId} {cc : ByteArray} {own : String} {Ts : List Cond} {nL fr lo MC MS : Nat} (C : cC X D cA cc own Ts nL fr lo MC MS) {ws : va_W} {k n pc : Nat} {lv : List (Nat × Value)} {st : List Value} {b L i : Nat} {xs : Nat → Int32} (S : cS X b L xs) (hi : i < L) (hL : L ≤ 320) (hd : decode cc pc = .ok (.iaload, 1)) (kk : cG X D ws k n (pc + 1) lv (.int (xs i) :: st)) : cG X D ws k n pc lv (.int (nI i) :: .ref b :: st) := by
  obtain ⟨p, l, e, R, s, m, args, below, meth, c, A, Qt, nL'⟩ := X
  obtain ⟨hx, hb, hml, rfl, hown, hts, hK, hN, hO, hA, hR⟩ := C
  intro H locs ls hls hP hD hS
  refine va_sld hx hb S.1 S.2.1 S.2.2 hS (gIn_vp (gIn_n hi (by omega))) hd ?_
  rw [nI_cl (by omega)]
  exact kk H locs ls hls hP hD hS
set_option maxHeartbeats 1000000 in
theorem cr_initX {X : CX} {D : va_G} {cA : Nat → ClassId} {cc : ByteArray} {own : String} {Ts : List Cond} {nL fr lo MC MS : Nat} (C : cC X D cA cc own Ts nL fr lo MC MS) {ws : va_W} {k n pc : Nat} {lv : List (Nat × Value)} {st : List Value} {aK aV : Nat} {index : Nat} {y : MethodName} {wy wy' : List Cond} {rm : Room} {bytes : ByteArray} {maxL : Nat} {As rest : List Value} {nA a : Nat} {e0 : va_E} {w1 : va_W → Prop} (V : cV X aK aV) (hM : gMX X.2.1 D cA aK aV y wy rm (.ref a :: As) [(a, e0)] w1) (hG : GoodIn Ts wy) (hw : wy = Cond.code y bytes maxL none :: wy') (hfr : rm.frames + 1 ≤ fr ∧ 8 + (maxL + 11) + rm.locals ≤ lo) (hst : st = As.reverse ++ .ref a :: rest) (hrest : (rest.map fun v => v.category).sum ≤ 8) (hn : As.length = nA) (hy1 : y.name = "<init>") (hini : Cond.initialized y.cls ∈ Ts) (hins : Cond.instanceMethod y ∈ Ts) (hdd : y.cls ≠ "java/lang/invoke/MethodHandle" ∧ y.cls ≠ "java/lang/invoke/VarHandle" ∧ (parseMethodDescriptor y.desc).map (fun d => d.parameters.length) = some nA) (hc : k + rm.cells ≤ MC ∧ n + rm.slots ≤ MS) (hd : decode cc pc = .ok (.invokespecial index, 3)) (hli : Cond.methodLink own index y ∈ Ts) (kk : ∀ u : va_W, w1 u → cG X D (ws ++ u) (k + rm.cells) (n + rm.slots) (pc + 3) lv rest) : cG X D (ws ++ [(a, e0)]) k n pc lv st := by
  obtain ⟨p, l, e, R, s, m, args, below, meth, c, A, Qt, nL'⟩ := X
  obtain ⟨hx, hb, hml, rfl, hown, hts, hK, hN, hO, hA, hR⟩ := C
  dsimp only at hM
  intro H locs ls hls hP hD hS
  have hFc := va_freeL hD hS hA
  subst hst
  refine va_callv (va_runI (As := As) (rest := rest) ⟨hx, hb, hml, hown, hts⟩ (hM H.size) (cwI nA hts hG hw rfl rfl (hts _ hini) (hts _ hli) (hts _ hins) hy1 hdd ⟨Nat.le_trans hfr.1 hR.1, Nat.le_trans hfr.2 hR.2.1⟩) ⟨fun a U g mk q => by obtain ⟨q0, q1, qP, qK, qD, qN, qO, qV, qW⟩ := q; exact ⟨q0, q1, qP, va_K.moved (u := U) (U := U.calling g mk a) (Vm.Alike.refl U.vm) qK, qD, gNs_same (s := U) (U := U.calling g mk a) rfl qN, gAo.moved (u := U) (U := U.calling g mk a) (Vm.Alike.refl U.vm) qO, vk_R.same (u := U) (U := U.calling g mk a) rfl qV, sW.moved (u := U) (U := U.calling g mk a) (Vm.Alike.refl U.vm) qW⟩, fun U hU hW => ⟨rfl, by rw [hU], by rw [hU]; exact va_right hP, va_K.moved hW.alike hK, va_rightD hD (fun _ _ => trivial), gNs_warm hW hN, gAo.moved hW.alike hO, vk_R.warm hW V.1, by rw [hU]; exact sW.moved hW.alike ((V.2.kept hS.2.1).narrow (fun q hq => hFc q hq))⟩⟩ rfl hn hls.1 rfl (lv_room hrest) hd ⟨Nat.le_trans hc.1 hR.2.2.1, Nat.le_trans hc.2 hR.2.2.2⟩) hS (fun q _ h => hFc q h) hFc (fun u t H1 locs1 ht hvm hw hB hz1 hk1 hS1 => ?_)
  obtain ⟨hP1, hD1⟩ := hB
  rw [ht] at hP1
  obtain ⟨hP2, hD2⟩ := va_joinL hP hD hk1 hFc hP1 hD1
  exact kk u hw H1 locs1 ls hls hP2 hD2 hS1
