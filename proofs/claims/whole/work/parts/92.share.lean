/-- the arrays of arrays of ty -/
def va_AOA (ty : FieldType) (U : State) : Prop := (Cond.arrayOver (.array ty)).before #[] U = true
theorem va_AOA.use {ty : FieldType} {A : Array Value} {U : State} (h : va_AOA ty U) : (Cond.arrayOver (.array ty)).before A U = true := h
/-! ===== BEGIN new T[n][m]: the outer array a place, the inner ones among the pooled ===== -/
/-- f, but v at every address of l -/
def vr_up {α : Type} (f : Nat → α) (l : List Nat) (v : α) : Nat → α := fun a => if a ∈ l then v else f a
theorem vr_up_in {α : Type} {f : Nat → α} {l : List Nat} {v : α} {a : Nat} (h : a ∈ l) : vr_up f l v a = v := if_pos h
theorem vr_up_ne {α : Type} {f : Nat → α} {l : List Nat} {v : α} {a : Nat} (h : a ∉ l) : vr_up f l v a = f a := if_neg h
theorem vr_rows {L l : List Nat} {f : Nat → va_E} {e : va_E} (h : ∀ a, a ∈ l → a ∉ L) : va_pl L f ++ l.map (fun a => (a, e)) = va_pl (L ++ l) (vr_up f l e) := by
  unfold va_pl
  rw [List.map_append]
  congr 1
  · apply List.map_congr_left
    intro a ha
    rw [vr_up_ne (fun q => h a q ha)]
  · apply List.map_congr_left
    intro a ha
    rw [vr_up_in ha]
theorem vr_lay {X rows : va_W} {x : Nat × va_E} {pl : va_W} {D : va_G} {cl : List vw_C} {H : Heap} (hP : va_P D cl (((X ++ pl) ++ [x]) ++ rows) H) : va_P D cl ((X ++ [x]) ++ (pl ++ rows)) H := by
  rw [List.append_assoc (X ++ pl)] at hP
  have h := va_P.swap hP
  rw [← List.append_assoc X] at h
  have h2 := va_P.swap h
  rw [List.append_assoc (X ++ [x])] at h2
  exact h2
theorem vr_layD {X rows : va_W} {x : Nat × va_E} {pl : va_W} {A : Nat → Prop} (hD : va_D A (((X ++ pl) ++ [x]) ++ rows)) : va_D A ((X ++ [x]) ++ (pl ++ rows)) := by
  rw [List.append_assoc (X ++ pl)] at hD
  have h := va_D.swap hD
  rw [← List.append_assoc X] at h
  have h2 := va_D.swap h
  rw [List.append_assoc (X ++ [x])] at h2
  exact h2
theorem vr_outer (c : ClassId) (N h0 : Nat) : ∀ i : Nat, Jvm.Free.Multi.outerC c N h0 i = arrV c N (fun j => va_rf (if j < i then some (h0 + 1 + j) else none))
  | 0 => by
    show ({ cls := c, slots := Array.replicate N .null, vm := .none } : Cell) = _
    rw [arrV_new]
    refine congrArg (arrV c N) (funext fun j => ?_)
    simp [va_rf]
  | i + 1 => by
    show (Jvm.Free.Multi.outerC c N h0 i).setSlot i (.ref (h0 + 1 + i)) = _
    rw [vr_outer c N h0 i, arrV_store]
    refine congrArg (arrV c N) (funext fun j => ?_)
    by_cases e : j = i
    · subst e
      simp [updV, va_rf]
    · by_cases h : j < i
      · simp [updV, e, h, Nat.lt_succ_of_lt h]
      · simp [updV, e, h, show ¬ j < i + 1 by omega]
section VGM
variable {p : Program} {l : Launch} {e : Env} {R : Room} {s : State} {m : MethodId} {args : Array Value} {below : List Frame} {meth : Method} {c : Code} {H : Heap} {locs : List Loc} {cells slots : Nat} {Q : State → Prop}
variable {cc : ByteArray} {pc : Nat} {ls : Array Slot} {rest : List Value} {D : va_G} {cl : List vw_C} {A : Nat → Prop} {a : Nat} {tys : List (ClassId × FieldType)} {ws : va_W} {H0 : Heap}
theorem va_mna {X : va_W} {L : List Nat} {f : Nat → va_E} {cc : ByteArray} (hexec : p.tables.exec = Jvm.exec) (hb : c.code = cc) {own : String} {index : Nat} {ty : FieldType} {cy : ClassId} (hown : s.vm.findClass own = some m.cls) (hclink : (Cond.classLink own index ("[" ++ (FieldType.array ty).toString)).before args s = true) (hover : va_AOA ty s) (harr : (Cond.arrayClass ty).before args s = true) (hcy : s.vm.findClass (FieldType.array ty).toString = some cy)
    (hK : va_K D cl tys s) (hP : va_P D cl (X ++ va_pl L f) H) (hD : va_D A (X ++ va_pl L f)) (hS : va_S A H0 H locs) (hA : ∀ q, H0.size ≤ q → A q) {n k : Int32} {N' K' : Nat} {z : vp_A} (hn : ¬ n < 0) (hk : ¬ k < 0) (hN : n.toNatClampNeg = N') (hM : k.toNatClampNeg = K')
    (hb1 : N' * 4 ≤ 536870912) (hb2 : K' * componentBytes ty ≤ 536870912) (hb3 : K' ≤ 536870912) (hdf : fits ty (defaultValue ty) = true) (hdd : (defaultValue ty).isDefault = true) (hcells : cells + (1 + N') ≤ R.cells) (hslots : slots + (N' + N' * K') ≤ R.slots) (hz : ∀ c : ClassId, Jvm.Free.Multi.innerC c K' (defaultValue ty) = vp_cell c z) (hdg : decode cc pc = .ok (.multianewarray index 2, 4))
    (kk : ∀ (q : Nat) (r : Nat → Nat) (cA : ClassId) (H1 : Heap), (∀ i j : Nat, i < N' → j < N' → r i = r j → i = j) → (∀ i : Nat, i < N' → r i ∉ L) → va_K D cl (tys ++ [(cA, .array ty)]) s →
      va_P D cl ((X ++ [(q, .inl (cA, N', .inr (.inr (.inr (.inr (fun i => if i < N' then some (r i) else none))))))]) ++ va_pl (L ++ (List.range N').map r) (vr_up f ((List.range N').map r) (.inl (cy, z)))) H1 → va_D A ((X ++ [(q, .inl (cA, N', .inr (.inr (.inr (.inr (fun i => if i < N' then some (r i) else none))))))]) ++ va_pl (L ++ (List.range N').map r) (vr_up f ((List.range N').map r) (.inl (cy, z)))) → va_S A H0 H1 locs →
      W p l e R s m args below meth c H1 locs (cells + 1 + N') (slots + N' + N' * K') Q (F0 m (pc + 4) ls (.ref q :: rest))) : W p l e R s m args below meth c H locs cells slots Q (F0 m pc ls (.int k :: .int n :: rest)) := by
  subst hN
  subst hM
  intro T hT Xs
  obtain ⟨vm₁, cA, comp, -, fA, fC, hO, -, X', step⟩ := Xs.multianewarray2F hexec hown hclink (va_AOA.use hover) harr (g := F0 m pc ls (.int k :: .int n :: rest)) rfl (by rw [hb]; exact hdg) rfl hn hk hb1 hb2 hb3 hdf hdd hcells hslots
  have ec : some cy = some comp := hcy.symm.trans fC
  cases ec
  generalize hF : Jvm.Free.Multi.fill (T.setVm vm₁) cA cy n.toNatClampNeg k.toNatClampNeg (defaultValue ty) n.toNatClampNeg = F at X' step
  have hTh : (T.setVm vm₁).heap = H := hT
  obtain ⟨f1, f2, -, -⟩ := Jvm.Free.Multi.fill_facts (T.setVm vm₁) cA cy n.toNatClampNeg k.toNatClampNeg (defaultValue ty) n.toNatClampNeg
  rw [hF, hTh] at f1 f2
  have hold : ∀ x : Nat, x < H.size → F.heap[x]? = H[x]? := fun x hx => by
    have := Jvm.Free.Multi.fill_old (T.setVm vm₁) cA cy n.toNatClampNeg k.toNatClampNeg (defaultValue ty) (a := x) (by rw [hTh]; exact hx) n.toNatClampNeg
    rw [hF, hTh] at this
    exact this
  have hrow : ∀ j : Nat, j < n.toNatClampNeg → F.heap[H.size + 1 + j]? = some (vp_cell cy z) := fun j hj => by
    have := Jvm.Free.Multi.fill_inner (T.setVm vm₁) cA cy n.toNatClampNeg k.toNatClampNeg (defaultValue ty) n.toNatClampNeg j hj
    rw [hF, hTh, hz] at this
    exact this
  have hout : Jvm.Free.Multi.outerC cA n.toNatClampNeg H.size n.toNatClampNeg = vp_cell cA (n.toNatClampNeg, .inr (.inr (.inr (.inr (fun i => if i < n.toNatClampNeg then some (H.size + 1 + i) else none))))) := by
    rw [vp_cell_q]
    exact vr_outer cA n.toNatClampNeg H.size n.toNatClampNeg
  rw [hout] at f2
  have hlt : ∀ a, a ∈ L → a < H.size := fun a ha => by
    obtain ⟨k9, hk9⟩ := va_pl_get (X := X) (f := f) ha
    exact (hP k9 _ hk9).lt
  have hnl : ∀ i : Nat, i < n.toNatClampNeg → H.size + 1 + i ∉ L := fun i _ h => by
    have := hlt _ h
    omega
  have hnm : ∀ a, a ∈ (List.range n.toNatClampNeg).map (fun i => H.size + 1 + i) → a ∉ L := fun a ha h => by
    obtain ⟨i, -, rfl⟩ := List.mem_map.mp ha
    have := hlt _ h
    omega
  have hP0 : va_P D cl (X ++ va_pl L f) F.heap := hP.kept (fun k9 x hx => hold x.1 ((hP k9 x hx).lt))
  have hP1 : va_P D cl ((X ++ va_pl L f) ++ [(H.size, .inl (cA, n.toNatClampNeg, .inr (.inr (.inr (.inr (fun i => if i < n.toNatClampNeg then some (H.size + 1 + i) else none))))))]) F.heap := hP0.app (fun k9 x hx => by
    have h0 : k9 < 1 := (List.getElem?_eq_some_iff.mp hx).1
    rw [show k9 = 0 by omega] at hx
    cases hx
    exact f2)
  have hP2 : va_P D cl (((X ++ va_pl L f) ++ [(H.size, .inl (cA, n.toNatClampNeg, .inr (.inr (.inr (.inr (fun i => if i < n.toNatClampNeg then some (H.size + 1 + i) else none))))))]) ++ ((List.range n.toNatClampNeg).map (fun i => H.size + 1 + i)).map (fun a => (a, .inl (cy, z)))) F.heap := hP1.app (fun k9 x hx => by
    obtain ⟨a, ha, rfl⟩ := List.mem_map.mp (List.mem_of_getElem? hx)
    obtain ⟨i, hi, rfl⟩ := List.mem_map.mp ha
    exact hrow i (List.mem_range.mp hi))
  have hD2 : va_D A (((X ++ va_pl L f) ++ [(H.size, .inl (cA, n.toNatClampNeg, .inr (.inr (.inr (.inr (fun i => if i < n.toNatClampNeg then some (H.size + 1 + i) else none))))))]) ++ ((List.range n.toNatClampNeg).map (fun i => H.size + 1 + i)).map (fun a => (a, .inl (cy, z)))) := by
    have hD1 := hD.push (e := .inl (cA, n.toNatClampNeg, .inr (.inr (.inr (.inr (fun i => if i < n.toNatClampNeg then some (H.size + 1 + i) else none)))))) hP rfl (hA _ hS.1)
    generalize hW1 : (X ++ va_pl L f) ++ [(H.size, .inl (cA, n.toNatClampNeg, .inr (.inr (.inr (.inr (fun i => if i < n.toNatClampNeg then some (H.size + 1 + i) else none))))))] = W1 at hD1 hP1 ⊢
    have hle : ∀ (k9 : Nat) (x : Nat × va_E), W1[k9]? = some x → x.1 ≤ H.size := fun k9 x hx => by
      rw [← hW1] at hx
      by_cases hl : k9 < (X ++ va_pl L f).length
      · rw [List.getElem?_append_left hl] at hx
        exact Nat.le_of_lt ((hP k9 x hx).lt)
      · rw [List.getElem?_append_right (by omega)] at hx
        have h0 : k9 - (X ++ va_pl L f).length < 1 := (List.getElem?_eq_some_iff.mp hx).1
        rw [show k9 - (X ++ va_pl L f).length = 0 by omega] at hx
        cases hx
        exact Nat.le_refl _
    have hr : ∀ (k9 : Nat) (x : Nat × va_E), (((List.range n.toNatClampNeg).map (fun i => H.size + 1 + i)).map (fun a => ((a, .inl (cy, z)) : Nat × va_E)))[k9]? = some x → x.1 = H.size + 1 + k9 := fun k9 x hx => by
      rw [List.getElem?_map, List.getElem?_map] at hx
      by_cases h9 : k9 < n.toNatClampNeg
      · rw [List.getElem?_range h9] at hx
        cases hx
        rfl
      · have hn0 : (List.range n.toNatClampNeg)[k9]? = none := List.getElem?_eq_none (by rw [List.length_range]; omega)
        rw [hn0] at hx
        cases hx
    refine ⟨fun i j x y hi hj hxy => ?_, fun k9 x hx => ?_⟩
    · by_cases h1 : i < W1.length <;> by_cases h2 : j < W1.length
      · rw [List.getElem?_append_left h1] at hi
        rw [List.getElem?_append_left h2] at hj
        exact hD1.1 i j x y hi hj hxy
      · rw [List.getElem?_append_left h1] at hi
        rw [List.getElem?_append_right (by omega)] at hj
        have := hle _ _ hi
        have := hr _ _ hj
        omega
      · rw [List.getElem?_append_right (by omega)] at hi
        rw [List.getElem?_append_left h2] at hj
        have := hle _ _ hj
        have := hr _ _ hi
        omega
      · rw [List.getElem?_append_right (by omega)] at hi hj
        have := hr _ _ hi
        have := hr _ _ hj
        omega
    · by_cases h1 : k9 < W1.length
      · rw [List.getElem?_append_left h1] at hx
        exact hD1.2 k9 x hx
      · rw [List.getElem?_append_right (by omega)] at hx
        have := hr _ _ hx
        exact hA _ (by have := hS.1; omega)
  have hAr : ArrOfT s cA (.array ty) := fun N9 z9 => by
    obtain ⟨-, k9, hk9, cm9, hkk9⟩ := (hO 0 0 0).1
    exact ⟨(fun q hq => by cases hq), k9, hk9, cm9, hkk9⟩
  have hK2 : va_K D cl (tys ++ [(cA, .array ty)]) s := ⟨hK.1, fun k9 x hx => by
    by_cases hl : k9 < tys.length
    · rw [List.getElem?_append_left hl] at hx
      exact hK.2 k9 x hx
    · rw [List.getElem?_append_right (by omega)] at hx
      have h0 : k9 - tys.length < 1 := (List.getElem?_eq_some_iff.mp hx).1
      rw [show k9 - tys.length = 0 by omega] at hx
      cases hx
      exact ⟨hAr, fA⟩⟩
  obtain ⟨t, a1, b1⟩ := kk H.size (fun i => H.size + 1 + i) cA F.heap (fun i j _ _ h => by have h9 : H.size + 1 + i = H.size + 1 + j := h; omega) hnl hK2 (by rw [← vr_rows hnm]; exact vr_lay hP2) (by rw [← vr_rows hnm]; exact vr_layD hD2) ⟨by rw [f1]; have := hS.1; omega, fun x h1 h2 => (hold x (Nat.lt_of_lt_of_le h1 hS.1)).trans (hS.2.1 x h1 h2), hS.2.2⟩ F rfl X'
  refine ⟨t, step t ?_, b1⟩
  have e : T.heap.size = H.size := by rw [hT]
  rw [e]
  exact a1
end VGM
/-! ===== END ===== -/
/-! ===== the constructor with arrays of arrays ===== -/
def shSh : List Sh := [.inr (.inl (6, [some 1000, some 1001, some 1, some 5, some 15, some 25, none])), .inr (.inl (9, [some 2, some 3, some 4, none, none])), .inl (0, 9), .inl (0, 9), .inl (0, 8), .inr (.inr (3, 9, 6, 1)), .inl (0, 10), .inl (0, 10), .inl (0, 10), .inl (0, 10), .inl (0, 10), .inl (0, 10), .inl (0, 10), .inl (0, 10), .inl (0, 10), .inr (.inr (3, 9, 16, 1)), .inl (0, 100), .inl (0, 100), .inl (0, 100), .inl (0, 100), .inl (0, 100), .inl (0, 100), .inl (0, 100), .inl (0, 100), .inl (0, 100), .inl (0, 9)]
def mnF (r : Nat → Nat) (N : Nat) : Nat → Option Nat := fun i => if i < N then some (r i) else none
def mnR (cA : Nat → ClassId) (K : Nat) (r : Nat → Nat) (N : Nat) : va_W := ((List.range N).map r).map (fun a => (a, .inl (cA 0, K, .inl (fun _ => 0))))
theorem cr_mna {X : CX} {D : va_G} {cA : Nat → ClassId} {cc : ByteArray} {own : String} {Ts : List Cond} {nL fr lo MC MS : Nat} (C : cC X D cA cc own Ts nL fr lo MC MS) {ws : va_W} {k n pc : Nat} {lv : List (Nat × Value)} {st : List Value} {a b : Int32} (N K : Nat) {index : Nat} (hd : decode cc pc = .ok (.multianewarray index 2, 4)) (hcl : Cond.classLink own index "[[I" ∈ Ts) (har : Cond.arrayClass .int ∈ Ts) (hn : ¬ a < 0) (hk : ¬ b < 0) (hNn : a.toNatClampNeg = N) (hKn : b.toNatClampNeg = K) (h1 : N * 4 ≤ 536870912) (h2 : K * 4 ≤ 536870912) (hc : k + (1 + N) ≤ MC) (hs : n + (N + N * K) ≤ MS) (kk : ∀ (q : Nat) (r : Nat → Nat), cG X D ((ws ++ [(q, .inl (cA 3, N, .inr (.inr (.inr (.inr (mnF r N))))))]) ++ mnR cA K r N) (k + 1 + N) (n + N + N * K) (pc + 4) lv (.ref q :: st)) : cG X D ws k n pc lv (.int b :: .int a :: st) := by
  obtain ⟨p, l, e, R, s, m, args, below, meth, c, A, Qt, nL'⟩ := X
  obtain ⟨hx, hb, hml, rfl, hown, hts, hK, hN, hO, hA, hR⟩ := C
  intro H locs ls hls hP hD hS
  have hcy : s.vm.findClass (FieldType.array .int).toString = some (cA 0) := (hK.2 0 _ (gTy_at cA 0 (by decide))).2
  have ee : "[" ++ (FieldType.array .int).toString = "[[I" := by decide +kernel
  refine va_mna (X := ws) (L := []) (f := fun _ => .inl (cA 0, 0, .inl (fun _ => 0))) (ty := .int) (cy := cA 0) (N' := N) (K' := K) (z := (K, .inl (fun _ => 0))) hx hb hown (by rw [ee]; exact hts _ hcl) hO.2 (hts _ har) hcy hK (by show va_P D vwCl (ws ++ []) H; rw [List.append_nil]; exact hP) (by show va_D A (ws ++ []); rw [List.append_nil]; exact hD) hS hA hn hk hNn hKn h1 h2 (by omega) rfl rfl (Nat.le_trans hc hR.2.2.1) (Nat.le_trans hs hR.2.2.2) (fun c => ?_) hd (fun q r cB H1 hr1 hr2 hK1 hP1 hD1 hS1 => ?_)
  · show _ = arrV c K (fun _ => Value.int 0)
    rw [← arrV_new]
    rfl
  · have e : cB = cA 3 := by
      have h1 := (hK1.2 4 (cB, .array .int) rfl).2
      have h2 := (hK.2 3 _ (gTy_at cA 3 (by decide))).2
      exact Option.some.inj (h1.symm.trans h2)
    subst e
    rw [← vr_rows (fun a _ h => by cases h)] at hP1 hD1
    exact kk q r H1 locs ls hls hP1 hD1 hS1
def shA (ad r1 r2 : Nat → Nat) (h0 pl dy q1 q2 q3 : Nat) : Nat → Nat := fun k => if k = 1000 then pl else if k = 1001 then dy else if k = 0 then h0 else if k < 5 then ad (k - 1) else if k = 5 then q1 else if k < 15 then r1 (k - 6) else if k = 15 then q2 else if k < 25 then r2 (k - 16) else q3
set_option maxHeartbeats 2000000 in
theorem sh_eq (cA : Nat → ClassId) (ad r1 r2 : Nat → Nat) (h0 pl dy q1 q2 q3 : Nat) : eqW ((h0, .inr (6, [.ref pl, .ref dy, .ref (ad 0), .ref q1, .ref q2, .ref q3, .int 0])) :: (((((gL cA ad z0 0 shSg ++ [(q1, .inl (cA 3, 9, .inr (.inr (.inr (.inr (mnF r1 9))))))]) ++ mnR cA 10 r1 9) ++ [(q2, .inl (cA 3, 9, .inr (.inr (.inr (.inr (mnF r2 9))))))]) ++ mnR cA 100 r2 9) ++ [(q3, .inl (cA 0, 9, .inl (fun _ => 0)))])) (gL cA (shA ad r1 r2 h0 pl dy q1 q2 q3) z0 0 shSh) := by
  have f1 : eqE (.inl (cA 3, 9, .inr (.inr (.inr (.inr (mnF r1 9)))))) (.inl (cA 3, 9, .inr (.inr (.inr (.inr (fun i => some (shA ad r1 r2 h0 pl dy q1 q2 q3 (6 + 1 * i)))))))) := Or.inr ⟨cA 3, 9, _, _, rfl, rfl, fun i hi => by
    unfold mnF shA
    rw [if_pos hi, if_neg (by omega), if_neg (by omega), if_neg (by omega), if_neg (by omega), if_neg (by omega), if_pos (by omega), show 6 + 1 * i - 6 = i by omega]⟩
  have f2 : eqE (.inl (cA 3, 9, .inr (.inr (.inr (.inr (mnF r2 9)))))) (.inl (cA 3, 9, .inr (.inr (.inr (.inr (fun i => some (shA ad r1 r2 h0 pl dy q1 q2 q3 (16 + 1 * i)))))))) := Or.inr ⟨cA 3, 9, _, _, rfl, rfl, fun i hi => by
    unfold mnF shA
    rw [if_pos hi, if_neg (by omega), if_neg (by omega), if_neg (by omega), if_neg (by omega), if_neg (by omega), if_neg (by omega), if_neg (by omega), if_pos (by omega), show 16 + 1 * i - 16 = i by omega]⟩
  have w1 : eqW [(q1, .inl (cA 3, 9, .inr (.inr (.inr (.inr (mnF r1 9))))))] [(q1, .inl (cA 3, 9, .inr (.inr (.inr (.inr (fun i => some (shA ad r1 r2 h0 pl dy q1 q2 q3 (6 + 1 * i))))))))] := ⟨rfl, f1, trivial⟩
  have w2 : eqW [(q2, .inl (cA 3, 9, .inr (.inr (.inr (.inr (mnF r2 9))))))] [(q2, .inl (cA 3, 9, .inr (.inr (.inr (.inr (fun i => some (shA ad r1 r2 h0 pl dy q1 q2 q3 (16 + 1 * i))))))))] := ⟨rfl, f2, trivial⟩
  have w := eqW_app (eqW_app (eqW_app (eqW_app (eqW_app (eqW_app (eqW_rf (l := [(h0, .inr (6, [.ref pl, .ref dy, .ref (ad 0), .ref q1, .ref q2, .ref q3, .int 0]))])) (eqW_rf (l := gL cA ad z0 0 shSg))) w1) (eqW_rf (l := mnR cA 10 r1 9))) w2) (eqW_rf (l := mnR cA 100 r2 9))) (eqW_rf (l := [(q3, .inl (cA 0, 9, .inl (fun _ => 0)))]))
  exact w
set_option maxHeartbeats 2000000 in
theorem kSharing (l : Launch) (D : va_G) (cA : Nat → ClassId) (h0 pl dy : Nat) : gMN l D cA yX6_init wsX6_init ({ frames := 2, cells := 25, slots := 1048, locals := 32 } : Room) [.ref h0, .ref pl, .ref dy] [(h0, .inr (6, [.null, .null, .null, .null, .null, .null, .int 0]))] (bW D cA shSh h0 pl dy) := by
  have inX : ∀ v ∈ u_ws RX6 TX6 7, v ∈ wsX6_init := by decide +kernel
  have inX9 : ∀ v ∈ u_ws RX9 TX9 5, v ∈ wsX6_init := by decide +kernel
  have arI : Cond.arrayClass (newarray.typeOf .int) ∈ wsX6_init := by decide +kernel
  have cl18 : Cond.classLink RX6 18 "[[I" ∈ wsX6_init := by decide +kernel
  have ln12 : Cond.fieldLink RX6 12 (TX6 2).1 (TX6 2).2.1 (TX6 2).2.2.1 ∈ wsX6_init := by decide +kernel
  have ln20 : Cond.fieldLink RX6 20 (TX6 3).1 (TX6 3).2.1 (TX6 3).2.2.1 ∈ wsX6_init := by decide +kernel
  have ln23 : Cond.fieldLink RX6 23 (TX6 4).1 (TX6 4).2.1 (TX6 4).2.2.1 ∈ wsX6_init := by decide +kernel
  have ln26 : Cond.fieldLink RX6 26 (TX6 5).1 (TX6 5).2.1 (TX6 5).2.2.1 ∈ wsX6_init := by decide +kernel
  have ln30 : Cond.fieldLink RX6 30 (TX6 0).1 (TX6 0).2.1 (TX6 0).2.2.1 ∈ wsX6_init := by decide +kernel
  have ln34 : Cond.fieldLink RX6 34 (TX6 1).1 (TX6 1).2.1 (TX6 1).2.2.1 ∈ wsX6_init := by decide +kernel
  refine cStart cX6_init 3 RX6 rfl (by decide) rfl rfl (Nat.le_of_ble_eq_true rfl) ?_
  intro X hl C I E
  show cG X D [(h0, .inr (6, [.null, .null, .null, .null, .null, .null, .int 0]))] 0 0 0 [(0, .ref h0), (1, .ref pl), (2, .ref dy)] []
  refine cr_aload_n C 0 dX6_init_0 rfl rfl ?_
  refine cr_objInit C dX6_init_1 (by decide +kernel) (by decide +kernel) (by decide +kernel) (by decide) (by decide) ?_
  refine cr_aload_n C 0 dX6_init_4 rfl rfl ?_
  refine cr_new C 9 5 [.null, .null, .null, .int 0, .int 0] rfl inX9 tyX9 tyX9_ok (by decide +kernel) (by decide +kernel) (by decide +kernel) (fun j hj => by rcases (show j = 0 ∨ j = 1 ∨ j = 2 ∨ j = 3 ∨ j = 4 by omega) with rfl | rfl | rfl | rfl | rfl <;> rfl) (by decide) (by decide) dX6_init_5 ?_
  intro s
  refine cr_dup C dX6_init_8 rfl ?_
  refine cr_initN C (host := "YoungerMilk") (As := []) (rest := [.ref s, .ref h0]) (kStanding X.2.1 D cA s) gX6_init_X9_init_n11 rfl (by decide) rfl (Nat.le_of_ble_eq_true rfl) rfl rfl (by decide +kernel) (by decide +kernel) (by decide +kernel) (by decide) dX6_init_9 (by decide +kernel) ?_
  intro u hu
  obtain ⟨ad, a0, -, -, rfl⟩ := hu
  subst a0
  refine cr_putF C I 2 (fs' := [.null, .null, .ref (ad 0), .null, .null, .null, .int 0]) rfl rfl inX (by decide) ln12 tyX6 tyX6_ok nmX6 rfl rfl (.object "YoungerMilk$Standing") rfl rfl rfl (Nat.le_of_ble_eq_true rfl) rfl dX6_init_12 ?_
  refine cr_aload_n C 0 dX6_init_15 rfl rfl ?_
  refine cr_bipush C (v := 9) dX6_init_16 (by decide) ?_
  refine cr_bipush C (v := 10) dX6_init_18 (by decide) ?_
  refine cr_mna C 9 10 dX6_init_20 cl18 arI (by decide) (by decide) rfl rfl (Nat.le_of_ble_eq_true rfl) (Nat.le_of_ble_eq_true rfl) (Nat.le_of_ble_eq_true rfl) (Nat.le_of_ble_eq_true rfl) ?_
  intro q1 r1
  refine cr_putF C I 3 (fs' := [.null, .null, .ref (ad 0), .ref q1, .null, .null, .int 0]) rfl rfl inX (by decide) ln20 tyX6 tyX6_ok nmX6 rfl rfl (.array (.array .int)) rfl rfl rfl (Nat.le_of_ble_eq_true rfl) rfl dX6_init_24 ?_
  refine cr_aload_n C 0 dX6_init_27 rfl rfl ?_
  refine cr_bipush C (v := 9) dX6_init_28 (by decide) ?_
  refine cr_bipush C (v := 100) dX6_init_30 (by decide) ?_
  refine cr_mna C 9 100 dX6_init_32 cl18 arI (by decide) (by decide) rfl rfl (Nat.le_of_ble_eq_true rfl) (Nat.le_of_ble_eq_true rfl) (Nat.le_of_ble_eq_true rfl) (Nat.le_of_ble_eq_true rfl) ?_
  intro q2 r2
  refine cr_putF C I 4 (fs' := [.null, .null, .ref (ad 0), .ref q1, .ref q2, .null, .int 0]) rfl rfl inX (by decide) ln23 tyX6 tyX6_ok nmX6 rfl rfl (.array (.array .int)) rfl rfl rfl (Nat.le_of_ble_eq_true rfl) rfl dX6_init_36 ?_
  refine cr_aload_n C 0 dX6_init_39 rfl rfl ?_
  refine cr_bipush C (v := 9) dX6_init_40 (by decide) ?_
  refine cr_newa C 0 (by decide) 9 dX6_init_42 rfl arI (by decide) rfl (Nat.le_of_ble_eq_true rfl) (Nat.le_of_ble_eq_true rfl) (Nat.le_of_ble_eq_true rfl) ?_
  intro q3
  refine cr_putF C I 5 (fs' := [.null, .null, .ref (ad 0), .ref q1, .ref q2, .ref q3, .int 0]) rfl rfl inX (by decide) ln26 tyX6 tyX6_ok nmX6 rfl rfl (.array .int) rfl rfl rfl (Nat.le_of_ble_eq_true rfl) rfl dX6_init_44 ?_
  refine cr_aload_n C 0 dX6_init_47 rfl rfl ?_
  refine cr_aload_n C 1 dX6_init_48 rfl rfl ?_
  refine cr_putF C I 0 (fs' := [.ref pl, .null, .ref (ad 0), .ref q1, .ref q2, .ref q3, .int 0]) rfl rfl inX (by decide) ln30 tyX6 tyX6_ok nmX6 rfl rfl (.object "YoungerMilk$Plan") rfl rfl rfl (Nat.le_of_ble_eq_true rfl) rfl dX6_init_49 ?_
  refine cr_aload_n C 0 dX6_init_52 rfl rfl ?_
  refine cr_aload_n C 2 dX6_init_53 rfl rfl ?_
  refine cr_putF C I 1 (fs' := [.ref pl, .ref dy, .ref (ad 0), .ref q1, .ref q2, .ref q3, .int 0]) rfl rfl inX (by decide) ln34 tyX6 tyX6_ok nmX6 rfl rfl (.object "YoungerMilk$Day") rfl rfl rfl (Nat.le_of_ble_eq_true rfl) rfl dX6_init_54 ?_
  refine cr_eqW (sh_eq cA ad r1 r2 h0 pl dy q1 q2 q3) ?_
  exact E _ _ _ _ _ (Nat.le_of_ble_eq_true rfl) (Nat.le_of_ble_eq_true rfl) ⟨shA ad r1 r2 h0 pl dy q1 q2 q3, rfl, rfl, rfl, rfl⟩ dX6_init_57
