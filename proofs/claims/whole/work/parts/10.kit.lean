abbrev vwCl : List vw_C := [(RX0, TX0, 2), (RX1, TX1, 3), (RX2, TX2, 2), (RX3, TX3, 13), (RX4, TX4, 3), (RX5, TX5, 3), (RX6, TX6, 7), (RX7, TX7, 3), (RX8, TX8, 4), (RX9, TX9, 5), (RX10, TX10, 12), (RX11, TX11, 32)]
/-- contents of the cells: cell, place -/
abbrev Sg : Type := Nat → Nat → Int32
/-- what a cell is: an array of numbers (type, length); an object (class, fields: none a number, some q the cell q); an array of cells (type, length, first, step) -/
abbrev Sh : Type := (Nat × Nat) ⊕ ((Nat × List (Option Nat)) ⊕ (Nat × Nat × Nat × Nat))
abbrev Wl : Type := va_G × (Nat → ClassId) × (Nat → Nat) × List Sh
def gVal (ad : Nat → Nat) (f : Nat → Int32) (j : Nat) (o : Option Nat) : Value := match o with
  | none => .int (f j)
  | some q => .ref (ad q)
def gFld (ad : Nat → Nat) (f : Nat → Int32) (fs : List (Option Nat)) : List Value := fs.mapIdx (fun j o => gVal ad f j o)
def gCell (cA : Nat → ClassId) (ad : Nat → Nat) (f : Nat → Int32) (sh : Sh) : va_E := match sh with
  | .inl (t, n) => .inl (cA t, n, .inl f)
  | .inr (.inl (ci, fs)) => .inr (ci, gFld ad f fs)
  | .inr (.inr (t, n, b, k)) => .inl (cA t, n, .inr (.inr (.inr (.inr (fun i => some (ad (b + k * i)))))))
def gWs (w : Wl) (σ : Sg) : va_W := w.2.2.2.mapIdx (fun k sh => (w.2.2.1 k, gCell w.2.1 w.2.2.1 (σ k) sh))
def gTy (cA : Nat → ClassId) : List (ClassId × FieldType) := [(cA 0, .int), (cA 1, .byte), (cA 2, .object "YoungerMilk$Standing"), (cA 3, .array .int)]
def gTt (t : Nat) : FieldType := if t = 0 then .int else if t = 1 then .byte else if t = 2 then .object "YoungerMilk$Standing" else .array .int
def gUp (σ : Sg) (k j : Nat) (v : Int32) : Sg := fun k' => if k' = k then upd (σ k) j v else σ k'
theorem gWs_get (w : Wl) (σ : Sg) (k : Nat) {sh : Sh} (h : w.2.2.2[k]? = some sh) : (gWs w σ)[k]? = some (w.2.2.1 k, gCell w.2.1 w.2.2.1 (σ k) sh) := by
  simp [gWs, List.getElem?_mapIdx, h]
theorem gWs_inv {w : Wl} {σ : Sg} {k : Nat} {q : Nat × va_E} (h : (gWs w σ)[k]? = some q) : ∃ sh, w.2.2.2[k]? = some sh ∧ q = (w.2.2.1 k, gCell w.2.1 w.2.2.1 (σ k) sh) := by
  simp only [gWs, List.getElem?_mapIdx, Option.map_eq_some_iff] at h
  obtain ⟨sh, h1, h2⟩ := h
  exact ⟨sh, h1, h2.symm⟩
theorem gWs_set {w : Wl} {σ : Sg} {k : Nat} {sh : Sh} {f : Nat → Int32} (h : w.2.2.2[k]? = some sh) : (gWs w σ).set k (w.2.2.1 k, gCell w.2.1 w.2.2.1 f sh) = gWs w (fun k' => if k' = k then f else σ k') := by
  apply List.ext_getElem?
  intro i
  have hl : k < (gWs w σ).length := (List.getElem?_eq_some_iff.mp (gWs_get w σ k h)).1
  by_cases hi : i = k
  · subst hi
    rw [List.getElem?_set_self hl, gWs_get w _ i h, if_pos rfl]
  · rw [List.getElem?_set_ne (Ne.symm hi)]
    simp [gWs, List.getElem?_mapIdx, hi]
theorem gFld_get {ad : Nat → Nat} {f : Nat → Int32} {fs : List (Option Nat)} {j : Nat} {o : Option Nat} (h : fs[j]? = some o) : (gFld ad f fs)[j]? = some (gVal ad f j o) := by
  simp [gFld, List.getElem?_mapIdx, h]
theorem gFld_len {ad : Nat → Nat} {f : Nat → Int32} {fs : List (Option Nat)} : (gFld ad f fs).length = fs.length := by simp [gFld]
theorem gFld_set {ad : Nat → Nat} {f : Nat → Int32} {fs : List (Option Nat)} {j : Nat} {v : Int32} (h : fs[j]? = some none) : (gFld ad f fs).set j (.int v) = gFld ad (upd f j v) fs := by
  apply List.ext_getElem?
  intro i
  have hl : j < (gFld ad f fs).length := by rw [gFld_len]; exact (List.getElem?_eq_some_iff.mp h).1
  by_cases hi : i = j
  · subst hi
    rw [List.getElem?_set_self hl, gFld_get h]
    simp [gVal, upd]
  · rw [List.getElem?_set_ne (Ne.symm hi)]
    simp only [gFld, List.getElem?_mapIdx]
    cases fs[i]? with
    | none => rfl
    | some o => cases o <;> simp [gVal, upd, hi]
theorem gTy_at (cA : Nat → ClassId) (t : Nat) (h : t < 4) : (gTy cA)[t]? = some (cA t, gTt t) := by
  match t, h with
  | 0, _ => rfl
  | 1, _ => rfl
  | 2, _ => rfl
  | 3, _ => rfl
def gNest : List (String × Nat × MethodName × String) := [("YoungerMilk", 18, ⟨"YoungerMilk$Plan", "<init>", "()V"⟩, "YoungerMilk"), ("YoungerMilk", 28, ⟨"YoungerMilk$Standing", "<init>", "()V"⟩, "YoungerMilk"), ("YoungerMilk", 56, ⟨"YoungerMilk$Seen", "<init>", "()V"⟩, "YoungerMilk"), ("YoungerMilk", 86, ⟨"YoungerMilk$Cart", "<init>", "()V"⟩, "YoungerMilk"), ("YoungerMilk", 9, ⟨"YoungerMilk$Reader", "<init>", "()V"⟩, "YoungerMilk"), ("YoungerMilk$Comes", 11, ⟨"YoungerMilk$Standing", "<init>", "()V"⟩, "YoungerMilk"), ("YoungerMilk$Comes", 94, ⟨"YoungerMilk", "modulo", "(II)I"⟩, "YoungerMilk"), ("YoungerMilk$Day", 46, ⟨"YoungerMilk", "has", "(II)Z"⟩, "YoungerMilk"), ("YoungerMilk$Plan", 67, ⟨"YoungerMilk", "outside", "(III)Z"⟩, "YoungerMilk"), ("YoungerMilk$Sharing", 11, ⟨"YoungerMilk$Standing", "<init>", "()V"⟩, "YoungerMilk"), ("YoungerMilk$Shelf", 15, ⟨"YoungerMilk$Standing", "<init>", "()V"⟩, "YoungerMilk"), ("YoungerMilk$Snowing", 29, ⟨"YoungerMilk$Standing", "<init>", "()V"⟩, "YoungerMilk"), ("YoungerMilk$Snowing", 43, ⟨"YoungerMilk", "has", "(II)Z"⟩, "YoungerMilk"), ("YoungerMilk$Standing", 36, ⟨"YoungerMilk", "has", "(II)Z"⟩, "YoungerMilk")]
def gNs (U : State) : Prop := ∀ q ∈ gNest, va_Nw (.methodLinkNest q.1 q.2.1 q.2.2.1 q.2.2.2) U
theorem gNs_warm {s U : State} (hW : s.WarmedH U.vm) (h : gNs s) : gNs U := fun q hq => va_Nw.warmM hW (h q hq)
theorem gNs_same {s U : State} (hv : s.vm = U.vm) (h : gNs s) : gNs U := fun q hq => va_Nw.same rfl hv (h q hq)
/-- the world of a state: every cell, in its place -/
def gWd (w : Wl) (σ : Sg) (U : State) : Prop := va_P w.1 vwCl (gWs w σ) U.heap ∧ va_K w.1 vwCl (gTy w.2.1) U ∧ va_D (fun _ => True) (gWs w σ) ∧ gNs U
def gA (w : Wl) (sz : Nat) : Nat → Prop := fun q => (∃ k : Nat, k < w.2.2.2.length ∧ q = w.2.2.1 k) ∨ sz ≤ q
theorem gWs_apart {w : Wl} {σ σ' : Sg} {A B : Nat → Prop} (h : va_D A (gWs w σ)) (hB : ∀ k : Nat, k < w.2.2.2.length → B (w.2.2.1 k)) : va_D B (gWs w σ') := by
  refine ⟨fun i j p q hi hj hpq => ?_, fun k q hk => ?_⟩
  · obtain ⟨sh, a1, rfl⟩ := gWs_inv hi
    obtain ⟨sh2, a2, rfl⟩ := gWs_inv hj
    exact h.1 i j _ _ (gWs_get w σ i a1) (gWs_get w σ j a2) hpq
  · obtain ⟨sh, a1, rfl⟩ := gWs_inv hk
    exact hB k (List.getElem?_eq_some_iff.mp a1).1
/-- contracts: of an int (or boolean) method, of a void one -/
def gMI (l : Launch) (w : Wl) (y : MethodName) (ws : List Cond) (rm : Room) (av : List Value) (σ : Sg) (r : Int32) (σ' : Sg) : Prop := ∀ sz : Nat, Met l y ws rm (va_Pc av (fun U => U.heap.size = sz ∧ gWd w σ U)) (va_Qi (fun (r1 : Int32) (σ1 : Sg) => r1 = r ∧ σ1 = σ') (gWd w) (gA w sz)) 0 0 (gA w sz)
def gMV (l : Launch) (w : Wl) (y : MethodName) (ws : List Cond) (rm : Room) (av : List Value) (σ σ' : Sg) : Prop := ∀ sz : Nat, Met l y ws rm (va_Pc av (fun U => U.heap.size = sz ∧ gWd w σ U)) (va_Qv (fun (σ1 : Sg) => σ1 = σ') (gWd w) (gA w sz)) 0 0 (gA w sz)
abbrev GX : Type := Program × Launch × Env × Room × State × MethodId × Array Value × List Frame × Method × Code × (Nat → Prop) × (Array Value → State → Outcome → State → Prop) × Nat
/-- the goal at an instruction: from any heap that holds the world, and any row of locals that has these -/
def gG (X : GX) (w : Wl) (σ : Sg) (pc : Nat) (lv : List (Nat × Value)) (st : List Value) : Prop := match X with
  | (p, l, e, R, s, m, args, below, meth, c, A, Qc, nL) => ∀ (H : Heap) (locs : List Loc) (ls : Array Slot), lv_has ls nL lv → va_P w.1 vwCl (gWs w σ) H → va_D A (gWs w σ) → va_S A s.heap H locs → W p l e R s m args below meth c H locs 0 0 (MQ below Qc args s 0 0 A) (F0 m pc ls st)
/-- what stands fast in a method's walk -/
def gC (X : GX) (w : Wl) (cc : ByteArray) (own : String) (Ts : List Cond) (nL fr lo : Nat) (ret : Option FieldType) (P : Option Value → Sg → Prop) : Prop := match X with
  | (p, l, e, R, s, m, args, below, meth, c, A, Qc, nL') => p.tables.exec = Jvm.exec ∧ c.code = cc ∧ c.maxLocals = nL ∧ nL' = nL ∧ s.vm.findClass own = some m.cls ∧ (∀ v ∈ Ts, v.before args s = true) ∧ meth.sig.returnType = ret ∧ meth.locks = false ∧ va_K w.1 vwCl (gTy w.2.1) s ∧ gNs s ∧ (∀ q : Nat, s.heap.size ≤ q → A q) ∧ (∀ k : Nat, k < w.2.2.2.length → A (w.2.2.1 k)) ∧ (fr ≤ R.frames ∧ lo ≤ R.locals) ∧
    (∀ (v : Option Value) (σ : Sg) (H : Heap) (locs : List Loc) (t : State), P v σ → va_P w.1 vwCl (gWs w σ) H → va_D A (gWs w σ) → va_S A s.heap H locs → t.heap = H → s.WarmedH t.vm → Qc args s (.returned v) t)

set_option maxHeartbeats 1000000 in
theorem gStartI {l : Launch} {w : Wl} {y : MethodName} {ws ws' : List Cond} {rm : Room} {av : List Value} {σ : Sg} {r : Int32} {σ' : Sg} (cc : ByteArray) (nL : Nat) (own : String) (hw : ws = Cond.code y cc nL (some .int) :: ws') (hpl : plainName y.cls = true) (hy : y.cls = own) (hav : (lg_sl av).length ≤ nL)
    (k : ∀ X : GX, X.2.1 = l → gC X w cc own ws nL rm.frames rm.locals (some .int) (fun v σ1 => v = some (.int r) ∧ σ1 = σ') → gG X w σ 0 (lv_args 0 av) []) : gMI l w y ws rm av σ r σ' := by
  intro sz
  refine Met.ofW (cc := cc) (maxL := nL) (ret := (some .int)) hpl hw ?_
  intro p e s m args below meth c s₁ B hml hv
  obtain ⟨rfl, hsz, hP, hK, hD0, hN⟩ := hv
  have hts := atoms_spec (ws := ws) B.pre
  have hown : s.vm.findClass own = some m.cls := by rw [← hy]; exact findClass_of_methodNamed B.named
  subst hsz
  have hk := k (p, l, e, (headSpec ws rm).room, s, m, av.toArray, below, meth, c, gA w s.heap.size, va_Qi (fun (r1 : Int32) (σ1 : Sg) => r1 = r ∧ σ1 = σ') (gWd w) (gA w s.heap.size), nL) rfl ⟨B.exec, B.bytes, hml, rfl, hown, hts, B.returns, B.notSynchronized, hK, hN, fun q h => Or.inr h, fun k h => Or.inl ⟨k, h, rfl⟩, ⟨Nat.le_refl _, Nat.le_refl _⟩, fun v σ1 H locs t hv hP1 hD1 hS1 ht hW => by
      obtain ⟨rfl, rfl⟩ := hv
      exact ⟨⟨r, _, rfl, ⟨rfl, rfl⟩, by rw [ht]; exact hP1, va_K.moved hW.alike hK, hD1.weaken (fun _ _ _ _ => trivial), gNs_warm hW hN⟩, hS1.F ht⟩⟩
  have hl := lv_entry av (n := nL) hav
  rw [lg_entry_eq]
  exact hk s.heap [] _ hl hP (gWs_apart hD0 (fun k h => Or.inl ⟨k, h, rfl⟩)) va_S.rf
set_option maxHeartbeats 1000000 in
theorem gStartZ {l : Launch} {w : Wl} {y : MethodName} {ws ws' : List Cond} {rm : Room} {av : List Value} {σ : Sg} {r : Int32} {σ' : Sg} (cc : ByteArray) (nL : Nat) (own : String) (hw : ws = Cond.code y cc nL (some .boolean) :: ws') (hpl : plainName y.cls = true) (hy : y.cls = own) (hav : (lg_sl av).length ≤ nL)
    (k : ∀ X : GX, X.2.1 = l → gC X w cc own ws nL rm.frames rm.locals (some .boolean) (fun v σ1 => v = some (.int r) ∧ σ1 = σ') → gG X w σ 0 (lv_args 0 av) []) : gMI l w y ws rm av σ r σ' := by
  intro sz
  refine Met.ofW (cc := cc) (maxL := nL) (ret := (some .boolean)) hpl hw ?_
  intro p e s m args below meth c s₁ B hml hv
  obtain ⟨rfl, hsz, hP, hK, hD0, hN⟩ := hv
  have hts := atoms_spec (ws := ws) B.pre
  have hown : s.vm.findClass own = some m.cls := by rw [← hy]; exact findClass_of_methodNamed B.named
  subst hsz
  have hk := k (p, l, e, (headSpec ws rm).room, s, m, av.toArray, below, meth, c, gA w s.heap.size, va_Qi (fun (r1 : Int32) (σ1 : Sg) => r1 = r ∧ σ1 = σ') (gWd w) (gA w s.heap.size), nL) rfl ⟨B.exec, B.bytes, hml, rfl, hown, hts, B.returns, B.notSynchronized, hK, hN, fun q h => Or.inr h, fun k h => Or.inl ⟨k, h, rfl⟩, ⟨Nat.le_refl _, Nat.le_refl _⟩, fun v σ1 H locs t hv hP1 hD1 hS1 ht hW => by
      obtain ⟨rfl, rfl⟩ := hv
      exact ⟨⟨r, _, rfl, ⟨rfl, rfl⟩, by rw [ht]; exact hP1, va_K.moved hW.alike hK, hD1.weaken (fun _ _ _ _ => trivial), gNs_warm hW hN⟩, hS1.F ht⟩⟩
  have hl := lv_entry av (n := nL) hav
  rw [lg_entry_eq]
  exact hk s.heap [] _ hl hP (gWs_apart hD0 (fun k h => Or.inl ⟨k, h, rfl⟩)) va_S.rf
set_option maxHeartbeats 1000000 in
theorem gStartV {l : Launch} {w : Wl} {y : MethodName} {ws ws' : List Cond} {rm : Room} {av : List Value} {σ : Sg} {σ' : Sg} (cc : ByteArray) (nL : Nat) (own : String) (hw : ws = Cond.code y cc nL none :: ws') (hpl : plainName y.cls = true) (hy : y.cls = own) (hav : (lg_sl av).length ≤ nL)
    (k : ∀ X : GX, X.2.1 = l → gC X w cc own ws nL rm.frames rm.locals none (fun v σ1 => v = none ∧ σ1 = σ') → gG X w σ 0 (lv_args 0 av) []) : gMV l w y ws rm av σ σ' := by
  intro sz
  refine Met.ofW (cc := cc) (maxL := nL) (ret := none) hpl hw ?_
  intro p e s m args below meth c s₁ B hml hv
  obtain ⟨rfl, hsz, hP, hK, hD0, hN⟩ := hv
  have hts := atoms_spec (ws := ws) B.pre
  have hown : s.vm.findClass own = some m.cls := by rw [← hy]; exact findClass_of_methodNamed B.named
  subst hsz
  have hk := k (p, l, e, (headSpec ws rm).room, s, m, av.toArray, below, meth, c, gA w s.heap.size, va_Qv (fun (σ1 : Sg) => σ1 = σ') (gWd w) (gA w s.heap.size), nL) rfl ⟨B.exec, B.bytes, hml, rfl, hown, hts, B.returns, B.notSynchronized, hK, hN, fun q h => Or.inr h, fun k h => Or.inl ⟨k, h, rfl⟩, ⟨Nat.le_refl _, Nat.le_refl _⟩, fun v σ1 H locs t hv hP1 hD1 hS1 ht hW => by
      obtain ⟨rfl, rfl⟩ := hv
      exact ⟨⟨_, rfl, rfl, by rw [ht]; exact hP1, va_K.moved hW.alike hK, hD1.weaken (fun _ _ _ _ => trivial), gNs_warm hW hN⟩, hS1.F ht⟩⟩
  have hl := lv_entry av (n := nL) hav
  rw [lg_entry_eq]
  exact hk s.heap [] _ hl hP (gWs_apart hD0 (fun k h => Or.inl ⟨k, h, rfl⟩)) va_S.rf
theorem gr_iconst {X : GX} {w : Wl} {cc : ByteArray} {own : String} {Ts : List Cond} {nL fr lo : Nat} {ret : Option FieldType} {P : Option Value → Sg → Prop} (C : gC X w cc own Ts nL fr lo ret P) {σ : Sg} {pc : Nat} {lv : List (Nat × Value)} {st : List Value} {n : Int} {v : Int32} (hd : decode cc pc = .ok (.iconst n, 1)) (hv : Int32.ofInt n = v) (kk : gG X w σ (pc + 1) lv (.int v :: st)) : gG X w σ pc lv st := by
  obtain ⟨p, l, e, R, s, m, args, below, meth, c, A, Qc, nL'⟩ := X
  obtain ⟨hx, hb, hml, rfl, hown, hts, hr, hlk, hK, hN, hA, hAd, hRm, hQ⟩ := C
  intro H locs ls hls hP hD hS
  exact lv_iconst hx hb hd hv (kk H locs ls hls hP hD hS)
theorem gr_bipush {X : GX} {w : Wl} {cc : ByteArray} {own : String} {Ts : List Cond} {nL fr lo : Nat} {ret : Option FieldType} {P : Option Value → Sg → Prop} (C : gC X w cc own Ts nL fr lo ret P) {σ : Sg} {pc : Nat} {lv : List (Nat × Value)} {st : List Value} {n : Int} {v : Int32} (hd : decode cc pc = .ok (.bipush n, 2)) (hv : (Int8.ofInt n).toInt32 = v) (kk : gG X w σ (pc + 2) lv (.int v :: st)) : gG X w σ pc lv st := by
  obtain ⟨p, l, e, R, s, m, args, below, meth, c, A, Qc, nL'⟩ := X
  obtain ⟨hx, hb, hml, rfl, hown, hts, hr, hlk, hK, hN, hA, hAd, hRm, hQ⟩ := C
  intro H locs ls hls hP hD hS
  exact lv_bipush hx hb hd hv (kk H locs ls hls hP hD hS)
theorem gr_sipush {X : GX} {w : Wl} {cc : ByteArray} {own : String} {Ts : List Cond} {nL fr lo : Nat} {ret : Option FieldType} {P : Option Value → Sg → Prop} (C : gC X w cc own Ts nL fr lo ret P) {σ : Sg} {pc : Nat} {lv : List (Nat × Value)} {st : List Value} {n : Int} {v : Int32} (hd : decode cc pc = .ok (.sipush n, 3)) (hv : (Int16.ofInt n).toInt32 = v) (kk : gG X w σ (pc + 3) lv (.int v :: st)) : gG X w σ pc lv st := by
  obtain ⟨p, l, e, R, s, m, args, below, meth, c, A, Qc, nL'⟩ := X
  obtain ⟨hx, hb, hml, rfl, hown, hts, hr, hlk, hK, hN, hA, hAd, hRm, hQ⟩ := C
  intro H locs ls hls hP hD hS
  exact lv_sipush hx hb hd hv (kk H locs ls hls hP hD hS)
theorem gr_lconst {X : GX} {w : Wl} {cc : ByteArray} {own : String} {Ts : List Cond} {nL fr lo : Nat} {ret : Option FieldType} {P : Option Value → Sg → Prop} (C : gC X w cc own Ts nL fr lo ret P) {σ : Sg} {pc : Nat} {lv : List (Nat × Value)} {st : List Value} {n : Fin 2} {v : Int64} (hd : decode cc pc = .ok (.lconst n, 1)) (hv : Int64.ofNat (n : Nat) = v) (kk : gG X w σ (pc + 1) lv (.long v :: st)) : gG X w σ pc lv st := by
  obtain ⟨p, l, e, R, s, m, args, below, meth, c, A, Qc, nL'⟩ := X
  obtain ⟨hx, hb, hml, rfl, hown, hts, hr, hlk, hK, hN, hA, hAd, hRm, hQ⟩ := C
  intro H locs ls hls hP hD hS
  exact lv_lconst hx hb hd hv (kk H locs ls hls hP hD hS)
theorem gr_ldc {X : GX} {w : Wl} {cc : ByteArray} {own : String} {Ts : List Cond} {nL fr lo : Nat} {ret : Option FieldType} {P : Option Value → Sg → Prop} (C : gC X w cc own Ts nL fr lo ret P) {σ : Sg} {pc : Nat} {lv : List (Nat × Value)} {st : List Value} {index : Nat} {v : Int32} (hd : decode cc pc = .ok (.ldc index, 2)) (hc : Cond.constant own index v ∈ Ts) (kk : gG X w σ (pc + 2) lv (.int v :: st)) : gG X w σ pc lv st := by
  obtain ⟨p, l, e, R, s, m, args, below, meth, c, A, Qc, nL'⟩ := X
  obtain ⟨hx, hb, hml, rfl, hown, hts, hr, hlk, hK, hN, hA, hAd, hRm, hQ⟩ := C
  intro H locs ls hls hP hD hS
  exact lv_ldc hx hb hown (hts _ hc) hd (kk H locs ls hls hP hD hS)
theorem gr_ldc2 {X : GX} {w : Wl} {cc : ByteArray} {own : String} {Ts : List Cond} {nL fr lo : Nat} {ret : Option FieldType} {P : Option Value → Sg → Prop} (C : gC X w cc own Ts nL fr lo ret P) {σ : Sg} {pc : Nat} {lv : List (Nat × Value)} {st : List Value} {index : Nat} {v : Int64} (hd : decode cc pc = .ok (.ldc2_w index, 3)) (hc : Cond.constantLong own index v ∈ Ts) (kk : gG X w σ (pc + 3) lv (.long v :: st)) : gG X w σ pc lv st := by
  obtain ⟨p, l, e, R, s, m, args, below, meth, c, A, Qc, nL'⟩ := X
  obtain ⟨hx, hb, hml, rfl, hown, hts, hr, hlk, hK, hN, hA, hAd, hRm, hQ⟩ := C
  intro H locs ls hls hP hD hS
  exact lv_ldc2 hx hb hown (hts _ hc) hd (kk H locs ls hls hP hD hS)
theorem gr_iload_n {X : GX} {w : Wl} {cc : ByteArray} {own : String} {Ts : List Cond} {nL fr lo : Nat} {ret : Option FieldType} {P : Option Value → Sg → Prop} (C : gC X w cc own Ts nL fr lo ret P) {σ : Sg} {pc : Nat} {lv : List (Nat × Value)} {st : List Value} {k : Fin 4} {i : Nat} {x : Int32} (q : Nat) (hd : decode cc pc = .ok (.iload_n k, 1)) (hi : (k : Nat) = i) (hl : lv[q]? = some (i, .int x)) (kk : gG X w σ (pc + 1) lv (.int x :: st)) : gG X w σ pc lv st := by
  obtain ⟨p, l, e, R, s, m, args, below, meth, c, A, Qc, nL'⟩ := X
  obtain ⟨hx, hb, hml, rfl, hown, hts, hr, hlk, hK, hN, hA, hAd, hRm, hQ⟩ := C
  intro H locs ls hls hP hD hS
  exact lv_iload_n hx hb hd hi (lv_at hls q hl) (kk H locs ls hls hP hD hS)
theorem gr_iload {X : GX} {w : Wl} {cc : ByteArray} {own : String} {Ts : List Cond} {nL fr lo : Nat} {ret : Option FieldType} {P : Option Value → Sg → Prop} (C : gC X w cc own Ts nL fr lo ret P) {σ : Sg} {pc : Nat} {lv : List (Nat × Value)} {st : List Value} {i : Nat} {x : Int32} (q : Nat) (hd : decode cc pc = .ok (.iload i, 2)) (hl : lv[q]? = some (i, .int x)) (kk : gG X w σ (pc + 2) lv (.int x :: st)) : gG X w σ pc lv st := by
  obtain ⟨p, l, e, R, s, m, args, below, meth, c, A, Qc, nL'⟩ := X
  obtain ⟨hx, hb, hml, rfl, hown, hts, hr, hlk, hK, hN, hA, hAd, hRm, hQ⟩ := C
  intro H locs ls hls hP hD hS
  exact lv_iload hx hb hd (lv_at hls q hl) (kk H locs ls hls hP hD hS)
theorem gr_aload_n {X : GX} {w : Wl} {cc : ByteArray} {own : String} {Ts : List Cond} {nL fr lo : Nat} {ret : Option FieldType} {P : Option Value → Sg → Prop} (C : gC X w cc own Ts nL fr lo ret P) {σ : Sg} {pc : Nat} {lv : List (Nat × Value)} {st : List Value} {k : Fin 4} {i : Nat} {x : Nat} (q : Nat) (hd : decode cc pc = .ok (.aload_n k, 1)) (hi : (k : Nat) = i) (hl : lv[q]? = some (i, .ref x)) (kk : gG X w σ (pc + 1) lv (.ref x :: st)) : gG X w σ pc lv st := by
  obtain ⟨p, l, e, R, s, m, args, below, meth, c, A, Qc, nL'⟩ := X
  obtain ⟨hx, hb, hml, rfl, hown, hts, hr, hlk, hK, hN, hA, hAd, hRm, hQ⟩ := C
  intro H locs ls hls hP hD hS
  exact lv_aload_n hx hb hd hi (lv_at hls q hl) (kk H locs ls hls hP hD hS)
theorem gr_aload {X : GX} {w : Wl} {cc : ByteArray} {own : String} {Ts : List Cond} {nL fr lo : Nat} {ret : Option FieldType} {P : Option Value → Sg → Prop} (C : gC X w cc own Ts nL fr lo ret P) {σ : Sg} {pc : Nat} {lv : List (Nat × Value)} {st : List Value} {i : Nat} {x : Nat} (q : Nat) (hd : decode cc pc = .ok (.aload i, 2)) (hl : lv[q]? = some (i, .ref x)) (kk : gG X w σ (pc + 2) lv (.ref x :: st)) : gG X w σ pc lv st := by
  obtain ⟨p, l, e, R, s, m, args, below, meth, c, A, Qc, nL'⟩ := X
  obtain ⟨hx, hb, hml, rfl, hown, hts, hr, hlk, hK, hN, hA, hAd, hRm, hQ⟩ := C
  intro H locs ls hls hP hD hS
  exact lv_aload hx hb hd (lv_at hls q hl) (kk H locs ls hls hP hD hS)
theorem gr_lload_n {X : GX} {w : Wl} {cc : ByteArray} {own : String} {Ts : List Cond} {nL fr lo : Nat} {ret : Option FieldType} {P : Option Value → Sg → Prop} (C : gC X w cc own Ts nL fr lo ret P) {σ : Sg} {pc : Nat} {lv : List (Nat × Value)} {st : List Value} {k : Fin 4} {i : Nat} {x : Int64} (q : Nat) (hd : decode cc pc = .ok (.lload_n k, 1)) (hi : (k : Nat) = i) (hl : lv[q]? = some (i, .long x)) (kk : gG X w σ (pc + 1) lv (.long x :: st)) : gG X w σ pc lv st := by
  obtain ⟨p, l, e, R, s, m, args, below, meth, c, A, Qc, nL'⟩ := X
  obtain ⟨hx, hb, hml, rfl, hown, hts, hr, hlk, hK, hN, hA, hAd, hRm, hQ⟩ := C
  intro H locs ls hls hP hD hS
  exact lv_lload_n hx hb hd hi (lv_at hls q hl) (kk H locs ls hls hP hD hS)
theorem gr_lload {X : GX} {w : Wl} {cc : ByteArray} {own : String} {Ts : List Cond} {nL fr lo : Nat} {ret : Option FieldType} {P : Option Value → Sg → Prop} (C : gC X w cc own Ts nL fr lo ret P) {σ : Sg} {pc : Nat} {lv : List (Nat × Value)} {st : List Value} {i : Nat} {x : Int64} (q : Nat) (hd : decode cc pc = .ok (.lload i, 2)) (hl : lv[q]? = some (i, .long x)) (kk : gG X w σ (pc + 2) lv (.long x :: st)) : gG X w σ pc lv st := by
  obtain ⟨p, l, e, R, s, m, args, below, meth, c, A, Qc, nL'⟩ := X
  obtain ⟨hx, hb, hml, rfl, hown, hts, hr, hlk, hK, hN, hA, hAd, hRm, hQ⟩ := C
  intro H locs ls hls hP hD hS
  exact lv_lload hx hb hd (lv_at hls q hl) (kk H locs ls hls hP hD hS)
theorem gr_istore_n {X : GX} {w : Wl} {cc : ByteArray} {own : String} {Ts : List Cond} {nL fr lo : Nat} {ret : Option FieldType} {P : Option Value → Sg → Prop} (C : gC X w cc own Ts nL fr lo ret P) {σ : Sg} {pc : Nat} {lv : List (Nat × Value)} {st : List Value} {k : Fin 4} {i : Nat} {x : Int32} (lv' : List (Nat × Value)) (hd : decode cc pc = .ok (.istore_n k, 1)) (hi : (k : Nat) = i) (hn : i < nL) (hl : (i, Value.int x) :: lv.filter (fun q => !(q.1 == i) && !(q.1 + 1 == i && q.2.category == 2)) = lv') (kk : gG X w σ (pc + 1) lv' st) : gG X w σ pc lv (.int x :: st) := by
  obtain ⟨p, l, e, R, s, m, args, below, meth, c, A, Qc, nL'⟩ := X
  obtain ⟨hx, hb, hml, rfl, hown, hts, hr, hlk, hK, hN, hA, hAd, hRm, hQ⟩ := C
  intro H locs ls hls hP hD hS
  exact lv_istore_n hx hb hd hi hls hn hl (fun ls' hls' => kk H locs ls' hls' hP hD hS)
theorem gr_istore {X : GX} {w : Wl} {cc : ByteArray} {own : String} {Ts : List Cond} {nL fr lo : Nat} {ret : Option FieldType} {P : Option Value → Sg → Prop} (C : gC X w cc own Ts nL fr lo ret P) {σ : Sg} {pc : Nat} {lv : List (Nat × Value)} {st : List Value} {i : Nat} {x : Int32} (lv' : List (Nat × Value)) (hd : decode cc pc = .ok (.istore i, 2)) (hn : i < nL) (hl : (i, Value.int x) :: lv.filter (fun q => !(q.1 == i) && !(q.1 + 1 == i && q.2.category == 2)) = lv') (kk : gG X w σ (pc + 2) lv' st) : gG X w σ pc lv (.int x :: st) := by
  obtain ⟨p, l, e, R, s, m, args, below, meth, c, A, Qc, nL'⟩ := X
  obtain ⟨hx, hb, hml, rfl, hown, hts, hr, hlk, hK, hN, hA, hAd, hRm, hQ⟩ := C
  intro H locs ls hls hP hD hS
  exact lv_istore hx hb hd hls hn hl (fun ls' hls' => kk H locs ls' hls' hP hD hS)
theorem gr_astore_n {X : GX} {w : Wl} {cc : ByteArray} {own : String} {Ts : List Cond} {nL fr lo : Nat} {ret : Option FieldType} {P : Option Value → Sg → Prop} (C : gC X w cc own Ts nL fr lo ret P) {σ : Sg} {pc : Nat} {lv : List (Nat × Value)} {st : List Value} {k : Fin 4} {i : Nat} {x : Nat} (lv' : List (Nat × Value)) (hd : decode cc pc = .ok (.astore_n k, 1)) (hi : (k : Nat) = i) (hn : i < nL) (hl : (i, Value.ref x) :: lv.filter (fun q => !(q.1 == i) && !(q.1 + 1 == i && q.2.category == 2)) = lv') (kk : gG X w σ (pc + 1) lv' st) : gG X w σ pc lv (.ref x :: st) := by
  obtain ⟨p, l, e, R, s, m, args, below, meth, c, A, Qc, nL'⟩ := X
  obtain ⟨hx, hb, hml, rfl, hown, hts, hr, hlk, hK, hN, hA, hAd, hRm, hQ⟩ := C
  intro H locs ls hls hP hD hS
  exact lv_astore_n hx hb hd hi hls hn hl (fun ls' hls' => kk H locs ls' hls' hP hD hS)
theorem gr_astore {X : GX} {w : Wl} {cc : ByteArray} {own : String} {Ts : List Cond} {nL fr lo : Nat} {ret : Option FieldType} {P : Option Value → Sg → Prop} (C : gC X w cc own Ts nL fr lo ret P) {σ : Sg} {pc : Nat} {lv : List (Nat × Value)} {st : List Value} {i : Nat} {x : Nat} (lv' : List (Nat × Value)) (hd : decode cc pc = .ok (.astore i, 2)) (hn : i < nL) (hl : (i, Value.ref x) :: lv.filter (fun q => !(q.1 == i) && !(q.1 + 1 == i && q.2.category == 2)) = lv') (kk : gG X w σ (pc + 2) lv' st) : gG X w σ pc lv (.ref x :: st) := by
  obtain ⟨p, l, e, R, s, m, args, below, meth, c, A, Qc, nL'⟩ := X
  obtain ⟨hx, hb, hml, rfl, hown, hts, hr, hlk, hK, hN, hA, hAd, hRm, hQ⟩ := C
  intro H locs ls hls hP hD hS
  exact lv_astore hx hb hd hls hn hl (fun ls' hls' => kk H locs ls' hls' hP hD hS)
theorem gr_lstore {X : GX} {w : Wl} {cc : ByteArray} {own : String} {Ts : List Cond} {nL fr lo : Nat} {ret : Option FieldType} {P : Option Value → Sg → Prop} (C : gC X w cc own Ts nL fr lo ret P) {σ : Sg} {pc : Nat} {lv : List (Nat × Value)} {st : List Value} {i : Nat} {x : Int64} (lv' : List (Nat × Value)) (hd : decode cc pc = .ok (.lstore i, 2)) (hn : i + 1 < nL) (hl : (i, Value.long x) :: lv.filter (fun q => !(q.1 == i) && (!(q.1 == i + 1) && !(q.1 + 1 == i && q.2.category == 2))) = lv') (kk : gG X w σ (pc + 2) lv' st) : gG X w σ pc lv (.long x :: st) := by
  obtain ⟨p, l, e, R, s, m, args, below, meth, c, A, Qc, nL'⟩ := X
  obtain ⟨hx, hb, hml, rfl, hown, hts, hr, hlk, hK, hN, hA, hAd, hRm, hQ⟩ := C
  intro H locs ls hls hP hD hS
  exact lv_lstore hx hb hd hls hn hl (fun ls' hls' => kk H locs ls' hls' hP hD hS)
theorem gr_iinc {X : GX} {w : Wl} {cc : ByteArray} {own : String} {Ts : List Cond} {nL fr lo : Nat} {ret : Option FieldType} {P : Option Value → Sg → Prop} (C : gC X w cc own Ts nL fr lo ret P) {σ : Sg} {pc : Nat} {lv : List (Nat × Value)} {st : List Value} {i : Nat} {n : Int} {x v : Int32} (q : Nat) (lv' : List (Nat × Value)) (hd : decode cc pc = .ok (.iinc i n, 3)) (hk : lv[q]? = some (i, .int x)) (hv : x + Int32.ofInt n = v) (hn : i < nL) (hl : (i, Value.int v) :: lv.filter (fun q => !(q.1 == i) && !(q.1 + 1 == i && q.2.category == 2)) = lv') (kk : gG X w σ (pc + 3) lv' st) : gG X w σ pc lv st := by
  obtain ⟨p, l, e, R, s, m, args, below, meth, c, A, Qc, nL'⟩ := X
  obtain ⟨hx, hb, hml, rfl, hown, hts, hr, hlk, hK, hN, hA, hAd, hRm, hQ⟩ := C
  intro H locs ls hls hP hD hS
  exact lv_iinc hx hb hd hls hk hv hn hl (fun ls' hls' => kk H locs ls' hls' hP hD hS)
theorem gr_iadd {X : GX} {w : Wl} {cc : ByteArray} {own : String} {Ts : List Cond} {nL fr lo : Nat} {ret : Option FieldType} {P : Option Value → Sg → Prop} (C : gC X w cc own Ts nL fr lo ret P) {σ : Sg} {pc : Nat} {lv : List (Nat × Value)} {st : List Value} {x y : Int32} (hd : decode cc pc = .ok (.iadd, 1)) (kk : gG X w σ (pc + 1) lv (.int (x + y) :: st)) : gG X w σ pc lv (.int y :: .int x :: st) := by
  obtain ⟨p, l, e, R, s, m, args, below, meth, c, A, Qc, nL'⟩ := X
  obtain ⟨hx, hb, hml, rfl, hown, hts, hr, hlk, hK, hN, hA, hAd, hRm, hQ⟩ := C
  intro H locs ls hls hP hD hS
  exact lv_iadd hx hb hd (kk H locs ls hls hP hD hS)
theorem gr_isub {X : GX} {w : Wl} {cc : ByteArray} {own : String} {Ts : List Cond} {nL fr lo : Nat} {ret : Option FieldType} {P : Option Value → Sg → Prop} (C : gC X w cc own Ts nL fr lo ret P) {σ : Sg} {pc : Nat} {lv : List (Nat × Value)} {st : List Value} {x y : Int32} (hd : decode cc pc = .ok (.isub, 1)) (kk : gG X w σ (pc + 1) lv (.int (x - y) :: st)) : gG X w σ pc lv (.int y :: .int x :: st) := by
  obtain ⟨p, l, e, R, s, m, args, below, meth, c, A, Qc, nL'⟩ := X
  obtain ⟨hx, hb, hml, rfl, hown, hts, hr, hlk, hK, hN, hA, hAd, hRm, hQ⟩ := C
  intro H locs ls hls hP hD hS
  exact lv_isub hx hb hd (kk H locs ls hls hP hD hS)
theorem gr_imul {X : GX} {w : Wl} {cc : ByteArray} {own : String} {Ts : List Cond} {nL fr lo : Nat} {ret : Option FieldType} {P : Option Value → Sg → Prop} (C : gC X w cc own Ts nL fr lo ret P) {σ : Sg} {pc : Nat} {lv : List (Nat × Value)} {st : List Value} {x y : Int32} (hd : decode cc pc = .ok (.imul, 1)) (kk : gG X w σ (pc + 1) lv (.int (x * y) :: st)) : gG X w σ pc lv (.int y :: .int x :: st) := by
  obtain ⟨p, l, e, R, s, m, args, below, meth, c, A, Qc, nL'⟩ := X
  obtain ⟨hx, hb, hml, rfl, hown, hts, hr, hlk, hK, hN, hA, hAd, hRm, hQ⟩ := C
  intro H locs ls hls hP hD hS
  exact lv_imul hx hb hd (kk H locs ls hls hP hD hS)
theorem gr_iand {X : GX} {w : Wl} {cc : ByteArray} {own : String} {Ts : List Cond} {nL fr lo : Nat} {ret : Option FieldType} {P : Option Value → Sg → Prop} (C : gC X w cc own Ts nL fr lo ret P) {σ : Sg} {pc : Nat} {lv : List (Nat × Value)} {st : List Value} {x y : Int32} (hd : decode cc pc = .ok (.iand, 1)) (kk : gG X w σ (pc + 1) lv (.int (x &&& y) :: st)) : gG X w σ pc lv (.int y :: .int x :: st) := by
  obtain ⟨p, l, e, R, s, m, args, below, meth, c, A, Qc, nL'⟩ := X
  obtain ⟨hx, hb, hml, rfl, hown, hts, hr, hlk, hK, hN, hA, hAd, hRm, hQ⟩ := C
  intro H locs ls hls hP hD hS
  exact lv_iand hx hb hd (kk H locs ls hls hP hD hS)
theorem gr_ior {X : GX} {w : Wl} {cc : ByteArray} {own : String} {Ts : List Cond} {nL fr lo : Nat} {ret : Option FieldType} {P : Option Value → Sg → Prop} (C : gC X w cc own Ts nL fr lo ret P) {σ : Sg} {pc : Nat} {lv : List (Nat × Value)} {st : List Value} {x y : Int32} (hd : decode cc pc = .ok (.ior, 1)) (kk : gG X w σ (pc + 1) lv (.int (x ||| y) :: st)) : gG X w σ pc lv (.int y :: .int x :: st) := by
  obtain ⟨p, l, e, R, s, m, args, below, meth, c, A, Qc, nL'⟩ := X
  obtain ⟨hx, hb, hml, rfl, hown, hts, hr, hlk, hK, hN, hA, hAd, hRm, hQ⟩ := C
  intro H locs ls hls hP hD hS
  exact lv_ior hx hb hd (kk H locs ls hls hP hD hS)
theorem gr_ixor {X : GX} {w : Wl} {cc : ByteArray} {own : String} {Ts : List Cond} {nL fr lo : Nat} {ret : Option FieldType} {P : Option Value → Sg → Prop} (C : gC X w cc own Ts nL fr lo ret P) {σ : Sg} {pc : Nat} {lv : List (Nat × Value)} {st : List Value} {x y : Int32} (hd : decode cc pc = .ok (.ixor, 1)) (kk : gG X w σ (pc + 1) lv (.int (x ^^^ y) :: st)) : gG X w σ pc lv (.int y :: .int x :: st) := by
  obtain ⟨p, l, e, R, s, m, args, below, meth, c, A, Qc, nL'⟩ := X
  obtain ⟨hx, hb, hml, rfl, hown, hts, hr, hlk, hK, hN, hA, hAd, hRm, hQ⟩ := C
  intro H locs ls hls hP hD hS
  exact lv_ixor hx hb hd (kk H locs ls hls hP hD hS)
theorem gr_ishl {X : GX} {w : Wl} {cc : ByteArray} {own : String} {Ts : List Cond} {nL fr lo : Nat} {ret : Option FieldType} {P : Option Value → Sg → Prop} (C : gC X w cc own Ts nL fr lo ret P) {σ : Sg} {pc : Nat} {lv : List (Nat × Value)} {st : List Value} {x y : Int32} (hd : decode cc pc = .ok (.ishl, 1)) (kk : gG X w σ (pc + 1) lv (.int (x <<< (y &&& 31)) :: st)) : gG X w σ pc lv (.int y :: .int x :: st) := by
  obtain ⟨p, l, e, R, s, m, args, below, meth, c, A, Qc, nL'⟩ := X
  obtain ⟨hx, hb, hml, rfl, hown, hts, hr, hlk, hK, hN, hA, hAd, hRm, hQ⟩ := C
  intro H locs ls hls hP hD hS
  exact lv_ishl hx hb hd (kk H locs ls hls hP hD hS)
theorem gr_ishr {X : GX} {w : Wl} {cc : ByteArray} {own : String} {Ts : List Cond} {nL fr lo : Nat} {ret : Option FieldType} {P : Option Value → Sg → Prop} (C : gC X w cc own Ts nL fr lo ret P) {σ : Sg} {pc : Nat} {lv : List (Nat × Value)} {st : List Value} {x y : Int32} (hd : decode cc pc = .ok (.ishr, 1)) (kk : gG X w σ (pc + 1) lv (.int (x >>> (y &&& 31)) :: st)) : gG X w σ pc lv (.int y :: .int x :: st) := by
  obtain ⟨p, l, e, R, s, m, args, below, meth, c, A, Qc, nL'⟩ := X
  obtain ⟨hx, hb, hml, rfl, hown, hts, hr, hlk, hK, hN, hA, hAd, hRm, hQ⟩ := C
  intro H locs ls hls hP hD hS
  exact lv_ishr hx hb hd (kk H locs ls hls hP hD hS)
theorem gr_idiv {X : GX} {w : Wl} {cc : ByteArray} {own : String} {Ts : List Cond} {nL fr lo : Nat} {ret : Option FieldType} {P : Option Value → Sg → Prop} (C : gC X w cc own Ts nL fr lo ret P) {σ : Sg} {pc : Nat} {lv : List (Nat × Value)} {st : List Value} {x y : Int32} (hd : decode cc pc = .ok (.idiv, 1)) (hne : ¬ y = 0) (kk : gG X w σ (pc + 1) lv (.int (x / y) :: st)) : gG X w σ pc lv (.int y :: .int x :: st) := by
  obtain ⟨p, l, e, R, s, m, args, below, meth, c, A, Qc, nL'⟩ := X
  obtain ⟨hx, hb, hml, rfl, hown, hts, hr, hlk, hK, hN, hA, hAd, hRm, hQ⟩ := C
  intro H locs ls hls hP hD hS
  exact lv_idiv hx hb hd hne (kk H locs ls hls hP hD hS)
theorem gr_irem {X : GX} {w : Wl} {cc : ByteArray} {own : String} {Ts : List Cond} {nL fr lo : Nat} {ret : Option FieldType} {P : Option Value → Sg → Prop} (C : gC X w cc own Ts nL fr lo ret P) {σ : Sg} {pc : Nat} {lv : List (Nat × Value)} {st : List Value} {x y : Int32} (hd : decode cc pc = .ok (.irem, 1)) (hne : ¬ y = 0) (kk : gG X w σ (pc + 1) lv (.int (x - x / y * y) :: st)) : gG X w σ pc lv (.int y :: .int x :: st) := by
  obtain ⟨p, l, e, R, s, m, args, below, meth, c, A, Qc, nL'⟩ := X
  obtain ⟨hx, hb, hml, rfl, hown, hts, hr, hlk, hK, hN, hA, hAd, hRm, hQ⟩ := C
  intro H locs ls hls hP hD hS
  exact lv_irem hx hb hd hne (kk H locs ls hls hP hD hS)
theorem gr_ladd {X : GX} {w : Wl} {cc : ByteArray} {own : String} {Ts : List Cond} {nL fr lo : Nat} {ret : Option FieldType} {P : Option Value → Sg → Prop} (C : gC X w cc own Ts nL fr lo ret P) {σ : Sg} {pc : Nat} {lv : List (Nat × Value)} {st : List Value} {x y : Int64} (hd : decode cc pc = .ok (.ladd, 1)) (kk : gG X w σ (pc + 1) lv (.long (x + y) :: st)) : gG X w σ pc lv (.long y :: .long x :: st) := by
  obtain ⟨p, l, e, R, s, m, args, below, meth, c, A, Qc, nL'⟩ := X
  obtain ⟨hx, hb, hml, rfl, hown, hts, hr, hlk, hK, hN, hA, hAd, hRm, hQ⟩ := C
  intro H locs ls hls hP hD hS
  exact lv_ladd hx hb hd (kk H locs ls hls hP hD hS)
theorem gr_lmul {X : GX} {w : Wl} {cc : ByteArray} {own : String} {Ts : List Cond} {nL fr lo : Nat} {ret : Option FieldType} {P : Option Value → Sg → Prop} (C : gC X w cc own Ts nL fr lo ret P) {σ : Sg} {pc : Nat} {lv : List (Nat × Value)} {st : List Value} {x y : Int64} (hd : decode cc pc = .ok (.lmul, 1)) (kk : gG X w σ (pc + 1) lv (.long (x * y) :: st)) : gG X w σ pc lv (.long y :: .long x :: st) := by
  obtain ⟨p, l, e, R, s, m, args, below, meth, c, A, Qc, nL'⟩ := X
  obtain ⟨hx, hb, hml, rfl, hown, hts, hr, hlk, hK, hN, hA, hAd, hRm, hQ⟩ := C
  intro H locs ls hls hP hD hS
  exact lv_lmul hx hb hd (kk H locs ls hls hP hD hS)
theorem gr_lrem {X : GX} {w : Wl} {cc : ByteArray} {own : String} {Ts : List Cond} {nL fr lo : Nat} {ret : Option FieldType} {P : Option Value → Sg → Prop} (C : gC X w cc own Ts nL fr lo ret P) {σ : Sg} {pc : Nat} {lv : List (Nat × Value)} {st : List Value} {x y : Int64} (hd : decode cc pc = .ok (.lrem, 1)) (hne : ¬ y = 0) (kk : gG X w σ (pc + 1) lv (.long (x - x / y * y) :: st)) : gG X w σ pc lv (.long y :: .long x :: st) := by
  obtain ⟨p, l, e, R, s, m, args, below, meth, c, A, Qc, nL'⟩ := X
  obtain ⟨hx, hb, hml, rfl, hown, hts, hr, hlk, hK, hN, hA, hAd, hRm, hQ⟩ := C
  intro H locs ls hls hP hD hS
  exact lv_lrem hx hb hd hne (kk H locs ls hls hP hD hS)
theorem gr_lcmp {X : GX} {w : Wl} {cc : ByteArray} {own : String} {Ts : List Cond} {nL fr lo : Nat} {ret : Option FieldType} {P : Option Value → Sg → Prop} (C : gC X w cc own Ts nL fr lo ret P) {σ : Sg} {pc : Nat} {lv : List (Nat × Value)} {st : List Value} {x y : Int64} (hd : decode cc pc = .ok (.lcmp, 1)) (kk : gG X w σ (pc + 1) lv (.int (lg_cmp x y) :: st)) : gG X w σ pc lv (.long y :: .long x :: st) := by
  obtain ⟨p, l, e, R, s, m, args, below, meth, c, A, Qc, nL'⟩ := X
  obtain ⟨hx, hb, hml, rfl, hown, hts, hr, hlk, hK, hN, hA, hAd, hRm, hQ⟩ := C
  intro H locs ls hls hP hD hS
  exact W.lcmp hx hb hd (kk H locs ls hls hP hD hS)
theorem gr_i2l {X : GX} {w : Wl} {cc : ByteArray} {own : String} {Ts : List Cond} {nL fr lo : Nat} {ret : Option FieldType} {P : Option Value → Sg → Prop} (C : gC X w cc own Ts nL fr lo ret P) {σ : Sg} {pc : Nat} {lv : List (Nat × Value)} {st : List Value} {x : Int32} (hd : decode cc pc = .ok (.i2l, 1)) (kk : gG X w σ (pc + 1) lv (.long x.toInt64 :: st)) : gG X w σ pc lv (.int x :: st) := by
  obtain ⟨p, l, e, R, s, m, args, below, meth, c, A, Qc, nL'⟩ := X
  obtain ⟨hx, hb, hml, rfl, hown, hts, hr, hlk, hK, hN, hA, hAd, hRm, hQ⟩ := C
  intro H locs ls hls hP hD hS
  exact lv_i2l hx hb hd rfl (kk H locs ls hls hP hD hS)
theorem gr_l2i {X : GX} {w : Wl} {cc : ByteArray} {own : String} {Ts : List Cond} {nL fr lo : Nat} {ret : Option FieldType} {P : Option Value → Sg → Prop} (C : gC X w cc own Ts nL fr lo ret P) {σ : Sg} {pc : Nat} {lv : List (Nat × Value)} {st : List Value} {x : Int64} (hd : decode cc pc = .ok (.l2i, 1)) (kk : gG X w σ (pc + 1) lv (.int x.toInt32 :: st)) : gG X w σ pc lv (.long x :: st) := by
  obtain ⟨p, l, e, R, s, m, args, below, meth, c, A, Qc, nL'⟩ := X
  obtain ⟨hx, hb, hml, rfl, hown, hts, hr, hlk, hK, hN, hA, hAd, hRm, hQ⟩ := C
  intro H locs ls hls hP hD hS
  exact lv_l2i hx hb hd rfl (kk H locs ls hls hP hD hS)
theorem gr_i2b {X : GX} {w : Wl} {cc : ByteArray} {own : String} {Ts : List Cond} {nL fr lo : Nat} {ret : Option FieldType} {P : Option Value → Sg → Prop} (C : gC X w cc own Ts nL fr lo ret P) {σ : Sg} {pc : Nat} {lv : List (Nat × Value)} {st : List Value} {x : Int32} (hd : decode cc pc = .ok (.i2b, 1)) (kk : gG X w σ (pc + 1) lv (.int x.toInt8.toInt32 :: st)) : gG X w σ pc lv (.int x :: st) := by
  obtain ⟨p, l, e, R, s, m, args, below, meth, c, A, Qc, nL'⟩ := X
  obtain ⟨hx, hb, hml, rfl, hown, hts, hr, hlk, hK, hN, hA, hAd, hRm, hQ⟩ := C
  intro H locs ls hls hP hD hS
  exact lv_i2b hx hb hd rfl (kk H locs ls hls hP hD hS)
theorem gr_dup {X : GX} {w : Wl} {cc : ByteArray} {own : String} {Ts : List Cond} {nL fr lo : Nat} {ret : Option FieldType} {P : Option Value → Sg → Prop} (C : gC X w cc own Ts nL fr lo ret P) {σ : Sg} {pc : Nat} {lv : List (Nat × Value)} {st : List Value} {va : Value} (hd : decode cc pc = .ok (.dup, 1)) (hva : va.category = 1) (kk : gG X w σ (pc + 1) lv (va :: va :: st)) : gG X w σ pc lv (va :: st) := by
  obtain ⟨p, l, e, R, s, m, args, below, meth, c, A, Qc, nL'⟩ := X
  obtain ⟨hx, hb, hml, rfl, hown, hts, hr, hlk, hK, hN, hA, hAd, hRm, hQ⟩ := C
  intro H locs ls hls hP hD hS
  exact lv_dup hx hb hd hva (kk H locs ls hls hP hD hS)
theorem gr_dup2 {X : GX} {w : Wl} {cc : ByteArray} {own : String} {Ts : List Cond} {nL fr lo : Nat} {ret : Option FieldType} {P : Option Value → Sg → Prop} (C : gC X w cc own Ts nL fr lo ret P) {σ : Sg} {pc : Nat} {lv : List (Nat × Value)} {st : List Value} {va vb : Value} (hd : decode cc pc = .ok (.dup2, 1)) (hva : va.category = 1) (hvb : vb.category = 1) (kk : gG X w σ (pc + 1) lv (va :: vb :: va :: vb :: st)) : gG X w σ pc lv (va :: vb :: st) := by
  obtain ⟨p, l, e, R, s, m, args, below, meth, c, A, Qc, nL'⟩ := X
  obtain ⟨hx, hb, hml, rfl, hown, hts, hr, hlk, hK, hN, hA, hAd, hRm, hQ⟩ := C
  intro H locs ls hls hP hD hS
  exact lv_dup2_11 hx hb hd hva hvb (kk H locs ls hls hP hD hS)
theorem gr_dup_x1 {X : GX} {w : Wl} {cc : ByteArray} {own : String} {Ts : List Cond} {nL fr lo : Nat} {ret : Option FieldType} {P : Option Value → Sg → Prop} (C : gC X w cc own Ts nL fr lo ret P) {σ : Sg} {pc : Nat} {lv : List (Nat × Value)} {st : List Value} {va vb : Value} (hd : decode cc pc = .ok (.dup_x1, 1)) (hva : va.category = 1) (hvb : vb.category = 1) (kk : gG X w σ (pc + 1) lv (va :: vb :: va :: st)) : gG X w σ pc lv (va :: vb :: st) := by
  obtain ⟨p, l, e, R, s, m, args, below, meth, c, A, Qc, nL'⟩ := X
  obtain ⟨hx, hb, hml, rfl, hown, hts, hr, hlk, hK, hN, hA, hAd, hRm, hQ⟩ := C
  intro H locs ls hls hP hD hS
  exact lv_dup_x1 hx hb hd hva hvb (kk H locs ls hls hP hD hS)
theorem gr_pop {X : GX} {w : Wl} {cc : ByteArray} {own : String} {Ts : List Cond} {nL fr lo : Nat} {ret : Option FieldType} {P : Option Value → Sg → Prop} (C : gC X w cc own Ts nL fr lo ret P) {σ : Sg} {pc : Nat} {lv : List (Nat × Value)} {st : List Value} {va : Value} (hd : decode cc pc = .ok (.pop, 1)) (hva : va.category = 1) (kk : gG X w σ (pc + 1) lv st) : gG X w σ pc lv (va :: st) := by
  obtain ⟨p, l, e, R, s, m, args, below, meth, c, A, Qc, nL'⟩ := X
  obtain ⟨hx, hb, hml, rfl, hown, hts, hr, hlk, hK, hN, hA, hAd, hRm, hQ⟩ := C
  intro H locs ls hls hP hD hS
  exact lv_pop hx hb hd hva (kk H locs ls hls hP hD hS)
theorem gr_if_eq {X : GX} {w : Wl} {cc : ByteArray} {own : String} {Ts : List Cond} {nL fr lo : Nat} {ret : Option FieldType} {P : Option Value → Sg → Prop} (C : gC X w cc own Ts nL fr lo ret P) {σ : Sg} {pc : Nat} {lv : List (Nat × Value)} {st : List Value} {x : Int32} {off : Int} (tgt : Nat) (hd : decode cc pc = .ok (.ifCond .eq off, 3)) (ht : (pc : Int) + off = (tgt : Int)) (kt : x = 0 → gG X w σ tgt lv st) (kf : ¬ x = 0 → gG X w σ (pc + 3) lv st) : gG X w σ pc lv (.int x :: st) := by
  obtain ⟨p, l, e, R, s, m, args, below, meth, c, A, Qc, nL'⟩ := X
  obtain ⟨hx, hb, -⟩ := C
  intro H locs ls hls hP hD hS
  exact lv_if_eq hx hb hd ht (fun h => kt h H locs ls hls hP hD hS) (fun h => kf h H locs ls hls hP hD hS)
theorem gr_if_lt {X : GX} {w : Wl} {cc : ByteArray} {own : String} {Ts : List Cond} {nL fr lo : Nat} {ret : Option FieldType} {P : Option Value → Sg → Prop} (C : gC X w cc own Ts nL fr lo ret P) {σ : Sg} {pc : Nat} {lv : List (Nat × Value)} {st : List Value} {x : Int32} {off : Int} (tgt : Nat) (hd : decode cc pc = .ok (.ifCond .lt off, 3)) (ht : (pc : Int) + off = (tgt : Int)) (kt : x < 0 → gG X w σ tgt lv st) (kf : ¬ x < 0 → gG X w σ (pc + 3) lv st) : gG X w σ pc lv (.int x :: st) := by
  obtain ⟨p, l, e, R, s, m, args, below, meth, c, A, Qc, nL'⟩ := X
  obtain ⟨hx, hb, -⟩ := C
  intro H locs ls hls hP hD hS
  exact lv_if_lt hx hb hd ht (fun h => kt h H locs ls hls hP hD hS) (fun h => kf h H locs ls hls hP hD hS)
theorem gr_if_ge {X : GX} {w : Wl} {cc : ByteArray} {own : String} {Ts : List Cond} {nL fr lo : Nat} {ret : Option FieldType} {P : Option Value → Sg → Prop} (C : gC X w cc own Ts nL fr lo ret P) {σ : Sg} {pc : Nat} {lv : List (Nat × Value)} {st : List Value} {x : Int32} {off : Int} (tgt : Nat) (hd : decode cc pc = .ok (.ifCond .ge off, 3)) (ht : (pc : Int) + off = (tgt : Int)) (kt : 0 ≤ x → gG X w σ tgt lv st) (kf : ¬ 0 ≤ x → gG X w σ (pc + 3) lv st) : gG X w σ pc lv (.int x :: st) := by
  obtain ⟨p, l, e, R, s, m, args, below, meth, c, A, Qc, nL'⟩ := X
  obtain ⟨hx, hb, -⟩ := C
  intro H locs ls hls hP hD hS
  exact lv_if_ge hx hb hd ht (fun h => kt h H locs ls hls hP hD hS) (fun h => kf h H locs ls hls hP hD hS)
theorem gr_if_gt {X : GX} {w : Wl} {cc : ByteArray} {own : String} {Ts : List Cond} {nL fr lo : Nat} {ret : Option FieldType} {P : Option Value → Sg → Prop} (C : gC X w cc own Ts nL fr lo ret P) {σ : Sg} {pc : Nat} {lv : List (Nat × Value)} {st : List Value} {x : Int32} {off : Int} (tgt : Nat) (hd : decode cc pc = .ok (.ifCond .gt off, 3)) (ht : (pc : Int) + off = (tgt : Int)) (kt : 0 < x → gG X w σ tgt lv st) (kf : ¬ 0 < x → gG X w σ (pc + 3) lv st) : gG X w σ pc lv (.int x :: st) := by
  obtain ⟨p, l, e, R, s, m, args, below, meth, c, A, Qc, nL'⟩ := X
  obtain ⟨hx, hb, -⟩ := C
  intro H locs ls hls hP hD hS
  exact lv_if_gt hx hb hd ht (fun h => kt h H locs ls hls hP hD hS) (fun h => kf h H locs ls hls hP hD hS)
theorem gr_if_le {X : GX} {w : Wl} {cc : ByteArray} {own : String} {Ts : List Cond} {nL fr lo : Nat} {ret : Option FieldType} {P : Option Value → Sg → Prop} (C : gC X w cc own Ts nL fr lo ret P) {σ : Sg} {pc : Nat} {lv : List (Nat × Value)} {st : List Value} {x : Int32} {off : Int} (tgt : Nat) (hd : decode cc pc = .ok (.ifCond .le off, 3)) (ht : (pc : Int) + off = (tgt : Int)) (kt : x ≤ 0 → gG X w σ tgt lv st) (kf : ¬ x ≤ 0 → gG X w σ (pc + 3) lv st) : gG X w σ pc lv (.int x :: st) := by
  obtain ⟨p, l, e, R, s, m, args, below, meth, c, A, Qc, nL'⟩ := X
  obtain ⟨hx, hb, -⟩ := C
  intro H locs ls hls hP hD hS
  exact lv_if_le hx hb hd ht (fun h => kt h H locs ls hls hP hD hS) (fun h => kf h H locs ls hls hP hD hS)
theorem gr_if_ne {X : GX} {w : Wl} {cc : ByteArray} {own : String} {Ts : List Cond} {nL fr lo : Nat} {ret : Option FieldType} {P : Option Value → Sg → Prop} (C : gC X w cc own Ts nL fr lo ret P) {σ : Sg} {pc : Nat} {lv : List (Nat × Value)} {st : List Value} {x : Int32} {off : Int} (tgt : Nat) (hd : decode cc pc = .ok (.ifCond .ne off, 3)) (ht : (pc : Int) + off = (tgt : Int)) (kt : ¬ x = 0 → gG X w σ tgt lv st) (kf : x = 0 → gG X w σ (pc + 3) lv st) : gG X w σ pc lv (.int x :: st) := by
  obtain ⟨p, l, e, R, s, m, args, below, meth, c, A, Qc, nL'⟩ := X
  obtain ⟨hx, hb, -⟩ := C
  intro H locs ls hls hP hD hS
  exact lv_if_ne hx hb hd ht (fun h => kt h H locs ls hls hP hD hS) (fun h => kf h H locs ls hls hP hD hS)
theorem gr_icmp_eq {X : GX} {w : Wl} {cc : ByteArray} {own : String} {Ts : List Cond} {nL fr lo : Nat} {ret : Option FieldType} {P : Option Value → Sg → Prop} (C : gC X w cc own Ts nL fr lo ret P) {σ : Sg} {pc : Nat} {lv : List (Nat × Value)} {st : List Value} {x y : Int32} {off : Int} (tgt : Nat) (hd : decode cc pc = .ok (.if_icmp .eq off, 3)) (ht : (pc : Int) + off = (tgt : Int)) (kt : x = y → gG X w σ tgt lv st) (kf : ¬ x = y → gG X w σ (pc + 3) lv st) : gG X w σ pc lv (.int y :: .int x :: st) := by
  obtain ⟨p, l, e, R, s, m, args, below, meth, c, A, Qc, nL'⟩ := X
  obtain ⟨hx, hb, -⟩ := C
  intro H locs ls hls hP hD hS
  exact lv_icmp_eq hx hb hd ht (fun h => kt h H locs ls hls hP hD hS) (fun h => kf h H locs ls hls hP hD hS)
theorem gr_icmp_lt {X : GX} {w : Wl} {cc : ByteArray} {own : String} {Ts : List Cond} {nL fr lo : Nat} {ret : Option FieldType} {P : Option Value → Sg → Prop} (C : gC X w cc own Ts nL fr lo ret P) {σ : Sg} {pc : Nat} {lv : List (Nat × Value)} {st : List Value} {x y : Int32} {off : Int} (tgt : Nat) (hd : decode cc pc = .ok (.if_icmp .lt off, 3)) (ht : (pc : Int) + off = (tgt : Int)) (kt : x < y → gG X w σ tgt lv st) (kf : ¬ x < y → gG X w σ (pc + 3) lv st) : gG X w σ pc lv (.int y :: .int x :: st) := by
  obtain ⟨p, l, e, R, s, m, args, below, meth, c, A, Qc, nL'⟩ := X
  obtain ⟨hx, hb, -⟩ := C
  intro H locs ls hls hP hD hS
  exact lv_icmp_lt hx hb hd ht (fun h => kt h H locs ls hls hP hD hS) (fun h => kf h H locs ls hls hP hD hS)
theorem gr_icmp_ge {X : GX} {w : Wl} {cc : ByteArray} {own : String} {Ts : List Cond} {nL fr lo : Nat} {ret : Option FieldType} {P : Option Value → Sg → Prop} (C : gC X w cc own Ts nL fr lo ret P) {σ : Sg} {pc : Nat} {lv : List (Nat × Value)} {st : List Value} {x y : Int32} {off : Int} (tgt : Nat) (hd : decode cc pc = .ok (.if_icmp .ge off, 3)) (ht : (pc : Int) + off = (tgt : Int)) (kt : y ≤ x → gG X w σ tgt lv st) (kf : ¬ y ≤ x → gG X w σ (pc + 3) lv st) : gG X w σ pc lv (.int y :: .int x :: st) := by
  obtain ⟨p, l, e, R, s, m, args, below, meth, c, A, Qc, nL'⟩ := X
  obtain ⟨hx, hb, -⟩ := C
  intro H locs ls hls hP hD hS
  exact lv_icmp_ge hx hb hd ht (fun h => kt h H locs ls hls hP hD hS) (fun h => kf h H locs ls hls hP hD hS)
theorem gr_icmp_gt {X : GX} {w : Wl} {cc : ByteArray} {own : String} {Ts : List Cond} {nL fr lo : Nat} {ret : Option FieldType} {P : Option Value → Sg → Prop} (C : gC X w cc own Ts nL fr lo ret P) {σ : Sg} {pc : Nat} {lv : List (Nat × Value)} {st : List Value} {x y : Int32} {off : Int} (tgt : Nat) (hd : decode cc pc = .ok (.if_icmp .gt off, 3)) (ht : (pc : Int) + off = (tgt : Int)) (kt : y < x → gG X w σ tgt lv st) (kf : ¬ y < x → gG X w σ (pc + 3) lv st) : gG X w σ pc lv (.int y :: .int x :: st) := by
  obtain ⟨p, l, e, R, s, m, args, below, meth, c, A, Qc, nL'⟩ := X
  obtain ⟨hx, hb, -⟩ := C
  intro H locs ls hls hP hD hS
  exact lv_icmp_gt hx hb hd ht (fun h => kt h H locs ls hls hP hD hS) (fun h => kf h H locs ls hls hP hD hS)
theorem gr_icmp_le {X : GX} {w : Wl} {cc : ByteArray} {own : String} {Ts : List Cond} {nL fr lo : Nat} {ret : Option FieldType} {P : Option Value → Sg → Prop} (C : gC X w cc own Ts nL fr lo ret P) {σ : Sg} {pc : Nat} {lv : List (Nat × Value)} {st : List Value} {x y : Int32} {off : Int} (tgt : Nat) (hd : decode cc pc = .ok (.if_icmp .le off, 3)) (ht : (pc : Int) + off = (tgt : Int)) (kt : x ≤ y → gG X w σ tgt lv st) (kf : ¬ x ≤ y → gG X w σ (pc + 3) lv st) : gG X w σ pc lv (.int y :: .int x :: st) := by
  obtain ⟨p, l, e, R, s, m, args, below, meth, c, A, Qc, nL'⟩ := X
  obtain ⟨hx, hb, -⟩ := C
  intro H locs ls hls hP hD hS
  exact lv_icmp_le hx hb hd ht (fun h => kt h H locs ls hls hP hD hS) (fun h => kf h H locs ls hls hP hD hS)
theorem gr_icmp_ne {X : GX} {w : Wl} {cc : ByteArray} {own : String} {Ts : List Cond} {nL fr lo : Nat} {ret : Option FieldType} {P : Option Value → Sg → Prop} (C : gC X w cc own Ts nL fr lo ret P) {σ : Sg} {pc : Nat} {lv : List (Nat × Value)} {st : List Value} {x y : Int32} {off : Int} (tgt : Nat) (hd : decode cc pc = .ok (.if_icmp .ne off, 3)) (ht : (pc : Int) + off = (tgt : Int)) (kt : ¬ x = y → gG X w σ tgt lv st) (kf : x = y → gG X w σ (pc + 3) lv st) : gG X w σ pc lv (.int y :: .int x :: st) := by
  obtain ⟨p, l, e, R, s, m, args, below, meth, c, A, Qc, nL'⟩ := X
  obtain ⟨hx, hb, -⟩ := C
  intro H locs ls hls hP hD hS
  exact lv_icmp_ne hx hb hd ht (fun h => kt h H locs ls hls hP hD hS) (fun h => kf h H locs ls hls hP hD hS)
theorem gr_goto {X : GX} {w : Wl} {cc : ByteArray} {own : String} {Ts : List Cond} {nL fr lo : Nat} {ret : Option FieldType} {P : Option Value → Sg → Prop} (C : gC X w cc own Ts nL fr lo ret P) {σ : Sg} {pc : Nat} {lv : List (Nat × Value)} {st : List Value} {off : Int} (tgt : Nat) (hd : decode cc pc = .ok (.goto off, 3)) (ht : (pc : Int) + off = (tgt : Int)) (kk : gG X w σ tgt lv st) : gG X w σ pc lv st := by
  obtain ⟨p, l, e, R, s, m, args, below, meth, c, A, Qc, nL'⟩ := X
  obtain ⟨hx, hb, -⟩ := C
  intro H locs ls hls hP hD hS
  exact lv_goto hx hb hd ht (kk H locs ls hls hP hD hS)
theorem gr_tout {X : GX} {w : Wl} {cc : ByteArray} {own : String} {Ts : List Cond} {nL fr lo : Nat} {ret : Option FieldType} {P : Option Value → Sg → Prop} (C : gC X w cc own Ts nL fr lo ret P) {σ : Sg} {pc : Nat} {lv : List (Nat × Value)} {st : List Value} {dflt lo' hi : Int} {offs : Array Int} {len : Nat} {x : Int32} (tgt : Nat) (hd : decode cc pc = .ok (.tableswitch dflt lo' hi offs, len)) (h : x.toInt < lo' ∨ hi < x.toInt) (ht : (pc : Int) + dflt = (tgt : Int)) (kk : gG X w σ tgt lv st) : gG X w σ pc lv (.int x :: st) := by
  obtain ⟨p, l, e, R, s, m, args, below, meth, c, A, Qc, nL'⟩ := X
  obtain ⟨hx, hb, -⟩ := C
  intro H locs ls hls hP hD hS
  exact lv_tableOut hx hb hd h ht (kk H locs ls hls hP hD hS)
theorem gr_tin {X : GX} {w : Wl} {cc : ByteArray} {own : String} {Ts : List Cond} {nL fr lo : Nat} {ret : Option FieldType} {P : Option Value → Sg → Prop} (C : gC X w cc own Ts nL fr lo ret P) {σ : Sg} {pc : Nat} {lv : List (Nat × Value)} {st : List Value} {dflt lo' hi : Int} {offs : Array Int} {len : Nat} {x : Int32} (v : Int) (off : Int) (tgt : Nat) (hd : decode cc pc = .ok (.tableswitch dflt lo' hi offs, len)) (hv : x.toInt = v) (h1 : ¬ v < lo') (h2 : ¬ hi < v) (ho : offs[(v - lo').toNat]? = some off) (ht : (pc : Int) + off = (tgt : Int)) (kk : gG X w σ tgt lv st) : gG X w σ pc lv (.int x :: st) := by
  obtain ⟨p, l, e, R, s, m, args, below, meth, c, A, Qc, nL'⟩ := X
  obtain ⟨hx, hb, -⟩ := C
  intro H locs ls hls hP hD hS
  subst hv
  exact lv_tableIn hx hb hd h1 h2 ho ht (kk H locs ls hls hP hD hS)
theorem gr_look {X : GX} {w : Wl} {cc : ByteArray} {own : String} {Ts : List Cond} {nL fr lo : Nat} {ret : Option FieldType} {P : Option Value → Sg → Prop} (C : gC X w cc own Ts nL fr lo ret P) {σ : Sg} {pc : Nat} {lv : List (Nat × Value)} {st : List Value} {dflt : Int} {ps : Array (Int × Int)} {len : Nat} {x : Int32} {off : Int} (tgt : Nat) (hd : decode cc pc = .ok (.lookupswitch dflt ps, len)) (hp : (ps.toList.zip (ps.toList.drop 1)).all (fun (a, next) => a.1 < next.1) = true) (ho : Op.lookupswitch.offset ps.toList dflt x.toInt = off) (ht : (pc : Int) + off = (tgt : Int)) (kk : gG X w σ tgt lv st) : gG X w σ pc lv (.int x :: st) := by
  obtain ⟨p, l, e, R, s, m, args, below, meth, c, A, Qc, nL'⟩ := X
  obtain ⟨hx, hb, -⟩ := C
  intro H locs ls hls hP hD hS
  exact lv_lookup hx hb hd hp ho ht (kk H locs ls hls hP hD hS)
/-- an index in its range -/
abbrev gIn (i : Int32) (n : Nat) : Prop := 0 ≤ i.toInt ∧ i.toInt < (n : Int)
theorem gIn_vp {i : Int32} {n : Nat} (h : gIn i n) : vp_in i n := vp_in_iff.mpr h
theorem gr_iald {X : GX} {w : Wl} {cc : ByteArray} {own : String} {Ts : List Cond} {nL fr lo : Nat} {ret : Option FieldType} {P : Option Value → Sg → Prop} (C : gC X w cc own Ts nL fr lo ret P) {σ : Sg} {pc : Nat} {lv : List (Nat × Value)} {st : List Value} (k n : Nat) {i : Int32} (hd : decode cc pc = .ok (.iaload, 1)) (hk : w.2.2.2[k]? = some (.inl (0, n))) (hi : gIn i n) (kk : gG X w σ (pc + 1) lv (.int (σ k i.toNatClampNeg) :: st)) : gG X w σ pc lv (.int i :: .ref (w.2.2.1 k) :: st) := by
  obtain ⟨p, l, e, R, s, m, args, below, meth, c, A, Qc, nL'⟩ := X
  obtain ⟨hx, hb, hml, rfl, hown, hts, hr, hlk, hK, hN, hA, hAd, hRm, hQ⟩ := C
  intro H locs ls hls hP hD hS
  exact va_iald hx hb hK hP k 0 (gWs_get w σ k hk) (gTy_at _ 0 (by decide)) (gIn_vp hi) hd (kk H locs ls hls hP hD hS)
theorem gr_bald {X : GX} {w : Wl} {cc : ByteArray} {own : String} {Ts : List Cond} {nL fr lo : Nat} {ret : Option FieldType} {P : Option Value → Sg → Prop} (C : gC X w cc own Ts nL fr lo ret P) {σ : Sg} {pc : Nat} {lv : List (Nat × Value)} {st : List Value} (k n : Nat) {i : Int32} (hd : decode cc pc = .ok (.baload, 1)) (hk : w.2.2.2[k]? = some (.inl (1, n))) (hi : gIn i n) (kk : gG X w σ (pc + 1) lv (.int (σ k i.toNatClampNeg) :: st)) : gG X w σ pc lv (.int i :: .ref (w.2.2.1 k) :: st) := by
  obtain ⟨p, l, e, R, s, m, args, below, meth, c, A, Qc, nL'⟩ := X
  obtain ⟨hx, hb, hml, rfl, hown, hts, hr, hlk, hK, hN, hA, hAd, hRm, hQ⟩ := C
  intro H locs ls hls hP hD hS
  exact va_bald hx hb hK hP k 1 (gWs_get w σ k hk) (gTy_at _ 1 (by decide)) (gIn_vp hi) hd (kk H locs ls hls hP hD hS)
theorem gr_iast {X : GX} {w : Wl} {cc : ByteArray} {own : String} {Ts : List Cond} {nL fr lo : Nat} {ret : Option FieldType} {P : Option Value → Sg → Prop} (C : gC X w cc own Ts nL fr lo ret P) {σ : Sg} {pc : Nat} {lv : List (Nat × Value)} {st : List Value} (k n : Nat) {i x : Int32} (hd : decode cc pc = .ok (.iastore, 1)) (hk : w.2.2.2[k]? = some (.inl (0, n))) (hi : gIn i n) (kk : gG X w (gUp σ k i.toNatClampNeg x) (pc + 1) lv st) : gG X w σ pc lv (.int x :: .int i :: .ref (w.2.2.1 k) :: st) := by
  obtain ⟨p, l, e, R, s, m, args, below, meth, c, A, Qc, nL'⟩ := X
  obtain ⟨hx, hb, hml, rfl, hown, hts, hr, hlk, hK, hN, hA, hAd, hRm, hQ⟩ := C
  intro H locs ls hls hP hD hS
  exact va_iast hx hb hK hP hD hS k 0 (gWs_get w σ k hk) (gTy_at _ 0 (by decide)) (gIn_vp hi) hd (fun H1 locs1 hP1 hD1 hS1 => kk H1 locs1 ls hls (by have e := gWs_set (σ := σ) (f := upd (σ k) i.toNatClampNeg x) hk; rw [show gUp σ k i.toNatClampNeg x = (fun k' => if k' = k then upd (σ k) i.toNatClampNeg x else σ k') from rfl, ← e]; exact hP1) (gWs_apart hD hAd) hS1)
theorem gr_bast {X : GX} {w : Wl} {cc : ByteArray} {own : String} {Ts : List Cond} {nL fr lo : Nat} {ret : Option FieldType} {P : Option Value → Sg → Prop} (C : gC X w cc own Ts nL fr lo ret P) {σ : Sg} {pc : Nat} {lv : List (Nat × Value)} {st : List Value} (k n : Nat) {i x : Int32} (hd : decode cc pc = .ok (.bastore, 1)) (hk : w.2.2.2[k]? = some (.inl (1, n))) (hi : gIn i n) (kk : gG X w (gUp σ k i.toNatClampNeg (vp_nar .byte x)) (pc + 1) lv st) : gG X w σ pc lv (.int x :: .int i :: .ref (w.2.2.1 k) :: st) := by
  obtain ⟨p, l, e, R, s, m, args, below, meth, c, A, Qc, nL'⟩ := X
  obtain ⟨hx, hb, hml, rfl, hown, hts, hr, hlk, hK, hN, hA, hAd, hRm, hQ⟩ := C
  intro H locs ls hls hP hD hS
  exact va_bast hx hb hK hP hD hS k 1 (gWs_get w σ k hk) (gTy_at _ 1 (by decide)) (gIn_vp hi) hd (fun H1 locs1 hP1 hD1 hS1 => kk H1 locs1 ls hls (by have e := gWs_set (σ := σ) (f := upd (σ k) i.toNatClampNeg (vp_nar .byte x)) hk; rw [show gUp σ k i.toNatClampNeg (vp_nar .byte x) = (fun k' => if k' = k then upd (σ k) i.toNatClampNeg (vp_nar .byte x) else σ k') from rfl, ← e]; exact hP1) (gWs_apart hD hAd) hS1)
theorem gr_aldS {X : GX} {w : Wl} {cc : ByteArray} {own : String} {Ts : List Cond} {nL fr lo : Nat} {ret : Option FieldType} {P : Option Value → Sg → Prop} (C : gC X w cc own Ts nL fr lo ret P) {σ : Sg} {pc : Nat} {lv : List (Nat × Value)} {st : List Value} (k n b k2 : Nat) {i : Int32} (hd : decode cc pc = .ok (.aaload, 1)) (hk : w.2.2.2[k]? = some (.inr (.inr (2, n, b, k2)))) (hi : gIn i n) (kk : gG X w σ (pc + 1) lv (.ref (w.2.2.1 (b + k2 * i.toNatClampNeg)) :: st)) : gG X w σ pc lv (.int i :: .ref (w.2.2.1 k) :: st) := by
  obtain ⟨p, l, e, R, s, m, args, below, meth, c, A, Qc, nL'⟩ := X
  obtain ⟨hx, hb, hml, rfl, hown, hts, hr, hlk, hK, hN, hA, hAd, hRm, hQ⟩ := C
  intro H locs ls hls hP hD hS
  exact va_aldq hx hb hK hP k 2 (gWs_get w σ k hk) (gTy_at _ 2 (by decide)) (gIn_vp hi) hd (kk H locs ls hls hP hD hS)
theorem va_aldA {p : Program} {l : Launch} {e : Env} {R : Room} {s : State} {m : MethodId} {args : Array Value} {below : List Frame} {meth : Method} {c : Code} {H : Heap} {locs : List Loc} {cells slots : Nat} {Q : State → Prop} {cc : ByteArray} {pc : Nat} {ls : Array Slot} {rest : List Value} {D : va_G} {cl : List vw_C} {a : Nat} {tys : List (ClassId × FieldType)} {ws : va_W} (hexec : p.tables.exec = Jvm.exec) (hb : c.code = cc) (hK : va_K D cl tys s) (hP : va_P D cl ws H) (q0 t0 : Nat) {cA : ClassId} {ty : FieldType} {n : Nat} {f : Nat → Option Nat} (ha : ws[q0]? = some (a, .inl (cA, n, .inr (.inr (.inr (.inr f)))))) (ht : tys[t0]? = some (cA, .array ty)) {i : Int32} (hin : vp_in i n) (hdg : decode cc pc = .ok (.aaload, 1))
    (kk : W p l e R s m args below meth c H locs cells slots Q (F0 m (pc + 1) ls (va_rf (f i.toNatClampNeg) :: rest))) : W p l e R s m args below meth c H locs cells slots Q (F0 m pc ls (.int i :: .ref a :: rest)) := by
  have hlt : i.toNatClampNeg < n := Nat.not_le.mp fun q => hin (Or.inr q)
  exact W.aald (v := va_rf (f i.toNatClampNeg)) (ty := .array ty) hexec hb (hP q0 _ ha) ((hK.2 t0 _ ht).1 n (fun j => va_rf (f j))) rfl (fun q => by cases q) (by show ¬ (i < 0 ∨ (arrV _ _ _).slots.size ≤ _); rw [arrV_size]; exact hin) (by show (arrV _ _ _).slots[_]? = _; rw [arrV_read _ _ hlt]) rfl rfl hdg kk
theorem gr_aldA {X : GX} {w : Wl} {cc : ByteArray} {own : String} {Ts : List Cond} {nL fr lo : Nat} {ret : Option FieldType} {P : Option Value → Sg → Prop} (C : gC X w cc own Ts nL fr lo ret P) {σ : Sg} {pc : Nat} {lv : List (Nat × Value)} {st : List Value} (k n b k2 : Nat) {i : Int32} (hd : decode cc pc = .ok (.aaload, 1)) (hk : w.2.2.2[k]? = some (.inr (.inr (3, n, b, k2)))) (hi : gIn i n) (kk : gG X w σ (pc + 1) lv (.ref (w.2.2.1 (b + k2 * i.toNatClampNeg)) :: st)) : gG X w σ pc lv (.int i :: .ref (w.2.2.1 k) :: st) := by
  obtain ⟨p, l, e, R, s, m, args, below, meth, c, A, Qc, nL'⟩ := X
  obtain ⟨hx, hb, hml, rfl, hown, hts, hr, hlk, hK, hN, hA, hAd, hRm, hQ⟩ := C
  intro H locs ls hls hP hD hS
  exact va_aldA hx hb hK hP k 3 (gWs_get w σ k hk) (gTy_at _ 3 (by decide)) (gIn_vp hi) hd (kk H locs ls hls hP hD hS)
theorem gr_alenI {X : GX} {w : Wl} {cc : ByteArray} {own : String} {Ts : List Cond} {nL fr lo : Nat} {ret : Option FieldType} {P : Option Value → Sg → Prop} (C : gC X w cc own Ts nL fr lo ret P) {σ : Sg} {pc : Nat} {lv : List (Nat × Value)} {st : List Value} (k n : Nat) {v : Int32} (hd : decode cc pc = .ok (.arraylength, 1)) (hk : w.2.2.2[k]? = some (.inl (0, n))) (hv : Int32.ofNat n = v) (kk : gG X w σ (pc + 1) lv (.int v :: st)) : gG X w σ pc lv (.ref (w.2.2.1 k) :: st) := by
  obtain ⟨p, l, e, R, s, m, args, below, meth, c, A, Qc, nL'⟩ := X
  obtain ⟨hx, hb, hml, rfl, hown, hts, hr, hlk, hK, hN, hA, hAd, hRm, hQ⟩ := C
  intro H locs ls hls hP hD hS
  exact va_alen hx hb hK hP k 0 (gWs_get w σ k hk) (gTy_at _ 0 (by decide)) hv hd (kk H locs ls hls hP hD hS)
theorem gr_alenS {X : GX} {w : Wl} {cc : ByteArray} {own : String} {Ts : List Cond} {nL fr lo : Nat} {ret : Option FieldType} {P : Option Value → Sg → Prop} (C : gC X w cc own Ts nL fr lo ret P) {σ : Sg} {pc : Nat} {lv : List (Nat × Value)} {st : List Value} (k n b k2 : Nat) {v : Int32} (hd : decode cc pc = .ok (.arraylength, 1)) (hk : w.2.2.2[k]? = some (.inr (.inr (2, n, b, k2)))) (hv : Int32.ofNat n = v) (kk : gG X w σ (pc + 1) lv (.int v :: st)) : gG X w σ pc lv (.ref (w.2.2.1 k) :: st) := by
  obtain ⟨p, l, e, R, s, m, args, below, meth, c, A, Qc, nL'⟩ := X
  obtain ⟨hx, hb, hml, rfl, hown, hts, hr, hlk, hK, hN, hA, hAd, hRm, hQ⟩ := C
  intro H locs ls hls hP hD hS
  exact va_alen hx hb hK hP k 2 (gWs_get w σ k hk) (gTy_at _ 2 (by decide)) hv hd (kk H locs ls hls hP hD hS)
theorem gr_getI {X : GX} {w : Wl} {cc : ByteArray} {own : String} {Ts : List Cond} {nL fr lo : Nat} {ret : Option FieldType} {P : Option Value → Sg → Prop} (C : gC X w cc own Ts nL fr lo ret P) {σ : Sg} {pc : Nat} {lv : List (Nat × Value)} {st : List Value} (k j : Nat) {index ci N : Nat} {fs : List (Option Nat)} {C1 : String} {T : u_T} (hd : decode cc pc = .ok (.getfield index, 3)) (hk : w.2.2.2[k]? = some (.inr (.inl (ci, fs)))) (hcl : vwCl[ci]? = some (C1, T, N)) (hin : ∀ v ∈ u_ws C1 T N, v ∈ Ts) (hlt : j < N) (hln : Cond.fieldLink own index (T j).1 (T j).2.1 (T j).2.2.1 ∈ Ts) (hf : fs[j]? = some none) (kk : gG X w σ (pc + 3) lv (.int (σ k j) :: st)) : gG X w σ pc lv (.ref (w.2.2.1 k) :: st) := by
  obtain ⟨p, l, e, R, s, m, args, below, meth, c, A, Qc, nL'⟩ := X
  obtain ⟨hx, hb, hml, rfl, hown, hts, hr, hlk, hK, hN, hA, hAd, hRm, hQ⟩ := C
  intro H locs ls hls hP hD hS
  exact va_get hx hb hts hin hown hK hP k (gWs_get w σ k hk) hcl j hlt (hts _ hln) (fun _ h9 => h9) (gFld_get hf) hd (kk H locs ls hls hP hD hS)
theorem gr_getR {X : GX} {w : Wl} {cc : ByteArray} {own : String} {Ts : List Cond} {nL fr lo : Nat} {ret : Option FieldType} {P : Option Value → Sg → Prop} (C : gC X w cc own Ts nL fr lo ret P) {σ : Sg} {pc : Nat} {lv : List (Nat × Value)} {st : List Value} (k j : Nat) {index ci N : Nat} {fs : List (Option Nat)} {C1 : String} {T : u_T} (q : Nat) (hd : decode cc pc = .ok (.getfield index, 3)) (hk : w.2.2.2[k]? = some (.inr (.inl (ci, fs)))) (hcl : vwCl[ci]? = some (C1, T, N)) (hin : ∀ v ∈ u_ws C1 T N, v ∈ Ts) (hlt : j < N) (hln : Cond.fieldLink own index (T j).1 (T j).2.1 (T j).2.2.1 ∈ Ts) (hf : fs[j]? = some (some q)) (kk : gG X w σ (pc + 3) lv (.ref (w.2.2.1 q) :: st)) : gG X w σ pc lv (.ref (w.2.2.1 k) :: st) := by
  obtain ⟨p, l, e, R, s, m, args, below, meth, c, A, Qc, nL'⟩ := X
  obtain ⟨hx, hb, hml, rfl, hown, hts, hr, hlk, hK, hN, hA, hAd, hRm, hQ⟩ := C
  intro H locs ls hls hP hD hS
  exact va_get hx hb hts hin hown hK hP k (gWs_get w σ k hk) hcl j hlt (hts _ hln) (fun _ h9 => h9) (gFld_get hf) hd (kk H locs ls hls hP hD hS)
theorem gr_putI {X : GX} {w : Wl} {cc : ByteArray} {own : String} {Ts : List Cond} {nL fr lo : Nat} {ret : Option FieldType} {P : Option Value → Sg → Prop} (C : gC X w cc own Ts nL fr lo ret P) {σ : Sg} {pc : Nat} {lv : List (Nat × Value)} {st : List Value} (k j : Nat) {index ci N : Nat} {fs : List (Option Nat)} {C1 : String} {T : u_T} {x : Int32} (hd : decode cc pc = .ok (.putfield index, 3)) (hk : w.2.2.2[k]? = some (.inr (.inl (ci, fs)))) (hcl : vwCl[ci]? = some (C1, T, N)) (hin : ∀ v ∈ u_ws C1 T N, v ∈ Ts) (hlt : j < N) (hln : Cond.fieldLink own index (T j).1 (T j).2.1 (T j).2.2.1 ∈ Ts) (hf : fs[j]? = some none) (ty0 : Nat → FieldType) (hty : ∀ k, k < N → parseFieldDescriptor (T k).2.2.1 = some (ty0 k)) (hnm : ∀ a, a < N → ∀ b, b < N → a ≠ b → (T a).2.1 ≠ (T b).2.1) (hfin : (T j).2.2.2 = false) (ty : FieldType) (hpd : parseFieldDescriptor (T j).2.2.1 = some ty) (hnr : narrow ty (.int x) = .int x) (hft : fits ty (.int x) = true) (kk : gG X w (gUp σ k j x) (pc + 3) lv st) : gG X w σ pc lv (.int x :: .ref (w.2.2.1 k) :: st) := by
  obtain ⟨p, l, e, R, s, m, args, below, meth, c, A, Qc, nL'⟩ := X
  obtain ⟨hx, hb, hml, rfl, hown, hts, hr, hlk, hK, hN, hA, hAd, hRm, hQ⟩ := C
  intro H locs ls hls hP hD hS
  exact va_put hx hb hts hin ty0 hty hnm hown hK hP hD hS k (gWs_get w σ k hk) hcl j hlt (hts _ hln) (fun _ h9 => h9) hfin hpd hnr hft (by rw [gFld_len]; exact (List.getElem?_eq_some_iff.mp hf).1) hd (fun H1 locs1 hP1 hD1 hS1 => kk H1 locs1 ls hls (by have e := gWs_set (σ := σ) (f := upd (σ k) j x) hk; rw [show gUp σ k j x = (fun k' => if k' = k then upd (σ k) j x else σ k') from rfl, ← e]; rw [gFld_set hf] at hP1; exact hP1) (gWs_apart hD hAd) hS1)
theorem gr_iret {X : GX} {w : Wl} {cc : ByteArray} {own : String} {Ts : List Cond} {nL fr lo : Nat} {P : Option Value → Sg → Prop} (C : gC X w cc own Ts nL fr lo (some .int) P) {σ : Sg} {pc : Nat} {lv : List (Nat × Value)} {x : Int32} (hd : decode cc pc = .ok (.ireturn, 1)) (hp : P (some (.int x)) σ) : gG X w σ pc lv [.int x] := by
  obtain ⟨p, l, e, R, s, m, args, below, meth, c, A, Qc, nL'⟩ := X
  obtain ⟨hx, hb, hml, rfl, hown, hts, hr, hlk, hK, hN, hA, hAd, hRm, hQ⟩ := C
  intro H locs ls hls hP hD hS
  exact W.iret hx hb hr (fun t ht hW => hQ _ σ H locs t hp hP hD hS ht hW) hS.2.2 hd hlk
theorem gr_zret {X : GX} {w : Wl} {cc : ByteArray} {own : String} {Ts : List Cond} {nL fr lo : Nat} {P : Option Value → Sg → Prop} (C : gC X w cc own Ts nL fr lo (some .boolean) P) {σ : Sg} {pc : Nat} {lv : List (Nat × Value)} {x : Int32} (hd : decode cc pc = .ok (.ireturn, 1)) (hnz : narrow .boolean (.int x) = .int x) (hp : P (some (.int x)) σ) : gG X w σ pc lv [.int x] := by
  obtain ⟨p, l, e, R, s, m, args, below, meth, c, A, Qc, nL'⟩ := X
  obtain ⟨hx, hb, hml, rfl, hown, hts, hr, hlk, hK, hN, hA, hAd, hRm, hQ⟩ := C
  intro H locs ls hls hP hD hS
  exact W.zret hx hb hr hnz (fun t ht hW => hQ _ σ H locs t hp hP hD hS ht hW) hS.2.2 hd hlk
theorem gr_vret {X : GX} {w : Wl} {cc : ByteArray} {own : String} {Ts : List Cond} {nL fr lo : Nat} {P : Option Value → Sg → Prop} (C : gC X w cc own Ts nL fr lo (none) P) {σ : Sg} {pc : Nat} {lv : List (Nat × Value)} (hd : decode cc pc = .ok (.return_, 1)) (hp : P (none) σ) : gG X w σ pc lv [] := by
  obtain ⟨p, l, e, R, s, m, args, below, meth, c, A, Qc, nL'⟩ := X
  obtain ⟨hx, hb, hml, rfl, hown, hts, hr, hlk, hK, hN, hA, hAd, hRm, hQ⟩ := C
  intro H locs ls hls hP hD hS
  exact W.vret hx hb hr (fun t ht hW => hQ _ σ H locs t hp hP hD hS ht hW) hS.2.2 hd hlk
theorem gr_mmin {X : GX} {w : Wl} {cc : ByteArray} {own : String} {Ts : List Cond} {nL fr lo : Nat} {ret : Option FieldType} {P : Option Value → Sg → Prop} (C : gC X w cc own Ts nL fr lo ret P) {σ : Sg} {pc : Nat} {lv : List (Nat × Value)} {st : List Value} {x y : Int32} {index : Nat} (hd : decode cc pc = .ok (.invokestatic index, 3)) (h1 : Cond.methodLink own index Lib.Math.min.name ∈ Ts) (h2 : Cond.static Lib.Math.min.name ∈ Ts) (h3 : Cond.initialized "java/lang/Math" ∈ Ts) (h4 : Cond.code Lib.Math.min.name Lib.Math.min.code 2 (some .int) ∈ Ts) (hfr : 1 ≤ fr) (hlo : (st.map fun v => v.category).sum + 13 ≤ lo) (kk : gG X w σ (pc + 3) lv (.int (if y < x then y else x) :: st)) : gG X w σ pc lv (.int y :: .int x :: st) := by
  obtain ⟨p, l, e, R, s, m, args, below, meth, c, A, Qc, nL'⟩ := X
  obtain ⟨hx, hb, hml, rfl, hown, hts, hr, hlk, hK, hN, hA, hAd, hRm, hQ⟩ := C
  intro H locs ls hls hP hD hS
  exact va_mmin hx hb (by rw [hml, hls.1]) hown (hts _ h1) (hts _ h2) (hts _ h3) (hts _ h4) (Nat.le_trans hfr hRm.1) (Nat.le_trans hlo hRm.2) (Nat.zero_le _) (Nat.zero_le _) hd (kk H locs ls hls hP hD hS)
theorem gr_mmax {X : GX} {w : Wl} {cc : ByteArray} {own : String} {Ts : List Cond} {nL fr lo : Nat} {ret : Option FieldType} {P : Option Value → Sg → Prop} (C : gC X w cc own Ts nL fr lo ret P) {σ : Sg} {pc : Nat} {lv : List (Nat × Value)} {st : List Value} {x y : Int32} {index : Nat} (hd : decode cc pc = .ok (.invokestatic index, 3)) (h1 : Cond.methodLink own index Lib.Math.max.name ∈ Ts) (h2 : Cond.static Lib.Math.max.name ∈ Ts) (h3 : Cond.initialized "java/lang/Math" ∈ Ts) (h4 : Cond.code Lib.Math.max.name Lib.Math.max.code 2 (some .int) ∈ Ts) (hfr : 1 ≤ fr) (hlo : (st.map fun v => v.category).sum + 13 ≤ lo) (kk : gG X w σ (pc + 3) lv (.int (if x < y then y else x) :: st)) : gG X w σ pc lv (.int y :: .int x :: st) := by
  obtain ⟨p, l, e, R, s, m, args, below, meth, c, A, Qc, nL'⟩ := X
  obtain ⟨hx, hb, hml, rfl, hown, hts, hr, hlk, hK, hN, hA, hAd, hRm, hQ⟩ := C
  intro H locs ls hls hP hD hS
  exact va_mmax hx hb (by rw [hml, hls.1]) hown (hts _ h1) (hts _ h2) (hts _ h3) (hts _ h4) (Nat.le_trans hfr hRm.1) (Nat.le_trans hlo hRm.2) (Nat.zero_le _) (Nat.zero_le _) hd (kk H locs ls hls hP hD hS)
set_option maxHeartbeats 1000000 in
theorem gr_callVI {X : GX} {w : Wl} {cc : ByteArray} {own : String} {Ts : List Cond} {nL fr lo : Nat} {ret : Option FieldType} {P : Option Value → Sg → Prop} (C : gC X w cc own Ts nL fr lo ret P) {σ : Sg} {pc : Nat} {lv : List (Nat × Value)} {st0 : List Value} {r : Int32}{σ2 : Sg} {cret : Option FieldType} {index : Nat} {y : MethodName} {ws ws' : List Cond} {rm : Room} {bytes : ByteArray} {maxL : Nat} {As rest : List Value} (k : Nat) {ci N n : Nat} {fs : List (Option Nat)} {C1 : String} {T : u_T} (hM : gMI X.2.1 w y ws rm (.ref (w.2.2.1 k) :: As) σ r σ2) (hG : GoodIn Ts (wsV own index C1 y ws)) (hw : ws = Cond.code y bytes maxL cret :: ws') (hcs : rm.cells = 0 ∧ rm.slots = 0) (hR : rm.frames + 1 ≤ fr ∧ 8 + (maxL + 11) + rm.locals ≤ lo) (hst : st0 = As.reverse ++ .ref (w.2.2.1 k) :: rest) (hrest : (rest.map fun v => v.category).sum ≤ 8) (hn : As.length = n) (hdd : y.cls = C1 ∧ y.cls ≠ "java/lang/invoke/MethodHandle" ∧ y.cls ≠ "java/lang/invoke/VarHandle" ∧ (parseMethodDescriptor y.desc).map (fun d => d.parameters.length) = some n) (hk : w.2.2.2[k]? = some (.inr (.inl (ci, fs)))) (hcl : vwCl[ci]? = some (C1, T, N)) (hd : decode cc pc = .ok (.invokevirtual index, 3)) (kk : gG X w σ2 (pc + 3) lv (.int r :: rest)) : gG X w σ pc lv st0 := by
  obtain ⟨p, l, e, R, s, m, args, below, meth, c, A, Qc, nL'⟩ := X
  obtain ⟨hx, hb, hml, rfl, hown, hts, hr, hlk, hK, hN, hA, hAd, hRm, hQ⟩ := C
  dsimp only at hM
  intro H locs ls hls hP hD hS
  have hFc : ∀ q, gA w H.size q → A q := fun q h => h.elim (fun ⟨k, h1, h2⟩ => by rw [h2]; exact hAd k h1) (fun h => hA q (Nat.le_trans hS.1 h))
  subst hst
  refine va_calli (va_runV (As := As) (rest := rest) (b := w.2.2.1 k) ⟨hx, hb, hml, hown, hts⟩ (hM H.size) (cwV n hts hG hw hcs.1 hcs.2 hdd ⟨Nat.le_trans hR.1 hRm.1, Nat.le_trans hR.2 hRm.2⟩) ⟨fun a U g mk q => by obtain ⟨q0, q1, qP, qK, qD, qN⟩ := q; exact ⟨q0, q1, qP, va_K.moved (u := U) (U := U.calling g mk a) (Vm.Alike.refl U.vm) qK, qD, gNs_same (s := U) (U := U.calling g mk a) rfl qN⟩, va_recv hK hP hcl (gWs_get w σ k hk), fun U hU hW => ⟨rfl, by rw [hU], by rw [hU]; exact hP, va_K.moved hW.alike hK, hD.weaken (fun _ _ _ _ => trivial), gNs_warm hW hN⟩⟩ rfl hn hls.1 rfl (lv_room hrest) hd ⟨Nat.zero_le _, Nat.zero_le _⟩) hS (fun q _ h => hFc q h) hFc (fun r1 u t H1 locs1 ht hvm hw hB hz1 hk1 hS1 => ?_)
  obtain ⟨rfl, rfl⟩ := hw
  obtain ⟨hP1, hK1, hD1, -⟩ := hB
  rw [ht] at hP1
  exact kk H1 locs1 ls hls hP1 (gWs_apart hD hAd) hS1
set_option maxHeartbeats 1000000 in
theorem gr_callSI {X : GX} {w : Wl} {cc : ByteArray} {own : String} {Ts : List Cond} {nL fr lo : Nat} {ret : Option FieldType} {P : Option Value → Sg → Prop} (C : gC X w cc own Ts nL fr lo ret P) {σ : Sg} {pc : Nat} {lv : List (Nat × Value)} {st0 : List Value} {r : Int32}{σ2 : Sg} {cret : Option FieldType} {index : Nat} {y : MethodName} {ws ws' : List Cond} {rm : Room} {bytes : ByteArray} {maxL : Nat} {As rest : List Value} {n : Nat} (hM : gMI X.2.1 w y ws rm As σ r σ2) (hG : GoodIn Ts (va_wsS own index y ws)) (hw : ws = Cond.code y bytes maxL cret :: ws') (hcs : rm.cells = 0 ∧ rm.slots = 0) (hR : rm.frames + 1 ≤ fr ∧ 8 + (maxL + 11) + rm.locals ≤ lo) (hst : st0 = As.reverse ++ rest) (hrest : (rest.map fun v => v.category).sum ≤ 8) (hn : As.length = n) (hdd : y.cls ≠ "java/lang/invoke/MethodHandle" ∧ y.cls ≠ "java/lang/invoke/VarHandle" ∧ (parseMethodDescriptor y.desc).map (fun d => d.parameters.length) = some n) (hd : decode cc pc = .ok (.invokestatic index, 3)) (kk : gG X w σ2 (pc + 3) lv (.int r :: rest)) : gG X w σ pc lv st0 := by
  obtain ⟨p, l, e, R, s, m, args, below, meth, c, A, Qc, nL'⟩ := X
  obtain ⟨hx, hb, hml, rfl, hown, hts, hr, hlk, hK, hN, hA, hAd, hRm, hQ⟩ := C
  dsimp only at hM
  intro H locs ls hls hP hD hS
  have hFc : ∀ q, gA w H.size q → A q := fun q h => h.elim (fun ⟨k, h1, h2⟩ => by rw [h2]; exact hAd k h1) (fun h => hA q (Nat.le_trans hS.1 h))
  subst hst
  refine va_calli (va_runS (As := As) (rest := rest) ⟨hx, hb, hml, hown, hts⟩ (hM H.size) (va_cwS n hts hG hw hcs.1 hcs.2 hdd ⟨Nat.le_trans hR.1 hRm.1, Nat.le_trans hR.2 hRm.2⟩) ⟨fun a U g mk q => by obtain ⟨q0, q1, qP, qK, qD, qN⟩ := q; exact ⟨q0, q1, qP, va_K.moved (u := U) (U := U.calling g mk a) (Vm.Alike.refl U.vm) qK, qD, gNs_same (s := U) (U := U.calling g mk a) rfl qN⟩, fun U hU hW => ⟨rfl, by rw [hU], by rw [hU]; exact hP, va_K.moved hW.alike hK, hD.weaken (fun _ _ _ _ => trivial), gNs_warm hW hN⟩⟩ rfl hn hls.1 rfl (lv_room hrest) hd ⟨Nat.zero_le _, Nat.zero_le _⟩) hS (fun q _ h => hFc q h) hFc (fun r1 u t H1 locs1 ht hvm hw hB hz1 hk1 hS1 => ?_)
  obtain ⟨rfl, rfl⟩ := hw
  obtain ⟨hP1, hK1, hD1, -⟩ := hB
  rw [ht] at hP1
  exact kk H1 locs1 ls hls hP1 (gWs_apart hD hAd) hS1
set_option maxHeartbeats 1000000 in
theorem gr_callNI {X : GX} {w : Wl} {cc : ByteArray} {own : String} {Ts : List Cond} {nL fr lo : Nat} {ret : Option FieldType} {P : Option Value → Sg → Prop} (C : gC X w cc own Ts nL fr lo ret P) {σ : Sg} {pc : Nat} {lv : List (Nat × Value)} {st0 : List Value} {r : Int32}{σ2 : Sg} {cret : Option FieldType} {index : Nat} {y : MethodName} {ws ws' : List Cond} {rm : Room} {bytes : ByteArray} {maxL : Nat} {As rest : List Value} {n : Nat} {host : String} (hM : gMI X.2.1 w y ws rm As σ r σ2) (hG : GoodIn Ts ws) (hw : ws = Cond.code y bytes maxL cret :: ws') (hcs : rm.cells = 0 ∧ rm.slots = 0) (hR : rm.frames + 1 ≤ fr ∧ 8 + (maxL + 11) + rm.locals ≤ lo) (hst : st0 = As.reverse ++ rest) (hrest : (rest.map fun v => v.category).sum ≤ 8) (hn : As.length = n) (hnm : (own, index, y, host) ∈ gNest) (hini : Cond.initialized y.cls ∈ Ts) (hstc : Cond.static y ∈ Ts) (hdd : y.cls ≠ "java/lang/invoke/MethodHandle" ∧ y.cls ≠ "java/lang/invoke/VarHandle" ∧ (parseMethodDescriptor y.desc).map (fun d => d.parameters.length) = some n) (hd : decode cc pc = .ok (.invokestatic index, 3)) (kk : gG X w σ2 (pc + 3) lv (.int r :: rest)) : gG X w σ pc lv st0 := by
  obtain ⟨p, l, e, R, s, m, args, below, meth, c, A, Qc, nL'⟩ := X
  obtain ⟨hx, hb, hml, rfl, hown, hts, hr, hlk, hK, hN, hA, hAd, hRm, hQ⟩ := C
  dsimp only at hM
  intro H locs ls hls hP hD hS
  have hFc : ∀ q, gA w H.size q → A q := fun q h => h.elim (fun ⟨k, h1, h2⟩ => by rw [h2]; exact hAd k h1) (fun h => hA q (Nat.le_trans hS.1 h))
  subst hst
  refine va_calli (va_runSN (As := As) (rest := rest) ⟨hx, hb, hml, hown, hts⟩ (hM H.size) ⟨va_cnB n hts hG hw hcs.1 hcs.2 (hN _ hnm) (hts _ hini) hdd ⟨Nat.le_trans hR.1 hRm.1, Nat.le_trans hR.2 hRm.2⟩, hts _ hstc, trivial⟩ ⟨fun a U g mk q => by obtain ⟨q0, q1, qP, qK, qD, qN⟩ := q; exact ⟨q0, q1, qP, va_K.moved (u := U) (U := U.calling g mk a) (Vm.Alike.refl U.vm) qK, qD, gNs_same (s := U) (U := U.calling g mk a) rfl qN⟩, fun U hU hW => ⟨rfl, by rw [hU], by rw [hU]; exact hP, va_K.moved hW.alike hK, hD.weaken (fun _ _ _ _ => trivial), gNs_warm hW hN⟩⟩ rfl hn hls.1 rfl (lv_room hrest) hd ⟨Nat.zero_le _, Nat.zero_le _⟩) hS (fun q _ h => hFc q h) hFc (fun r1 u t H1 locs1 ht hvm hw hB hz1 hk1 hS1 => ?_)
  obtain ⟨rfl, rfl⟩ := hw
  obtain ⟨hP1, hK1, hD1, -⟩ := hB
  rw [ht] at hP1
  exact kk H1 locs1 ls hls hP1 (gWs_apart hD hAd) hS1
set_option maxHeartbeats 1000000 in
theorem gr_callVV {X : GX} {w : Wl} {cc : ByteArray} {own : String} {Ts : List Cond} {nL fr lo : Nat} {ret : Option FieldType} {P : Option Value → Sg → Prop} (C : gC X w cc own Ts nL fr lo ret P) {σ : Sg} {pc : Nat} {lv : List (Nat × Value)} {st0 : List Value}{σ2 : Sg} {index : Nat} {y : MethodName} {ws ws' : List Cond} {rm : Room} {bytes : ByteArray} {maxL : Nat} {As rest : List Value} (k : Nat) {ci N n : Nat} {fs : List (Option Nat)} {C1 : String} {T : u_T} (hM : gMV X.2.1 w y ws rm (.ref (w.2.2.1 k) :: As) σ σ2) (hG : GoodIn Ts (wsV own index C1 y ws)) (hw : ws = Cond.code y bytes maxL none :: ws') (hcs : rm.cells = 0 ∧ rm.slots = 0) (hR : rm.frames + 1 ≤ fr ∧ 8 + (maxL + 11) + rm.locals ≤ lo) (hst : st0 = As.reverse ++ .ref (w.2.2.1 k) :: rest) (hrest : (rest.map fun v => v.category).sum ≤ 8) (hn : As.length = n) (hdd : y.cls = C1 ∧ y.cls ≠ "java/lang/invoke/MethodHandle" ∧ y.cls ≠ "java/lang/invoke/VarHandle" ∧ (parseMethodDescriptor y.desc).map (fun d => d.parameters.length) = some n) (hk : w.2.2.2[k]? = some (.inr (.inl (ci, fs)))) (hcl : vwCl[ci]? = some (C1, T, N)) (hd : decode cc pc = .ok (.invokevirtual index, 3)) (kk : gG X w σ2 (pc + 3) lv rest) : gG X w σ pc lv st0 := by
  obtain ⟨p, l, e, R, s, m, args, below, meth, c, A, Qc, nL'⟩ := X
  obtain ⟨hx, hb, hml, rfl, hown, hts, hr, hlk, hK, hN, hA, hAd, hRm, hQ⟩ := C
  dsimp only at hM
  intro H locs ls hls hP hD hS
  have hFc : ∀ q, gA w H.size q → A q := fun q h => h.elim (fun ⟨k, h1, h2⟩ => by rw [h2]; exact hAd k h1) (fun h => hA q (Nat.le_trans hS.1 h))
  subst hst
  refine va_callv (va_runV (As := As) (rest := rest) (b := w.2.2.1 k) ⟨hx, hb, hml, hown, hts⟩ (hM H.size) (cwV n hts hG hw hcs.1 hcs.2 hdd ⟨Nat.le_trans hR.1 hRm.1, Nat.le_trans hR.2 hRm.2⟩) ⟨fun a U g mk q => by obtain ⟨q0, q1, qP, qK, qD, qN⟩ := q; exact ⟨q0, q1, qP, va_K.moved (u := U) (U := U.calling g mk a) (Vm.Alike.refl U.vm) qK, qD, gNs_same (s := U) (U := U.calling g mk a) rfl qN⟩, va_recv hK hP hcl (gWs_get w σ k hk), fun U hU hW => ⟨rfl, by rw [hU], by rw [hU]; exact hP, va_K.moved hW.alike hK, hD.weaken (fun _ _ _ _ => trivial), gNs_warm hW hN⟩⟩ rfl hn hls.1 rfl (lv_room hrest) hd ⟨Nat.zero_le _, Nat.zero_le _⟩) hS (fun q _ h => hFc q h) hFc (fun u t H1 locs1 ht hvm hw hB hz1 hk1 hS1 => ?_)
  subst hw
  obtain ⟨hP1, hK1, hD1, -⟩ := hB
  rw [ht] at hP1
  exact kk H1 locs1 ls hls hP1 (gWs_apart hD hAd) hS1
set_option maxHeartbeats 1000000 in
theorem gr_callSV {X : GX} {w : Wl} {cc : ByteArray} {own : String} {Ts : List Cond} {nL fr lo : Nat} {ret : Option FieldType} {P : Option Value → Sg → Prop} (C : gC X w cc own Ts nL fr lo ret P) {σ : Sg} {pc : Nat} {lv : List (Nat × Value)} {st0 : List Value}{σ2 : Sg} {index : Nat} {y : MethodName} {ws ws' : List Cond} {rm : Room} {bytes : ByteArray} {maxL : Nat} {As rest : List Value} {n : Nat} (hM : gMV X.2.1 w y ws rm As σ σ2) (hG : GoodIn Ts (va_wsS own index y ws)) (hw : ws = Cond.code y bytes maxL none :: ws') (hcs : rm.cells = 0 ∧ rm.slots = 0) (hR : rm.frames + 1 ≤ fr ∧ 8 + (maxL + 11) + rm.locals ≤ lo) (hst : st0 = As.reverse ++ rest) (hrest : (rest.map fun v => v.category).sum ≤ 8) (hn : As.length = n) (hdd : y.cls ≠ "java/lang/invoke/MethodHandle" ∧ y.cls ≠ "java/lang/invoke/VarHandle" ∧ (parseMethodDescriptor y.desc).map (fun d => d.parameters.length) = some n) (hd : decode cc pc = .ok (.invokestatic index, 3)) (kk : gG X w σ2 (pc + 3) lv rest) : gG X w σ pc lv st0 := by
  obtain ⟨p, l, e, R, s, m, args, below, meth, c, A, Qc, nL'⟩ := X
  obtain ⟨hx, hb, hml, rfl, hown, hts, hr, hlk, hK, hN, hA, hAd, hRm, hQ⟩ := C
  dsimp only at hM
  intro H locs ls hls hP hD hS
  have hFc : ∀ q, gA w H.size q → A q := fun q h => h.elim (fun ⟨k, h1, h2⟩ => by rw [h2]; exact hAd k h1) (fun h => hA q (Nat.le_trans hS.1 h))
  subst hst
  refine va_callv (va_runS (As := As) (rest := rest) ⟨hx, hb, hml, hown, hts⟩ (hM H.size) (va_cwS n hts hG hw hcs.1 hcs.2 hdd ⟨Nat.le_trans hR.1 hRm.1, Nat.le_trans hR.2 hRm.2⟩) ⟨fun a U g mk q => by obtain ⟨q0, q1, qP, qK, qD, qN⟩ := q; exact ⟨q0, q1, qP, va_K.moved (u := U) (U := U.calling g mk a) (Vm.Alike.refl U.vm) qK, qD, gNs_same (s := U) (U := U.calling g mk a) rfl qN⟩, fun U hU hW => ⟨rfl, by rw [hU], by rw [hU]; exact hP, va_K.moved hW.alike hK, hD.weaken (fun _ _ _ _ => trivial), gNs_warm hW hN⟩⟩ rfl hn hls.1 rfl (lv_room hrest) hd ⟨Nat.zero_le _, Nat.zero_le _⟩) hS (fun q _ h => hFc q h) hFc (fun u t H1 locs1 ht hvm hw hB hz1 hk1 hS1 => ?_)
  subst hw
  obtain ⟨hP1, hK1, hD1, -⟩ := hB
  rw [ht] at hP1
  exact kk H1 locs1 ls hls hP1 (gWs_apart hD hAd) hS1
set_option maxHeartbeats 1000000 in
theorem gr_callNV {X : GX} {w : Wl} {cc : ByteArray} {own : String} {Ts : List Cond} {nL fr lo : Nat} {ret : Option FieldType} {P : Option Value → Sg → Prop} (C : gC X w cc own Ts nL fr lo ret P) {σ : Sg} {pc : Nat} {lv : List (Nat × Value)} {st0 : List Value}{σ2 : Sg} {index : Nat} {y : MethodName} {ws ws' : List Cond} {rm : Room} {bytes : ByteArray} {maxL : Nat} {As rest : List Value} {n : Nat} {host : String} (hM : gMV X.2.1 w y ws rm As σ σ2) (hG : GoodIn Ts ws) (hw : ws = Cond.code y bytes maxL none :: ws') (hcs : rm.cells = 0 ∧ rm.slots = 0) (hR : rm.frames + 1 ≤ fr ∧ 8 + (maxL + 11) + rm.locals ≤ lo) (hst : st0 = As.reverse ++ rest) (hrest : (rest.map fun v => v.category).sum ≤ 8) (hn : As.length = n) (hnm : (own, index, y, host) ∈ gNest) (hini : Cond.initialized y.cls ∈ Ts) (hstc : Cond.static y ∈ Ts) (hdd : y.cls ≠ "java/lang/invoke/MethodHandle" ∧ y.cls ≠ "java/lang/invoke/VarHandle" ∧ (parseMethodDescriptor y.desc).map (fun d => d.parameters.length) = some n) (hd : decode cc pc = .ok (.invokestatic index, 3)) (kk : gG X w σ2 (pc + 3) lv rest) : gG X w σ pc lv st0 := by
  obtain ⟨p, l, e, R, s, m, args, below, meth, c, A, Qc, nL'⟩ := X
  obtain ⟨hx, hb, hml, rfl, hown, hts, hr, hlk, hK, hN, hA, hAd, hRm, hQ⟩ := C
  dsimp only at hM
  intro H locs ls hls hP hD hS
  have hFc : ∀ q, gA w H.size q → A q := fun q h => h.elim (fun ⟨k, h1, h2⟩ => by rw [h2]; exact hAd k h1) (fun h => hA q (Nat.le_trans hS.1 h))
  subst hst
  refine va_callv (va_runSN (As := As) (rest := rest) ⟨hx, hb, hml, hown, hts⟩ (hM H.size) ⟨va_cnB n hts hG hw hcs.1 hcs.2 (hN _ hnm) (hts _ hini) hdd ⟨Nat.le_trans hR.1 hRm.1, Nat.le_trans hR.2 hRm.2⟩, hts _ hstc, trivial⟩ ⟨fun a U g mk q => by obtain ⟨q0, q1, qP, qK, qD, qN⟩ := q; exact ⟨q0, q1, qP, va_K.moved (u := U) (U := U.calling g mk a) (Vm.Alike.refl U.vm) qK, qD, gNs_same (s := U) (U := U.calling g mk a) rfl qN⟩, fun U hU hW => ⟨rfl, by rw [hU], by rw [hU]; exact hP, va_K.moved hW.alike hK, hD.weaken (fun _ _ _ _ => trivial), gNs_warm hW hN⟩⟩ rfl hn hls.1 rfl (lv_room hrest) hd ⟨Nat.zero_le _, Nat.zero_le _⟩) hS (fun q _ h => hFc q h) hFc (fun u t H1 locs1 ht hvm hw hB hz1 hk1 hS1 => ?_)
  subst hw
  obtain ⟨hP1, hK1, hD1, -⟩ := hB
  rw [ht] at hP1
  exact kk H1 locs1 ls hls hP1 (gWs_apart hD hAd) hS1
/-- words of the printed programs: name a value, read, write, call; none where the machine would throw -/
def gLet {α β : Type} (x : α) (f : α → β) : β := f x
def gRd {β : Type} (i : Int32) (n : Nat) (f : Nat → Int32) (K : Int32 → Option β) : Option β := if gIn i n then K (f i.toNatClampNeg) else none
def gIx {β : Type} (i : Int32) (n : Nat) (K : Nat → Option β) : Option β := if gIn i n then K i.toNatClampNeg else none
def gWr {β : Type} (i : Int32) (n : Nat) (σ : Sg) (k : Nat) (v : Int32) (K : Sg → Option β) : Option β := if gIn i n then K (gUp σ k i.toNatClampNeg v) else none
def gNz {β : Type} (y : Int32) (K : Option β) : Option β := if y = 0 then none else K
def gNzl {β : Type} (y : Int64) (K : Option β) : Option β := if y = 0 then none else K
def gZ {β : Type} (y : Int32) (K : Option β) : Option β := if y = 0 ∨ y = 1 then K else none
def gCl {β : Type} (o : Option (Int32 × Sg)) (K : Int32 → Sg → Option β) : Option β := match o with | some (r, σ) => K r σ | none => none
def gCv {β : Type} (o : Option Sg) (K : Sg → Option β) : Option β := match o with | some σ => K σ | none => none
theorem gLet_e {α β : Type} {x : α} {f : α → β} {y : β} (h : gLet x f = y) : ∃ z, z = x ∧ f z = y := ⟨x, rfl, h⟩
theorem gRd_e {β : Type} {i : Int32} {n : Nat} {f : Nat → Int32} {K : Int32 → Option β} {y : β} (h : gRd i n f K = some y) : gIn i n ∧ ∃ z, z = f i.toNatClampNeg ∧ K z = some y := by
  unfold gRd at h
  split at h
  · exact ⟨by assumption, _, rfl, h⟩
  · cases h
theorem gIx_e {β : Type} {i : Int32} {n : Nat} {K : Nat → Option β} {y : β} (h : gIx i n K = some y) : gIn i n ∧ ∃ z, z = i.toNatClampNeg ∧ z < n ∧ K z = some y := by
  unfold gIx at h
  split at h
  · rename_i hi
    refine ⟨hi, _, rfl, ?_, h⟩
    have := gIn_vp hi
    exact Nat.not_le.mp fun q => this (Or.inr q)
  · cases h
theorem gWr_e {β : Type} {i : Int32} {n : Nat} {σ : Sg} {k : Nat} {v : Int32} {K : Sg → Option β} {y : β} (h : gWr i n σ k v K = some y) : gIn i n ∧ ∃ z, z = gUp σ k i.toNatClampNeg v ∧ K z = some y := by
  unfold gWr at h
  split at h
  · exact ⟨by assumption, _, rfl, h⟩
  · cases h
theorem gNz_e {β : Type} {y : Int32} {K : Option β} {z : β} (h : gNz y K = some z) : ¬ y = 0 ∧ K = some z := by
  unfold gNz at h
  split at h
  · cases h
  · exact ⟨by assumption, h⟩
theorem gNzl_e {β : Type} {y : Int64} {K : Option β} {z : β} (h : gNzl y K = some z) : ¬ y = 0 ∧ K = some z := by
  unfold gNzl at h
  split at h
  · cases h
  · exact ⟨by assumption, h⟩
theorem gZ_e {β : Type} {y : Int32} {K : Option β} {z : β} (h : gZ y K = some z) : (narrow .boolean (.int y) = .int y ∧ fits .boolean (.int y) = true) ∧ K = some z := by
  unfold gZ at h
  split at h
  · rename_i hy
    rcases hy with rfl | rfl
    · exact ⟨⟨rfl, rfl⟩, h⟩
    · exact ⟨⟨rfl, rfl⟩, h⟩
  · cases h
theorem gCl_e {β : Type} {o : Option (Int32 × Sg)} {K : Int32 → Sg → Option β} {y : β} (h : gCl o K = some y) : ∃ r σ, o = some (r, σ) ∧ K r σ = some y := by
  unfold gCl at h
  split at h
  · exact ⟨_, _, rfl, h⟩
  · cases h
theorem gCv_e {β : Type} {o : Option Sg} {K : Sg → Option β} {y : β} (h : gCv o K = some y) : ∃ σ, o = some σ ∧ K σ = some y := by
  unfold gCv at h
  split at h
  · exact ⟨_, rfl, h⟩
  · cases h
theorem i32_ne {x k : Int32} (h : ¬ x = k) : x.toInt ≠ k.toInt := fun e => h (Int32.toInt_inj.mp e)
theorem gr_iushr {X : GX} {w : Wl} {cc : ByteArray} {own : String} {Ts : List Cond} {nL fr lo : Nat} {ret : Option FieldType} {P : Option Value → Sg → Prop} (C : gC X w cc own Ts nL fr lo ret P) {σ : Sg} {pc : Nat} {lv : List (Nat × Value)} {st : List Value} {x y : Int32} (hd : decode cc pc = .ok (.iushr, 1)) (kk : gG X w σ (pc + 1) lv (.int ((x.toUInt32 >>> (y.toUInt32 &&& Int32.toUInt32 31)).toInt32) :: st)) : gG X w σ pc lv (.int y :: .int x :: st) := by
  obtain ⟨p, l, e, R, s, m, args, below, meth, c, A, Qc, nL'⟩ := X
  obtain ⟨hx, hb, hml, rfl, hown, hts, hr, hlk, hK, hN, hA, hAd, hRm, hQ⟩ := C
  intro H locs ls hls hP hD hS
  exact lv_iushr hx hb hd rfl (kk H locs ls hls hP hD hS)
theorem gr_ldcw {X : GX} {w : Wl} {cc : ByteArray} {own : String} {Ts : List Cond} {nL fr lo : Nat} {ret : Option FieldType} {P : Option Value → Sg → Prop} (C : gC X w cc own Ts nL fr lo ret P) {σ : Sg} {pc : Nat} {lv : List (Nat × Value)} {st : List Value} {index : Nat} {v : Int32} (hd : decode cc pc = .ok (.ldc_w index, 3)) (hc : Cond.constant own index v ∈ Ts) (kk : gG X w σ (pc + 3) lv (.int v :: st)) : gG X w σ pc lv st := by
  obtain ⟨p, l, e, R, s, m, args, below, meth, c, A, Qc, nL'⟩ := X
  obtain ⟨hx, hb, hml, rfl, hown, hts, hr, hlk, hK, hN, hA, hAd, hRm, hQ⟩ := C
  intro H locs ls hls hP hD hS
  exact lv_ldcw hx hb hown (hts _ hc) hd (kk H locs ls hls hP hD hS)
theorem gr_nmI {X : GX} {w : Wl} {σ : Sg} {pc : Nat} {lv : List (Nat × Value)} {st : List Value} {x e : Int32} (h : x = e) (kk : gG X w σ pc lv (.int x :: st)) : gG X w σ pc lv (.int e :: st) := h ▸ kk
theorem gr_nmL {X : GX} {w : Wl} {σ : Sg} {pc : Nat} {lv : List (Nat × Value)} {st : List Value} {x e : Int64} (h : x = e) (kk : gG X w σ pc lv (.long x :: st)) : gG X w σ pc lv (.long e :: st) := h ▸ kk
theorem gr_nmR {X : GX} {w : Wl} {σ : Sg} {pc : Nat} {lv : List (Nat × Value)} {st : List Value} {x e : Nat} (h : x = e) (kk : gG X w σ pc lv (.ref (w.2.2.1 x) :: st)) : gG X w σ pc lv (.ref (w.2.2.1 e) :: st) := h ▸ kk
theorem gr_nmS {X : GX} {w : Wl} {σ τ : Sg} {pc : Nat} {lv : List (Nat × Value)} {st : List Value} (h : σ = τ) (kk : gG X w σ pc lv st) : gG X w τ pc lv st := h ▸ kk
theorem gr_sub {X : GX} {w : Wl} {σ : Sg} {pc : Nat} {lv : List (Nat × Value)} {st : List Value} (ks : List Nat) (lv' : List (Nat × Value)) (h : lv_pick lv ks = lv') (kk : gG X w σ pc lv' st) : gG X w σ pc lv st := by
  obtain ⟨p, l, e, R, s, m, args, below, meth, c, A, Qc, nL'⟩ := X
  intro H locs ls hls hP hD hS
  exact kk H locs ls (lv_sub hls ks h) hP hD hS
/-- a standing, a plan, a shelf of n standings from b on, at cell k -/
def gSt (w : Wl) (k : Nat) : Prop := w.2.2.2[k]? = some (.inr (.inl (9, [some (k + 1), some (k + 2), some (k + 3), none, none]))) ∧ w.2.2.2[k + 1]? = some (.inl (0, 9)) ∧ w.2.2.2[k + 2]? = some (.inl (0, 9)) ∧ w.2.2.2[k + 3]? = some (.inl (0, 8))
def gPl (w : Wl) (k : Nat) : Prop := w.2.2.2[k]? = some (.inr (.inl (3, [some (k + 1), some (k + 2), some (k + 3), some (k + 4), some (k + 5), some (k + 6), some (k + 7), some (k + 8), some (k + 9), none, none, none, none]))) ∧ w.2.2.2[k + 1]? = some (.inl (0, 8)) ∧ w.2.2.2[k + 2]? = some (.inl (0, 8)) ∧ w.2.2.2[k + 3]? = some (.inl (0, 8)) ∧ w.2.2.2[k + 4]? = some (.inl (0, 8)) ∧ w.2.2.2[k + 5]? = some (.inl (0, 8)) ∧ w.2.2.2[k + 6]? = some (.inl (0, 9)) ∧ w.2.2.2[k + 7]? = some (.inl (0, 9)) ∧ w.2.2.2[k + 8]? = some (.inl (0, 8)) ∧ w.2.2.2[k + 9]? = some (.inl (0, 10))
def gSh (w : Wl) (k n b : Nat) : Prop := w.2.2.2[k]? = some (.inr (.inl (7, [some (k + 1), none, none]))) ∧ w.2.2.2[k + 1]? = some (.inr (.inr (2, n, b, 4))) ∧ ∀ i : Nat, i < n → gSt w (b + 4 * i)
/-- turns of a loop that are enough -/
def gN : Nat := 1000
