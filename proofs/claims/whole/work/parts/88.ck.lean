/-! ===== worlds that grow: constructors, the law ===== -/
abbrev CX : Type := Program × Launch × Env × Room × State × MethodId × Array Value × List Frame × Method × Code × (Nat → Prop) × (State → Prop) × Nat
/-- the goal at an instruction: from any heap that holds these cells; so many cells and slots are new by now -/
def cG (X : CX) (D : va_G) (ws : va_W) (k n : Nat) (pc : Nat) (lv : List (Nat × Value)) (st : List Value) : Prop := match X with
  | (p, l, e, R, s, m, args, below, meth, c, A, Qt, nL) => ∀ (H : Heap) (locs : List Loc) (ls : Array Slot), lv_has ls nL lv → va_P D vwCl ws H → va_D A ws → va_S A s.heap H locs → W p l e R s m args below meth c H locs k n Qt (F0 m pc ls st)
/-- the arrays of references that the class makes -/
def va_AA (U : State) : Prop := (Cond.arrayOver (.array .int)).before #[] U = true
def gAo (U : State) : Prop := va_AO "YoungerMilk$Standing" U ∧ va_AA U
/-- what stands fast in such a walk -/
def cC (X : CX) (D : va_G) (cA : Nat → ClassId) (cc : ByteArray) (own : String) (Ts : List Cond) (nL fr lo MC MS : Nat) : Prop := match X with
  | (p, l, e, R, s, m, args, below, meth, c, A, Qt, nL') => p.tables.exec = Jvm.exec ∧ c.code = cc ∧ c.maxLocals = nL ∧ nL' = nL ∧ s.vm.findClass own = some m.cls ∧ (∀ v ∈ Ts, v.before args s = true) ∧ va_K D vwCl (gTy cA) s ∧ gNs s ∧ gAo s ∧ (∀ q : Nat, s.heap.size ≤ q → A q) ∧ (fr ≤ R.frames ∧ lo ≤ R.locals ∧ MC ≤ R.cells ∧ MS ≤ R.slots)
def cI (X : CX) : Prop := match X with | (_, _, _, _, _, _, _, _, meth, _, _, _, _) => meth.name = "<init>"
/-- its end: a constructor that leaves such cells -/
def cE (X : CX) (D : va_G) (cc : ByteArray) (MC MS : Nat) (w1 : va_W → Prop) : Prop := ∀ (ws : va_W) (k n pc : Nat) (lv : List (Nat × Value)), k ≤ MC → n ≤ MS → w1 ws → decode cc pc = .ok (.return_, 1) → cG X D ws k n pc lv []
/-- the contract of a constructor: of one cell come these -/
def gMN (l : Launch) (D : va_G) (cA : Nat → ClassId) (y : MethodName) (ws : List Cond) (rm : Room) (av : List Value) (w0 : va_W) (w1 : va_W → Prop) : Prop := ∀ sz : Nat, Met l y ws rm (va_Pc av (fun U => U.heap.size = sz ∧ va_P D vwCl w0 U.heap ∧ va_K D vwCl (gTy cA) U ∧ va_D (fun _ => True) w0 ∧ gNs U ∧ gAo U)) (va_Qv (fun u : va_W => w1 u) (fun u U => va_P D vwCl u U.heap ∧ va_D (va_A w0 sz) u) (va_A w0 sz)) rm.cells rm.slots (va_A w0 sz)
theorem va_AAs {u : State} (h : va_AA u) : ∃ comp c k, u.vm.findClass (FieldType.array .int).toString = some comp ∧ (u.vm.classes.findIdx? fun x => match x.kind with | .array component _ => component == comp | _ => false) = some c ∧ u.vm.classes[c]? = some k ∧ k.kind = .array comp (.array .int) ∧ u.vm.findClass ("[" ++ (FieldType.array .int).toString) = some c := by
  unfold va_AA Cond.before at h
  simp only [Cond.holds, Cond.value, beq_iff_eq] at h
  cases hc : u.vm.findClass (FieldType.array .int).toString with
  | none => simp [hc] at h
  | some comp =>
    simp only [hc, Option.bind_some, Option.bind_eq_some_iff, Option.map_eq_some_iff] at h
    obtain ⟨c, hi, k, hk, hb⟩ := h
    obtain ⟨hlt, hp, -⟩ := Array.findIdx?_eq_some_iff_getElem.mp hi
    have hkk : u.vm.classes[c] = k := (Array.getElem?_eq_some_iff.mp hk).2
    rw [hkk] at hp
    cases hkind : k.kind with
    | array component ty =>
      rw [hkind] at hb hp
      simp at hb hp
      exact ⟨comp, c, k, rfl, hi, hk, by rw [hkind, hp, hb.1], hb.2⟩
    | _ => rw [hkind] at hb; simp at hb
theorem va_AA.moved {u U : State} (hvm : u.vm.Alike U.vm) (h : va_AA u) : va_AA U := by
  obtain ⟨comp, c, k, h1, h2, h3, h4, h5⟩ := va_AAs h
  obtain ⟨k', hk', he⟩ := hvm.2.2 _ _ h3
  have hi : (U.vm.classes.findIdx? fun (x : Class) => match x.kind with | .array component _ => component == comp | _ => false) = some c := by
    refine (va_idx_bare U.vm comp).symm.trans ?_
    first | rw [hvm.bare_eq] | rw [← hvm.bare_eq]
    exact (va_idx_bare u.vm comp).trans h2
  have hkind : k'.kind = .array comp (.array .int) := by rw [he]; exact h4
  have f1 : U.vm.findClass (FieldType.array .int).toString = some comp := by rw [hvm.findClass]; exact h1
  have f2 : U.vm.findClass ("[" ++ (FieldType.array .int).toString) = some c := by rw [hvm.findClass]; exact h5
  unfold va_AA Cond.before Cond.holds
  simp only [Cond.value]
  rw [f1, Option.bind_some]
  refine (congrArg (fun o : Option Nat => (o.bind (fun c => (U.vm.classes[c]?).map fun (k : Class) => match k.kind with | .array _ ty => decide (ty = FieldType.array .int) && decide (U.vm.findClass ("[" ++ (FieldType.array .int).toString) = some c) | _ => false) == some true)) hi).trans ?_
  simp [hk', hkind, f2]
theorem gAo.moved {u U : State} (hvm : u.vm.Alike U.vm) (h : gAo u) : gAo U := ⟨va_AO.moved hvm h.1, va_AA.moved hvm h.2⟩
set_option maxHeartbeats 1000000 in
theorem cStart {l : Launch} {D : va_G} {cA : Nat → ClassId} {y : MethodName} {ws ws' : List Cond} {rm : Room} {av : List Value} {w0 : va_W} {w1 : va_W → Prop} (cc : ByteArray) (nL : Nat) (own : String) (hw : ws = Cond.code y cc nL none :: ws') (hpl : plainName y.cls = true) (hy : y.cls = own) (hnm : y.name = "<init>") (hav : (lg_sl av).length ≤ nL)
    (k : ∀ X : CX, X.2.1 = l → cC X D cA cc own ws nL rm.frames rm.locals rm.cells rm.slots → cI X → cE X D cc rm.cells rm.slots w1 → cG X D w0 0 0 0 (lv_args 0 av) []) : gMN l D cA y ws rm av w0 w1 := by
  intro sz
  refine Met.ofW (cc := cc) (maxL := nL) (ret := none) hpl hw ?_
  intro p e s m args below meth c s₁ B hml hv
  obtain ⟨rfl, hsz, hP, hK, hD0, hN, hO⟩ := hv
  have hts := atoms_spec (ws := ws) B.pre
  have hown : s.vm.findClass own = some m.cls := by rw [← hy]; exact findClass_of_methodNamed B.named
  have hin : meth.name = "<init>" := by rw [(name_of_methodNamed B.named B.method).1]; exact hnm
  have hx := B.exec
  have hb := B.bytes
  have hr := B.returns
  have hlk := B.notSynchronized
  subst hsz
  have hD := hD0.self (sz := s.heap.size)
  have hk := k (p, l, e, (headSpec ws rm).room, s, m, av.toArray, below, meth, c, va_A w0 s.heap.size, MQ below (va_Qv (fun u : va_W => w1 u) (fun u U => va_P D vwCl u U.heap ∧ va_D (va_A w0 s.heap.size) u) (va_A w0 s.heap.size)) av.toArray s rm.cells rm.slots (va_A w0 s.heap.size), nL) rfl ⟨hx, hb, hml, rfl, hown, hts, hK, hN, hO, fun q h => Or.inr h, ⟨Nat.le_refl _, Nat.le_refl _, Nat.le_refl _, Nat.le_refl _⟩⟩ hin (by
    intro ws2 k n pc lv hk hn h1 hd H locs ls hls hP1 hD1 hS1
    refine W.widen (k := rm.cells) (n := rm.slots) hk hn ?_
    exact W.vret hx hb hr (fun t ht hW => ⟨⟨ws2, rfl, h1, by rw [ht]; exact hP1, hD1⟩, hS1.F ht⟩) hS1.2.2 hd)
  have hl := lv_entry av (n := nL) hav
  rw [lg_entry_eq]
  exact hk s.heap [] _ hl hP hD va_S.rf
theorem cr_iconst {X : CX} {D : va_G} {cA : Nat → ClassId} {cc : ByteArray} {own : String} {Ts : List Cond} {nL fr lo MC MS : Nat} (C : cC X D cA cc own Ts nL fr lo MC MS) {ws : va_W} {k n pc : Nat} {lv : List (Nat × Value)} {st : List Value} {z : Int} {v : Int32} (hd : decode cc pc = .ok (.iconst z, 1)) (hv : Int32.ofInt z = v) (kk : cG X D ws k n (pc + 1) lv (.int v :: st)) : cG X D ws k n pc lv st := by
  obtain ⟨p, l, e, R, s, m, args, below, meth, c, A, Qt, nL'⟩ := X
  obtain ⟨hx, hb, hml, rfl, hown, hts, hK, hN, hO, hA, hR⟩ := C
  intro H locs ls hls hP hD hS
  exact lv_iconst hx hb hd hv (kk H locs ls hls hP hD hS)
theorem cr_bipush {X : CX} {D : va_G} {cA : Nat → ClassId} {cc : ByteArray} {own : String} {Ts : List Cond} {nL fr lo MC MS : Nat} (C : cC X D cA cc own Ts nL fr lo MC MS) {ws : va_W} {k n pc : Nat} {lv : List (Nat × Value)} {st : List Value} {z : Int} {v : Int32} (hd : decode cc pc = .ok (.bipush z, 2)) (hv : (Int8.ofInt z).toInt32 = v) (kk : cG X D ws k n (pc + 2) lv (.int v :: st)) : cG X D ws k n pc lv st := by
  obtain ⟨p, l, e, R, s, m, args, below, meth, c, A, Qt, nL'⟩ := X
  obtain ⟨hx, hb, hml, rfl, hown, hts, hK, hN, hO, hA, hR⟩ := C
  intro H locs ls hls hP hD hS
  exact lv_bipush hx hb hd hv (kk H locs ls hls hP hD hS)
theorem cr_sipush {X : CX} {D : va_G} {cA : Nat → ClassId} {cc : ByteArray} {own : String} {Ts : List Cond} {nL fr lo MC MS : Nat} (C : cC X D cA cc own Ts nL fr lo MC MS) {ws : va_W} {k n pc : Nat} {lv : List (Nat × Value)} {st : List Value} {z : Int} {v : Int32} (hd : decode cc pc = .ok (.sipush z, 3)) (hv : (Int16.ofInt z).toInt32 = v) (kk : cG X D ws k n (pc + 3) lv (.int v :: st)) : cG X D ws k n pc lv st := by
  obtain ⟨p, l, e, R, s, m, args, below, meth, c, A, Qt, nL'⟩ := X
  obtain ⟨hx, hb, hml, rfl, hown, hts, hK, hN, hO, hA, hR⟩ := C
  intro H locs ls hls hP hD hS
  exact lv_sipush hx hb hd hv (kk H locs ls hls hP hD hS)
theorem cr_iload_n {X : CX} {D : va_G} {cA : Nat → ClassId} {cc : ByteArray} {own : String} {Ts : List Cond} {nL fr lo MC MS : Nat} (C : cC X D cA cc own Ts nL fr lo MC MS) {ws : va_W} {k n pc : Nat} {lv : List (Nat × Value)} {st : List Value} {j : Fin 4} {i : Nat} {x : Int32} (q : Nat) (hd : decode cc pc = .ok (.iload_n j, 1)) (hi : (j : Nat) = i) (hl : lv[q]? = some (i, .int x)) (kk : cG X D ws k n (pc + 1) lv (.int x :: st)) : cG X D ws k n pc lv st := by
  obtain ⟨p, l, e, R, s, m, args, below, meth, c, A, Qt, nL'⟩ := X
  obtain ⟨hx, hb, hml, rfl, hown, hts, hK, hN, hO, hA, hR⟩ := C
  intro H locs ls hls hP hD hS
  exact lv_iload_n hx hb hd hi (lv_at hls q hl) (kk H locs ls hls hP hD hS)
theorem cr_aload_n {X : CX} {D : va_G} {cA : Nat → ClassId} {cc : ByteArray} {own : String} {Ts : List Cond} {nL fr lo MC MS : Nat} (C : cC X D cA cc own Ts nL fr lo MC MS) {ws : va_W} {k n pc : Nat} {lv : List (Nat × Value)} {st : List Value} {j : Fin 4} {i : Nat} {x : Nat} (q : Nat) (hd : decode cc pc = .ok (.aload_n j, 1)) (hi : (j : Nat) = i) (hl : lv[q]? = some (i, .ref x)) (kk : cG X D ws k n (pc + 1) lv (.ref x :: st)) : cG X D ws k n pc lv st := by
  obtain ⟨p, l, e, R, s, m, args, below, meth, c, A, Qt, nL'⟩ := X
  obtain ⟨hx, hb, hml, rfl, hown, hts, hK, hN, hO, hA, hR⟩ := C
  intro H locs ls hls hP hD hS
  exact lv_aload_n hx hb hd hi (lv_at hls q hl) (kk H locs ls hls hP hD hS)
theorem cr_istore_n {X : CX} {D : va_G} {cA : Nat → ClassId} {cc : ByteArray} {own : String} {Ts : List Cond} {nL fr lo MC MS : Nat} (C : cC X D cA cc own Ts nL fr lo MC MS) {ws : va_W} {k n pc : Nat} {lv : List (Nat × Value)} {st : List Value} {j : Fin 4} {i : Nat} {x : Int32} (lv' : List (Nat × Value)) (hd : decode cc pc = .ok (.istore_n j, 1)) (hi : (j : Nat) = i) (hn : i < nL) (hl : (i, Value.int x) :: lv.filter (fun q => !(q.1 == i) && !(q.1 + 1 == i && q.2.category == 2)) = lv') (kk : cG X D ws k n (pc + 1) lv' st) : cG X D ws k n pc lv (.int x :: st) := by
  obtain ⟨p, l, e, R, s, m, args, below, meth, c, A, Qt, nL'⟩ := X
  obtain ⟨hx, hb, hml, rfl, hown, hts, hK, hN, hO, hA, hR⟩ := C
  intro H locs ls hls hP hD hS
  exact lv_istore_n hx hb hd hi hls hn hl (fun ls' hls' => kk H locs ls' hls' hP hD hS)
theorem cr_astore_n {X : CX} {D : va_G} {cA : Nat → ClassId} {cc : ByteArray} {own : String} {Ts : List Cond} {nL fr lo MC MS : Nat} (C : cC X D cA cc own Ts nL fr lo MC MS) {ws : va_W} {k n pc : Nat} {lv : List (Nat × Value)} {st : List Value} {j : Fin 4} {i : Nat} {x : Nat} (lv' : List (Nat × Value)) (hd : decode cc pc = .ok (.astore_n j, 1)) (hi : (j : Nat) = i) (hn : i < nL) (hl : (i, Value.ref x) :: lv.filter (fun q => !(q.1 == i) && !(q.1 + 1 == i && q.2.category == 2)) = lv') (kk : cG X D ws k n (pc + 1) lv' st) : cG X D ws k n pc lv (.ref x :: st) := by
  obtain ⟨p, l, e, R, s, m, args, below, meth, c, A, Qt, nL'⟩ := X
  obtain ⟨hx, hb, hml, rfl, hown, hts, hK, hN, hO, hA, hR⟩ := C
  intro H locs ls hls hP hD hS
  exact lv_astore_n hx hb hd hi hls hn hl (fun ls' hls' => kk H locs ls' hls' hP hD hS)
theorem cr_iinc {X : CX} {D : va_G} {cA : Nat → ClassId} {cc : ByteArray} {own : String} {Ts : List Cond} {nL fr lo MC MS : Nat} (C : cC X D cA cc own Ts nL fr lo MC MS) {ws : va_W} {k n pc : Nat} {lv : List (Nat × Value)} {st : List Value} {i : Nat} {z : Int} {x v : Int32} (q : Nat) (lv' : List (Nat × Value)) (hd : decode cc pc = .ok (.iinc i z, 3)) (hk : lv[q]? = some (i, .int x)) (hv : x + Int32.ofInt z = v) (hn : i < nL) (hl : (i, Value.int v) :: lv.filter (fun q => !(q.1 == i) && !(q.1 + 1 == i && q.2.category == 2)) = lv') (kk : cG X D ws k n (pc + 3) lv' st) : cG X D ws k n pc lv st := by
  obtain ⟨p, l, e, R, s, m, args, below, meth, c, A, Qt, nL'⟩ := X
  obtain ⟨hx, hb, hml, rfl, hown, hts, hK, hN, hO, hA, hR⟩ := C
  intro H locs ls hls hP hD hS
  exact lv_iinc hx hb hd hls hk hv hn hl (fun ls' hls' => kk H locs ls' hls' hP hD hS)
theorem cr_iadd {X : CX} {D : va_G} {cA : Nat → ClassId} {cc : ByteArray} {own : String} {Ts : List Cond} {nL fr lo MC MS : Nat} (C : cC X D cA cc own Ts nL fr lo MC MS) {ws : va_W} {k n pc : Nat} {lv : List (Nat × Value)} {st : List Value} {x y : Int32} (hd : decode cc pc = .ok (.iadd, 1)) (kk : cG X D ws k n (pc + 1) lv (.int (x + y) :: st)) : cG X D ws k n pc lv (.int y :: .int x :: st) := by
  obtain ⟨p, l, e, R, s, m, args, below, meth, c, A, Qt, nL'⟩ := X
  obtain ⟨hx, hb, hml, rfl, hown, hts, hK, hN, hO, hA, hR⟩ := C
  intro H locs ls hls hP hD hS
  exact lv_iadd hx hb hd (kk H locs ls hls hP hD hS)
theorem cr_isub {X : CX} {D : va_G} {cA : Nat → ClassId} {cc : ByteArray} {own : String} {Ts : List Cond} {nL fr lo MC MS : Nat} (C : cC X D cA cc own Ts nL fr lo MC MS) {ws : va_W} {k n pc : Nat} {lv : List (Nat × Value)} {st : List Value} {x y : Int32} (hd : decode cc pc = .ok (.isub, 1)) (kk : cG X D ws k n (pc + 1) lv (.int (x - y) :: st)) : cG X D ws k n pc lv (.int y :: .int x :: st) := by
  obtain ⟨p, l, e, R, s, m, args, below, meth, c, A, Qt, nL'⟩ := X
  obtain ⟨hx, hb, hml, rfl, hown, hts, hK, hN, hO, hA, hR⟩ := C
  intro H locs ls hls hP hD hS
  exact lv_isub hx hb hd (kk H locs ls hls hP hD hS)
theorem cr_iand {X : CX} {D : va_G} {cA : Nat → ClassId} {cc : ByteArray} {own : String} {Ts : List Cond} {nL fr lo MC MS : Nat} (C : cC X D cA cc own Ts nL fr lo MC MS) {ws : va_W} {k n pc : Nat} {lv : List (Nat × Value)} {st : List Value} {x y : Int32} (hd : decode cc pc = .ok (.iand, 1)) (kk : cG X D ws k n (pc + 1) lv (.int (x &&& y) :: st)) : cG X D ws k n pc lv (.int y :: .int x :: st) := by
  obtain ⟨p, l, e, R, s, m, args, below, meth, c, A, Qt, nL'⟩ := X
  obtain ⟨hx, hb, hml, rfl, hown, hts, hK, hN, hO, hA, hR⟩ := C
  intro H locs ls hls hP hD hS
  exact lv_iand hx hb hd (kk H locs ls hls hP hD hS)
theorem cr_dup {X : CX} {D : va_G} {cA : Nat → ClassId} {cc : ByteArray} {own : String} {Ts : List Cond} {nL fr lo MC MS : Nat} (C : cC X D cA cc own Ts nL fr lo MC MS) {ws : va_W} {k n pc : Nat} {lv : List (Nat × Value)} {st : List Value} {va : Value} (hd : decode cc pc = .ok (.dup, 1)) (hva : va.category = 1) (kk : cG X D ws k n (pc + 1) lv (va :: va :: st)) : cG X D ws k n pc lv (va :: st) := by
  obtain ⟨p, l, e, R, s, m, args, below, meth, c, A, Qt, nL'⟩ := X
  obtain ⟨hx, hb, hml, rfl, hown, hts, hK, hN, hO, hA, hR⟩ := C
  intro H locs ls hls hP hD hS
  exact lv_dup hx hb hd hva (kk H locs ls hls hP hD hS)
theorem cr_pop {X : CX} {D : va_G} {cA : Nat → ClassId} {cc : ByteArray} {own : String} {Ts : List Cond} {nL fr lo MC MS : Nat} (C : cC X D cA cc own Ts nL fr lo MC MS) {ws : va_W} {k n pc : Nat} {lv : List (Nat × Value)} {st : List Value} {va : Value} (hd : decode cc pc = .ok (.pop, 1)) (hva : va.category = 1) (kk : cG X D ws k n (pc + 1) lv st) : cG X D ws k n pc lv (va :: st) := by
  obtain ⟨p, l, e, R, s, m, args, below, meth, c, A, Qt, nL'⟩ := X
  obtain ⟨hx, hb, hml, rfl, hown, hts, hK, hN, hO, hA, hR⟩ := C
  intro H locs ls hls hP hD hS
  exact lv_pop hx hb hd hva (kk H locs ls hls hP hD hS)
theorem cr_icmp_eq {X : CX} {D : va_G} {cA : Nat → ClassId} {cc : ByteArray} {own : String} {Ts : List Cond} {nL fr lo MC MS : Nat} (C : cC X D cA cc own Ts nL fr lo MC MS) {ws : va_W} {k n pc : Nat} {lv : List (Nat × Value)} {st : List Value} {x y : Int32} {off : Int} (tgt : Nat) (hd : decode cc pc = .ok (.if_icmp .eq off, 3)) (ht : (pc : Int) + off = (tgt : Int)) (kt : x = y → cG X D ws k n tgt lv st) (kf : ¬ x = y → cG X D ws k n (pc + 3) lv st) : cG X D ws k n pc lv (.int y :: .int x :: st) := by
  obtain ⟨p, l, e, R, s, m, args, below, meth, c, A, Qt, nL'⟩ := X
  obtain ⟨hx, hb, hml, rfl, hown, hts, hK, hN, hO, hA, hR⟩ := C
  intro H locs ls hls hP hD hS
  exact lv_icmp_eq hx hb hd ht (fun h => kt h H locs ls hls hP hD hS) (fun h => kf h H locs ls hls hP hD hS)
theorem cr_icmp_ge {X : CX} {D : va_G} {cA : Nat → ClassId} {cc : ByteArray} {own : String} {Ts : List Cond} {nL fr lo MC MS : Nat} (C : cC X D cA cc own Ts nL fr lo MC MS) {ws : va_W} {k n pc : Nat} {lv : List (Nat × Value)} {st : List Value} {x y : Int32} {off : Int} (tgt : Nat) (hd : decode cc pc = .ok (.if_icmp .ge off, 3)) (ht : (pc : Int) + off = (tgt : Int)) (kt : y ≤ x → cG X D ws k n tgt lv st) (kf : ¬ y ≤ x → cG X D ws k n (pc + 3) lv st) : cG X D ws k n pc lv (.int y :: .int x :: st) := by
  obtain ⟨p, l, e, R, s, m, args, below, meth, c, A, Qt, nL'⟩ := X
  obtain ⟨hx, hb, hml, rfl, hown, hts, hK, hN, hO, hA, hR⟩ := C
  intro H locs ls hls hP hD hS
  exact lv_icmp_ge hx hb hd ht (fun h => kt h H locs ls hls hP hD hS) (fun h => kf h H locs ls hls hP hD hS)
theorem cr_icmp_gt {X : CX} {D : va_G} {cA : Nat → ClassId} {cc : ByteArray} {own : String} {Ts : List Cond} {nL fr lo MC MS : Nat} (C : cC X D cA cc own Ts nL fr lo MC MS) {ws : va_W} {k n pc : Nat} {lv : List (Nat × Value)} {st : List Value} {x y : Int32} {off : Int} (tgt : Nat) (hd : decode cc pc = .ok (.if_icmp .gt off, 3)) (ht : (pc : Int) + off = (tgt : Int)) (kt : y < x → cG X D ws k n tgt lv st) (kf : ¬ y < x → cG X D ws k n (pc + 3) lv st) : cG X D ws k n pc lv (.int y :: .int x :: st) := by
  obtain ⟨p, l, e, R, s, m, args, below, meth, c, A, Qt, nL'⟩ := X
  obtain ⟨hx, hb, hml, rfl, hown, hts, hK, hN, hO, hA, hR⟩ := C
  intro H locs ls hls hP hD hS
  exact lv_icmp_gt hx hb hd ht (fun h => kt h H locs ls hls hP hD hS) (fun h => kf h H locs ls hls hP hD hS)
theorem cr_goto {X : CX} {D : va_G} {cA : Nat → ClassId} {cc : ByteArray} {own : String} {Ts : List Cond} {nL fr lo MC MS : Nat} (C : cC X D cA cc own Ts nL fr lo MC MS) {ws : va_W} {k n pc : Nat} {lv : List (Nat × Value)} {st : List Value} {off : Int} (tgt : Nat) (hd : decode cc pc = .ok (.goto off, 3)) (ht : (pc : Int) + off = (tgt : Int)) (kk : cG X D ws k n tgt lv st) : cG X D ws k n pc lv st := by
  obtain ⟨p, l, e, R, s, m, args, below, meth, c, A, Qt, nL'⟩ := X
  obtain ⟨hx, hb, hml, rfl, hown, hts, hK, hN, hO, hA, hR⟩ := C
  intro H locs ls hls hP hD hS
  exact lv_goto hx hb hd ht (kk H locs ls hls hP hD hS)
theorem cr_tout {X : CX} {D : va_G} {cA : Nat → ClassId} {cc : ByteArray} {own : String} {Ts : List Cond} {nL fr lo MC MS : Nat} (C : cC X D cA cc own Ts nL fr lo MC MS) {ws : va_W} {k n pc : Nat} {lv : List (Nat × Value)} {st : List Value} {dflt lo' hi : Int} {offs : Array Int} {len : Nat} {x : Int32} (tgt : Nat) (hd : decode cc pc = .ok (.tableswitch dflt lo' hi offs, len)) (h : x.toInt < lo' ∨ hi < x.toInt) (ht : (pc : Int) + dflt = (tgt : Int)) (kk : cG X D ws k n tgt lv st) : cG X D ws k n pc lv (.int x :: st) := by
  obtain ⟨p, l, e, R, s, m, args, below, meth, c, A, Qt, nL'⟩ := X
  obtain ⟨hx, hb, hml, rfl, hown, hts, hK, hN, hO, hA, hR⟩ := C
  intro H locs ls hls hP hD hS
  exact lv_tableOut hx hb hd h ht (kk H locs ls hls hP hD hS)
theorem cr_tin {X : CX} {D : va_G} {cA : Nat → ClassId} {cc : ByteArray} {own : String} {Ts : List Cond} {nL fr lo MC MS : Nat} (C : cC X D cA cc own Ts nL fr lo MC MS) {ws : va_W} {k n pc : Nat} {lv : List (Nat × Value)} {st : List Value} {dflt lo' hi : Int} {offs : Array Int} {len : Nat} {x : Int32} (v : Int) (off : Int) (tgt : Nat) (hd : decode cc pc = .ok (.tableswitch dflt lo' hi offs, len)) (hv : x.toInt = v) (h1 : ¬ v < lo') (h2 : ¬ hi < v) (ho : offs[(v - lo').toNat]? = some off) (ht : (pc : Int) + off = (tgt : Int)) (kk : cG X D ws k n tgt lv st) : cG X D ws k n pc lv (.int x :: st) := by
  obtain ⟨p, l, e, R, s, m, args, below, meth, c, A, Qt, nL'⟩ := X
  obtain ⟨hx, hb, hml, rfl, hown, hts, hK, hN, hO, hA, hR⟩ := C
  intro H locs ls hls hP hD hS
  subst hv
  exact lv_tableIn hx hb hd h1 h2 ho ht (kk H locs ls hls hP hD hS)
theorem cr_objInit {X : CX} {D : va_G} {cA : Nat → ClassId} {cc : ByteArray} {own : String} {Ts : List Cond} {nL fr lo MC MS : Nat} (C : cC X D cA cc own Ts nL fr lo MC MS) {ws : va_W} {k n pc : Nat} {lv : List (Nat × Value)} {st : List Value} {idx a : Nat} (hd : decode cc pc = .ok (.invokespecial idx, 3)) (h1 : Cond.methodLink own idx objectInit ∈ Ts) (h2 : Cond.instanceMethod objectInit ∈ Ts) (h3 : Cond.code objectInit ⟨#[0xb1]⟩ 1 none ∈ Ts) (hf : 1 ≤ fr) (hl : (st.map fun v => v.category).sum + 12 ≤ lo) (kk : cG X D ws k n (pc + 3) lv st) : cG X D ws k n pc lv (.ref a :: st) := by
  obtain ⟨p, l, e, R, s, m, args, below, meth, c, A, Qt, nL'⟩ := X
  obtain ⟨hx, hb, hml, rfl, hown, hts, hK, hN, hO, hA, hR⟩ := C
  intro H locs ls hls hP hD hS
  refine W.objInit hx hb hown (hts _ h1) (hts _ h2) (hts _ h3) rfl (by rw [hml]; exact hls.1) rfl hd (Nat.le_trans hf hR.1) (Nat.le_trans (by show 2 * 0 + _ + 12 ≤ lo; omega) hR.2.1) ?_
  exact W.eq (g2 := F0 m (pc + 3) ls st) rfl (kk H locs ls hls hP hD hS)
theorem cr_newa {X : CX} {D : va_G} {cA : Nat → ClassId} {cc : ByteArray} {own : String} {Ts : List Cond} {nL fr lo MC MS : Nat} (C : cC X D cA cc own Ts nL fr lo MC MS) {ws : va_W} {k n pc : Nat} {lv : List (Nat × Value)} {st : List Value} (t : Nat) (ht : t < 2) {atype : ArrayType} {v : Int32} (N : Nat) (hd : decode cc pc = .ok (.newarray atype, 2)) (hty : newarray.typeOf atype = gTt t) (harr : Cond.arrayClass (newarray.typeOf atype) ∈ Ts) (hn : ¬ v < 0) (hNn : v.toNatClampNeg = N) (hbytes : N * 4 ≤ 536870912) (hc : k + 1 ≤ MC) (hs : n + N ≤ MS) (kk : ∀ q : Nat, cG X D (ws ++ [(q, .inl (cA t, N, .inl (fun _ => 0)))]) (k + 1) (n + N) (pc + 2) lv (.ref q :: st)) : cG X D ws k n pc lv (.int v :: st) := by
  obtain ⟨p, l, e, R, s, m, args, below, meth, c, A, Qt, nL'⟩ := X
  obtain ⟨hx, hb, hml, rfl, hown, hts, hK, hN, hO, hA, hR⟩ := C
  intro H locs ls hls hP hD hS
  have hb2 : N * componentBytes (gTt t) ≤ 536870912 := by
    rcases (show t = 0 ∨ t = 1 by omega) with rfl | rfl
    · exact hbytes
    · exact Nat.le_trans (show N * 1 ≤ N * 4 by omega) hbytes
  refine va_newa (a0 := (N, .inl (fun _ => 0))) hx hb (hts _ harr) hty hK hP hD hS hA (fun cB => ?_) hn hNn hb2 (Nat.le_trans hc hR.2.2.1) (Nat.le_trans hs hR.2.2.2) hd (fun q cB H1 hK1 hP1 hD1 hS1 => ?_)
  · rcases (show t = 0 ∨ t = 1 by omega) with rfl | rfl <;> rfl
  · have e : cB = cA t := by
      have h1 := (hK1.2 4 (cB, gTt t) rfl).2
      have h2 := (hK.2 t _ (gTy_at cA t (by omega))).2
      rcases (show t = 0 ∨ t = 1 by omega) with rfl | rfl
      · exact Option.some.inj (h1.symm.trans h2)
      · exact Option.some.inj (h1.symm.trans h2)
    subst e
    exact kk q H1 locs ls hls hP1 hD1 hS1
theorem cr_newS {X : CX} {D : va_G} {cA : Nat → ClassId} {cc : ByteArray} {own : String} {Ts : List Cond} {nL fr lo MC MS : Nat} (C : cC X D cA cc own Ts nL fr lo MC MS) {ws : va_W} {k n pc : Nat} {lv : List (Nat × Value)} {st : List Value} {v : Int32} (N : Nat) {index : Nat} (hd : decode cc pc = .ok (.anewarray index, 3)) (hcl : Cond.classLink own index "YoungerMilk$Standing" ∈ Ts) (hn : ¬ v < 0) (hNn : v.toNatClampNeg = N) (hbytes : N * 4 ≤ 536870912) (hc : k + 1 ≤ MC) (hs : n + N ≤ MS) (kk : ∀ q : Nat, cG X D (ws ++ [(q, .inl (cA 2, N, .inr (.inr (.inr (.inr (fun _ => none))))))]) (k + 1) (n + N) (pc + 3) lv (.ref q :: st)) : cG X D ws k n pc lv (.int v :: st) := by
  obtain ⟨p, l, e, R, s, m, args, below, meth, c, A, Qt, nL'⟩ := X
  obtain ⟨hx, hb, hml, rfl, hown, hts, hK, hN, hO, hA, hR⟩ := C
  intro H locs ls hls hP hD hS
  refine va_newq hx hb hown (hts _ hcl) hO.1 hK hP hD hS hA hn hNn hbytes (Nat.le_trans hc hR.2.2.1) (Nat.le_trans hs hR.2.2.2) hd (fun q cB H1 hK1 hP1 hD1 hS1 => ?_)
  have e : cB = cA 2 := by
    obtain ⟨_, _, _, _, _, h1⟩ := (hK1.2 4 (cB, .object "YoungerMilk$Standing") rfl).2
    obtain ⟨_, _, _, _, _, h2⟩ := (hK.2 2 _ (gTy_at cA 2 (by decide))).2
    exact Option.some.inj (h1.symm.trans h2)
  subst e
  exact kk q H1 locs ls hls hP1 hD1 hS1
theorem cr_putF {X : CX} {D : va_G} {cA : Nat → ClassId} {cc : ByteArray} {own : String} {Ts : List Cond} {nL fr lo MC MS : Nat} (C : cC X D cA cc own Ts nL fr lo MC MS) {ws : va_W} {k n pc : Nat} {lv : List (Nat × Value)} {st : List Value} (I : cI X) (j : Nat) {a index : Nat} {ci N : Nat} {C1 : String} {T : u_T} {fs fs' : List Value} {v : Value} {tl : va_W} (hw : ws = (a, .inr (ci, fs)) :: tl) (hcl : vwCl[ci]? = some (C1, T, N)) (hin : ∀ v ∈ u_ws C1 T N, v ∈ Ts) (hlt : j < N) (hln : Cond.fieldLink own index (T j).1 (T j).2.1 (T j).2.2.1 ∈ Ts) (ty0 : Nat → FieldType) (hty : ∀ k, k < N → parseFieldDescriptor (T k).2.2.1 = some (ty0 k)) (hnm : ∀ a, a < N → ∀ b, b < N → a ≠ b → (T a).2.1 ≠ (T b).2.1) (hfin : (T j).2.2.2 = true) (hdc : (T j).1 = own) (ty : FieldType) (hpd : parseFieldDescriptor (T j).2.2.1 = some ty) (hnr : narrow ty v = v) (hft : fits ty v = true) (hl : j < fs.length) (hfs : fs.set j v = fs') (hd : decode cc pc = .ok (.putfield index, 3)) (kk : cG X D ((a, .inr (ci, fs')) :: tl) k n (pc + 3) lv st) : cG X D ws k n pc lv (v :: .ref a :: st) := by
  obtain ⟨p, l, e, R, s, m, args, below, meth, c, A, Qt, nL'⟩ := X
  obtain ⟨hx, hb, hml, rfl, hown, hts, hK, hN, hO, hA, hR⟩ := C
  intro H locs ls hls hP hD hS
  subst hw
  subst hfs
  exact va_putF hx hb hts hin ty0 hty hnm hown hK hP hD hS 0 rfl hcl j hlt (hts _ hln) (fun _ h9 => h9) hfin I hdc hpd hnr hft hl hd (fun H1 locs1 hP1 hD1 hS1 => kk H1 locs1 ls hls hP1 hD1 hS1)
theorem cr_get {X : CX} {D : va_G} {cA : Nat → ClassId} {cc : ByteArray} {own : String} {Ts : List Cond} {nL fr lo MC MS : Nat} (C : cC X D cA cc own Ts nL fr lo MC MS) {ws : va_W} {k n pc : Nat} {lv : List (Nat × Value)} {st : List Value} (j q0 : Nat) {a index : Nat} {ci N : Nat} {C1 : String} {T : u_T} {fs : List Value} {v : Value} (hw : ws[q0]? = some (a, .inr (ci, fs))) (hcl : vwCl[ci]? = some (C1, T, N)) (hin : ∀ v ∈ u_ws C1 T N, v ∈ Ts) (hlt : j < N) (hln : Cond.fieldLink own index (T j).1 (T j).2.1 (T j).2.2.1 ∈ Ts) (hv : fs[j]? = some v) (hd : decode cc pc = .ok (.getfield index, 3)) (kk : cG X D ws k n (pc + 3) lv (v :: st)) : cG X D ws k n pc lv (.ref a :: st) := by
  obtain ⟨p, l, e, R, s, m, args, below, meth, c, A, Qt, nL'⟩ := X
  obtain ⟨hx, hb, hml, rfl, hown, hts, hK, hN, hO, hA, hR⟩ := C
  intro H locs ls hls hP hD hS
  exact va_get hx hb hts hin hown hK hP q0 hw hcl j hlt (hts _ hln) (fun _ h9 => h9) hv hd (kk H locs ls hls hP hD hS)
theorem cr_new {X : CX} {D : va_G} {cA : Nat → ClassId} {cc : ByteArray} {own : String} {Ts : List Cond} {nL fr lo MC MS : Nat} (C : cC X D cA cc own Ts nL fr lo MC MS) {ws : va_W} {k n pc : Nat} {lv : List (Nat × Value)} {st : List Value} (ci N : Nat) {index : Nat} {C1 : String} {T : u_T} (fs : List Value) (hcl : vwCl[ci]? = some (C1, T, N)) (hin : ∀ v ∈ u_ws C1 T N, v ∈ Ts) (ty0 : Nat → FieldType) (hty : ∀ k, k < N → parseFieldDescriptor (T k).2.2.1 = some (ty0 k)) (h1 : Cond.classLink own index C1 ∈ Ts) (h2 : Cond.instantiable C1 N ∈ Ts) (h3 : Cond.initialized C1 ∈ Ts) (hfs : ∀ j, j < N → defaultValue (ty0 j) = vp_V fs j) (hc : k + 1 ≤ MC) (hs : n + N ≤ MS) (hd : decode cc pc = .ok (.new index, 3)) (kk : ∀ q : Nat, cG X D (ws ++ [(q, .inr (ci, fs))]) (k + 1) (n + N) (pc + 3) lv (.ref q :: st)) : cG X D ws k n pc lv st := by
  obtain ⟨p, l, e, R, s, m, args, below, meth, c, A, Qt, nL'⟩ := X
  obtain ⟨hx, hb, hml, rfl, hown, hts, hK, hN, hO, hA, hR⟩ := C
  intro H locs ls hls hP hD hS
  exact va_new hx hb hts hin ty0 hty hown (hts _ h1) (hts _ h2) (hts _ h3) hK hP hD hS hA hcl hfs (Nat.le_trans hc hR.2.2.1) (Nat.le_trans hs hR.2.2.2) hd (fun q H1 hP1 hD1 hS1 => kk q H1 locs ls hls hP1 hD1 hS1)
theorem va_nd_range : ∀ (n : Nat), va_nd (List.range n) = true := by
  have key : ∀ (l : List Nat), l.Nodup → va_nd l = true := by
    intro l
    induction l with
    | nil => intro _; rfl
    | cons a l ih =>
      intro h
      rw [List.nodup_cons] at h
      rw [va_nd, ih h.2, Bool.and_true]
      exact decide_eq_true h.1
  exact fun n => key _ List.nodup_range
theorem va_left {ws wc : va_W} {D : va_G} {H : Heap} (hP : va_P D vwCl (ws ++ wc) H) : va_P D vwCl ws H := fun i q hi => hP i q (by rw [List.getElem?_append_left (List.getElem?_eq_some_iff.mp hi).1]; exact hi)
theorem va_right {ws wc : va_W} {D : va_G} {H : Heap} (hP : va_P D vwCl (ws ++ wc) H) : va_P D vwCl wc H := fun i q hi => hP (ws.length + i) q (by rw [List.getElem?_append_right (by omega), Nat.add_sub_cancel_left]; exact hi)
theorem va_rightD {ws wc : va_W} {A B : Nat → Prop} (hD : va_D A (ws ++ wc)) (hB : ∀ q, A q → B q) : va_D B wc := by
  have sh : ∀ (i : Nat) (q : Nat × va_E), wc[i]? = some q → (ws ++ wc)[ws.length + i]? = some q := fun i q hi => by rw [List.getElem?_append_right (by omega), Nat.add_sub_cancel_left]; exact hi
  refine ⟨fun i j p q hi hj hpq => ?_, fun i q hi => hB _ (hD.2 _ q (sh i q hi))⟩
  have := hD.1 _ _ p q (sh i p hi) (sh j q hj) hpq
  omega
theorem va_app_map (ws wc : va_W) : (List.range wc.length).map (fun i => (ws ++ wc)[ws.length + i]?) = wc.map some := by
  apply List.ext_getElem?
  intro i
  rw [List.getElem?_map, List.getElem?_map]
  by_cases h : i < wc.length
  · rw [List.getElem?_range h, Option.map_some, List.getElem?_append_right (by omega), Nat.add_sub_cancel_left, List.getElem?_eq_getElem h]
    rfl
  · rw [List.getElem?_eq_none (by rw [List.length_range]; omega), List.getElem?_eq_none (by omega)]
    rfl
theorem va_app_map0 (ws wc : va_W) : (List.range ws.length).map (fun i => (ws ++ wc)[i]?) = ws.map some := by
  apply List.ext_getElem?
  intro i
  rw [List.getElem?_map, List.getElem?_map]
  by_cases h : i < ws.length
  · rw [List.getElem?_range h, Option.map_some, List.getElem?_append_left h, List.getElem?_eq_getElem h]
    rfl
  · rw [List.getElem?_eq_none (by rw [List.length_range]; omega), List.getElem?_eq_none (by omega)]
    rfl
/-- the callee's cells stand last; what it leaves comes in their place -/
theorem va_joinL {A0 : Nat → Prop} {D : va_G} {ws wc w1 : va_W} {H H1 : Heap} (hP : va_P D vwCl (ws ++ wc) H) (hD : va_D A0 (ws ++ wc)) (hk : ∀ q : Nat, q < H.size → ¬ va_A wc H.size q → H1[q]? = H[q]?) (hF : ∀ q, va_A wc H.size q → A0 q) (hP1 : va_P D vwCl w1 H1) (hD1 : va_D (va_A wc H.size) w1) : va_P D vwCl (ws ++ w1) H1 ∧ va_D A0 (ws ++ w1) := by
  refine va_join hP hD ((List.range wc.length).map (fun i => ws.length + i)) (List.range ws.length) ?_ (va_app_map0 ws wc) (va_nd_range _) (fun i hi h => ?_) hk hF hP1 hD1
  · rw [List.map_map]
    exact va_app_map ws wc
  · rw [List.mem_range] at hi
    obtain ⟨j, -, rfl⟩ := List.mem_map.mp h
    omega
theorem va_freeL {A0 : Nat → Prop} {ws wc : va_W} {H0 H : Heap} {locs : List Loc} (hD : va_D A0 (ws ++ wc)) (hS : va_S A0 H0 H locs) (hA : ∀ q, H0.size ≤ q → A0 q) : ∀ q, va_A wc H.size q → A0 q := by
  intro q hq
  rcases hq with ⟨i, e, hi⟩ | hq
  · exact hD.2 (ws.length + i) (q, e) (by rw [List.getElem?_append_right (by omega), Nat.add_sub_cancel_left]; exact hi)
  · exact hA q (Nat.le_trans hS.1 hq)
set_option maxHeartbeats 1000000 in
theorem cr_initI {X : CX} {D : va_G} {cA : Nat → ClassId} {cc : ByteArray} {own : String} {Ts : List Cond} {nL fr lo MC MS : Nat} (C : cC X D cA cc own Ts nL fr lo MC MS) {ws : va_W} {k n pc : Nat} {lv : List (Nat × Value)} {st : List Value} {index : Nat} {y : MethodName} {wy wy' : List Cond} {rm : Room} {bytes : ByteArray} {maxL : Nat} {As rest : List Value} {nA a : Nat} {e0 : va_E} {w1 : va_W → Prop} (hM : gMN X.2.1 D cA y wy rm (.ref a :: As) [(a, e0)] w1) (hG : GoodIn Ts wy) (hw : wy = Cond.code y bytes maxL none :: wy') (hfr : rm.frames + 1 ≤ fr ∧ 8 + (maxL + 11) + rm.locals ≤ lo) (hst : st = As.reverse ++ .ref a :: rest) (hrest : (rest.map fun v => v.category).sum ≤ 8) (hn : As.length = nA) (hy1 : y.name = "<init>") (hini : Cond.initialized y.cls ∈ Ts) (hins : Cond.instanceMethod y ∈ Ts) (hdd : y.cls ≠ "java/lang/invoke/MethodHandle" ∧ y.cls ≠ "java/lang/invoke/VarHandle" ∧ (parseMethodDescriptor y.desc).map (fun d => d.parameters.length) = some nA) (hc : k + rm.cells ≤ MC ∧ n + rm.slots ≤ MS) (hd : decode cc pc = .ok (.invokespecial index, 3)) (hli : Cond.methodLink own index y ∈ Ts) (kk : ∀ u : va_W, w1 u → cG X D (ws ++ u) (k + rm.cells) (n + rm.slots) (pc + 3) lv rest) : cG X D (ws ++ [(a, e0)]) k n pc lv st := by
  obtain ⟨p, l, e, R, s, m, args, below, meth, c, A, Qt, nL'⟩ := X
  obtain ⟨hx, hb, hml, rfl, hown, hts, hK, hN, hO, hA, hR⟩ := C
  dsimp only at hM
  intro H locs ls hls hP hD hS
  have hFc := va_freeL hD hS hA
  subst hst
  refine va_callv (va_runI (As := As) (rest := rest) ⟨hx, hb, hml, hown, hts⟩ (hM H.size) (cwI nA hts hG hw rfl rfl (hts _ hini) (hts _ hli) (hts _ hins) hy1 hdd ⟨Nat.le_trans hfr.1 hR.1, Nat.le_trans hfr.2 hR.2.1⟩) ⟨fun a U g mk q => by obtain ⟨q0, q1, qP, qK, qD, qN, qO⟩ := q; exact ⟨q0, q1, qP, va_K.moved (u := U) (U := U.calling g mk a) (Vm.Alike.refl U.vm) qK, qD, gNs_same (s := U) (U := U.calling g mk a) rfl qN, gAo.moved (u := U) (U := U.calling g mk a) (Vm.Alike.refl U.vm) qO⟩, fun U hU hW => ⟨rfl, by rw [hU], by rw [hU]; exact va_right hP, va_K.moved hW.alike hK, va_rightD hD (fun _ _ => trivial), gNs_warm hW hN, gAo.moved hW.alike hO⟩⟩ rfl hn hls.1 rfl (lv_room hrest) hd ⟨Nat.le_trans hc.1 hR.2.2.1, Nat.le_trans hc.2 hR.2.2.2⟩) hS (fun q _ h => hFc q h) hFc (fun u t H1 locs1 ht hvm hw hB hz1 hk1 hS1 => ?_)
  obtain ⟨hP1, hD1⟩ := hB
  rw [ht] at hP1
  obtain ⟨hP2, hD2⟩ := va_joinL hP hD hk1 hFc hP1 hD1
  exact kk u hw H1 locs1 ls hls hP2 hD2 hS1
set_option maxHeartbeats 1000000 in
theorem cr_initN {X : CX} {D : va_G} {cA : Nat → ClassId} {cc : ByteArray} {own : String} {Ts : List Cond} {nL fr lo MC MS : Nat} (C : cC X D cA cc own Ts nL fr lo MC MS) {ws : va_W} {k n pc : Nat} {lv : List (Nat × Value)} {st : List Value} {host : String} {index : Nat} {y : MethodName} {wy wy' : List Cond} {rm : Room} {bytes : ByteArray} {maxL : Nat} {As rest : List Value} {nA a : Nat} {e0 : va_E} {w1 : va_W → Prop} (hM : gMN X.2.1 D cA y wy rm (.ref a :: As) [(a, e0)] w1) (hG : GoodIn Ts wy) (hw : wy = Cond.code y bytes maxL none :: wy') (hfr : rm.frames + 1 ≤ fr ∧ 8 + (maxL + 11) + rm.locals ≤ lo) (hst : st = As.reverse ++ .ref a :: rest) (hrest : (rest.map fun v => v.category).sum ≤ 8) (hn : As.length = nA) (hy1 : y.name = "<init>") (hini : Cond.initialized y.cls ∈ Ts) (hins : Cond.instanceMethod y ∈ Ts) (hdd : y.cls ≠ "java/lang/invoke/MethodHandle" ∧ y.cls ≠ "java/lang/invoke/VarHandle" ∧ (parseMethodDescriptor y.desc).map (fun d => d.parameters.length) = some nA) (hc : k + rm.cells ≤ MC ∧ n + rm.slots ≤ MS) (hd : decode cc pc = .ok (.invokespecial index, 3)) (hnm : (own, index, y, host) ∈ gNest) (kk : ∀ u : va_W, w1 u → cG X D (ws ++ u) (k + rm.cells) (n + rm.slots) (pc + 3) lv rest) : cG X D (ws ++ [(a, e0)]) k n pc lv st := by
  obtain ⟨p, l, e, R, s, m, args, below, meth, c, A, Qt, nL'⟩ := X
  obtain ⟨hx, hb, hml, rfl, hown, hts, hK, hN, hO, hA, hR⟩ := C
  dsimp only at hM
  intro H locs ls hls hP hD hS
  have hFc := va_freeL hD hS hA
  subst hst
  refine va_callv (va_runIN (As := As) (rest := rest) ⟨hx, hb, hml, hown, hts⟩ (hM H.size) ⟨va_cnB nA hts hG hw rfl rfl (hN _ hnm) (hts _ hini) hdd ⟨Nat.le_trans hfr.1 hR.1, Nat.le_trans hfr.2 hR.2.1⟩, hy1, hts _ hins⟩ ⟨fun a U g mk q => by obtain ⟨q0, q1, qP, qK, qD, qN, qO⟩ := q; exact ⟨q0, q1, qP, va_K.moved (u := U) (U := U.calling g mk a) (Vm.Alike.refl U.vm) qK, qD, gNs_same (s := U) (U := U.calling g mk a) rfl qN, gAo.moved (u := U) (U := U.calling g mk a) (Vm.Alike.refl U.vm) qO⟩, fun U hU hW => ⟨rfl, by rw [hU], by rw [hU]; exact va_right hP, va_K.moved hW.alike hK, va_rightD hD (fun _ _ => trivial), gNs_warm hW hN, gAo.moved hW.alike hO⟩⟩ rfl hn hls.1 rfl (lv_room hrest) hd ⟨Nat.le_trans hc.1 hR.2.2.1, Nat.le_trans hc.2 hR.2.2.2⟩) hS (fun q _ h => hFc q h) hFc (fun u t H1 locs1 ht hvm hw hB hz1 hk1 hS1 => ?_)
  obtain ⟨hP1, hD1⟩ := hB
  rw [ht] at hP1
  obtain ⟨hP2, hD2⟩ := va_joinL hP hD hk1 hFc hP1 hD1
  exact kk u hw H1 locs1 ls hls hP2 hD2 hS1
