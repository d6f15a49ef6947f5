/-! ===== what a text tells ===== -/
def dg (T : Nat → Nat) (L p : Nat) : Prop := p < L ∧ 48 ≤ T p ∧ T p ≤ 57
def updN (f : Nat → Nat) (k v : Nat) : Nat → Nat := fun i => if i = k then v else f i
theorem updN_s {f : Nat → Nat} {k v : Nat} : updN f k v k = v := if_pos rfl
theorem updN_n {f : Nat → Nat} {k v i : Nat} (h : i ≠ k) : updN f k v i = f i := if_neg h
/-- a number of one or two figures, and where it ends -/
def num (T : Nat → Nat) (L p : Nat) : Option (Nat × Nat) :=
  if p < L ∧ 48 ≤ T p ∧ T p ≤ 57 then
    (if p + 1 < L ∧ 48 ≤ T (p + 1) ∧ T (p + 1) ≤ 57 then
      (if p + 2 < L ∧ 48 ≤ T (p + 2) ∧ T (p + 2) ≤ 57 then none else some (10 * (T p - 48) + (T (p + 1) - 48), p + 2))
    else some (T p - 48, p + 1))
  else none
/-- the numbers of an item, from the k-th on -/
def sc (T : Nat → Nat) (L : Nat) : Nat → Nat → Nat → (Nat → Nat) → Option (Nat × (Nat → Nat) × Nat)
  | 0, _, _, _ => none
  | q + 1, k, p, f => match num T L p with
    | none => none
    | some (v, r) => if r < L ∧ T r = 44 then sc T L q (k + 1) (r + 1) (updN f k v) else if r < L ∧ T r = 59 then some (k + 1, updN f k v, r) else none
/-- what a plan tells: 0: steps, what the cart holds, how many, whether only steps were told; 1 to 5: kind, step, age, need, well; 6, 7: set down, cats -/
abbrev Ql : Type := Nat → Nat → Nat
def setQ (Q : Ql) (i j v : Nat) : Ql := fun a b => if a = i ∧ b = j then v else Q a b
theorem setQ_s {Q : Ql} {i j v : Nat} : setQ Q i j v i j = v := if_pos ⟨rfl, rfl⟩
theorem setQ_n {Q : Ql} {i j v a b : Nat} (h : a ≠ i ∨ b ≠ j) : setQ Q i j v a b = Q a b := if_neg (by omega)
def rn (c : Nat) : Nat := if c = 115 then 1 else if c = 121 then 5 else if c = 107 then 2 else if c = 99 then 2 else if c = 104 then 1 else 0
def rlo (c i : Nat) : Nat := if c = 115 then 1 else if c = 104 then 1 else if c = 121 then (if i = 3 ∨ i = 4 then 1 else 0) else 0
def rhi (Q : Ql) (c i : Nat) : Nat := if c = 115 then 9 else if c = 104 then 99 else if c = 121 then (if i = 0 then 3 else if i = 1 then Q 0 0 - 1 else if i = 2 then 20 else if i = 3 then 9 else 20) else if i = 0 then Q 0 0 - 1 else if c = 107 then 9 else 40
abbrev cnd (Q : Ql) (c : Nat) : Prop := (c = 115 → Q 0 3 = 1) ∧ (c = 121 → Q 0 2 < 8)
def addY (Q : Ql) (f : Nat → Nat) : Ql := fun a b => if a = 0 then (if b = 2 then Q 0 2 + 1 else if b = 3 then 0 else Q 0 b) else if b = Q 0 2 ∧ a ≤ 5 then f (a - 1) else Q a b
def apQ (Q : Ql) (c : Nat) (f : Nat → Nat) : Ql := if c = 115 then setQ Q 0 0 (f 0) else if c = 121 then addY Q f else if c = 107 then setQ (setQ Q 0 3 0) 7 (f 0) (f 1) else if c = 99 then setQ (setQ Q 0 3 0) 6 (f 0) (f 1) else setQ (setQ Q 0 3 0) 0 1 (f 0)
abbrev tkOk (Q : Ql) (c k : Nat) (f : Nat → Nat) : Prop := cnd Q c ∧ k = rn c ∧ ∀ i, i < k → rlo c i ≤ f i ∧ f i ≤ rhi Q c i
def tk (Q : Ql) (c k : Nat) (f : Nat → Nat) : Option Ql := if tkOk Q c k f then some (apQ Q c f) else none
theorem num_lt {T : Nat → Nat} {L p v r : Nat} (h : num T L p = some (v, r)) : p < r ∧ r ≤ L ∧ v ≤ 99 := by
  unfold num at h
  split at h
  · split at h
    · split at h
      · exact absurd h (by simp)
      · simp only [Option.some.injEq, Prod.mk.injEq] at h; omega
    · simp only [Option.some.injEq, Prod.mk.injEq] at h; omega
  · exact absurd h (by simp)
theorem sc_pre {T : Nat → Nat} {L : Nat} : ∀ (q k p : Nat) (f : Nat → Nat) (k' : Nat) (f' : Nat → Nat) (e : Nat), sc T L q k p f = some (k', f', e) → k < k' ∧ k' ≤ k + q ∧ p < e ∧ e < L ∧ T e = 59 ∧ ∀ i, i < k → f' i = f i := by
  intro q
  induction q with
  | zero => intro k p f k' f' e h; rw [sc] at h; exact absurd h (by simp)
  | succ q ih =>
    intro k p f k' f' e h
    rw [sc] at h
    split at h
    · exact absurd h (by simp)
    · rename_i v r hn
      have hr := num_lt hn
      split at h
      · obtain ⟨a1, a2, a3, a4, a5, a6⟩ := ih _ _ _ _ _ _ h
        exact ⟨by omega, by omega, by omega, a4, a5, fun i hi => by rw [a6 i (by omega), updN_n (by omega)]⟩
      · split at h
        · rename_i h5
          simp only [Option.some.injEq, Prod.mk.injEq] at h
          obtain ⟨h1, h2, h3⟩ := h
          subst h1 h2 h3
          exact ⟨by omega, by omega, hr.1, h5.1, h5.2, fun i hi => updN_n (by omega)⟩
        · exact absurd h (by simp)
/-- an item at a place: what is told behind it, and where the next one begins -/
def tlQ (Q : Ql) (c : Nat) : Option (Nat × (Nat → Nat) × Nat) → Option (Ql × Nat)
  | none => none
  | some (k, f, e) => match tk Q c k f with
    | none => none
    | some Q' => some (Q', e + 1)
def itm (T : Nat → Nat) (L : Nat) (Q : Ql) (b : Nat) : Option (Ql × Nat) := tlQ Q (T b) (sc T L 5 0 (b + 1) (fun _ => 0))
/-- a text from an item on: where its first fault is, or what it tells -/
def prs (T : Nat → Nat) (L : Nat) : Nat → Ql → Nat → Option (Nat ⊕ Ql)
  | 0, _, _ => none
  | n + 1, Q, b => if L ≤ b then some (.inr Q) else match itm T L Q b with
    | none => some (.inl b)
    | some (Q', b') => prs T L n Q' b'
theorem tlQ_no {Q : Ql} {c k e : Nat} {f : Nat → Nat} (h : ¬ tkOk Q c k f) : tlQ Q c (some (k, f, e)) = none := by
  have e1 : tk Q c k f = none := if_neg h
  show (match tk Q c k f with | none => none | some Q' => some (Q', e + 1)) = none
  rw [e1]
theorem tlQ_yes {Q : Ql} {c k e : Nat} {f : Nat → Nat} (h : tkOk Q c k f) : tlQ Q c (some (k, f, e)) = some (apQ Q c f, e + 1) := by
  have e1 : tk Q c k f = some (apQ Q c f) := if_pos h
  show (match tk Q c k f with | none => none | some Q' => some (Q', e + 1)) = some (apQ Q c f, e + 1)
  rw [e1]
/-- the numbers one by one -/
theorem ch_none {T : Nat → Nat} {L : Nat} {Q : Ql} {c i p : Nat} {f : Nat → Nat} (q : Nat) (h : num T L p = none) : tlQ Q c (sc T L (q + 1) i p f) = none := by
  rw [sc, h]; rfl
theorem ch_out {T : Nat → Nat} {L : Nat} {Q : Ql} {c i p v r : Nat} {f : Nat → Nat} (q : Nat) (h : num T L p = some (v, r)) (ho : ¬ (rlo c i ≤ v ∧ v ≤ rhi Q c i)) : tlQ Q c (sc T L (q + 1) i p f) = none := by
  rw [sc, h]
  dsimp only
  split
  · cases hs : sc T L q (i + 1) (r + 1) (updN f i v) with
    | none => rfl
    | some u =>
      obtain ⟨k', f', e⟩ := u
      have h1 := sc_pre _ _ _ _ _ _ _ hs
      refine tlQ_no (fun h2 => ho ?_)
      have h3 := h2.2.2 i (by omega)
      rw [h1.2.2.2.2.2 i (by omega), updN_s] at h3
      exact h3
  · split
    · refine tlQ_no (fun h2 => ho ?_)
      have h3 := h2.2.2 i (by omega)
      rw [updN_s] at h3
      exact h3
    · rfl
theorem ch_on {T : Nat → Nat} {L : Nat} {Q : Ql} {c i p v r : Nat} {f : Nat → Nat} (q : Nat) (h : num T L p = some (v, r)) (h44 : r < L ∧ T r = 44) : tlQ Q c (sc T L (q + 1) i p f) = tlQ Q c (sc T L q (i + 1) (r + 1) (updN f i v)) := by
  rw [sc, h]
  dsimp only
  rw [if_pos h44]
theorem ch_off {T : Nat → Nat} {L : Nat} {Q : Ql} {c i p v r : Nat} {f : Nat → Nat} (q : Nat) (h : num T L p = some (v, r)) (h44 : ¬ (r < L ∧ T r = 44)) (hi : i + 1 ≠ rn c) : tlQ Q c (sc T L (q + 1) i p f) = none := by
  rw [sc, h]
  dsimp only
  rw [if_neg h44]
  split
  · exact tlQ_no (fun h2 => hi h2.2.1)
  · rfl
theorem ch_end {T : Nat → Nat} {L : Nat} {Q : Ql} {c i p v r : Nat} {f : Nat → Nat} (q : Nat) (h : num T L p = some (v, r)) (h59 : r < L ∧ T r = 59) : tlQ Q c (sc T L (q + 1) i p f) = tlQ Q c (some (i + 1, updN f i v, r)) := by
  rw [sc, h]
  dsimp only
  rw [if_neg (by omega), if_pos h59]
theorem ch_bad {T : Nat → Nat} {L : Nat} {Q : Ql} {c i p v r : Nat} {f : Nat → Nat} (q : Nat) (h : num T L p = some (v, r)) (h59 : ¬ (r < L ∧ T r = 59)) (hi : i + 1 = rn c) : tlQ Q c (sc T L (q + 1) i p f) = none := by
  rw [sc, h]
  dsimp only
  split
  · cases hs : sc T L q (i + 1) (r + 1) (updN f i v) with
    | none => rfl
    | some u =>
      obtain ⟨k', f', e⟩ := u
      have h1 := sc_pre _ _ _ _ _ _ _ hs
      exact tlQ_no (fun h2 => by have := h2.2.1; omega)
  · first
    | rfl
    | rw [if_neg h59]; rfl
/-! ===== the class reads ===== -/
def txt (g : Sg) (T : Nat → Nat) (L : Nat) : Prop := L ≤ 200 ∧ g 1 2 = nI L ∧ ∀ i, i < L → g 2 i = nI (T i) ∧ T i ≤ 126
theorem txt_eq {g g' : Sg} {T : Nat → Nat} {L : Nat} (h1 : g' 1 = g 1) (h2 : g' 2 = g 2) (h : txt g T L) : txt g' T L := by
  unfold txt
  rw [h1, h2]
  exact h
theorem rd_end {p0 b k fg i n L : Nat} {T : Nat → Nat} {g : Sg} (ht : txt g T L) (hi : i = L) (K : Int32 → Sg → Option (Int32 × Sg)) : fX4_readInto_14 p0 (n + 1) (nI b) (nI k) (nI fg) (nI i) g K = K (nI b) g := by
  have := ht.1
  rw [fX4_readInto_14, ht.2.1, if_pos ((nI_leN (by omega) (by omega)).mpr (by omega))]
theorem rd_first {p0 b k fg n L : Nat} {T : Nat → Nat} {g : Sg} (ht : txt g T L) (hi : b < L) (K : Int32 → Sg → Option (Int32 × Sg)) : fX4_readInto_14 p0 (n + 1) (nI b) (nI k) (nI fg) (nI b) g K = fX4_readInto_14 p0 n (nI b) (nI k) (nI fg) (nI (b + 1)) g K := by
  have := ht.1
  rw [fX4_readInto_14, ht.2.1, if_neg (by rw [nI_leN (by omega) (by omega)]; omega), gRd_n (by omega) (by decide)]
  simp only [gLet, nI_1]
  rw [if_pos trivial]
theorem rd_dig {p0 b k fg i n L : Nat} {T : Nat → Nat} {g : Sg} (ht : txt g T L) (hib : i ≠ b) (hb : b ≤ L) (hd : dg T L i) (hk : k < 5) (hf : fg < 2) {w : Nat} (hw : fg = 0 ∨ (g 3 k = nI w)) (K : Int32 → Sg → Option (Int32 × Sg)) : fX4_readInto_14 p0 (n + 1) (nI b) (nI k) (nI fg) (nI i) g K = fX4_readInto_14 p0 n (nI b) (nI k) (nI (fg + 1)) (nI (i + 1)) (setC g 3 (upd (g 3) k (nI ((if fg = 0 then 0 else 10 * w) + (T i - 48))))) K := by
  have h200 := ht.1
  obtain ⟨d1, d2, d3⟩ := hd
  have hl := ht.2.2 i d1
  rw [fX4_readInto_14, ht.2.1, if_neg (by rw [nI_leN (by omega) (by omega)]; omega), gRd_n (by omega) (by decide), hl.1]
  simp only [gLet, nI_1]
  rw [if_neg (by rw [nI_inj (by omega) (by omega)]; exact hib), show (48 : Int32) = nI 48 from rfl, show (57 : Int32) = nI 57 from rfl, show (2 : Int32) = nI 2 from rfl, show (5 : Int32) = nI 5 from rfl, if_neg (by rw [nI_ltN (by omega) (by omega)]; omega), if_neg (by rw [nI_ltN (by omega) (by omega)]; omega), if_neg (by rw [nI_leN (by omega) (by omega)]; omega), if_neg (by rw [nI_leN (by omega) (by omega)]; omega)]
  by_cases z : fg = 0
  · rw [if_pos (by rw [z]; rfl), if_pos z, gWr_n hk (by decide), show (0 : Int32) = nI 0 from rfl, nI_add, pk_sub (by omega), show 0 + T i - 48 = 0 + (T i - 48) by omega]
  · rw [if_neg (nI_ne0 (by omega) (by omega)), if_neg z, gRd_n hk (by decide), gWr_n hk (by decide), (hw.resolve_left z), show (10 : Int32) = nI 10 from rfl, pk_mul, nI_add, pk_sub (by omega), show 10 * w + T i - 48 = 10 * w + (T i - 48) by omega]
theorem rd_bad {p0 b k fg i n L : Nat} {T : Nat → Nat} {g : Sg} (ht : txt g T L) (hib : i ≠ b) (hb : b ≤ L) (hi : i < L) (hk : k ≤ 5) (hf : fg ≤ 2) (h1 : ¬ (dg T L i ∧ k < 5 ∧ fg < 2)) (h2 : fg = 0 ∨ (T i ≠ 44 ∧ T i ≠ 59)) (K : Int32 → Sg → Option (Int32 × Sg)) : fX4_readInto_14 p0 (n + 1) (nI b) (nI k) (nI fg) (nI i) g K = some (nI b, g) := by
  have h200 := ht.1
  have hl := ht.2.2 i hi
  rw [fX4_readInto_14, ht.2.1, if_neg (by rw [nI_leN (by omega) (by omega)]; omega), gRd_n (by omega) (by decide), hl.1]
  simp only [gLet, nI_1]
  rw [if_neg (by rw [nI_inj (by omega) (by omega)]; exact hib)]
  have fin : ∀ X Y : Option (Int32 × Sg), (if nI fg = 0 then some (nI b, g) else if nI (T i) = (44 : Int32) then X else if nI (T i) = (59 : Int32) then Y else some (nI b, g)) = some (nI b, g) := by
    intro X Y
    by_cases z : fg = 0
    · rw [if_pos (by rw [z]; rfl)]
    · have h3 := h2.resolve_left z
      rw [if_neg (nI_ne0 (by omega) (by omega)), if_neg (by rw [show (44 : Int32) = nI 44 from rfl, nI_inj (by omega) (by omega)]; exact h3.1), if_neg (by rw [show (59 : Int32) = nI 59 from rfl, nI_inj (by omega) (by omega)]; exact h3.2)]
  by_cases z1 : T i < 48
  · rw [if_pos (by rw [show (48 : Int32) = nI 48 from rfl, nI_ltN (by omega) (by omega)]; exact z1)]
    exact fin _ _
  rw [if_neg (by rw [show (48 : Int32) = nI 48 from rfl, nI_ltN (by omega) (by omega)]; exact z1)]
  by_cases z2 : 57 < T i
  · rw [if_pos (by rw [show (57 : Int32) = nI 57 from rfl, nI_ltN (by omega) (by omega)]; exact z2)]
    exact fin _ _
  rw [if_neg (by rw [show (57 : Int32) = nI 57 from rfl, nI_ltN (by omega) (by omega)]; exact z2)]
  by_cases z3 : 2 ≤ fg
  · rw [if_pos (by rw [show (2 : Int32) = nI 2 from rfl, nI_leN (by omega) (by omega)]; exact z3)]
    exact fin _ _
  rw [if_neg (by rw [show (2 : Int32) = nI 2 from rfl, nI_leN (by omega) (by omega)]; exact z3)]
  by_cases z4 : 5 ≤ k
  · rw [if_pos (by rw [show (5 : Int32) = nI 5 from rfl, nI_leN (by omega) (by omega)]; exact z4)]
    exact fin _ _
  exact absurd ⟨⟨hi, by omega, by omega⟩, by omega, by omega⟩ h1
theorem rd_com {p0 b k fg i n L : Nat} {T : Nat → Nat} {g : Sg} (ht : txt g T L) (hib : i ≠ b) (hb : b ≤ L) (hi : i < L) (hf : 0 < fg) (hf2 : fg ≤ 2) (h44 : T i = 44) (K : Int32 → Sg → Option (Int32 × Sg)) : fX4_readInto_14 p0 (n + 1) (nI b) (nI k) (nI fg) (nI i) g K = fX4_readInto_14 p0 n (nI b) (nI (k + 1)) (nI 0) (nI (i + 1)) g K := by
  have h200 := ht.1
  have hl := ht.2.2 i hi
  rw [fX4_readInto_14, ht.2.1, if_neg (by rw [nI_leN (by omega) (by omega)]; omega), gRd_n (by omega) (by decide), hl.1, h44]
  simp only [gLet, nI_1]
  rw [if_neg (by rw [nI_inj (by omega) (by omega)]; exact hib), if_pos (by decide), if_neg (nI_ne0 (by omega) (by omega)), if_pos (by decide), if_neg (by decide)]
  rfl
theorem rd_semi {p0 b k fg i n L : Nat} {T : Nat → Nat} {g : Sg} (ht : txt g T L) (hib : i ≠ b) (hb : b < L) (hi : i < L) (hf : 0 < fg) (hf2 : fg ≤ 2) (h59 : T i = 59) (K : Int32 → Sg → Option (Int32 × Sg)) : fX4_readInto_14 p0 (n + 1) (nI b) (nI k) (nI fg) (nI i) g K = gCl (fX3_take g p0 (nI (T b)) (nI (k + 1))) (fun r30 g29 => if r30 = 0 then some (nI b, g29) else fX4_readInto_14 p0 n (nI (i + 1)) (nI 0) (nI 0) (nI (i + 1)) g29 K) := by
  have h200 := ht.1
  have hl := ht.2.2 i hi
  rw [fX4_readInto_14, ht.2.1, if_neg (by rw [nI_leN (by omega) (by omega)]; omega), gRd_n (by omega) (by decide), hl.1, h59]
  simp only [gLet, nI_1]
  rw [if_neg (by rw [nI_inj (by omega) (by omega)]; exact hib), if_neg (by decide), if_pos (by decide), if_neg (nI_ne0 (by omega) (by omega)), if_neg (by decide), if_pos (by decide), if_pos (by decide), gRd_n (by omega) (by decide), (ht.2.2 b hb).1]
  rfl
