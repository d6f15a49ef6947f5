/-! ===== snows ===== -/
/-- a step's day on which it may snow -/
def stepN (P : Pl) (x : Nat) (b : Bool) (S : Sd) : Sd := fun j => if j < 8 then stepW P (S 8) S x (if b = true then 0 else S (9 + x)) (S (18 + x)) j else S j
theorem stepN_w {P : Pl} {x : Nat} {b : Bool} {S : Sd} {y : Nat} (h : y < 8) : stepN P x b S y = stepW P (S 8) S x (if b = true then 0 else S (9 + x)) (S (18 + x)) y := if_pos h
theorem stepN_n {P : Pl} {x : Nat} {b : Bool} {S : Sd} {j : Nat} (h : 8 ≤ j) : stepN P x b S j = S j := if_neg (by omega)
theorem f_stepN {P : Pl} (hp : pOk P) {g : Sg} (hP : cPlan P g) {s x : Nat} (hs : oSt s) (hx : x < 9) {S : Sd} (b : Bool) (hc : cSt g s S) : ∃ r g', fX2_goByAt g s (nI x) (if b = true then 0 else S (9 + x)) = some (r, g') ∧ cSt g' s (stepN P x b S) ∧ ∀ k : Nat, k ≠ 73 → k < s ∨ s + 4 ≤ k → g' k = g k := by
  obtain ⟨s1, s2, s3⟩ := id hs
  have h8 := hp.2.1
  obtain ⟨c1, c2, c3, c4, c5⟩ := hc
  rw [f_goByAt hp hP hs hx, c2, c4 x hx]
  refine ⟨_, _, rfl, ⟨fun y hy => ?_, ?_, fun y hy => ?_, fun y hy => ?_, ?_⟩, fun k h1 h2 => by rw [setC_n (by omega), setC_n h1]⟩
  · rw [setC_s, stepN_w hy]
    exact stepW_e (fun z hz => c1 z (by have := ((tl_mem hp).mp hz).1; omega)) (c1 y hy)
  · rw [setC_n (by omega), setC_n (by omega), stepN_n (by decide)]; exact c2
  · rw [setC_n (by omega), setC_n (by omega), stepN_n (by omega)]; exact c3 y hy
  · rw [setC_n (by omega), setC_n (by omega), stepN_n (by omega)]; exact c4 y hy
  · rw [setC_n (by omega), setC_n (by omega), stepN_n (by omega)]; exact c5
theorem relX_stepN {P : Pl} (hp : pOk P) {x : Nat} (hx : x < 9) (b : Bool) {S S' : Sd} (h : relX P x S S') : relX P x (stepN P x b S) (dayD P (snD (bI (b = true)) (fun x => S' (9 + x))) S') := by
  have h8 := hp.2.1
  obtain ⟨h1, h2, h3, h4⟩ := h
  refine ⟨fun y hy => ?_, by rw [stepN_n (by decide), dayD_n (by decide) (by decide)]; exact h2, by rw [stepN_n (by omega), dayD_n (by omega) (by omega)]; exact h3, by rw [stepN_n (by omega), dayD_n (by omega) (by omega)]; exact h4⟩
  have hy' := (tl_mem hp).mp hy
  rw [stepN_w (by omega), dayD_w (by omega)]
  unfold dayW snD
  dsimp only
  rw [if_pos hy'.1, hy'.2, ← h2, ← h3, ← h4]
  cases b
  · rw [bI_f (by decide), if_pos rfl, if_neg (by decide)]
    exact stepW_congr h1 (h1 y hy)
  · rw [bI_t rfl, if_neg one_ne, if_pos rfl]
    exact stepW_congr h1 (h1 y hy)
/-- how it stands behind the first so many days of a sky, and in how many ways -/
def pth (P : Pl) (x c : Nat) (S : Sd) (f : Nat → Bool) : Nat → Sd × Nat
  | 0 => (S, 1)
  | m + 1 => (stepN P x (f m) (pth P x c S f m).1, (pth P x c S f m).2 * (if f m = true then c else 10 - c))
theorem pth_congr {P : Pl} {x c : Nat} {S : Sd} {f f' : Nat → Bool} : ∀ (i : Nat), (∀ m, m < i → f m = f' m) → pth P x c S f i = pth P x c S f' i
  | 0, _ => rfl
  | i + 1, h => by rw [pth, pth, pth_congr i (fun m hm => h m (by omega)), h i (by omega)]
def stU (P : Pl) (x c : Nat) (u : Sd × Nat) (b : Bool) : Sd × Nat := (stepN P x b u.1, u.2 * (if b = true then c else 10 - c))
theorem pth_fold {P : Pl} {x c : Nat} {S : Sd} {f : Nat → Bool} : ∀ (n : Nat), pth P x c S f n = ((List.range n).map f).foldl (stU P x c) (S, 1)
  | 0 => rfl
  | n + 1 => by rw [pth, pth_fold n, List.range_succ, List.map_append, List.foldl_append]; rfl
theorem fold_wt {P : Pl} {x c : Nat} : ∀ (l : List Bool) (u : Sd × Nat), (l.foldl (stU P x c) u).2 = u.2 * wtB c l
  | [], u => (Nat.mul_one _).symm
  | b :: l, u => by rw [List.foldl_cons, fold_wt l, wtB, ← Nat.mul_assoc]; rfl
def skyF (n k : Nat) : Nat → Bool := fun m => bit (nI k) (n - 1 - m)
/-- what a row of days adds: its ways, if one has not gone behind it -/
def valB (P : Pl) (x c y : Nat) (S : Sd) (l : List Bool) : Nat := if (l.foldl (stU P x c) (S, 1)).1 y ≤ 0 then 0 else (l.foldl (stU P x c) (S, 1)).2
theorem valB_le {P : Pl} {x c y : Nat} {S : Sd} (l : List Bool) : valB P x c y S l ≤ wtB c l := by
  unfold valB
  split
  · omega
  · rw [fold_wt, Nat.one_mul]; exact Nat.le_refl _
theorem val_sky {P : Pl} {x c y n k : Nat} {S : Sd} : (if (pth P x c S (skyF n k) n).1 y ≤ 0 then 0 else (pth P x c S (skyF n k) n).2) = valB P x c y S (bl n k) := by
  rw [pth_fold]; rfl
theorem val_br {P : Pl} {x c y n k : Nat} {S : Sd} : (if (pth P x c S (fun m => bit (nI k) m) n).1 y ≤ 0 then 0 else (pth P x c S (fun m => bit (nI k) m) n).2) = valB P x c y S (br n k) := by
  rw [pth_fold]; rfl
theorem sky_ahead : ∀ b, b < 8 → ∀ k, k < 256 → bit (nI k) b = true → ∀ a, a < 8 → b < a → bit (nI (k - 1)) a = bit (nI k) a := by decide +kernel
theorem sky_0 : ∀ b, b < 8 → bit (nI 0) b = false := by decide +kernel
theorem pow_256 : ∀ n, n < 9 → 2 ^ n ≤ 256 := by decide
theorem pow_10 : ∀ n, n < 9 → 10 ^ n ≤ 100000000 := by decide
theorem f_snGo {P : Pl} (hp : pOk P) {g : Sg} (hP : cPlan P g) {i x c : Nat} (hi : i < 8) (hx : x < 9) (hc10 : c ≤ 10) (b : Bool) {S : Sd} {w : Nat} (hS : cSt g (110 + 4 * i) S) (hw : g 146 i = nI w) : ∃ g', fX8_goBy g (nI i) (nI x) (bI (b = true)) (nI c) = some g' ∧ (∀ k, k ≠ 73 → k ≠ 146 → k < 110 + 4 * (i + 1) ∨ 110 + 4 * (i + 1) + 4 ≤ k → g' k = g k) ∧ (∀ j, j ≠ i + 1 → g' 146 j = g 146 j) ∧ g' 146 (i + 1) = nI (w * (if b = true then c else 10 - c)) ∧ cSt g' (110 + 4 * (i + 1)) (stepN P x b S) := by
  obtain ⟨g1, e1, e2, e3⟩ := f_become (s := 110 + 4 * i) (t := 110 + 4 * (i + 1)) (by omega) g
  have hP1 : cPlan P g1 := cPlan_eq (fun k h1 h2 => e2 k (by omega)) hP
  obtain ⟨r, g2, k1, k2, k3⟩ := f_stepN hp hP1 (s := 110 + 4 * (i + 1)) (by unfold oSt; omega) hx b (e3 S hS)
  have h146 : g2 146 = g 146 := by rw [k3 146 (by decide) (by omega), e2 146 (by omega)]
  have hd : g1 (110 + 4 * i + 1) x = S (9 + x) := by rw [e2 _ (by omega)]; exact hS.2.2.1 x hx
  unfold fX8_goBy
  simp only [nI_1, gLet]
  rw [gIx_n (by omega) (by decide), gIx_n (by omega) (by decide), e1, gCv_s, gIx_n (by omega) (by decide)]
  have fin : ∀ z : Int32, z = nI (if b = true then c else 10 - c) → ∃ g', gWr (nI (i + 1)) 9 g2 146 (nI w * z) (fun g27 => some g27) = some g' ∧ (∀ k, k ≠ 73 → k ≠ 146 → k < 110 + 4 * (i + 1) ∨ 110 + 4 * (i + 1) + 4 ≤ k → g' k = g k) ∧ (∀ j, j ≠ i + 1 → g' 146 j = g 146 j) ∧ g' 146 (i + 1) = nI (w * (if b = true then c else 10 - c)) ∧ cSt g' (110 + 4 * (i + 1)) (stepN P x b S) := by
    intro z hz
    rw [gWr_n (by omega) (by decide), hz, pk_mul]
    refine ⟨_, rfl, fun k h1 h2 h3 => by rw [setC_n h2, k3 k h1 h3, e2 k h3], fun j hj => by rw [setC_s, upd_n hj, h146], by rw [setC_s, upd_s], cSt_eq (fun k h1 h2 => setC_n (by omega)) k2⟩
  cases b with
  | false =>
    rw [if_neg (by decide)] at k1
    rw [bI_f (by decide)]
    simp only [if_pos]
    rw [gIx_n (by omega) (by decide), gRd_n (by omega) (by decide), hd, k1, gCl_s, gRd_n (by omega) (by decide), h146, hw]
    exact fin _ (by rw [show (10 : Int32) = nI 10 from rfl, pk_sub hc10]; rfl)
  | true =>
    rw [if_pos rfl] at k1
    rw [bI_t rfl]
    simp only [if_neg one_ne]
    rw [k1, gCl_s, gRd_n (by omega) (by decide), h146, hw]
    exact fin _ rfl
def fW (g g' : Sg) : Prop := ∀ k : Nat, k ≠ 73 → k < 110 ∨ 146 < k → g' k = g k
theorem fW_tr {g g1 g2 : Sg} (a : fW g g1) (b : fW g1 g2) : fW g g2 := fun k h1 h2 => (b k h1 h2).trans (a k h1 h2)
theorem fW_q {g g' : Sg} (a : fW g g') : fQ g g' := ⟨fun k h => a k (fun e => h (by unfold scC; omega)) (by unfold scC at h; omega), by rw [a 148 (by decide) (by decide)], by rw [a 149 (by decide) (by decide)]⟩
theorem fW_plan {P : Pl} {g g' : Sg} (a : fW g g') (h : cPlan P g) : cPlan P g' := cPlan_eq (fun k h1 h2 => a k (by omega) (by omega)) h
def snI (P : Pl) (x c : Nat) (S : Sd) (f : Nat → Bool) (i : Nat) (g : Sg) : Prop := ∀ m, m ≤ i → cSt g (110 + 4 * m) (pth P x c S f m).1 ∧ g 146 m = nI (pth P x c S f m).2
theorem f_snDay {P : Pl} (hp : pOk P) {y c n0 k : Nat} (hy : y < pC P) (hc10 : c ≤ 10) (hn0 : n0 ≤ 8) {S : Sd} (K : Sg → Option (Int32 × Sg)) : ∀ (d i n : Nat) (g : Sg), i + d = n0 → d < n → cPlan P g → snI P (pA P y) c S (skyF n0 k) i g → ∃ g', fX8_waysKept_39 (nI y) (nI n0) (nI c) (nI k) n (nI i) g K = K g' ∧ fW g g' ∧ snI P (pA P y) c S (skyF n0 k) n0 g' := by
  have h8 := hp.2.1
  have h9 := hp.2.2.2.1
  have hA := (hp.2.2.2.2 y hy).1
  intro d
  induction d with
  | zero =>
    intro i n g hi hn hP hI
    match n, hn with
    | n + 1, _ =>
      rw [fX8_waysKept_39, if_pos ((nI_leN (by omega) (by omega)).mpr (by omega))]
      have e0 : i = n0 := by omega
      rw [e0] at hI
      exact ⟨g, rfl, fun _ _ _ => rfl, hI⟩
  | succ d ih =>
    intro i n g hi hn hP hI
    match n, hn with
    | n + 1, hn =>
      obtain ⟨g1, e1, e2, e3, e4, e5⟩ := f_snGo hp hP (i := i) (x := pA P y) (by omega) (by omega) hc10 (skyF n0 k i) (hI i (Nat.le_refl _)).1 (hI i (Nat.le_refl _)).2
      have w1 : fW g g1 := fun k h1 h2 => e2 k h1 (by omega) (by omega)
      obtain ⟨g2, k1, k2, k3⟩ := ih (i + 1) n g1 (by omega) (by omega) (fW_plan w1 hP) (by
        intro m hm
        by_cases e : m = i + 1
        · rw [e]; exact ⟨e5, e4⟩
        · exact ⟨cSt_eq (fun j h1 h2 => e2 j (by omega) (by omega) (by omega)) (hI m (by omega)).1, by rw [e3 m e]; exact (hI m (by omega)).2⟩)
      rw [fX8_waysKept_39, if_neg (by rw [nI_leN (by omega) (by omega)]; omega), gRd_n (by omega) (by decide), (hP.1 y hy).2.1, sub1 (by omega), pk_sub (by omega), f_has, gCl_s]
      rw [show bit (nI k) (n0 - 1 - i) = skyF n0 k i from rfl, e1, gCv_s]
      simp only [gLet, nI_1]
      exact ⟨g2, k1, fW_tr w1 k2, k3⟩
theorem f_same (g : Sg) {n0 k : Nat} (hn0 : n0 ≤ 8) : ∀ (i n : Nat), i < n → i < n0 → ∃ j, fX8_sameAhead_4 (nI k) (nI n0) n (nI i) g = some (nI j, g) ∧ j ≤ i ∧ (j = 0 ∨ bit (nI k) (n0 - 1 - j) = true) := by
  intro i
  induction i with
  | zero =>
    intro n hn h
    match n, hn with
    | n + 1, _ =>
      rw [fX8_sameAhead_4, if_pos (by rfl)]
      exact ⟨0, rfl, Nat.le_refl _, Or.inl rfl⟩
  | succ i ih =>
    intro n hn h
    match n, hn with
    | n + 1, hn =>
      rw [fX8_sameAhead_4, if_neg (nI_nle (by omega) (by omega)), sub1 (by omega), pk_sub (by omega), f_has, gCl_s]
      by_cases e : bit (nI k) (n0 - 1 - (i + 1)) = true
      · rw [bI_t e, if_neg one_ne]
        exact ⟨i + 1, rfl, Nat.le_refl _, Or.inr e⟩
      · rw [bI_f e, if_pos rfl]
        simp only [gLet, pk_m1]
        obtain ⟨j, a1, a2, a3⟩ := ih n (by omega) (by omega)
        exact ⟨j, a1, by omega, a3⟩
theorem f_sameA (g : Sg) {n0 k : Nat} (hn0 : n0 ≤ 8) : ∃ j, fX8_sameAhead g (nI k) (nI n0) = some (nI j, g) ∧ j ≤ n0 ∧ (j = 0 ∨ (j < n0 ∧ bit (nI k) (n0 - 1 - j) = true)) := by
  unfold fX8_sameAhead
  simp only [gLet]
  by_cases h0 : n0 = 0
  · subst h0
    refine ⟨0, ?_, Nat.le_refl _, Or.inl rfl⟩
    rw [show gN = 999 + 1 from rfl, fX8_sameAhead_4, if_pos (by decide)]
    rfl
  · rw [sub1 (by omega)]
    obtain ⟨j, a1, a2, a3⟩ := f_same g hn0 (k := k) (n0 - 1) gN (by unfold gN; omega) (by omega)
    refine ⟨j, a1, by omega, ?_⟩
    rcases a3 with e | e
    · exact Or.inl e
    · exact Or.inr ⟨by omega, e⟩
theorem f_snLp {P : Pl} (hp : pOk P) {y c n0 : Nat} (hy : y < pC P) (hc10 : c ≤ 10) (hn0 : n0 ≤ 8) {S : Sd} : ∀ (d k n : Nat) (g : Sg), k + d = 2 ^ n0 → d < n → cPlan P g → cSt g 110 S → g 146 0 = nI 1 → (0 < k → snI P (pA P y) c S (skyF n0 (k - 1)) n0 g) →
    ∃ g', fX8_waysKept_23 (nI y) (nI n0) (nI c) n (nI (sumK (fun k => valB P (pA P y) c y S (bl n0 k)) k)) (nI k) g = some (nI (sumK (fun k => valB P (pA P y) c y S (bl n0 k)) (2 ^ n0)), g') ∧ fW g g' := by
  have h8 := hp.2.1
  have h256 := pow_256 n0 (by omega)
  intro d
  induction d with
  | zero =>
    intro k n g hk hn hP h1 h2 hI
    match n, hn with
    | n + 1, _ =>
      rw [fX8_waysKept_23, shl_n n0 (by omega), if_pos ((nI_leN (by omega) (by omega)).mpr (by omega)), ← hk]
      exact ⟨g, rfl, fun _ _ _ => rfl⟩
  | succ d ih =>
    intro k n g hk hn hP h1 h2 hI
    match n, hn with
    | n + 1, hn =>
      obtain ⟨j, a1, a2, a3⟩ := f_sameA g (k := k) hn0
      rw [fX8_waysKept_23, shl_n n0 (by omega), if_neg (by rw [nI_leN (by omega) (by omega)]; omega), a1, gCl_s]
      have hS0 : snI P (pA P y) c S (skyF n0 k) j g := by
        intro m hm
        rcases a3 with e | ⟨e1, e2⟩
        · have m0 : m = 0 := by omega
          subst m0
          exact ⟨h1, h2⟩
        · have k0 : 0 < k := by
            rcases Nat.eq_zero_or_pos k with z | z
            · rw [z, sky_0 _ (by omega)] at e2
              exact absurd e2 (by decide)
            · exact z
          have cg := pth_congr (P := P) (x := pA P y) (c := c) (S := S) (f := skyF n0 (k - 1)) (f' := skyF n0 k) m (fun q hq => sky_ahead (n0 - 1 - j) (by omega) k (by omega) e2 (n0 - 1 - q) (by omega) (by omega))
          have := hI k0 m (by omega)
          rw [cg] at this
          exact this
      have lp := fun K => f_snDay hp hy hc10 hn0 (k := k) (S := S) K (n0 - j) j gN g (by omega) (by unfold gN; omega) hP hS0
      obtain ⟨g1, b1, b2, b3⟩ := lp _
      have hw := (b3 n0 (Nat.le_refl _))
      rw [b1, gIx_n (by omega) (by decide), gRd_n (by omega) (by decide)]
      simp only [gLet]
      rw [hw.1.1 y (by omega)]
      have b4 := (b3 0 (by omega))
      have nxt := fun (q : Nat) (hq : nI q = nI (valB P (pA P y) c y S (bl n0 k))) => ih (k + 1) n g1 (by omega) (by omega) (fW_plan b2 hP) b4.1 b4.2 (fun _ => b3)
      rw [show sumK (fun k => valB P (pA P y) c y S (bl n0 k)) (k + 1) = sumK (fun k => valB P (pA P y) c y S (bl n0 k)) k + valB P (pA P y) c y S (bl n0 k) from rfl] at nxt
      have vs := val_sky (P := P) (x := pA P y) (c := c) (y := y) (n := n0) (k := k) (S := S)
      by_cases z : (pth P (pA P y) c S (skyF n0 k) n0).1 y ≤ 0
      · rw [if_pos z] at vs ⊢
        obtain ⟨g2, c1, c2⟩ := nxt _ rfl
        rw [← vs] at c1
        rw [show (0 : Int32) = nI 0 from rfl, nI_add, nI_1]
        exact ⟨g2, c1, fW_tr b2 c2⟩
      · rw [if_neg z] at vs ⊢
        obtain ⟨g2, c1, c2⟩ := nxt _ rfl
        rw [← vs] at c1
        rw [gRd_n (by omega) (by decide), hw.2, nI_add, nI_1]
        exact ⟨g2, c1, fW_tr b2 c2⟩
theorem f_ways {P : Pl} (hp : pOk P) {g : Sg} (hP : cPlan P g) {S : Sd} (hc : cSt g 24 S) {y c n0 : Nat} (hy : y < pC P) (hc10 : c ≤ 10) (hn0 : n0 ≤ 8) : ∃ g', fX8_waysKept g (nI y) (nI n0) (nI c) = some (nI ((allB n0).map (valB P (pA P y) c y S)).sum, g') ∧ fQ g g' := by
  obtain ⟨g1, e1, e2, e3⟩ := f_become (s := 24) (t := 110) (by omega) g
  have h256 := pow_256 n0 (by omega)
  unfold fX8_waysKept
  rw [show (0 : Int32) = nI 0 from rfl, gIx_n (by omega) (by decide), show 110 + 4 * 0 = 110 from rfl, e1, gCv_s, gWr_n (by omega) (by decide)]
  have w1 : fW g (setC g1 146 (upd (g1 146) 0 1)) := fun k h1 h2 => by rw [setC_n (by omega), e2 k (by omega)]
  obtain ⟨g2, k1, k2⟩ := f_snLp hp hy hc10 hn0 (S := S) (2 ^ n0) 0 gN _ (by omega) (by unfold gN; omega) (fW_plan w1 hP) (cSt_eq (fun k h1 h2 => setC_n (by omega)) (e3 S hc)) (by rw [setC_s, upd_s]; rfl) (fun h => absurd h (by omega))
  rw [sum_bl _ (by omega)] at k1
  exact ⟨g2, k1, fW_q (fW_tr w1 k2)⟩
theorem f_p10 {n0 : Nat} (hn0 : n0 ≤ 8) (g : Sg) (K : Int32 → Sg → Option (Int32 × Sg)) : ∀ (d i n : Nat), i + d = n0 → d < n → fX10_snows_62 (nI n0) n (nI (10 ^ i)) (nI i) g K = K (nI (10 ^ n0)) g := by
  intro d
  induction d with
  | zero =>
    intro i n hi hn
    match n, hn with
    | n + 1, _ =>
      rw [fX10_snows_62, if_pos ((nI_leN (by omega) (by omega)).mpr (by omega)), ← hi]
      rfl
  | succ d ih =>
    intro i n hi hn
    match n, hn with
    | n + 1, hn =>
      rw [fX10_snows_62, if_neg (by rw [nI_leN (by omega) (by omega)]; omega)]
      simp only [gLet, nI_1]
      rw [show (10 : Int32) = nI 10 from rfl, pk_mul, ← Nat.pow_succ]
      exact ih (i + 1) n (by omega) (by omega)
