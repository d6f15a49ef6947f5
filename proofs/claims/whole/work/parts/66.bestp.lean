/-! ===== how most are kept: what is best ===== -/
abbrev btr (a b a' b' : Nat) : Prop := a < a' ∨ (a = a' ∧ b' < b)
/-- which of the first ones is best: most, then least used, then first -/
def bs (A B : Nat → Nat) : Nat → Nat
  | 0 => 0
  | v + 1 => if btr (A (bs A B v)) (B (bs A B v)) (A (v + 1)) (B (v + 1)) then v + 1 else bs A B v
theorem bs_le (A B : Nat → Nat) : ∀ v, bs A B v ≤ v
  | 0 => Nat.le_refl _
  | v + 1 => by
    rw [bs]
    split
    · omega
    · have := bs_le A B v; omega
theorem bs_max (A B : Nat → Nat) : ∀ v w, w ≤ v → ¬ btr (A (bs A B v)) (B (bs A B v)) (A w) (B w) := by
  intro v
  induction v with
  | zero =>
    intro w hw
    have : w = 0 := by omega
    subst this
    unfold btr bs
    omega
  | succ v ih =>
    intro w hw
    by_cases e : w = v + 1
    · rw [bs]
      split
      · rw [e]; unfold btr; omega
      · rw [e]; assumption
    · have h := ih w (by omega)
      rw [bs]
      split
      · rename_i h2
        unfold btr at *
        omega
      · exact h
theorem bs_first (A B : Nat → Nat) : ∀ v w, w < bs A B v → ¬ (A w = A (bs A B v) ∧ B w = B (bs A B v)) := by
  intro v
  induction v with
  | zero =>
    intro w hw
    rw [bs] at hw
    omega
  | succ v ih =>
    intro w hw
    rw [bs] at hw ⊢
    split
    · rename_i h2
      rw [if_pos h2] at hw
      have h := bs_max A B v w (by omega)
      unfold btr at *
      omega
    · rename_i h2
      rw [if_neg h2] at hw
      exact ih w hw
/-- the most that the last so many steps keep with so much left for them, and how little that takes -/
def vA (st : Nat → Nat → Nat) (x : Nat) (F : Nat → Nat × Nat) (L : Nat) : Nat → Nat := fun v => st x v + (F (L - v)).1
def vB (F : Nat → Nat × Nat) (L : Nat) : Nat → Nat := fun v => v + (F (L - v)).2
def mn9 (L : Nat) : Nat := if L < 9 then L else 9
def VV (st : Nat → Nat → Nat) (N : Nat) : Nat → Nat → Nat × Nat
  | 0, _ => (0, 0)
  | d + 1, L => (vA st (N - (d + 1)) (VV st N d) L (bs (vA st (N - (d + 1)) (VV st N d) L) (vB (VV st N d) L) (mn9 L)), vB (VV st N d) L (bs (vA st (N - (d + 1)) (VV st N d) L) (vB (VV st N d) L) (mn9 L)))
/-- what the first of the last so many steps gets -/
def shr (st : Nat → Nat → Nat) (N d L : Nat) : Nat := bs (vA st (N - (d + 1)) (VV st N d) L) (vB (VV st N d) L) (mn9 L)
theorem VV_s {st : Nat → Nat → Nat} {N d L : Nat} : VV st N (d + 1) L = (vA st (N - (d + 1)) (VV st N d) L (shr st N d L), vB (VV st N d) L (shr st N d L)) := rfl
theorem mn9_le (L : Nat) : mn9 L ≤ L ∧ mn9 L ≤ 9 := by
  unfold mn9
  split <;> omega
theorem shr_le {st : Nat → Nat → Nat} {N d L : Nat} : shr st N d L ≤ L ∧ shr st N d L ≤ 9 := by
  have h1 := bs_le (vA st (N - (d + 1)) (VV st N d) L) (vB (VV st N d) L) (mn9 L)
  have h2 := mn9_le L
  unfold shr
  omega
theorem VV_b {st : Nat → Nat → Nat} {N : Nat} (hst : ∀ x e, st x e ≤ 9) : ∀ d L, (VV st N d L).1 ≤ 9 * d ∧ (VV st N d L).2 ≤ L := by
  intro d
  induction d with
  | zero => intro L; exact ⟨Nat.le_refl _, Nat.zero_le _⟩
  | succ d ih =>
    intro L
    rw [VV_s]
    have h := shr_le (st := st) (N := N) (d := d) (L := L)
    have h1 := ih (L - shr st N d L)
    have h2 := hst (N - (d + 1)) (shr st N d L)
    refine ⟨?_, ?_⟩
    · show vA st (N - (d + 1)) (VV st N d) L (shr st N d L) ≤ 9 * (d + 1)
      unfold vA
      omega
    · show vB (VV st N d) L (shr st N d L) ≤ L
      unfold vB
      omega
/-- what each gets of so much -/
def dlt (st : Nat → Nat → Nat) (N : Nat) : Nat → Nat → Nat → Nat
  | 0, _, _ => 0
  | d + 1, L, 0 => shr st N d L
  | d + 1, L, j + 1 => dlt st N d (L - shr st N d L) j
/-- worth, as the class counts it -/
def vI (a b : Nat) : Int32 := nI (100 * a) - nI b
theorem vI_t {a b : Nat} (ha : a ≤ 200) (hb : b ≤ 200) : (vI a b).toInt = 100 * (a : Int) - b := by
  unfold vI
  rw [pk_sub_toInt (by omega) (by omega)]
  omega
theorem vI_le {a b a' b' : Nat} (ha : a ≤ 200) (hb : b ≤ 99) (ha' : a' ≤ 200) (hb' : b' ≤ 99) : vI a' b' ≤ vI a b ↔ ¬ btr a b a' b' := by
  rw [le_tI, vI_t ha (by omega), vI_t ha' (by omega)]
  unfold btr
  omega
theorem vI_add {s a e b : Nat} (hs : s ≤ 50) (ha : a ≤ 100) (he : e ≤ 50) (hb : b ≤ 100) : (100 : Int32) * nI s - nI e + vI a b = vI (s + a) (e + b) := by
  rw [show (100 : Int32) = nI 100 from rfl, pk_mul, show nI (100 * s) - nI e = vI s e from rfl, eq_tI, vI_t (by omega) (by omega), tI_add (by rw [vI_t (by omega) (by omega), vI_t (by omega) (by omega)]; omega) (by rw [vI_t (by omega) (by omega), vI_t (by omega) (by omega)]; omega), vI_t (by omega) (by omega), vI_t (by omega) (by omega)]
  omega
/-- a step's day with so much set down -/
def stepE (P : Pl) (x : Nat) (d : Int32) (S : Sd) : Sd := fun j => if j < 8 then stepW P (S 8) S x d (S (18 + x)) j else S j
theorem stepE_w {P : Pl} {x : Nat} {d : Int32} {S : Sd} {y : Nat} (h : y < 8) : stepE P x d S y = stepW P (S 8) S x d (S (18 + x)) y := if_pos h
theorem stepE_n {P : Pl} {x : Nat} {d : Int32} {S : Sd} {j : Nat} (h : 8 ≤ j) : stepE P x d S j = S j := if_neg (by omega)
theorem f_stepE {P : Pl} (hp : pOk P) {g : Sg} (hP : cPlan P g) {s x : Nat} (hs : oSt s) (hx : x < 9) {S : Sd} (d : Int32) (hc : cSt g s S) : ∃ r g', fX2_goByAt g s (nI x) d = some (r, g') ∧ cSt g' s (stepE P x d S) ∧ ∀ k : Nat, k ≠ 73 → k < s ∨ s + 4 ≤ k → g' k = g k := by
  obtain ⟨s1, s2, s3⟩ := id hs
  have h8 := hp.2.1
  obtain ⟨c1, c2, c3, c4, c5⟩ := hc
  rw [f_goByAt hp hP hs hx, c2, c4 x hx]
  refine ⟨_, _, rfl, ⟨fun y hy => ?_, ?_, fun y hy => ?_, fun y hy => ?_, ?_⟩, fun k h1 h2 => by rw [setC_n (by omega), setC_n h1]⟩
  · rw [setC_s, stepE_w hy]
    exact stepW_e (fun z hz => c1 z (by have := ((tl_mem hp).mp hz).1; omega)) (c1 y hy)
  · rw [setC_n (by omega), setC_n (by omega), stepE_n (by decide)]; exact c2
  · rw [setC_n (by omega), setC_n (by omega), stepE_n (by omega)]; exact c3 y hy
  · rw [setC_n (by omega), setC_n (by omega), stepE_n (by omega)]; exact c4 y hy
  · rw [setC_n (by omega), setC_n (by omega), stepE_n (by omega)]; exact c5
def itE (P : Pl) (x : Nat) (d : Int32) : Nat → Sd → Sd
  | 0, S => S
  | n + 1, S => itE P x d n (stepE P x d S)
def relE (P : Pl) (x : Nat) (d : Int32) (T S' : Sd) : Prop := (∀ y ∈ tl P x, T y = S' y) ∧ T 8 = S' 8 ∧ S' (9 + x) = d ∧ T (18 + x) = S' (18 + x)
theorem relE_step {P : Pl} (hp : pOk P) {x : Nat} (hx : x < 9) {d : Int32} {S S' : Sd} (h : relE P x d S S') : relE P x d (stepE P x d S) (dayS P S') := by
  have h8 := hp.2.1
  obtain ⟨h1, h2, h3, h4⟩ := h
  unfold dayS
  refine ⟨fun y hy => ?_, by rw [stepE_n (by decide), dayD_n (by decide) (by decide)]; exact h2, by rw [dayD_n (by omega) (by omega)]; exact h3, by rw [stepE_n (by omega), dayD_n (by omega) (by omega)]; exact h4⟩
  have hy' := (tl_mem hp).mp hy
  rw [stepE_w (by omega), dayD_w (by omega)]
  unfold dayW
  dsimp only
  rw [if_pos hy'.1, hy'.2, ← h2, h3, ← h4]
  exact stepW_congr h1 (h1 y hy)
theorem relE_it {P : Pl} (hp : pOk P) {x : Nat} (hx : x < 9) {d : Int32} : ∀ (n : Nat) (S S' : Sd), relE P x d S S' → relE P x d (itE P x d n S) (itS P n S')
  | 0, _, _, h => h
  | n + 1, _, _, h => relE_it hp hx n _ _ (relE_step hp hx h)
theorem itE_out {P : Pl} {x : Nat} {d : Int32} : ∀ (n : Nat) (S : Sd) (j : Nat), (8 ≤ j ∨ j ∉ tl P x) → itE P x d n S j = S j
  | 0, _, _, _ => rfl
  | n + 1, S, j, h => by
    rw [itE, itE_out n _ j h]
    by_cases e : 8 ≤ j
    · exact stepE_n e
    · rw [stepE_w (by omega)]
      exact stepW_out (by rcases h with h | h; exact absurd h e; exact h)
/-- how many of a step have not gone behind n days, with so much set down there -/
def stN (P : Pl) (S : Sd) (n : Nat) (x e : Nat) : Nat := if e ≤ 9 then (bsI (stay P S x n e) 9).toNatClampNeg else 0
theorem bs_9 : ∀ m : Nat, m < 256 → bsI (nI m) 9 = nI (bsI (nI m) 9).toNatClampNeg ∧ (bsI (nI m) 9).toNatClampNeg ≤ 9 := by decide +kernel
theorem stay_n {P : Pl} (hp : pOk P) {S : Sd} {x n e : Nat} : ∃ m, m < 256 ∧ stay P S x n e = nI m := by
  have h8 := hp.2.1
  obtain ⟨m, h1, h2⟩ := thrL_n (W := itS P n (upd S (9 + x) (nI e))) (c := 8) (Nat.le_refl _) (tl P x) 0 (fun y hy => by have := ((tl_mem hp).mp hy).1; omega) (by decide)
  exact ⟨m, h1, h2⟩
theorem stN_e {P : Pl} (hp : pOk P) {S : Sd} {x n e : Nat} (he : e ≤ 9) : bsI (stay P S x n e) 9 = nI (stN P S n x e) ∧ bcI (stay P S x n e) = nI (stN P S n x e) := by
  obtain ⟨m, h1, h2⟩ := stay_n hp (S := S) (x := x) (n := n) (e := e)
  unfold stN
  rw [if_pos he, h2, bc_bs m h1]
  exact ⟨(bs_9 m h1).1, (bs_9 m h1).1⟩
theorem stN_b {P : Pl} (hp : pOk P) {S : Sd} {n : Nat} : ∀ x e, stN P S n x e ≤ 9 := by
  intro x e
  obtain ⟨m, h1, h2⟩ := stay_n hp (S := S) (x := x) (n := n) (e := e)
  unfold stN
  split
  · rw [h2]; exact (bs_9 m h1).2
  · omega
