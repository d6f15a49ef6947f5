/-! ===== standings: wells 0..7, who has quarrelled 8, set down 9..17, cats 18..26, the day 27 ===== -/
abbrev Sd : Type := Nat → Int32
def cSt (g : Sg) (s : Nat) (S : Sd) : Prop := (∀ y : Nat, y < 8 → g (s + 3) y = S y) ∧ g s 3 = S 8 ∧ (∀ x : Nat, x < 9 → g (s + 1) x = S (9 + x)) ∧ (∀ x : Nat, x < 9 → g (s + 2) x = S (18 + x)) ∧ g s 4 = S 27
def mSt (t : Sg) (b : Nat) (S : Sd) : Prop := ∀ j : Nat, j < 28 → t 10 (b + j) = S j
theorem cSt_eq {g g' : Sg} {s : Nat} {S : Sd} (h : ∀ k : Nat, s ≤ k → k ≤ s + 3 → g' k = g k) (hS : cSt g s S) : cSt g' s S := by
  unfold cSt
  rw [h s (by omega) (by omega), h (s + 1) (by omega) (by omega), h (s + 2) (by omega) (by omega), h (s + 3) (by omega) (by omega)]
  exact hS
theorem mSt_eq {t t' : Sg} {b : Nat} {S : Sd} (h : ∀ j : Nat, b ≤ j → j < b + 28 → t' 10 j = t 10 j) (hS : mSt t b S) : mSt t' b S := fun j hj => by rw [h (b + j) (by omega) (by omega)]; exact hS j hj
def cpy (n : Nat) (f h : Nat → Int32) : Nat → Int32 := fun j => if j < n then f j else h j
theorem cpy_s {n : Nat} {f h : Nat → Int32} : upd (cpy n f h) n (f n) = cpy (n + 1) f h := by
  funext j
  unfold upd cpy
  by_cases h1 : j = n
  · rw [if_pos h1, if_pos (by omega), h1]
  · rw [if_neg h1]
    by_cases h2 : j < n
    · rw [if_pos h2, if_pos (by omega)]
    · rw [if_neg h2, if_neg (by omega)]
theorem cpy_0 {f h : Nat → Int32} : cpy 0 f h = h := by
  funext j
  unfold cpy
  rw [if_neg (by omega)]
theorem cpy_in {n : Nat} {f h : Nat → Int32} {j : Nat} (hj : j < n) : cpy n f h j = f j := if_pos hj
theorem f_becA {s t : Nat} (hst : s + 4 ≤ t ∨ t + 4 ≤ s) {g : Sg} (K : Sg → Option Sg) : ∀ (d i n : Nat), i + d = 9 → d < n →
    fX9_become_2 s t n (nI i) (setC (setC g (t + 1) (cpy i (g (s + 1)) (g (t + 1)))) (t + 2) (cpy i (g (s + 2)) (g (t + 2)))) K = K (setC (setC g (t + 1) (cpy 9 (g (s + 1)) (g (t + 1)))) (t + 2) (cpy 9 (g (s + 2)) (g (t + 2)))) := by
  intro d
  induction d with
  | zero =>
    intro i n hi hn
    match n, hn with
    | n + 1, _ =>
      rw [fX9_become_2, show (9 : Int32) = nI 9 from rfl, if_pos ((nI_leN (by omega) (by omega)).mpr (by omega)), show i = 9 by omega]
  | succ d ih =>
    intro i n hi hn
    match n, hn with
    | n + 1, hn =>
      rw [fX9_become_2, show (9 : Int32) = nI 9 from rfl, if_neg (by rw [nI_leN (by omega) (by omega)]; omega), gRd_n (by omega) (by decide), gWr_n (by omega) (by decide), gRd_n (by omega) (by decide), gWr_n (by omega) (by decide)]
      simp only [gLet, nI_1]
      rw [← ih (i + 1) n (by omega) (by omega)]
      congr 1
      rw [setC_n (show s + 1 ≠ t + 2 by omega), setC_n (show s + 1 ≠ t + 1 by omega), setC_n (show t + 1 ≠ t + 2 by omega), setC_s]
      rw [setC_n (show s + 2 ≠ t + 1 by omega), setC_n (show s + 2 ≠ t + 2 by omega), setC_n (show s + 2 ≠ t + 1 by omega), setC_n (show t + 2 ≠ t + 1 by omega), setC_s]
      rw [cpy_s, cpy_s, setC_c (g := setC g (t + 1) _) (a := t + 2) (b := t + 1) (by omega), setC_2, setC_2]
theorem f_becB {s t : Nat} (hst : s + 4 ≤ t ∨ t + 4 ≤ s) {g : Sg} (K : Sg → Option Sg) : ∀ (d i n : Nat), i + d = 8 → d < n →
    fX9_become_40 s t n (nI i) (setC g (t + 3) (cpy i (g (s + 3)) (g (t + 3)))) K = K (setC g (t + 3) (cpy 8 (g (s + 3)) (g (t + 3)))) := by
  intro d
  induction d with
  | zero =>
    intro i n hi hn
    match n, hn with
    | n + 1, _ =>
      rw [fX9_become_40, show (8 : Int32) = nI 8 from rfl, if_pos ((nI_leN (by omega) (by omega)).mpr (by omega)), show i = 8 by omega]
  | succ d ih =>
    intro i n hi hn
    match n, hn with
    | n + 1, hn =>
      rw [fX9_become_40, show (8 : Int32) = nI 8 from rfl, if_neg (by rw [nI_leN (by omega) (by omega)]; omega), gRd_n (by omega) (by decide), gWr_n (by omega) (by decide)]
      simp only [gLet, nI_1]
      rw [← ih (i + 1) n (by omega) (by omega)]
      congr 1
      rw [setC_n (show s + 3 ≠ t + 3 by omega), setC_s, cpy_s, setC_2]
/-- a standing becomes as another -/
theorem f_become {s t : Nat} (hst : s + 4 ≤ t ∨ t + 4 ≤ s) (g : Sg) : ∃ g', fX9_become g t s = some g' ∧ (∀ k : Nat, k < t ∨ t + 4 ≤ k → g' k = g k) ∧ ∀ S, cSt g s S → cSt g' t S := by
  have a := fun K => f_becA (g := g) hst K 9 0 gN (by omega) (by unfold gN; omega)
  simp only [cpy_0, setC_id] at a
  have b := fun (g1 : Sg) K => f_becB (g := g1) hst K 8 0 gN (by omega) (by unfold gN; omega)
  simp only [cpy_0, setC_id] at b
  unfold fX9_become
  rw [show (0 : Int32) = nI 0 from rfl, a]
  rw [b]
  simp only [gLet]
  refine ⟨_, rfl, fun k hk => ?_, fun S hS => ?_⟩
  · simp only [gUp_c]
    rw [setC_n (by omega), setC_n (by omega), setC_n (by omega), setC_n (by omega), setC_n (by omega)]
  · obtain ⟨h1, h2, h3, h4, h5⟩ := hS
    simp only [gUp_c]
    have e0 : s ≠ t := by omega
    have e3 : s ≠ t + 3 := by omega
    have e2 : s ≠ t + 2 := by omega
    have e1 : s ≠ t + 1 := by omega
    refine ⟨fun y hy => ?_, ?_, fun x hx => ?_, fun x hx => ?_, ?_⟩
    · rw [setC_n (by omega), setC_n (by omega), setC_s, cpy_in hy, setC_n (by omega), setC_n (by omega)]
      exact h1 y hy
    · rw [setC_s, upd_n (by decide), setC_s, upd_s, setC_n e3, setC_n e2, setC_n e1]
      exact h2
    · rw [setC_n (by omega), setC_n (by omega), setC_n (by omega), setC_n (by omega), setC_s, cpy_in hx]
      exact h3 x hx
    · rw [setC_n (by omega), setC_n (by omega), setC_n (by omega), setC_s, cpy_in hx]
      exact h4 x hx
    · rw [setC_s, upd_s, setC_n e0, setC_n e3, setC_n e2, setC_n e1]
      exact h5
/-! ===== shelves: rings of standings ===== -/
def cRing (g : Sg) (t n b nx sz : Nat) (U : Nat → Sd) : Prop := nx < n ∧ sz ≤ n ∧ g t 1 = nI nx ∧ g t 2 = nI sz ∧ ∀ j : Nat, j < sz → cSt g (b + 4 * ((nx + n - sz + j) % n)) (U j)
theorem cRing_eq {g g' : Sg} {t n b nx sz : Nat} {U : Nat → Sd} (h : ∀ k : Nat, b ≤ k → k < b + 4 * n → g' k = g k) (h0 : g' t = g t) (hn : 0 < n) (hR : cRing g t n b nx sz U) : cRing g' t n b nx sz U := by
  obtain ⟨a1, a2, a3, a4, a5⟩ := hR
  refine ⟨a1, a2, by rw [h0]; exact a3, by rw [h0]; exact a4, fun j hj => cSt_eq (fun k h1 h2 => h k (by omega) ?_) (a5 j hj)⟩
  have := Nat.mod_lt (nx + n - sz + j) hn
  omega
def pushU (n sz : Nat) (U : Nat → Sd) (S : Sd) : Nat → Sd := fun j => if sz < n then (if j < sz then U j else S) else (if j + 1 < n then U (j + 1) else S)
theorem f_push {t n b nx sz : Nat} (hn : 0 < n) (hn2 : n ≤ 1000) (htb : t + 1 < b) (ht : 28 ≤ t) {g : Sg} {U : Nat → Sd} {S : Sd} (hR : cRing g t n b nx sz U) (hS : cSt g 24 S) : ∃ g', fX7_push g t n b = some g' ∧ (∀ k : Nat, k ≠ t → k < b ∨ b + 4 * n ≤ k → g' k = g k) ∧ cRing g' t n b (if nx + 1 = n then 0 else nx + 1) (if sz < n then sz + 1 else n) (pushU n sz U S) := by
  obtain ⟨a1, a2, a3, a4, a5⟩ := hR
  obtain ⟨g1, b1, b2, b3⟩ := f_become (s := 24) (t := b + 4 * nx) (by omega) g
  have c1 : ¬ nI nx < 0 := nI_pos (by omega)
  have c2 : ¬ nI n ≤ nI nx := by rw [nI_leN (by omega) (by omega)]; omega
  have e1 : g1 t = g t := b2 t (by omega)
  unfold fX7_push
  rw [a3, if_neg c1, show Int32.ofNat n = nI n from rfl, if_neg c2, gIx_n a1 hn2, b1]
  simp only [gCv_s, gLet, e1, a3, nI_1]
  have fin : ∀ nx' : Nat, nx' = (if nx + 1 = n then 0 else nx + 1) → ∃ g', some (gUp (gUp g1 t 1 (nI nx')) t 2 (if nI n < gUp g1 t 1 (nI nx') t 2 + 1 then nI n else gUp g1 t 1 (nI nx') t 2 + 1)) = some g' ∧ (∀ k : Nat, k ≠ t → k < b ∨ b + 4 * n ≤ k → g' k = g k) ∧ cRing g' t n b (if nx + 1 = n then 0 else nx + 1) (if sz < n then sz + 1 else n) (pushU n sz U S) := by
    intro nx' hnx
    have esz : gUp g1 t 1 (nI nx') t 2 = nI sz := by
      rw [gUp_c, setC_s, upd_n (by decide), e1, a4]
    rw [esz, nI_1]
    have e2 : (if nI n < nI (sz + 1) then nI n else nI (sz + 1)) = nI (if sz < n then sz + 1 else n) := by
      by_cases h : sz < n
      · rw [if_pos h, if_neg (by rw [nI_ltN (by omega) (by omega)]; omega)]
      · rw [if_neg h, if_pos (by rw [nI_ltN (by omega) (by omega)]; omega)]
    rw [e2, gUp_c, gUp_c, setC_2, setC_s]
    refine ⟨_, rfl, fun k h1 h2 => ?_, ?_⟩
    · rw [setC_n h1, b2 k (by omega)]
    · rw [← hnx]
      have hnx2 : nx' < n := by rw [hnx]; split <;> omega
      refine ⟨hnx2, by split <;> omega, by rw [setC_s, upd_n (by decide), upd_s], by rw [setC_s, upd_s], fun j hj => ?_⟩
      have key : ∀ k : Nat, k < n → ∀ V : Sd, cSt g1 (b + 4 * k) V → cSt (setC g1 t (upd (upd (g1 t) 1 (nI nx')) 2 (nI (if sz < n then sz + 1 else n)))) (b + 4 * k) V := fun k hk V hV => cSt_eq (fun q h1 h2 => setC_n (by omega)) hV
      have hm : (nx' + n - (if sz < n then sz + 1 else n) + j) % n < n := Nat.mod_lt _ hn
      refine key _ hm _ ?_
      have old : ∀ k : Nat, k < n → k ≠ nx → ∀ V : Sd, cSt g (b + 4 * k) V → cSt g1 (b + 4 * k) V := fun k hk hne V hV => cSt_eq (fun q h1 h2 => b2 q (by omega)) hV
      have modn : ∀ a : Nat, a % n = if a < n then a else if a < 2 * n then a - n else a % n := by
        intro a
        by_cases h1 : a < n
        · rw [if_pos h1, Nat.mod_eq_of_lt h1]
        · rw [if_neg h1]
          by_cases h2 : a < 2 * n
          · rw [if_pos h2, Nat.mod_eq_sub_mod (by omega), Nat.mod_eq_of_lt (by omega)]
          · rw [if_neg h2]
      unfold pushU
      by_cases hsz : sz < n
      · simp only [if_pos hsz] at hj ⊢
        by_cases hjs : j < sz
        · rw [if_pos hjs]
          have q : (nx' + n - (sz + 1) + j) % n = (nx + n - sz + j) % n := by
            rw [hnx]
            split
            · rename_i h
              rw [modn (0 + n - (sz + 1) + j), if_pos (by omega), modn (nx + n - sz + j), if_neg (by omega), if_pos (by omega)]
              omega
            · congr 1
              omega
          rw [q]
          refine old _ (Nat.mod_lt _ hn) ?_ _ (a5 j hjs)
          rw [modn]
          split
          · omega
          · rw [if_pos (by omega)]; omega
        · rw [if_neg hjs]
          have q : (nx' + n - (sz + 1) + j) % n = nx := by
            have hj2 : j = sz := by omega
            rw [hnx, hj2]
            split
            · rename_i h
              rw [modn, if_pos (by omega)]; omega
            · rw [modn, if_neg (by omega), if_pos (by omega)]; omega
          rw [q]
          exact b3 S hS
      · simp only [if_neg hsz] at hj ⊢
        have hsn : sz = n := by omega
        by_cases hjs : j + 1 < n
        · rw [if_pos hjs]
          have q : (nx' + n - n + j) % n = (nx + n - sz + (j + 1)) % n := by
            rw [hnx, hsn]
            split
            · rename_i h
              rw [modn (0 + n - n + j), if_pos (by omega), modn (nx + n - n + (j + 1)), if_neg (by omega), if_pos (by omega)]
              omega
            · congr 1
              omega
          rw [q]
          refine old _ (Nat.mod_lt _ hn) ?_ _ (a5 (j + 1) (by omega))
          rw [modn]
          split
          · omega
          · rw [if_pos (by omega)]; omega
        · rw [if_neg hjs]
          have q : (nx' + n - n + j) % n = nx := by
            have hj2 : j = n - 1 := by omega
            rw [hnx, hj2]
            split
            · rename_i h
              rw [modn, if_pos (by omega)]; omega
            · rw [modn, if_neg (by omega), if_pos (by omega)]; omega
          rw [q]
          exact b3 S hS
  by_cases h : nx + 1 = n
  · rw [if_pos (by rw [h])]
    exact fin 0 (by rw [if_pos h])
  · rw [if_neg (by rw [nI_inj (by omega) (by omega)]; exact h)]
    exact fin (nx + 1) (by rw [if_neg h])
