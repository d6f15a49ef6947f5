theorem f_pop {t n b nx sz : Nat} (hn : 0 < n) (hn2 : n ≤ 1000) (htb : t + 1 < b) (ht : 28 ≤ t) {g : Sg} {U : Nat → Sd} (hR : cRing g t n b nx (sz + 1) U) : ∃ g', fX7_popInto g t n b = some g' ∧ (∀ k : Nat, k ≠ t → k < 24 ∨ 28 ≤ k → g' k = g k) ∧ cSt g' 24 (U sz) ∧ ∃ nx', cRing g' t n b nx' sz U := by
  obtain ⟨a1, a2, a3, a4, a5⟩ := hR
  unfold fX7_popInto
  simp only [gLet, a3, a4]
  have modn : ∀ a : Nat, a % n = if a < n then a else if a < 2 * n then a - n else a % n := by
    intro a
    by_cases h1 : a < n
    · rw [if_pos h1, Nat.mod_eq_of_lt h1]
    · rw [if_neg h1]
      by_cases h2 : a < 2 * n
      · rw [if_pos h2, Nat.mod_eq_sub_mod (by omega), Nat.mod_eq_of_lt (by omega)]
      · rw [if_neg h2]
  have hpos : ¬ nI (sz + 1) ≤ 0 := nI_nle (by omega) (by omega)
  have fin : ∀ x : Nat, x = (if nx = 0 then n - 1 else nx - 1) → ∃ g', (if nI (sz + 1) ≤ 0 then some g else if nI x < 0 then some g else if Int32.ofNat n ≤ nI x then some g else gIx (nI x) n (fun j7 => gCv (fX9_become g 24 (b + 4 * j7)) (fun g12 => some (gUp (gUp g12 t 1 (nI x)) t 2 (gUp g12 t 1 (nI x) t 2 - 1))))) = some g' ∧ (∀ k : Nat, k ≠ t → k < 24 ∨ 28 ≤ k → g' k = g k) ∧ cSt g' 24 (U sz) ∧ ∃ nx', cRing g' t n b nx' sz U := by
    intro x hx
    have hxn : x < n := by rw [hx]; split <;> omega
    obtain ⟨g1, b1, b2, b3⟩ := f_become (s := b + 4 * x) (t := 24) (by omega) g
    rw [if_neg hpos, if_neg (nI_pos (by omega)), show Int32.ofNat n = nI n from rfl, if_neg (by rw [nI_leN (by omega) (by omega)]; omega), gIx_n hxn hn2, b1]
    simp only [gCv_s]
    have e1 : g1 t = g t := b2 t (by omega)
    have esz : gUp g1 t 1 (nI x) t 2 = nI (sz + 1) := by
      rw [gUp_c, setC_s, upd_n (by decide), e1, a4]
    rw [esz, show nI (sz + 1) - 1 = nI sz from nI_pred sz, gUp_c, gUp_c, setC_2, setC_s]
    have q : (nx + n - (sz + 1) + sz) % n = x := by
      rw [hx, modn]
      split
      · split <;> omega
      · rw [if_pos (by omega)]
        split <;> omega
    refine ⟨_, rfl, fun k h1 h2 => by rw [setC_n h1, b2 k (by omega)], ?_, x, hxn, by omega, by rw [setC_s, upd_n (by decide), upd_s], by rw [setC_s, upd_s], fun j hj => ?_⟩
    · have h := a5 sz (by omega)
      rw [q] at h
      exact cSt_eq (fun k h1 h2 => setC_n (by omega)) (b3 _ h)
    · have h := a5 j (by omega)
      have q2 : (x + n - sz + j) % n = (nx + n - (sz + 1) + j) % n := by
        rw [hx]
        split
        · rename_i h0
          rw [h0, modn (n - 1 + n - sz + j), modn (0 + n - (sz + 1) + j)]
          split
          · omega
          · rw [if_pos (by omega), if_pos (by omega)]
            omega
        · congr 1
          omega
      rw [q2]
      have hm : (nx + n - (sz + 1) + j) % n < n := Nat.mod_lt _ hn
      exact cSt_eq (fun k h1 h2 => by rw [setC_n (by omega), b2 k (by omega)]) h
  by_cases h0 : nx = 0
  · rw [if_pos (by rw [h0]; rfl), show Int32.ofNat n - 1 = nI (n - 1) from by rw [show Int32.ofNat n = nI n from rfl, show n = (n - 1) + 1 by omega]; exact nI_pred _]
    exact fin (n - 1) (by rw [if_pos h0])
  · rw [if_neg (nI_ne0 (by omega) (by omega)), show nI nx - 1 = nI (nx - 1) from by rw [show nx = (nx - 1) + 1 by omega]; exact nI_pred _]
    exact fin (nx - 1) (by rw [if_neg h0])
/-! ===== the reference's copies ===== -/
def cpN (f : Nat → Int32) (a b n : Nat) : Nat → Int32 := fun j => if b ≤ j ∧ j < b + n then f (a + (j - b)) else f j
theorem cpN_0 {f : Nat → Int32} {a b : Nat} : cpN f a b 0 = f := by
  funext j
  unfold cpN
  rw [if_neg (by omega)]
theorem m_cpLoop {a b : Nat} (ha : a + 28 ≤ 336) (hb : b + 28 ≤ 336) (hab : a + 28 ≤ b ∨ b + 28 ≤ a) {t : Sg} : ∀ (d i n : Nat), i + d = 28 → d < n →
    fX11_copies_2 (nI a) (nI b) n (nI i) (setC t 10 (cpN (t 10) a b i)) = some (setC t 10 (cpN (t 10) a b 28)) := by
  intro d
  induction d with
  | zero =>
    intro i n hi hn
    match n, hn with
    | n + 1, _ =>
      rw [fX11_copies_2, show (28 : Int32) = nI 28 from rfl, if_pos ((nI_leN (by omega) (by omega)).mpr (by omega)), show i = 28 by omega]
  | succ d ih =>
    intro i n hi hn
    match n, hn with
    | n + 1, hn =>
      rw [fX11_copies_2, show (28 : Int32) = nI 28 from rfl, if_neg (by rw [nI_leN (by omega) (by omega)]; omega)]
      simp only [gLet, nI_1, nI_add]
      rw [gRd_n (show a + i < 336 by omega) (by decide), gWr_n (show b + i < 336 by omega) (by decide), ← ih (i + 1) n (by omega) (by omega), setC_2, setC_s]
      congr 2
      funext j
      unfold upd cpN
      by_cases h1 : j = b + i
      · rw [if_pos h1, if_neg (by omega), if_pos (by omega)]
        congr 1
        omega
      · rw [if_neg h1]
        by_cases h2 : b ≤ j ∧ j < b + i
        · rw [if_pos h2, if_pos (by omega)]
        · rw [if_neg h2, if_neg (by omega)]
theorem m_copies {a b : Nat} (ha : a + 28 ≤ 336) (hb : b + 28 ≤ 336) (hab : a + 28 ≤ b ∨ b + 28 ≤ a) (t : Sg) : fX11_copies t (nI a) (nI b) = some (setC t 10 (cpN (t 10) a b 28)) := by
  unfold fX11_copies
  have k := m_cpLoop ha hb hab (t := t) 28 0 gN (by omega) (by unfold gN; omega)
  rw [cpN_0, setC_id] at k
  rw [show (0 : Int32) = nI 0 from rfl]
  exact k
theorem cpN_to {f : Nat → Int32} {a b j : Nat} (hj : j < 28) : cpN f a b 28 (b + j) = f (a + j) := by
  unfold cpN
  rw [if_pos ⟨by omega, by omega⟩]
  congr 1
  omega
theorem cpN_out {f : Nat → Int32} {a b j n : Nat} (hj : j < b ∨ b + n ≤ j) : cpN f a b n j = f j := by
  unfold cpN
  rw [if_neg (by omega)]
/-- standings one behind the other in the reference -/
def mRing (t : Sg) (b sz : Nat) (U : Nat → Sd) : Prop := ∀ j : Nat, j < sz → mSt t (b + 28 * j) (U j)
theorem mRing_eq {t t' : Sg} {b sz : Nat} {U : Nat → Sd} (h : ∀ j : Nat, b ≤ j → j < b + 28 * sz → t' 10 j = t 10 j) (hR : mRing t b sz U) : mRing t' b sz U := fun j hj => mSt_eq (fun k h1 h2 => h k (by omega) (by omega)) (hR j hj)
theorem m_knLoop {t : Sg} (K : Sg → Option Sg) : ∀ (d i n : Nat), i + d = 224 → 28 ≤ i → d < n →
    fX11_known_12 n (nI i) (setC t 10 (fun j => if 28 ≤ j ∧ j < i then t 10 (j + 28) else t 10 j)) K = K (setC t 10 (fun j => if 28 ≤ j ∧ j < 224 then t 10 (j + 28) else t 10 j)) := by
  intro d
  induction d with
  | zero =>
    intro i n hi h28 hn
    match n, hn with
    | n + 1, _ =>
      rw [fX11_known_12, show (224 : Int32) = nI 224 from rfl, if_pos ((nI_leN (by omega) (by omega)).mpr (by omega)), show i = 224 by omega]
  | succ d ih =>
    intro i n hi h28 hn
    match n, hn with
    | n + 1, hn =>
      rw [fX11_known_12, show (224 : Int32) = nI 224 from rfl, if_neg (by rw [nI_leN (by omega) (by omega)]; omega), show (28 : Int32) = nI 28 from rfl]
      simp only [gLet, nI_1, nI_add]
      rw [gRd_n (show i + 28 < 336 by omega) (by decide), gWr_n (show i < 336 by omega) (by decide), ← ih (i + 1) n (by omega) (by omega) (by omega), setC_2, setC_s]
      congr 2
      funext j
      unfold upd
      by_cases h1 : j = i
      · rw [if_pos h1, if_neg (by omega), if_pos (by omega), h1]
      · rw [if_neg h1]
        dsimp only
        by_cases h2 : 28 ≤ j ∧ j < i
        · rw [if_pos h2, if_pos (by omega)]
        · rw [if_neg h2, if_neg (by omega)]
/-- the reference keeps what stands, to be undone -/
theorem m_known {t : Sg} {sz : Nat} {U : Nat → Sd} {S : Sd} (hsz : sz ≤ 8) (h16 : t 0 16 = nI sz) (hU : mRing t 28 sz U) (hS : mSt t 0 S) : ∃ t', fX11_known t = some t' ∧ (∀ k : Nat, k ≠ 0 → k ≠ 10 → t' k = t k) ∧ (∀ j : Nat, j ≠ 16 → t' 0 j = t 0 j) ∧ t' 0 16 = nI (if sz < 8 then sz + 1 else 8) ∧ (∀ j : Nat, j < 28 ∨ 252 ≤ j → t' 10 j = t 10 j) ∧ mRing t' 28 (if sz < 8 then sz + 1 else 8) (pushU 8 sz U S) := by
  unfold fX11_known
  simp only [gLet]
  have fin : ∀ (t1 : Sg) (s1 : Nat) (V : Nat → Sd), s1 < 8 → (∀ k : Nat, k ≠ 0 → k ≠ 10 → t1 k = t k) → (∀ j : Nat, j ≠ 16 → t1 0 j = t 0 j) → t1 0 16 = nI s1 → (∀ j : Nat, j < 28 ∨ 252 ≤ j → t1 10 j = t 10 j) → mRing t1 28 s1 V → s1 + 1 = (if sz < 8 then sz + 1 else 8) → (∀ j : Nat, j < s1 → pushU 8 sz U S j = V j) → pushU 8 sz U S s1 = S →
      ∃ t', gCv (fX11_copies (gUp t1 0 16 (t1 0 16 + 1)) 0 (gUp t1 0 16 (t1 0 16 + 1) 0 16 * 28)) (fun g5 => some g5) = some t' ∧ (∀ k : Nat, k ≠ 0 → k ≠ 10 → t' k = t k) ∧ (∀ j : Nat, j ≠ 16 → t' 0 j = t 0 j) ∧ t' 0 16 = nI (if sz < 8 then sz + 1 else 8) ∧ (∀ j : Nat, j < 28 ∨ 252 ≤ j → t' 10 j = t 10 j) ∧ mRing t' 28 (if sz < 8 then sz + 1 else 8) (pushU 8 sz U S) := by
    intro t1 s1 V hs1 f1 f2 f3 f4 f5 f6 f7 f8
    rw [f3, nI_1, gUp_c, setC_s, upd_s, show (28 : Int32) = nI 28 from rfl, pk_mul, show (0 : Int32) = nI 0 from rfl, m_copies (by omega) (by omega) (by omega)]
    refine ⟨_, rfl, fun k h1 h2 => by rw [setC_n h2, setC_n h1, f1 k h1 h2], fun j hj => by rw [setC_n (by decide), setC_s, upd_n hj, f2 j hj], by rw [setC_n (by decide), setC_s, upd_s, f6], fun j hj => by rw [setC_s, cpN_out (by omega), setC_n (by decide), f4 j hj], ?_⟩
    rw [← f6]
    intro j hj k hk
    rw [setC_s, setC_n (by decide)]
    by_cases hjs : j < s1
    · rw [cpN_out (by omega), f5 j hjs k hk, f7 j hjs]
    · have e : j = s1 := by omega
      subst e
      rw [show 28 + 28 * j + k = (j + 1) * 28 + k by omega, cpN_to hk, f4 (0 + k) (by omega), hS k hk, f8]
  by_cases h8 : sz = 8
  · rw [if_pos (by rw [h16, h8]; rfl)]
    have k := m_knLoop (t := t) (fun g18 => gCv (fX11_copies (gUp (gUp g18 0 16 7) 0 16 (gUp g18 0 16 7 0 16 + 1)) 0 (gUp (gUp g18 0 16 7) 0 16 (gUp g18 0 16 7 0 16 + 1) 0 16 * 28)) (fun g5 => some g5)) 196 28 gN (by omega) (by omega) (by unfold gN; omega)
    have e0 : setC t 10 (fun j => if 28 ≤ j ∧ j < 28 then t 10 (j + 28) else t 10 j) = t := by
      rw [show (fun j => if 28 ≤ j ∧ j < 28 then t 10 (j + 28) else t 10 j) = t 10 from funext fun j => if_neg (by omega), setC_id]
    rw [e0] at k
    rw [show (28 : Int32) = nI 28 from rfl] at k ⊢
    rw [k, show (28 : Int32) = nI 28 from rfl] at *
    refine fin (gUp (setC t 10 (fun j => if 28 ≤ j ∧ j < 224 then t 10 (j + 28) else t 10 j)) 0 16 7) 7 (fun j => U (j + 1)) (by omega) (fun k h1 h2 => by rw [gUp_c, setC_n h1, setC_n h2]) (fun j hj => by rw [gUp_c, setC_s, upd_n hj, setC_n (by decide)]) (by rw [gUp_c, setC_s, upd_s]; rfl) (fun j hj => by rw [gUp_c, setC_n (by decide), setC_s, if_neg (by omega)]) (fun j hj k hk => ?_) (by rw [if_neg (by omega)]) (fun j hj => ?_) ?_
    · rw [gUp_c, setC_n (by decide), setC_s, if_pos (by omega), show 28 + 28 * j + k + 28 = 28 + 28 * (j + 1) + k by omega]
      exact hU (j + 1) (by omega) k hk
    · unfold pushU
      rw [if_neg (by omega), if_pos (by omega)]
    · unfold pushU
      rw [if_neg (by omega), if_neg (by omega)]
  · rw [if_neg (by rw [h16, show (8 : Int32) = nI 8 from rfl, nI_inj (by omega) (by omega)]; exact h8)]
    refine fin t sz U (by omega) (fun _ _ _ => rfl) (fun _ _ => rfl) h16 (fun _ _ => rfl) hU (by rw [if_pos (by omega)]) (fun j hj => ?_) ?_
    · unfold pushU
      rw [if_pos (by omega), if_pos hj]
    · unfold pushU
      rw [if_pos (by omega), if_neg (by omega)]
