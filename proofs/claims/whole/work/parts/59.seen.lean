/-! ===== what was seen ===== -/
def bB (b : Bool) : Int32 := match b with
  | true => 1
  | false => 0
def soF (f h : Nat → Int32) (x L : Int32) : Nat → Nat → Bool
  | _, 0 => true
  | i, d + 1 => if f i = x then (if h i = L then soF f h x L (i + 1) d else false) else soF f h x L (i + 1) d
theorem soF_congr {f f' h h' : Nat → Int32} {x L : Int32} : ∀ (d i : Nat), (∀ j, j < i + d → f j = f' j ∧ h j = h' j) → soF f h x L i d = soF f' h' x L i d := by
  intro d
  induction d with
  | zero => intro i _; rfl
  | succ d ih =>
    intro i hh
    rw [soF, soF, (hh i (by omega)).1, (hh i (by omega)).2, ih (i + 1) (fun j hj => hh j (by omega))]
theorem f_fits {g : Sg} {n0 : Nat} (hn0 : n0 ≤ 6) (h2 : g 74 2 = nI n0) (x L : Int32) : fX5_fits g x L = some (bB (soF (g 75) (g 76) x L 0 n0), g) := by
  have lp : ∀ (d i n : Nat), i + d = n0 → d < n → fX5_fits_2 x L n (nI i) g = some (bB (soF (g 75) (g 76) x L i d), g) := by
    intro d
    induction d with
    | zero =>
      intro i n hi hn
      match n, hn with
      | n + 1, _ =>
        rw [fX5_fits_2, h2, if_pos ((nI_leN (by omega) (by omega)).mpr (by omega))]
        rfl
    | succ d ih =>
      intro i n hi hn
      match n, hn with
      | n + 1, hn =>
        have k := ih (i + 1) n (by omega) (by omega)
        rw [fX5_fits_2, h2, if_neg (by rw [nI_leN (by omega) (by omega)]; omega), gRd_n (by omega) (by decide)]
        simp only [gLet, nI_1, k, gRd_n (show i < 6 by omega) (show 6 ≤ 1000 by decide)]
        by_cases a : g 75 i = x
        · rw [if_pos a]
          by_cases b : g 76 i = L
          · rw [if_pos b, show soF (g 75) (g 76) x L i (d + 1) = soF (g 75) (g 76) x L (i + 1) d from by rw [soF, if_pos a, if_pos b]]
          · rw [if_neg b, show soF (g 75) (g 76) x L i (d + 1) = false from by rw [soF, if_pos a, if_neg b]]
            rfl
        · rw [if_neg a, show soF (g 75) (g 76) x L i (d + 1) = soF (g 75) (g 76) x L (i + 1) d from by rw [soF, if_neg a]]
  unfold fX5_fits
  rw [show (0 : Int32) = nI 0 from rfl]
  exact lp n0 0 gN (by omega) (by unfold gN; omega)
theorem m_isSo {t : Sg} {n0 : Nat} (hn0 : n0 ≤ 6) (h2 : t 0 23 = nI n0) (x L : Int32) : fX11_isSo t x L = some (bB (soF (t 12) (t 13) x L 0 n0), t) := by
  have lp : ∀ (d i n : Nat), i + d = n0 → d < n → fX11_isSo_5 x L n 1 (nI i) t = some (bB (soF (t 12) (t 13) x L i d), t) ∧ fX11_isSo_5 x L n 0 (nI i) t = some (0, t) := by
    intro d
    induction d with
    | zero =>
      intro i n hi hn
      match n, hn with
      | n + 1, _ =>
        have c : t 0 23 ≤ nI i := by rw [h2]; exact (nI_leN (by omega) (by omega)).mpr (by omega)
        constructor
        · rw [fX11_isSo_5, if_pos c]
          rfl
        · rw [fX11_isSo_5, if_pos c]
          rfl
    | succ d ih =>
      intro i n hi hn
      match n, hn with
      | n + 1, hn =>
        obtain ⟨k1, k0⟩ := ih (i + 1) n (by omega) (by omega)
        have c : ¬ t 0 23 ≤ nI i := by rw [h2, nI_leN (by omega) (by omega)]; omega
        constructor
        · rw [fX11_isSo_5, if_neg c]
          simp only [gLet, nI_1, k1, k0, gRd_n (show i < 6 by omega) (show 6 ≤ 1000 by decide), one_ne, if_false]
          by_cases a : t 12 i = x
          · rw [if_pos a]
            by_cases b : t 13 i = L
            · rw [if_pos b, show soF (t 12) (t 13) x L i (d + 1) = soF (t 12) (t 13) x L (i + 1) d from by rw [soF, if_pos a, if_pos b]]
            · rw [if_neg b, show soF (t 12) (t 13) x L i (d + 1) = false from by rw [soF, if_pos a, if_neg b]]
              rfl
          · rw [if_neg a, show soF (t 12) (t 13) x L i (d + 1) = soF (t 12) (t 13) x L (i + 1) d from by rw [soF, if_neg a]]
        · rw [fX11_isSo_5, if_neg c]
          simp only [gLet, nI_1, k0]
          rw [if_pos trivial]
  unfold fX11_isSo
  rw [show (0 : Int32) = nI 0 from rfl]
  exact (lp n0 0 gN (by omega) (by unfold gN; omega)).1
/-! ===== sets ===== -/
theorem nI_or (a b : Nat) : nI a ||| nI b = nI (a ||| b) := by
  apply Int32.toBitVec_inj.mp
  show BitVec.ofNat 32 a ||| BitVec.ofNat 32 b = BitVec.ofNat 32 (a ||| b)
  rw [BitVec.ofNat_or]
theorem shl_n : ∀ y : Nat, y < 9 → (1 : Int32) <<< (nI y &&& 31) = nI (2 ^ y) := by decide +kernel
theorem thrL_n {W : Nat → Int32} {c : Nat} (hc : c ≤ 8) : ∀ (l : List Nat) (m : Nat), (∀ y ∈ l, y < c) → m < 2 ^ c → ∃ m', m' < 2 ^ c ∧ thrL W l (nI m) = nI m' := by
  intro l
  induction l with
  | nil => intro m _ hm; exact ⟨m, hm, rfl⟩
  | cons y l ih =>
    intro m hl hm
    rw [thrL]
    have hy := hl y List.mem_cons_self
    split
    · rw [or_0]
      exact ih m (fun z hz => hl z (List.mem_cons_of_mem _ hz)) hm
    · rw [shl_n y (by omega), nI_or]
      exact ih _ (fun z hz => hl z (List.mem_cons_of_mem _ hz)) (Nat.or_lt_two_pow hm (Nat.pow_lt_pow_right (by decide) hy))
theorem sub_le {a b : Nat} (ha : a < 2 ^ 31) (hb : b < 2 ^ 31) (h : nI a &&& (nI b ^^^ (-1)) = 0) : a ≤ b := by
  have e : BitVec.ofNat 32 a &&& (BitVec.ofNat 32 b ^^^ BitVec.allOnes 32) = 0#32 := by
    have := congrArg Int32.toBitVec h
    exact this
  have e2 : BitVec.ofNat 32 a ||| BitVec.ofNat 32 b = BitVec.ofNat 32 b := by
    apply BitVec.eq_of_getLsbD_eq
    intro i hi
    have z := congrArg (fun v => v.getLsbD i) e
    simp only [BitVec.getLsbD_and, BitVec.getLsbD_xor, BitVec.getLsbD_allOnes, BitVec.getLsbD_zero, hi, decide_true] at z
    rw [BitVec.getLsbD_or]
    cases h1 : (BitVec.ofNat 32 a).getLsbD i
    · simp
    · rw [h1] at z
      cases h2 : (BitVec.ofNat 32 b).getLsbD i
      · rw [h2] at z; simp at z
      · rfl
  have e3 := congrArg BitVec.toNat e2
  rw [BitVec.toNat_or, BitVec.toNat_ofNat, BitVec.toNat_ofNat, Nat.mod_eq_of_lt (by omega), Nat.mod_eq_of_lt (by omega)] at e3
  rw [← e3]
  exact Nat.left_le_or
/-- whether so many of a step may have been within -/
def withP (P : Pl) (S : Sd) (x : Nat) (thr : Int32) (f h : Nat → Int32) (n0 j : Nat) : Bool := decide (nI j &&& (thr ^^^ (-1)) = 0) && soF f h (nI x) (pourA P x (S (9 + x)) (S (18 + x)) (nI j) (fun _ => 0)).1 0 n0
theorem cF_add (p : Nat → Bool) : ∀ (d e i : Nat), (∀ j, i + d ≤ j → j < i + d + e → p j = false) → cF p i (d + e) = cF p i d ∧ fF p i (d + e) = fF p i d := by
  intro d
  induction d with
  | zero =>
    intro e
    induction e with
    | zero => intro i _; exact ⟨rfl, rfl⟩
    | succ e ih =>
      intro i hh
      obtain ⟨a, b⟩ := ih (i + 1) (fun j h1 h2 => hh j (by omega) (by omega))
      rw [show 0 + (e + 1) = (0 + e) + 1 by omega]
      have h0 := hh i (by omega) (by omega)
      constructor
      · show (if p i = true then 1 else 0) + cF p (i + 1) (0 + e) = 0
        rw [h0, if_neg (by decide), a]
        rfl
      · show (if p i = true then nI i else fF p (i + 1) (0 + e)) = -4
        rw [h0, if_neg (by decide), b]
        rfl
  | succ d ih =>
    intro e i hh
    obtain ⟨a, b⟩ := ih e (i + 1) (fun j h1 h2 => hh j (by omega) (by omega))
    rw [show d + 1 + e = (d + e) + 1 by omega, cF, fF, a, b, cF, fF]
    exact ⟨rfl, rfl⟩
theorem cF_congr {p q : Nat → Bool} : ∀ (d i : Nat), (∀ j, j < i + d → p j = q j) → cF p i d = cF q i d ∧ fF p i d = fF q i d := by
  intro d
  induction d with
  | zero => intro i _; exact ⟨rfl, rfl⟩
  | succ d ih =>
    intro i hh
    obtain ⟨a, b⟩ := ih (i + 1) (fun j hj => hh j (by omega))
    rw [cF, fF, a, b, hh i (by omega)]
    exact ⟨rfl, rfl⟩
theorem f_wiStep {P : Pl} (hp : pOk P) {S : Sd} {x n0 : Nat} (hx : x < 9) (hn0 : n0 ≤ 6) {thr : Int32} {f h : Nat → Int32} {g : Sg} (hP : cPlan P g) (hc : cSt g 24 S) (h2 : g 74 2 = nI n0) (h5 : g 75 = f) (h6 : g 76 = h) (j : Nat) (A B : Sg → Option (Int32 × Sg)) : ∃ g', fQ g g' ∧ (gLet (fun (x18 : Int32) (g19 : Sg) => if x18 = 0 then B g19 else gRd (nI x) 9 (g19 25) (fun x25 => gRd (nI x) 9 (g19 26) (fun x27 => gCl (fX2_leftOver g19 (nI x) x25 x27 (nI j)) (fun r31 g30 => gCl (fX5_fits g30 (nI x) r31) (fun r34 g33 => if r34 = 0 then B g33 else A g33))))) (fun (K17 : Int32 → Sg → Option (Int32 × Sg)) => if (nI j &&& (thr ^^^ (-1))) = 0 then K17 (1 : Int32) g else K17 (0 : Int32) g)) = if withP P S x thr f h n0 j = true then A g' else B g' := by
  simp only [gLet]
  unfold withP
  by_cases a : nI j &&& (thr ^^^ (-1)) = 0
  · rw [if_pos a, if_neg one_ne, gRd_n hx (by decide), gRd_n hx (by decide), show g 25 x = S (9 + x) from hc.2.2.1 x hx, show g 26 x = S (18 + x) from hc.2.2.2.1 x hx, f_leftOver hp hP hx, gCl_s, f_fits hn0 (by rw [setC_n (by decide)]; exact h2), gCl_s, setC_n (show 75 ≠ 73 by decide), setC_n (show 76 ≠ 73 by decide), h5, h6]
    refine ⟨setC g 73 (pourA P x (S (9 + x)) (S (18 + x)) (nI j) (g 73)).2, fQ_set (k := 73) (by unfold scC; omega) (by decide) (by decide), ?_⟩
    rw [show (pourA P x (S (9 + x)) (S (18 + x)) (nI j) (g 73)).1 = (pourA P x (S (9 + x)) (S (18 + x)) (nI j) (fun _ => 0)).1 from pour_1 _ _ _ _]
    cases b : soF f h (nI x) (pourA P x (S (9 + x)) (S (18 + x)) (nI j) (fun _ => 0)).1 0 n0
    · rw [show bB false = 0 from rfl, if_pos rfl, if_neg (by simp)]
    · rw [show bB true = 1 from rfl, if_neg one_ne, if_pos (Bool.and_eq_true_iff.mpr ⟨decide_eq_true a, rfl⟩)]
  · rw [if_neg a, if_pos trivial]
    exact ⟨g, fQ_rf, by rw [if_neg (fun z => a (of_decide_eq_true (Bool.and_eq_true_iff.mp z).1))]⟩
