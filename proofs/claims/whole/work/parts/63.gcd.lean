/-! ===== the greatest common divisor; sums over all skies ===== -/
theorem mod_half {a b t : Nat} (h0 : 0 < b) (hb : b < 2 ^ (t + 1)) (hr : 0 < a % b) : b % (a % b) < 2 ^ t := by
  have h1 := Nat.mod_lt a h0
  have h2 := Nat.mod_lt b hr
  have h3 : b % (a % b) ≤ b - a % b := by
    rw [Nat.mod_eq_sub_mod (by omega)]
    exact Nat.mod_le _ _
  have : 2 ^ (t + 1) = 2 * 2 ^ t := by rw [Nat.pow_succ]; omega
  omega
theorem gcd_st (a : Nat) {b : Nat} : Nat.gcd b (a % b) = Nat.gcd a b := by
  rw [Nat.gcd_comm b (a % b), ← Nat.gcd_rec b a, Nat.gcd_comm]
theorem f_gcdLp (g : Sg) : ∀ (t a b n i : Nat), b < 2 ^ t → 2 * t < n → i + 2 * t ≤ 64 → a < 2147483648 → b < 2147483648 → fX10_commonDivisor_2 n (nI a) (nI b) (nI i) g = some (nI (Nat.gcd a b), g) := by
  intro t
  induction t with
  | zero =>
    intro a b n i hb hn hi ha hb2
    have hb0 : b = 0 := by omega
    match n, hn with
    | n + 1, _ =>
      rw [fX10_commonDivisor_2, hb0, Nat.gcd_zero_right]
      split
      · rfl
      · rw [if_pos (by rfl)]
  | succ t ih =>
    intro a b n i hb hn hi ha hb2
    match n, hn with
    | n + 2, hn =>
      rw [fX10_commonDivisor_2, if_neg (by rw [show (64 : Int32) = nI 64 from rfl, nI_leN (by omega) (by omega)]; omega)]
      by_cases b0 : b = 0
      · rw [b0, if_pos (by rfl), Nat.gcd_zero_right]
      · have hm := Nat.mod_lt a (show b > 0 by omega)
        rw [if_neg (nI_ne0 (by omega) (by omega))]
        unfold gNz
        rw [if_neg (nI_ne0 (by omega) (by omega)), pk_rem ha (by omega) (by omega)]
        simp only [gLet, nI_1]
        rw [fX10_commonDivisor_2, if_neg (by rw [show (64 : Int32) = nI 64 from rfl, nI_leN (by omega) (by omega)]; omega)]
        by_cases r0 : a % b = 0
        · rw [r0, if_pos (by rfl), ← gcd_st a, r0, Nat.gcd_zero_right]
        · rw [if_neg (nI_ne0 (by omega) (by omega))]
          unfold gNz
          rw [if_neg (nI_ne0 (by omega) (by omega)), pk_rem hb2 (by omega) (by omega)]
          simp only [gLet, nI_1]
          have hm2 := Nat.mod_lt b (show a % b > 0 by omega)
          rw [ih (a % b) (b % (a % b)) n (i + 1 + 1) (mod_half (by omega) hb (by omega)) (by omega) (by omega) (by omega) (by omega), gcd_st, gcd_st]
theorem m_gcdLp (K : Int32 → Sg → Option (Int32 × Sg)) (g : Sg) : ∀ (t a b n : Nat), b < 2 ^ t → 2 * t < n → a < 2147483648 → b < 2147483648 → fX11_snows_183 n (nI a) (nI b) g K = K (nI (Nat.gcd a b)) g := by
  intro t
  induction t with
  | zero =>
    intro a b n hb hn ha hb2
    have hb0 : b = 0 := by omega
    match n, hn with
    | n + 1, _ =>
      rw [fX11_snows_183, hb0, Nat.gcd_zero_right, if_pos (by rfl)]
  | succ t ih =>
    intro a b n hb hn ha hb2
    match n, hn with
    | n + 2, hn =>
      rw [fX11_snows_183]
      by_cases b0 : b = 0
      · rw [b0, if_pos (by rfl), Nat.gcd_zero_right]
      · have hm := Nat.mod_lt a (show b > 0 by omega)
        rw [if_neg (nI_ne0 (by omega) (by omega))]
        unfold gNz
        rw [if_neg (nI_ne0 (by omega) (by omega)), pk_rem ha (by omega) (by omega)]
        simp only [gLet]
        rw [fX11_snows_183]
        by_cases r0 : a % b = 0
        · rw [r0, if_pos (by rfl), ← gcd_st a, r0, Nat.gcd_zero_right]
        · rw [if_neg (nI_ne0 (by omega) (by omega))]
          unfold gNz
          rw [if_neg (nI_ne0 (by omega) (by omega)), pk_rem hb2 (by omega) (by omega)]
          simp only [gLet]
          have hm2 := Nat.mod_lt b (show a % b > 0 by omega)
          rw [ih (a % b) (b % (a % b)) n (mod_half (by omega) hb (by omega)) (by omega) (by omega) (by omega), gcd_st, gcd_st]
/-- a sum over the first so many numbers -/
def sumK (v : Nat → Nat) : Nat → Nat
  | 0 => 0
  | k + 1 => sumK v k + v k
theorem sumK_l (v : Nat → Nat) : ∀ k, sumK v k = ((List.range k).map v).sum
  | 0 => rfl
  | k + 1 => by rw [sumK, sumK_l v k, List.range_succ, List.map_append, List.sum_append]; simp
/-- the bits of a sky, the last day's lowest; the first day's lowest; all rows of so many bits -/
def bl (n k : Nat) : List Bool := (List.range n).map (fun m => bit (nI k) (n - 1 - m))
def br (n k : Nat) : List Bool := (List.range n).map (fun m => bit (nI k) m)
def allB : Nat → List (List Bool)
  | 0 => [[]]
  | n + 1 => (allB n).map (List.cons false) ++ (allB n).map (List.cons true)
theorem bl_all : ∀ n, n < 9 → (List.range (2 ^ n)).map (bl n) = allB n := by decide +kernel
theorem br_all : ∀ n, n < 9 → ((List.range (2 ^ n)).map (br n)).isPerm (allB n) = true := by decide +kernel
theorem sum_perm {l l' : List Nat} (h : l.Perm l') : l.sum = l'.sum := by
  induction h with
  | nil => rfl
  | cons x _ ih => rw [List.sum_cons, List.sum_cons, ih]
  | swap x y l => simp only [List.sum_cons]; omega
  | trans _ _ i1 i2 => exact i1.trans i2
theorem sum_bl (F : List Bool → Nat) {n : Nat} (hn : n < 9) : sumK (fun k => F (bl n k)) (2 ^ n) = ((allB n).map F).sum := by
  rw [sumK_l, ← bl_all n hn, List.map_map]
  rfl
theorem sum_br (F : List Bool → Nat) {n : Nat} (hn : n < 9) : sumK (fun k => F (br n k)) (2 ^ n) = ((allB n).map F).sum := by
  rw [sumK_l, ← sum_perm ((List.isPerm_iff.mp (br_all n hn)).map F), List.map_map]
  rfl
/-- the weight of a row of bits -/
def wtB (c : Nat) : List Bool → Nat
  | [] => 1
  | b :: l => (if b = true then c else 10 - c) * wtB c l
theorem sum_map_mul (a : Nat) (f : List Bool → Nat) : ∀ l : List (List Bool), (l.map (fun x => a * f x)).sum = a * (l.map f).sum
  | [] => rfl
  | x :: l => by simp only [List.map_cons, List.sum_cons, sum_map_mul a f l, Nat.mul_add]
theorem sum_wt {c : Nat} (hc : c ≤ 10) : ∀ n, ((allB n).map (wtB c)).sum = 10 ^ n
  | 0 => rfl
  | n + 1 => by
    rw [allB, List.map_append, List.sum_append, List.map_map, List.map_map, show (wtB c ∘ List.cons false) = (fun x => (10 - c) * wtB c x) from rfl, show (wtB c ∘ List.cons true) = (fun x => c * wtB c x) from rfl, sum_map_mul, sum_map_mul, sum_wt hc n, ← Nat.add_mul, show 10 - c + c = 10 by omega, Nat.pow_succ, Nat.mul_comm]
theorem sum_le {f h : List Bool → Nat} (H : ∀ l, f l ≤ h l) : ∀ l : List (List Bool), (l.map f).sum ≤ (l.map h).sum
  | [] => Nat.le_refl _
  | x :: l => by simp only [List.map_cons, List.sum_cons]; exact Nat.add_le_add (H x) (sum_le H l)
