/-! ===== sets of steps as numbers ===== -/
theorem nI_and (a b : Nat) : nI a &&& nI b = nI (a &&& b) := by
  apply Int32.toBitVec_inj.mp
  show BitVec.ofNat 32 a &&& BitVec.ofNat 32 b = BitVec.ofNat 32 (a &&& b)
  rw [BitVec.ofNat_and]
theorem nI_xor (a b : Nat) : nI a ^^^ nI b = nI (a ^^^ b) := by
  apply Int32.toBitVec_inj.mp
  show BitVec.ofNat 32 a ^^^ BitVec.ofNat 32 b = BitVec.ofNat 32 (a ^^^ b)
  rw [BitVec.ofNat_xor]
/-- one within the other; what of the one is not in the other -/
def sb (a n : Nat) : Prop := a &&& n = a
def dif (n a : Nat) : Nat := n ^^^ (n &&& a)
theorem tb_dif {n a i : Nat} : (dif n a).testBit i = (n.testBit i && !a.testBit i) := by
  unfold dif
  rw [Nat.testBit_xor, Nat.testBit_and]
  cases n.testBit i <;> cases a.testBit i <;> rfl
theorem sb_t {a n : Nat} : sb a n ↔ ∀ i, a.testBit i = true → n.testBit i = true := by
  unfold sb
  constructor
  · intro h i hi
    have := congrArg (fun z => z.testBit i) h
    simp only [Nat.testBit_and] at this
    rw [hi] at this
    simpa using this
  · intro h
    apply Nat.eq_of_testBit_eq
    intro i
    rw [Nat.testBit_and]
    cases e : a.testBit i
    · rfl
    · rw [h i e]; rfl
theorem nI_dif {a b : Nat} (ha : a < 2147483648) : nI a &&& (nI b ^^^ (-1)) = nI (dif a b) := by
  apply Int32.toBitVec_inj.mp
  show BitVec.ofNat 32 a &&& (BitVec.ofNat 32 b ^^^ BitVec.allOnes 32) = BitVec.ofNat 32 (dif a b)
  apply BitVec.eq_of_getLsbD_eq
  intro i hi
  simp only [BitVec.getLsbD_and, BitVec.getLsbD_xor, BitVec.getLsbD_allOnes, BitVec.getLsbD_ofNat, hi, decide_true, tb_dif, Bool.true_and]
  cases a.testBit i <;> cases b.testBit i <;> rfl
theorem sb_rf {a : Nat} : sb a a := sb_t.mpr (fun _ h => h)
theorem sb_0 {n : Nat} : sb 0 n := by unfold sb; exact Nat.zero_and n
theorem sb_tr {a b c : Nat} (h : sb a b) (k : sb b c) : sb a c := sb_t.mpr (fun i hi => sb_t.mp k i (sb_t.mp h i hi))
theorem sb_dif {n a : Nat} : sb (dif n a) n := sb_t.mpr (fun i hi => by rw [tb_dif] at hi; revert hi; cases n.testBit i <;> simp)
theorem sb_le {a n : Nat} (h : sb a n) : a ≤ n := by
  unfold sb at h
  rw [← h]
  exact Nat.and_le_right
theorem sb_and {a n : Nat} : sb (a &&& n) n := sb_t.mpr (fun i hi => by rw [Nat.testBit_and] at hi; revert hi; cases a.testBit i <;> simp)
theorem dif_0 {n : Nat} : dif n 0 = n := by unfold dif; rw [Nat.and_zero, Nat.xor_zero]
theorem dif_self {n : Nat} : dif n n = 0 := by unfold dif; rw [Nat.and_self, Nat.xor_self]
theorem dif_lt {n a : Nat} (h : sb a n) (h0 : a ≠ 0) : dif n a < n := by
  have h1 := sb_le (sb_dif (n := n) (a := a))
  rcases Nat.lt_or_eq_of_le h1 with h2 | h2
  · exact h2
  · exfalso
    apply h0
    apply Nat.eq_of_testBit_eq
    intro i
    have := congrArg (fun z => z.testBit i) h2
    rw [tb_dif] at this
    rw [Nat.zero_testBit]
    cases e : a.testBit i
    · rfl
    · have e2 := sb_t.mp h i e
      rw [e, e2] at this
      exact absurd this (by decide)
theorem xor_dif {n a : Nat} (h : sb a n) : n ^^^ a = dif n a := by
  unfold dif
  have h2 : a &&& n = a := h
  rw [Nat.and_comm, h2]
theorem dif_c {n a b : Nat} : dif (dif n a) b = dif (dif n b) a := by
  apply Nat.eq_of_testBit_eq
  intro i
  rw [tb_dif, tb_dif, tb_dif, tb_dif]
  cases n.testBit i <;> cases a.testBit i <;> cases b.testBit i <;> rfl
/-- the next one down: no set within is passed over -/
theorem sub_nx : ∀ (k n a b : Nat), n < 2 ^ k → sb a n → sb b n → b < a → b ≤ (a - 1) &&& n := by
  intro k
  induction k with
  | zero =>
    intro n a b hn ha hb hab
    have h1 := sb_le ha
    omega
  | succ k ih =>
    intro n a b hn ha hb hab
    have e2 : 2 ^ (k + 1) = 2 * 2 ^ k := by rw [Nat.pow_succ]; omega
    have half : ∀ x, sb x n → sb (x / 2) (n / 2) := by
      intro x hx
      have h : x &&& n = x := hx
      unfold sb
      rw [← Nat.and_div_two, h]
    have ha' := half a ha
    have hb' := half b hb
    have hb0 : b % 2 = 1 → n % 2 = 1 := by
      intro h
      have t := sb_t.mp hb 0
      rw [Nat.testBit_zero, Nat.testBit_zero] at t
      have := t (by simpa using h)
      simpa using this
    have d1 := Nat.and_div_two (a := a - 1) (b := n)
    have m1 : ((a - 1) &&& n) % 2 = if (a - 1) % 2 = 1 ∧ n % 2 = 1 then 1 else 0 := by
      have := Nat.testBit_and (a - 1) n 0
      rw [Nat.testBit_zero, Nat.testBit_zero, Nat.testBit_zero] at this
      split
      · rename_i h
        rw [h.1, h.2] at this
        simpa using this
      · rename_i h
        have hx : ¬ ((a - 1 &&& n) % 2 = 1) := by
          intro hy
          rw [hy] at this
          apply h
          simp at this
          exact this
        omega
    by_cases a1 : a % 2 = 1
    · have : (a - 1) / 2 = a / 2 := by omega
      rw [this] at d1
      have h3 : a / 2 &&& n / 2 = a / 2 := ha'
      omega
    · have : (a - 1) / 2 = a / 2 - 1 := by omega
      rw [this] at d1
      have h4 := ih (n / 2) (a / 2) (b / 2) (by omega) ha' hb' (by omega)
      rw [← d1] at h4
      by_cases nn : n % 2 = 1
      · rw [if_pos ⟨by omega, nn⟩] at m1
        omega
      · rw [if_neg (fun h => nn h.2)] at m1
        omega
/-- the least over all sets within -/
def mlp (ok : Nat → Bool) (val : Nat → Nat) (near : Nat) : Nat → Nat → Nat → Nat
  | 0, _, least => least
  | n + 1, along, least => if along = 0 then least else mlp ok val near n ((along - 1) &&& near) (if ok along = true then (if val along < least then val along else least) else least)
theorem and_pred {a n : Nat} (h : a ≠ 0) : (a - 1) &&& n < a := by
  have : (a - 1) &&& n ≤ a - 1 := Nat.and_le_left
  omega
theorem mlp_le (ok : Nat → Bool) (val : Nat → Nat) (near : Nat) : ∀ (n a l : Nat), mlp ok val near n a l ≤ l := by
  intro n
  induction n with
  | zero => intro a l; exact Nat.le_refl _
  | succ n ih =>
    intro a l
    rw [mlp]
    split
    · exact Nat.le_refl _
    · refine Nat.le_trans (ih _ _) ?_
      split
      · split <;> omega
      · exact Nat.le_refl _
theorem mlp_all (ok : Nat → Bool) (val : Nat → Nat) {k near : Nat} (hk : near < 2 ^ k) : ∀ (n a l : Nat), a < n → sb a near → ∀ b, sb b near → b ≠ 0 → b ≤ a → ok b = true → mlp ok val near n a l ≤ val b := by
  intro n
  induction n with
  | zero => intro a l h; omega
  | succ n ih =>
    intro a l hn ha b hb b0 hab ho
    have h1 := and_pred (n := near) (show a ≠ 0 by omega)
    rw [mlp, if_neg (by omega)]
    by_cases e : b = a
    · subst e
      refine Nat.le_trans (mlp_le _ _ _ _ _ _) ?_
      rw [if_pos ho]
      split <;> omega
    · exact ih _ _ (by omega) sb_and b hb b0 (sub_nx k near a b hk ha hb (by omega)) ho
theorem mlp_at (ok : Nat → Bool) (val : Nat → Nat) (near : Nat) : ∀ (n a l : Nat), sb a near → mlp ok val near n a l = l ∨ ∃ b, sb b near ∧ b ≠ 0 ∧ ok b = true ∧ mlp ok val near n a l = val b := by
  intro n
  induction n with
  | zero => intro a l _; exact Or.inl rfl
  | succ n ih =>
    intro a l ha
    rw [mlp]
    split
    · exact Or.inl rfl
    · rename_i a0
      rcases ih ((a - 1) &&& near) (if ok a = true then (if val a < l then val a else l) else l) sb_and with h | ⟨b, h1, h2, h3, h4⟩
      · rw [h]
        by_cases o : ok a = true
        · rw [if_pos o]
          by_cases z : val a < l
          · rw [if_pos z]; exact Or.inr ⟨a, ha, a0, o, rfl⟩
          · rw [if_neg z]; exact Or.inl rfl
        · rw [if_neg o]; exact Or.inl rfl
      · exact Or.inr ⟨b, h1, h2, h3, h4⟩
/-- what is brought to the first so many steps of a set; the farthest of them -/
def LD (l : Nat → Nat) (S : Nat) : Nat → Nat
  | 0 => 0
  | x + 1 => LD l S x + (if S.testBit x = true then l x else 0)
def TP (S : Nat) : Nat → Nat
  | 0 => 0
  | x + 1 => if S.testBit x = true then x + 1 else TP S x
theorem tb_hi {S x i : Nat} (h : S < 2 ^ x) (hi : x ≤ i) : S.testBit i = false := Nat.testBit_lt_two_pow (Nat.lt_of_lt_of_le h (Nat.pow_le_pow_right (by decide) hi))
theorem LD_hi {l : Nat → Nat} {S x : Nat} (h : S < 2 ^ x) : ∀ d, LD l S (x + d) = LD l S x
  | 0 => rfl
  | d + 1 => by
    rw [show x + (d + 1) = x + d + 1 by omega, LD, LD_hi h d, tb_hi h (by omega)]
    rfl
theorem TP_hi {S x : Nat} (h : S < 2 ^ x) : ∀ d, TP S (x + d) = TP S x
  | 0 => rfl
  | d + 1 => by
    rw [show x + (d + 1) = x + d + 1 by omega, TP, tb_hi h (by omega), TP_hi h d]
    rfl
theorem LD_congr {l : Nat → Nat} {S S' : Nat} : ∀ x, (∀ i, i < x → S.testBit i = S'.testBit i) → LD l S x = LD l S' x
  | 0, _ => rfl
  | x + 1, h => by rw [LD, LD, LD_congr x (fun i hi => h i (by omega)), h x (by omega)]
theorem TP_congr {S S' : Nat} : ∀ x, (∀ i, i < x → S.testBit i = S'.testBit i) → TP S x = TP S' x
  | 0, _ => rfl
  | x + 1, h => by rw [TP, TP, TP_congr x (fun i hi => h i (by omega)), h x (by omega)]
theorem TP_le {S : Nat} : ∀ x, TP S x ≤ x
  | 0 => Nat.le_refl _
  | x + 1 => by
    rw [TP]
    split
    · omega
    · have := TP_le (S := S) x; omega
theorem LD_b {l : Nat → Nat} (hl : ∀ i, l i ≤ 40) {S : Nat} : ∀ x, LD l S x ≤ 40 * x
  | 0 => Nat.le_refl _
  | x + 1 => by
    rw [LD]
    have h1 := LD_b hl (S := S) x
    have h2 := hl x
    split <;> omega
/-- with the step x, whose number is above all of n -/
def wi (n x : Nat) : Nat := n ||| 2 ^ x
theorem tb_wi {n x i : Nat} : (wi n x).testBit i = (n.testBit i || decide (x = i)) := by
  unfold wi
  rw [Nat.testBit_or, Nat.testBit_two_pow]
theorem tb_of {S x : Nat} (h1 : 2 ^ x ≤ S) (h2 : S < 2 ^ (x + 1)) : S.testBit x = true := by
  rw [Nat.testBit_eq_decide_div_mod_eq, show S / 2 ^ x = 1 by
    have e2 : 2 ^ (x + 1) = 2 * 2 ^ x := by rw [Nat.pow_succ]; omega
    apply Nat.div_eq_of_lt_le <;> omega]
  rfl
theorem top_of : ∀ (k S : Nat), S ≠ 0 → S < 2 ^ k → ∃ x, x < k ∧ 2 ^ x ≤ S ∧ S < 2 ^ (x + 1) := by
  intro k
  induction k with
  | zero => intro S h0 h; exact absurd h (by have : (2 : Nat) ^ 0 = 1 := rfl; omega)
  | succ k ih =>
    intro S h0 h
    by_cases z : S < 2 ^ k
    · obtain ⟨x, h1, h2, h3⟩ := ih S h0 z
      exact ⟨x, by omega, h2, h3⟩
    · exact ⟨k, by omega, by omega, h⟩
theorem lt_pow {S x : Nat} (h : ∀ i, x ≤ i → S.testBit i = false) : S < 2 ^ x := Nat.lt_pow_two_of_testBit S h
theorem dif_top {S x : Nat} (h : S < 2 ^ (x + 1)) : dif S (2 ^ x) < 2 ^ x := by
  apply lt_pow
  intro i hi
  rw [tb_dif, Nat.testBit_two_pow]
  by_cases e : x = i
  · simp [e]
  · rw [tb_hi h (by omega)]; rfl
theorem wi_dif {S x : Nat} (h : S.testBit x = true) : wi (dif S (2 ^ x)) x = S := by
  apply Nat.eq_of_testBit_eq
  intro i
  rw [tb_wi, tb_dif, Nat.testBit_two_pow]
  by_cases e : x = i
  · subst e; simp [h]
  · simp [e]
theorem dif_wi {n x : Nat} (h : n < 2 ^ x) : dif (wi n x) (2 ^ x) = n := by
  apply Nat.eq_of_testBit_eq
  intro i
  rw [tb_dif, tb_wi, Nat.testBit_two_pow]
  by_cases e : x = i
  · subst e; rw [tb_hi h (Nat.le_refl _)]; simp
  · simp [e]
theorem wi_lt {n x : Nat} (h : n < 2 ^ x) : wi n x < 2 ^ (x + 1) := by
  apply lt_pow
  intro i hi
  rw [tb_wi, tb_hi h (by omega)]
  simp; omega
theorem wi_ge {n x : Nat} : 2 ^ x ≤ wi n x := by unfold wi; exact Nat.right_le_or
