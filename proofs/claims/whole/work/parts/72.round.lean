/-! ===== the least way of the cart ===== -/
def WW (l : Nat → Nat) (h : Nat) : Nat → Nat → Nat
  | 0, _ => 0
  | x + 1, S => if S.testBit x = true then mlp (fun b => decide (LD l b 9 + l x ≤ h)) (fun b => 2 * (x + 1) + WW l h x (dif (dif S (2 ^ x)) b)) (dif S (2 ^ x)) 1000 (dif S (2 ^ x)) (2 * (x + 1) + WW l h x (dif S (2 ^ x))) else WW l h x S
theorem WW_b {l : Nat → Nat} {h : Nat} : ∀ x S, x ≤ 9 → WW l h x S ≤ 18 * x
  | 0, _, _ => Nat.le_refl _
  | x + 1, S, hx => by
    have h1 := fun S => WW_b (l := l) (h := h) x S (by omega)
    rw [WW]
    split
    · refine Nat.le_trans (mlp_le _ _ _ _ _ _) ?_
      have := h1 (dif S (2 ^ x))
      omega
    · have := h1 S; omega
theorem WW_hi {l : Nat → Nat} {h S x : Nat} (hS : S < 2 ^ x) : ∀ d, WW l h (x + d) S = WW l h x S
  | 0 => rfl
  | d + 1 => by
    rw [show x + (d + 1) = x + d + 1 by omega, WW, tb_hi hS (by omega), if_neg (by decide), WW_hi hS d]
theorem WW_9 {l : Nat → Nat} {h S x : Nat} (hS : S < 2 ^ x) (hx : x ≤ 9) : WW l h 9 S = WW l h x S := by
  have := WW_hi (l := l) (h := h) hS (9 - x)
  rw [show x + (9 - x) = 9 by omega] at this
  exact this
theorem LD_9 {l : Nat → Nat} {S x : Nat} (hS : S < 2 ^ x) (hx : x ≤ 9) : LD l S 9 = LD l S x := by
  have := LD_hi (l := l) hS (9 - x)
  rw [show x + (9 - x) = 9 by omega] at this
  exact this
theorem TP_9 {S x : Nat} (hS : S < 2 ^ x) (hx : x ≤ 9) : TP S 9 = TP S x := by
  have := TP_hi hS (9 - x)
  rw [show x + (9 - x) = 9 by omega] at this
  exact this
theorem LD_wi {l : Nat → Nat} {n x : Nat} (hn : n < 2 ^ x) (hx : x < 9) : LD l (wi n x) 9 = LD l n 9 + l x := by
  rw [LD_9 (wi_lt hn) (by omega), LD_9 hn (by omega), LD, tb_wi, if_pos (by simp), LD_congr x (S' := n) (fun i hi => by rw [tb_wi]; simp; omega)]
theorem TP_wi {n x : Nat} (hn : n < 2 ^ x) (hx : x < 9) : TP (wi n x) 9 = x + 1 := by
  rw [TP_9 (wi_lt hn) (by omega), TP, tb_wi, if_pos (by simp)]
theorem LD_0 {l : Nat → Nat} : ∀ x, LD l 0 x = 0
  | 0 => rfl
  | x + 1 => by rw [LD, LD_0 x, Nat.zero_testBit]; rfl
theorem dif_near {n b x : Nat} (hn : n < 2 ^ x) : dif n b < 2 ^ x := Nat.lt_of_le_of_lt (sb_le sb_dif) hn
theorem WW_wi {l : Nat → Nat} {h near x : Nat} (hn : near < 2 ^ x) (hx : x < 9) : WW l h 9 (wi near x) = mlp (fun b => decide (LD l b 9 + l x ≤ h)) (fun b => 2 * (x + 1) + WW l h x (dif near b)) near 1000 near (2 * (x + 1) + WW l h x near) := by
  rw [WW_9 (wi_lt hn) (by omega), WW, tb_wi, if_pos (by simp), dif_wi hn]
theorem pow_512 {x n : Nat} (hn : n < 2 ^ x) (hx : x ≤ 9) : n < 512 := Nat.lt_of_lt_of_le hn (show 2 ^ x ≤ 2 ^ 9 from Nat.pow_le_pow_right (by decide) hx)
theorem WW_all {l : Nat → Nat} {h near x : Nat} (hn : near < 2 ^ x) (hx : x < 9) {b : Nat} (hb : sb b near) (ho : LD l b 9 + l x ≤ h) : WW l h 9 (wi near x) ≤ 2 * (x + 1) + WW l h 9 (dif near b) := by
  rw [WW_wi hn hx, WW_9 (dif_near hn) (by omega)]
  by_cases b0 : b = 0
  · rw [b0, dif_0]
    exact mlp_le _ _ _ _ _ _
  · exact mlp_all _ _ hn 1000 near _ (by have := pow_512 hn (by omega); omega) sb_rf b hb b0 (sb_le hb) (by simpa using ho)
theorem WW_at {l : Nat → Nat} {h near x : Nat} (hl : l x ≤ h) (hn : near < 2 ^ x) (hx : x < 9) : ∃ b, sb b near ∧ LD l b 9 + l x ≤ h ∧ WW l h 9 (wi near x) = 2 * (x + 1) + WW l h 9 (dif near b) := by
  rw [WW_wi hn hx]
  rcases mlp_at (fun b => decide (LD l b 9 + l x ≤ h)) (fun b => 2 * (x + 1) + WW l h x (dif near b)) near 1000 near (2 * (x + 1) + WW l h x near) sb_rf with e | ⟨b, h1, h2, h3, h4⟩
  · refine ⟨0, sb_0, by rw [LD_0]; omega, ?_⟩
    rw [e, dif_0, WW_9 hn (by omega)]
  · exact ⟨b, h1, by simpa using h3, by rw [h4, WW_9 (dif_near hn) (by omega)]⟩
/-- the least way over journeys that the cart can hold -/
def goodR (l : Nat → Nat) (h : Nat) (f : Nat → Nat) (all n : Nat) : Prop := f 0 = 0 ∧ ∀ S, S < n → sb S all → S ≠ 0 → (∀ p, sb p S → p ≠ 0 → LD l p 9 ≤ h → f S ≤ f (dif S p) + 2 * TP p 9) ∧ ∃ p, sb p S ∧ p ≠ 0 ∧ LD l p 9 ≤ h ∧ f S = f (dif S p) + 2 * TP p 9
theorem goodR_le {l : Nat → Nat} {h all n : Nat} {f f' : Nat → Nat} (A : goodR l h f all n) (B : goodR l h f' all n) : ∀ m S, S < m → S < n → sb S all → f S ≤ f' S := by
  intro m
  induction m with
  | zero => intro S h; omega
  | succ m ih =>
    intro S hm hn hs
    by_cases z : S = 0
    · rw [z, A.1]; omega
    · obtain ⟨p, h1, h2, h3, h4⟩ := (B.2 S hn hs z).2
      have h5 := (A.2 S hn hs z).1 p h1 h2 h3
      have h6 := dif_lt h1 h2
      have h7 := ih (dif S p) (by omega) (by omega) (sb_tr sb_dif hs)
      omega
theorem goodR_eq {l : Nat → Nat} {h all n : Nat} {f f' : Nat → Nat} (A : goodR l h f all n) (B : goodR l h f' all n) {S : Nat} (hn : S < n) (hs : sb S all) : f S = f' S := by
  have h1 := goodR_le A B (S + 1) S (by omega) hn hs
  have h2 := goodR_le B A (S + 1) S (by omega) hn hs
  omega
theorem sb_near {p S x : Nat} (h : sb p S) (hx : p.testBit x = false) : sb p (dif S (2 ^ x)) := by
  refine sb_t.mpr (fun i hi => ?_)
  rw [tb_dif, sb_t.mp h i hi, Nat.testBit_two_pow]
  by_cases e : x = i
  · rw [e] at hx; rw [hx] at hi; exact absurd hi (by decide)
  · simp [e]
theorem sb_dif2 {p S x : Nat} (h : sb p S) : sb (dif p (2 ^ x)) (dif S (2 ^ x)) := by
  refine sb_t.mpr (fun i hi => ?_)
  rw [tb_dif] at hi ⊢
  revert hi
  cases e : p.testBit i
  · simp
  · rw [sb_t.mp h i e]; simp
theorem dif_wi2 {n b x : Nat} (hn : n < 2 ^ x) : dif (wi n x) (wi b x) = dif n b := by
  apply Nat.eq_of_testBit_eq
  intro i
  rw [tb_dif, tb_wi, tb_wi, tb_dif]
  by_cases e : x = i
  · subst e; rw [tb_hi hn (Nat.le_refl _)]; simp
  · simp [e]
theorem dif_wi3 {n p x : Nat} (hp : p.testBit x = false) : dif (wi n x) p = wi (dif n p) x := by
  apply Nat.eq_of_testBit_eq
  intro i
  rw [tb_dif, tb_wi, tb_wi, tb_dif]
  by_cases e : x = i
  · subst e; rw [hp]; simp
  · simp [e]
theorem WW_low {l : Nat → Nat} {h : Nat} (hl : ∀ x, x < 9 → l x ≤ h) : ∀ m S, S < m → S < 512 → ∀ p, sb p S → p ≠ 0 → LD l p 9 ≤ h → WW l h 9 S ≤ WW l h 9 (dif S p) + 2 * TP p 9 := by
  intro m
  induction m with
  | zero => intro S h; omega
  | succ m ih =>
    intro S hm hS p hp p0 ho
    have hpS := sb_le hp
    obtain ⟨x, x9, x1, x2⟩ := top_of 9 S (by omega) (by have : (2 : Nat) ^ 9 = 512 := rfl; omega)
    have tS := tb_of x1 x2
    have hn := dif_top x2
    have eS := wi_dif tS
    by_cases z : p.testBit x = true
    · have hb := dif_top (S := p) (x := x) (by omega)
      have ep := wi_dif z
      have hb2 := sb_dif2 (x := x) hp
      rw [← ep, LD_wi hb x9] at ho
      have := WW_all hn x9 hb2 ho
      rw [eS] at this
      have e1 := dif_wi2 (n := dif S (2 ^ x)) (b := dif p (2 ^ x)) hn
      have e2 := TP_wi hb x9
      rw [eS, ep] at e1
      rw [ep] at e2
      rw [e1, e2]
      omega
    · have z := eq_false_of_ne_true z
      have hb := sb_near hp z
      have e1 := dif_wi3 (n := dif S (2 ^ x)) z
      rw [eS] at e1
      obtain ⟨b, b1, b2, b3⟩ := WW_at (near := dif (dif S (2 ^ x)) p) (hl x x9) (dif_near hn) x9
      rw [← e1] at b3
      have c1 := WW_all hn x9 (sb_tr b1 sb_dif) b2
      rw [eS] at c1
      have c2 : sb p (dif (dif S (2 ^ x)) b) := by
        refine sb_t.mpr (fun i hi => ?_)
        rw [tb_dif, sb_t.mp hb i hi]
        cases e : b.testBit i
        · rfl
        · have := sb_t.mp b1 i e
          rw [tb_dif, hi] at this
          simp at this
      have hlt : dif (dif S (2 ^ x)) b < S := Nat.lt_of_lt_of_le (dif_near hn) x1
      have c3 := ih _ (by omega) (by omega) p c2 p0 ho
      rw [dif_c (n := dif S (2 ^ x)) (a := b) (b := p)] at c3
      omega
theorem WW_good {l : Nat → Nat} {h : Nat} (hl : ∀ x, x < 9 → l x ≤ h) (all : Nat) : goodR l h (WW l h 9) all 512 := by
  refine ⟨WW_9 (x := 0) (by decide) (by decide), fun S hS hs h0 => ⟨WW_low hl (S + 1) S (by omega) hS, ?_⟩⟩
  obtain ⟨x, x9, x1, x2⟩ := top_of 9 S h0 (by have : (2 : Nat) ^ 9 = 512 := rfl; omega)
  have tS := tb_of x1 x2
  have hn := dif_top x2
  have eS := wi_dif tS
  obtain ⟨b, b1, b2, b3⟩ := WW_at (hl x x9) hn x9
  have hb : b < 2 ^ x := Nat.lt_of_le_of_lt (sb_le b1) hn
  refine ⟨wi b x, ?_, ?_, by rw [LD_wi hb x9]; exact b2, ?_⟩
  · rw [← eS]
    refine sb_t.mpr (fun i hi => ?_)
    rw [tb_wi] at hi ⊢
    by_cases e : x = i
    · simp [e]
    · simp [e] at hi
      rw [sb_t.mp b1 i hi]; rfl
  · have := wi_ge (n := b) (x := x)
    have := Nat.two_pow_pos x
    omega
  · rw [eS] at b3
    have e1 := dif_wi2 (n := dif S (2 ^ x)) (b := b) hn
    rw [eS] at e1
    rw [b3, TP_wi hb x9, e1]
    omega
