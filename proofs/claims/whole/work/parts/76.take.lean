/-! ===== the class takes an item ===== -/
def plI (p0 : Nat) (Q : Ql) (g : Sg) : Prop := g p0 9 = nI (Q 0 0) ∧ g p0 10 = nI (Q 0 1) ∧ g p0 11 = nI (Q 0 2) ∧ g p0 12 = nI (Q 0 3) ∧ (∀ i, 1 ≤ i → i ≤ 5 → ∀ y, y < Q 0 2 → g (p0 + i) y = nI (Q i y)) ∧ (∀ x, x < 9 → g (p0 + 6) x = nI (Q 6 x) ∧ g (p0 + 7) x = nI (Q 7 x)) ∧ ∀ x, x < 10 → g (p0 + 9) x = 0
def qOk (Q : Ql) : Prop := 1 ≤ Q 0 0 ∧ Q 0 0 ≤ 9 ∧ 1 ≤ Q 0 1 ∧ Q 0 1 ≤ 99 ∧ Q 0 2 ≤ 8 ∧ Q 0 3 ≤ 1 ∧ (Q 0 3 = 1 → Q 0 2 = 0 ∧ ∀ x, x < 9 → Q 6 x = 0) ∧ (∀ y, y < Q 0 2 → Q 1 y ≤ 3 ∧ Q 2 y < Q 0 0 ∧ Q 3 y ≤ 20 ∧ 1 ≤ Q 4 y ∧ Q 4 y ≤ 9 ∧ 1 ≤ Q 5 y ∧ Q 5 y ≤ 20) ∧ (∀ y, Q 0 2 ≤ y → y < 8 → Q 5 y = 0) ∧ ∀ x, x < 9 → Q 6 x ≤ 40 ∧ Q 7 x ≤ 9 ∧ (Q 0 0 ≤ x → Q 6 x = 0)
theorem plI_eq {p0 : Nat} {Q : Ql} {g g' : Sg} (h : ∀ j, p0 ≤ j → j ≤ p0 + 9 → g' j = g j) (hp : plI p0 Q g) : plI p0 Q g' := by
  obtain ⟨a1, a2, a3, a4, a5, a6, a7⟩ := hp
  have h0 := h p0 (by omega) (by omega)
  exact ⟨by rw [h0]; exact a1, by rw [h0]; exact a2, by rw [h0]; exact a3, by rw [h0]; exact a4, fun i h1 h2 y hy => by rw [h (p0 + i) (by omega) (by omega)]; exact a5 i h1 h2 y hy, fun x hx => by rw [h (p0 + 6) (by omega) (by omega), h (p0 + 7) (by omega) (by omega)]; exact a6 x hx, fun x hx => by rw [h (p0 + 9) (by omega) (by omega)]; exact a7 x hx⟩
def frP (p0 : Nat) (g g' : Sg) : Prop := ∀ j, j ≠ 3 → (j < p0 ∨ p0 + 9 < j) → g' j = g j
theorem frP_rf {p0 : Nat} {g : Sg} : frP p0 g g := fun _ _ _ => rfl
theorem frP_tr {p0 : Nat} {g g1 g2 : Sg} (a : frP p0 g g1) (b : frP p0 g1 g2) : frP p0 g g2 := fun j h1 h2 => (b j h1 h2).trans (a j h1 h2)
theorem frP_set {p0 k : Nat} {g : Sg} {f : Nat → Int32} (h : k = 3 ∨ (p0 ≤ k ∧ k ≤ p0 + 9)) : frP p0 g (setC g k f) := fun j h1 h2 => setC_n (by omega)
theorem f_outN (g : Sg) {v lo hi : Nat} (hv : v < 1000) (hlo : lo < 1000) (hhi : hi < 1000) : fX10_outside g (nI v) (nI lo) (nI hi) = some (bI (v < lo ∨ hi < v), g) := by
  rw [f_outside]
  by_cases h : v < lo ∨ hi < v
  · rw [bI_t h, bI_t (by rw [nI_ltN (by omega) (by omega), nI_ltN (by omega) (by omega)]; exact h)]
  · rw [bI_f h, bI_f (by rw [nI_ltN (by omega) (by omega), nI_ltN (by omega) (by omega)]; exact h)]
theorem f_takeSteps {p0 k : Nat} {Q : Ql} {f : Nat → Nat} {g : Sg} (h4 : 4 ≤ p0) (hI : plI p0 Q g) (hQ : qOk Q) (hk : 1 ≤ k) (hk5 : k ≤ 5) (hf : ∀ i, i < k → g 3 i = nI (f i) ∧ f i ≤ 99) : (tkOk Q 115 k f → ∃ g', fX3_takeSteps g p0 (nI k) = some (1, g') ∧ plI p0 (setQ Q 0 0 (f 0)) g' ∧ frP p0 g g') ∧ (¬ tkOk Q 115 k f → fX3_takeSteps g p0 (nI k) = some (0, g)) := by
  obtain ⟨a1, a2, a3, a4, a5, a6, a7⟩ := id hI
  have f0 := hf 0 (by omega)
  have e4 : Q 0 3 = 0 ∨ Q 0 3 = 1 := by have := hQ.2.2.2.2.2.1; omega
  have ok : tkOk Q 115 k f ↔ Q 0 3 = 1 ∧ k = 1 ∧ 1 ≤ f 0 ∧ f 0 ≤ 9 := by
    constructor
    · rintro ⟨h1, h2, h3⟩
      have h2 : k = 1 := h2
      have h3 := h3 0 (by omega)
      exact ⟨h1.1 rfl, h2, h3.1, h3.2⟩
    · rintro ⟨h1, h2, h3, h5⟩
      refine ⟨⟨fun _ => h1, fun h => absurd h (by decide)⟩, h2, fun i hi => ?_⟩
      have : i = 0 := by omega
      subst this
      exact ⟨h3, h5⟩
  unfold fX3_takeSteps
  rw [a4]
  rcases e4 with e | e
  · rw [e, if_pos (by rfl)]
    exact ⟨fun h => absurd (ok.mp h).1 (by omega), fun _ => rfl⟩
  rw [e, if_neg (by decide), show (1 : Int32) = nI 1 from rfl]
  by_cases k1 : k = 1
  · rw [if_pos (by rw [k1]), show (0 : Int32) = nI 0 from rfl, gRd_n (by omega) (by decide), f0.1, show (9 : Int32) = nI 9 from rfl, f_outN g (by omega) (by omega) (by omega), gCl_s]
    by_cases z : f 0 < 1 ∨ 9 < f 0
    · rw [bI_t z, if_neg (by decide)]
      exact ⟨fun h => absurd (ok.mp h) (by omega), fun _ => rfl⟩
    · rw [bI_f z, if_pos (show (0 : Int32) = nI 0 from rfl), gRd_n (by omega) (by decide), f0.1]
      simp only [gLet, gUp_c]
      refine ⟨fun _ => ⟨_, rfl, ⟨by rw [setC_s, upd_s, setQ_s], by rw [setC_s, upd_n (by decide), setQ_n (by omega)]; exact a2, by rw [setC_s, upd_n (by decide), setQ_n (by omega)]; exact a3, by rw [setC_s, upd_n (by decide), setQ_n (by omega)]; exact a4, fun i h1 h2 y hy => ?_, fun x hx => ?_, fun x hx => by rw [setC_n (by omega)]; exact a7 x hx⟩, frP_set (by omega)⟩, fun h => absurd (ok.mpr ⟨e, k1, by omega, by omega⟩) h⟩
      · rw [setQ_n (by omega)] at hy
        rw [setC_n (by omega), setQ_n (by omega)]
        exact a5 i h1 h2 y hy
      · rw [setC_n (by omega), setC_n (by omega), setQ_n (by omega), setQ_n (by omega)]
        exact a6 x hx
  · rw [if_neg (by rw [nI_inj (by omega) (by omega)]; exact k1)]
    exact ⟨fun h => absurd (ok.mp h).2.1 k1, fun _ => rfl⟩
theorem f_takeHold {p0 k : Nat} {Q : Ql} {f : Nat → Nat} {g : Sg} (h4 : 4 ≤ p0) (hI : plI p0 Q g) (hk : 1 ≤ k) (hk5 : k ≤ 5) (hf : ∀ i, i < k → g 3 i = nI (f i) ∧ f i ≤ 99) : (tkOk Q 104 k f → ∃ g', fX3_takeHold g p0 (nI k) = some (1, g') ∧ plI p0 (setQ Q 0 1 (f 0)) g' ∧ frP p0 g g') ∧ (¬ tkOk Q 104 k f → fX3_takeHold g p0 (nI k) = some (0, g)) := by
  obtain ⟨a1, a2, a3, a4, a5, a6, a7⟩ := id hI
  have f0 := hf 0 (by omega)
  have ok : tkOk Q 104 k f ↔ k = 1 ∧ 1 ≤ f 0 ∧ f 0 ≤ 99 := by
    constructor
    · rintro ⟨h1, h2, h3⟩
      have h2 : k = 1 := h2
      have h3 := h3 0 (by omega)
      exact ⟨h2, h3.1, h3.2⟩
    · rintro ⟨h2, h3, h5⟩
      refine ⟨⟨fun h => absurd h (by decide), fun h => absurd h (by decide)⟩, h2, fun i hi => ?_⟩
      have : i = 0 := by omega
      subst this
      exact ⟨h3, h5⟩
  unfold fX3_takeHold
  rw [show (1 : Int32) = nI 1 from rfl]
  by_cases k1 : k = 1
  · rw [if_pos (by rw [k1]), show (0 : Int32) = nI 0 from rfl, gRd_n (by omega) (by decide), f0.1, show (99 : Int32) = nI 99 from rfl, f_outN g (by omega) (by omega) (by omega), gCl_s]
    by_cases z : f 0 < 1 ∨ 99 < f 0
    · rw [bI_t z, if_neg (by decide)]
      exact ⟨fun h => absurd (ok.mp h) (by omega), fun _ => rfl⟩
    · rw [bI_f z, if_pos (show (0 : Int32) = nI 0 from rfl), gRd_n (by omega) (by decide), f0.1]
      simp only [gLet, gUp_c]
      refine ⟨fun _ => ⟨_, rfl, ⟨by rw [setC_s, upd_n (by decide), setQ_n (by omega)]; exact a1, by rw [setC_s, upd_s, setQ_s], by rw [setC_s, upd_n (by decide), setQ_n (by omega)]; exact a3, by rw [setC_s, upd_n (by decide), setQ_n (by omega)]; exact a4, fun i h1 h2 y hy => ?_, fun x hx => ?_, fun x hx => by rw [setC_n (by omega)]; exact a7 x hx⟩, frP_set (by omega)⟩, fun h => absurd (ok.mpr ⟨k1, by omega, by omega⟩) h⟩
      · rw [setQ_n (by omega)] at hy
        rw [setC_n (by omega), setQ_n (by omega)]
        exact a5 i h1 h2 y hy
      · rw [setC_n (by omega), setC_n (by omega), setQ_n (by omega), setQ_n (by omega)]
        exact a6 x hx
  · rw [if_neg (by rw [nI_inj (by omega) (by omega)]; exact k1)]
    exact ⟨fun h => absurd (ok.mp h).1 k1, fun _ => rfl⟩
theorem f_takeAt {p0 k c j m : Nat} {Q : Ql} {f : Nat → Nat} {g : Sg} (h4 : 4 ≤ p0) (hI : plI p0 Q g) (hQ1 : 1 ≤ Q 0 0) (hQ9 : Q 0 0 ≤ 9) (hk : 1 ≤ k) (hk5 : k ≤ 5) (hf : ∀ i, i < k → g 3 i = nI (f i) ∧ f i ≤ 99) (hc : (c = 107 ∧ j = 7 ∧ m = 9) ∨ (c = 99 ∧ j = 6 ∧ m = 40)) : (tkOk Q c k f → ∃ g', fX3_takeAtStep g p0 (p0 + j) (nI k) (nI m) = some (1, g') ∧ plI p0 (setQ Q j (f 0) (f 1)) g' ∧ frP p0 g g') ∧ (¬ tkOk Q c k f → fX3_takeAtStep g p0 (p0 + j) (nI k) (nI m) = some (0, g)) := by
  obtain ⟨a1, a2, a3, a4, a5, a6, a7⟩ := id hI
  have f0 := hf 0 (by omega)
  have hj : j = 6 ∨ j = 7 := by omega
  have ok : tkOk Q c k f ↔ k = 2 ∧ f 0 < Q 0 0 ∧ f 1 ≤ m := by
    rcases hc with ⟨rfl, rfl, rfl⟩ | ⟨rfl, rfl, rfl⟩
    · constructor
      · rintro ⟨h1, h2, h3⟩
        have h2 : k = 2 := h2
        have h3a : f 0 ≤ Q 0 0 - 1 := (h3 0 (by omega)).2
        have h3b : f 1 ≤ 9 := (h3 1 (by omega)).2
        exact ⟨h2, by omega, h3b⟩
      · rintro ⟨h2, h3, h5⟩
        refine ⟨⟨fun h => absurd h (by decide), fun h => absurd h (by decide)⟩, h2, fun i hi => ?_⟩
        match i, hi with
        | 0, _ => exact ⟨Nat.zero_le _, by show f 0 ≤ Q 0 0 - 1; omega⟩
        | 1, _ => exact ⟨Nat.zero_le _, h5⟩
        | i + 2, hi => omega
    · constructor
      · rintro ⟨h1, h2, h3⟩
        have h2 : k = 2 := h2
        have h3a : f 0 ≤ Q 0 0 - 1 := (h3 0 (by omega)).2
        have h3b : f 1 ≤ 40 := (h3 1 (by omega)).2
        exact ⟨h2, by omega, h3b⟩
      · rintro ⟨h2, h3, h5⟩
        refine ⟨⟨fun h => absurd h (by decide), fun h => absurd h (by decide)⟩, h2, fun i hi => ?_⟩
        match i, hi with
        | 0, _ => exact ⟨Nat.zero_le _, by show f 0 ≤ Q 0 0 - 1; omega⟩
        | 1, _ => exact ⟨Nat.zero_le _, h5⟩
        | i + 2, hi => omega
  have hm : m ≤ 40 := by omega
  unfold fX3_takeAtStep
  rw [show (2 : Int32) = nI 2 from rfl]
  by_cases k1 : k = 2
  · have f1 := hf 1 (by omega)
    rw [if_pos (by rw [k1]), show (0 : Int32) = nI 0 from rfl, gRd_n (by omega) (by decide), f0.1, a1, sub1 hQ1, f_outN g (by omega) (by omega) (by omega), gCl_s]
    by_cases z : f 0 < 0 ∨ Q 0 0 - 1 < f 0
    · rw [bI_t z, if_neg (by decide)]
      exact ⟨fun h => absurd (ok.mp h) (by omega), fun _ => rfl⟩
    · rw [bI_f z, if_pos (show (0 : Int32) = nI 0 from rfl), show (1 : Int32) = nI 1 from rfl, gRd_n (by omega) (by decide), f1.1, f_outN g (by omega) (by omega) (by omega), gCl_s]
      by_cases z2 : f 1 < 0 ∨ m < f 1
      · rw [bI_t z2, if_neg (by decide)]
        exact ⟨fun h => absurd (ok.mp h) (by omega), fun _ => rfl⟩
      · rw [bI_f z2, if_pos (show (0 : Int32) = nI 0 from rfl), gRd_n (by omega) (by decide), f0.1, gRd_n (by omega) (by decide), f1.1, gWr_n (by omega) (by decide)]
        refine ⟨fun _ => ⟨_, rfl, ⟨by rw [setC_n (by omega), setQ_n (by omega)]; exact a1, by rw [setC_n (by omega), setQ_n (by omega)]; exact a2, by rw [setC_n (by omega), setQ_n (by omega)]; exact a3, by rw [setC_n (by omega), setQ_n (by omega)]; exact a4, fun i h1 h2 y hy => ?_, fun x hx => ?_, fun x hx => by rw [setC_n (by omega)]; exact a7 x hx⟩, frP_set (by omega)⟩, fun h => absurd (ok.mpr ⟨k1, by omega, by omega⟩) h⟩
        · rw [setQ_n (by omega)] at hy
          rw [setC_n (by omega), setQ_n (by omega)]
          exact a5 i h1 h2 y hy
        · have a6x := a6 x hx
          rcases hj with rfl | rfl
          · rw [setC_s, setC_n (by omega), setQ_n (a := 7) (by omega)]
            refine ⟨?_, a6x.2⟩
            by_cases e : x = f 0
            · rw [e, upd_s, setQ_s]
            · rw [upd_n e, setQ_n (by omega)]; exact a6x.1
          · rw [setC_n (by omega), setC_s, setQ_n (a := 6) (by omega)]
            refine ⟨a6x.1, ?_⟩
            by_cases e : x = f 0
            · rw [e, upd_s, setQ_s]
            · rw [upd_n e, setQ_n (by omega)]; exact a6x.2
  · rw [if_neg (by rw [nI_inj (by omega) (by omega)]; exact k1)]
    exact ⟨fun h => absurd (ok.mp h).1 k1, fun _ => rfl⟩
theorem ok_y {Q : Ql} {k : Nat} {f : Nat → Nat} (hQ1 : 1 ≤ Q 0 0) : tkOk Q 121 k f ↔ k = 5 ∧ Q 0 2 < 8 ∧ f 0 ≤ 3 ∧ f 1 < Q 0 0 ∧ f 2 ≤ 20 ∧ 1 ≤ f 3 ∧ f 3 ≤ 9 ∧ 1 ≤ f 4 ∧ f 4 ≤ 20 := by
  constructor
  · rintro ⟨h1, h2, h3⟩
    have h2 : k = 5 := h2
    have b0 : f 0 ≤ 3 := (h3 0 (by omega)).2
    have b1 : f 1 ≤ Q 0 0 - 1 := (h3 1 (by omega)).2
    have b2 : f 2 ≤ 20 := (h3 2 (by omega)).2
    have b3 : 1 ≤ f 3 ∧ f 3 ≤ 9 := h3 3 (by omega)
    have b4 : 1 ≤ f 4 ∧ f 4 ≤ 20 := h3 4 (by omega)
    exact ⟨h2, h1.2 rfl, b0, by omega, b2, b3.1, b3.2, b4.1, b4.2⟩
  · rintro ⟨h1, h2, h3, h4, h5, h6, h7, h8, h9⟩
    refine ⟨⟨fun h => absurd h (by decide), fun _ => h2⟩, h1, fun i hi => ?_⟩
    match i, hi with
    | 0, _ => exact ⟨Nat.zero_le _, h3⟩
    | 1, _ => exact ⟨Nat.zero_le _, by show f 1 ≤ Q 0 0 - 1; omega⟩
    | 2, _ => exact ⟨Nat.zero_le _, h5⟩
    | 3, _ => exact ⟨h6, h7⟩
    | 4, _ => exact ⟨h8, h9⟩
    | i + 5, hi => omega
theorem f_takeY {p0 k : Nat} {Q : Ql} {f : Nat → Nat} {g : Sg} (h4 : 4 ≤ p0) (hI : plI p0 Q g) (hI0 : Q 0 3 = 0) (hQ1 : 1 ≤ Q 0 0) (hQ9 : Q 0 0 ≤ 9) (hQ8 : Q 0 2 ≤ 8) (hk : 1 ≤ k) (hk5 : k ≤ 5) (hf : ∀ i, i < k → g 3 i = nI (f i) ∧ f i ≤ 99) : (tkOk Q 121 k f → ∃ g', fX3_takeYounger g p0 (nI k) = some (1, g') ∧ plI p0 (addY Q f) g' ∧ frP p0 g g') ∧ (¬ tkOk Q 121 k f → fX3_takeYounger g p0 (nI k) = some (0, g)) := by
  obtain ⟨a1, a2, a3, a4, a5, a6, a7⟩ := id hI
  have ok := ok_y (k := k) (f := f) hQ1
  unfold fX3_takeYounger
  rw [show (5 : Int32) = nI 5 from rfl]
  by_cases k1 : ¬ k = 5
  · rw [if_neg (by rw [nI_inj (by omega) (by omega)]; exact k1)]
    exact ⟨fun h => absurd (ok.mp h).1 k1, fun _ => rfl⟩
  have k1 : k = 5 := Decidable.not_not.mp k1
  rw [if_pos (by rw [k1]), a3, show (8 : Int32) = nI 8 from rfl]
  by_cases c8 : 8 ≤ Q 0 2
  · rw [if_pos ((nI_leN (by omega) (by omega)).mpr c8)]
    exact ⟨fun h => absurd (ok.mp h) (by omega), fun _ => rfl⟩
  rw [if_neg (by rw [nI_leN (by omega) (by omega)]; exact c8)]
  have f0 := hf 0 (by omega)
  have f1 := hf 1 (by omega)
  have f2 := hf 2 (by omega)
  have f3 := hf 3 (by omega)
  have f4 := hf 4 (by omega)
  rw [show (0 : Int32) = nI 0 from rfl, show (1 : Int32) = nI 1 from rfl, show (3 : Int32) = nI 3 from rfl, show (20 : Int32) = nI 20 from rfl, show (9 : Int32) = nI 9 from rfl, show (4 : Int32) = nI 4 from rfl, show (2 : Int32) = nI 2 from rfl, gRd_n (show 0 < 5 by decide) (by decide), f0.1, f_outN g (by omega) (by omega) (by omega), gCl_s]
  by_cases z0 : f 0 < 0 ∨ 3 < f 0
  · rw [bI_t z0, if_neg (by decide)]
    exact ⟨fun h => absurd (ok.mp h) (by omega), fun _ => rfl⟩
  rw [bI_f z0, if_pos (show (0 : Int32) = nI 0 from rfl), gRd_n (show 1 < 5 by decide) (by decide), f1.1, a1, show nI (Q 0 0) - nI 1 = nI (Q 0 0 - 1) from sub1 hQ1, f_outN g (by omega) (by omega) (by omega), gCl_s]
  by_cases z1 : f 1 < 0 ∨ Q 0 0 - 1 < f 1
  · rw [bI_t z1, if_neg (by decide)]
    exact ⟨fun h => absurd (ok.mp h) (by omega), fun _ => rfl⟩
  rw [bI_f z1, if_pos (show (0 : Int32) = nI 0 from rfl), gRd_n (show 2 < 5 by decide) (by decide), f2.1, f_outN g (by omega) (by omega) (by omega), gCl_s]
  by_cases z2 : f 2 < 0 ∨ 20 < f 2
  · rw [bI_t z2, if_neg (by decide)]
    exact ⟨fun h => absurd (ok.mp h) (by omega), fun _ => rfl⟩
  rw [bI_f z2, if_pos (show (0 : Int32) = nI 0 from rfl), gRd_n (show 3 < 5 by decide) (by decide), f3.1, f_outN g (by omega) (by omega) (by omega), gCl_s]
  by_cases z3 : f 3 < 1 ∨ 9 < f 3
  · rw [bI_t z3, if_neg (by decide)]
    exact ⟨fun h => absurd (ok.mp h) (by omega), fun _ => rfl⟩
  rw [bI_f z3, if_pos (show (0 : Int32) = nI 0 from rfl), gRd_n (show 4 < 5 by decide) (by decide), f4.1, f_outN g (by omega) (by omega) (by omega), gCl_s]
  by_cases z4 : f 4 < 1 ∨ 20 < f 4
  · rw [bI_t z4, if_neg (by decide)]
    exact ⟨fun h => absurd (ok.mp h) (by omega), fun _ => rfl⟩
  refine ⟨fun _ => ?_, fun h => absurd (ok.mpr ⟨k1, by omega, by omega, by omega, by omega, by omega, by omega, by omega, by omega⟩) h⟩
  rw [bI_f z4, if_pos (show (0 : Int32) = nI 0 from rfl), gRd_n (by decide) (by decide), f0.1, a3, gWr_n (by omega) (by decide), gRd_n (by decide) (by decide), setC_n (show 3 ≠ p0 + 1 by omega), f1.1, setC_n (show p0 ≠ p0 + 1 by omega), a3, gWr_n (by omega) (by decide), gRd_n (by decide) (by decide), setC_n (show 3 ≠ p0 + 2 by omega), setC_n (show 3 ≠ p0 + 1 by omega), f2.1, setC_n (show p0 ≠ p0 + 2 by omega), setC_n (show p0 ≠ p0 + 1 by omega), a3, gWr_n (by omega) (by decide), gRd_n (by decide) (by decide), setC_n (show 3 ≠ p0 + 3 by omega), setC_n (show 3 ≠ p0 + 2 by omega), setC_n (show 3 ≠ p0 + 1 by omega), f3.1, setC_n (show p0 ≠ p0 + 3 by omega), setC_n (show p0 ≠ p0 + 2 by omega), setC_n (show p0 ≠ p0 + 1 by omega), a3, gWr_n (by omega) (by decide), gRd_n (by decide) (by decide), setC_n (show 3 ≠ p0 + 4 by omega), setC_n (show 3 ≠ p0 + 3 by omega), setC_n (show 3 ≠ p0 + 2 by omega), setC_n (show 3 ≠ p0 + 1 by omega), f4.1, setC_n (show p0 ≠ p0 + 4 by omega), setC_n (show p0 ≠ p0 + 3 by omega), setC_n (show p0 ≠ p0 + 2 by omega), setC_n (show p0 ≠ p0 + 1 by omega), a3, gWr_n (by omega) (by decide)]
  simp only [gLet, gUp_c]
  refine ⟨_, rfl, ?_, ?_⟩
  · have hp : ∀ j, p0 ≠ j → True := fun _ _ => trivial
    refine ⟨?_, ?_, ?_, ?_, fun i h1 h2 y hy => ?_, fun x hx => ?_, fun x hx => ?_⟩
    · rw [setC_s, upd_n (by decide), setC_n (by omega), setC_n (by omega), setC_n (by omega), setC_n (by omega), setC_n (by omega)]; exact a1
    · rw [setC_s, upd_n (by decide), setC_n (by omega), setC_n (by omega), setC_n (by omega), setC_n (by omega), setC_n (by omega)]; exact a2
    · rw [setC_s, upd_s, setC_n (by omega), setC_n (by omega), setC_n (by omega), setC_n (by omega), setC_n (by omega), a3, nI_add]; rfl
    · rw [setC_s, upd_n (by decide), setC_n (by omega), setC_n (by omega), setC_n (by omega), setC_n (by omega), setC_n (by omega), a4, hI0]; rfl
    · have hy : y < Q 0 2 + 1 := hy
      have e1 : addY Q f i y = if y = Q 0 2 then f (i - 1) else Q i y := by
        unfold addY
        rw [if_neg (by omega)]
        by_cases e : y = Q 0 2
        · rw [if_pos ⟨e, h2⟩, if_pos e]
        · rw [if_neg (by omega), if_neg e]
      rw [e1, setC_n (by omega)]
      have key : ∀ (m : Nat) (w : Int32) (g1 : Sg), g1 (p0 + i) y = g (p0 + i) y → (m = i → y = Q 0 2 → w = nI (f (i - 1))) → True := fun _ _ _ _ _ => trivial
      match i, h1, h2 with
      | 1, _, _ =>
        rw [setC_n (by omega), setC_n (by omega), setC_n (by omega), setC_n (by omega), setC_s]
        by_cases e : y = Q 0 2
        · rw [if_pos e, e, upd_s]
        · rw [if_neg e, upd_n e]; exact a5 1 (by omega) (by omega) y (by omega)
      | 2, _, _ =>
        rw [setC_n (by omega), setC_n (by omega), setC_n (by omega), setC_s, setC_n (by omega)]
        by_cases e : y = Q 0 2
        · rw [if_pos e, e, upd_s]
        · rw [if_neg e, upd_n e]; exact a5 2 (by omega) (by omega) y (by omega)
      | 3, _, _ =>
        rw [setC_n (by omega), setC_n (by omega), setC_s, setC_n (by omega), setC_n (by omega)]
        by_cases e : y = Q 0 2
        · rw [if_pos e, e, upd_s]
        · rw [if_neg e, upd_n e]; exact a5 3 (by omega) (by omega) y (by omega)
      | 4, _, _ =>
        rw [setC_n (by omega), setC_s, setC_n (by omega), setC_n (by omega), setC_n (by omega)]
        by_cases e : y = Q 0 2
        · rw [if_pos e, e, upd_s]
        · rw [if_neg e, upd_n e]; exact a5 4 (by omega) (by omega) y (by omega)
      | 5, _, _ =>
        rw [setC_s, setC_n (by omega), setC_n (by omega), setC_n (by omega), setC_n (by omega)]
        by_cases e : y = Q 0 2
        · rw [if_pos e, e, upd_s]
        · rw [if_neg e, upd_n e]; exact a5 5 (by omega) (by omega) y (by omega)
      | i + 6, _, h2 => omega
    · have e6 : addY Q f 6 x = Q 6 x := by unfold addY; rw [if_neg (by decide), if_neg (by omega)]
      have e7 : addY Q f 7 x = Q 7 x := by unfold addY; rw [if_neg (by decide), if_neg (by omega)]
      rw [e6, e7, setC_n (by omega), setC_n (by omega), setC_n (by omega), setC_n (by omega), setC_n (by omega), setC_n (by omega), setC_n (by omega), setC_n (by omega), setC_n (by omega), setC_n (by omega), setC_n (by omega), setC_n (by omega)]
      exact a6 x hx
    · rw [setC_n (by omega), setC_n (by omega), setC_n (by omega), setC_n (by omega), setC_n (by omega), setC_n (by omega)]
      exact a7 x hx
  · intro j h1 h2
    rw [setC_n (by omega), setC_n (by omega), setC_n (by omega), setC_n (by omega), setC_n (by omega), setC_n (by omega)]
