/-! ===== ranges ===== -/
def rg (x : Int32) (a b : Int) : Prop := a ≤ x.toInt ∧ x.toInt ≤ b
def wOk (W : Nat → Int32) : Prop := ∀ y : Nat, y < 8 → rg (W y) 0 20
theorem div2 {n : Int32} (h : 0 ≤ n.toInt) : (n / 2).toInt = n.toInt / 2 := by
  rw [Int32.toInt_div_of_ne_right _ _ (by decide), show (2 : Int32).toInt = 2 from rfl, Int.tdiv_eq_ediv_of_nonneg h]
theorem t1 : (1 : Int32).toInt = 1 := rfl
theorem t0 : (0 : Int32).toInt = 0 := rfl
theorem t2 : (2 : Int32).toInt = 2 := rfl
theorem t20 : (20 : Int32).toInt = 20 := rfl
theorem tm1 : (-1 : Int32).toInt = -1 := rfl
theorem half_b {n : Int32} (h : rg n 1 9) : rg (n / 2 + 1) 1 5 := by
  have e := div2 (n := n) (by have := h.1; omega)
  obtain ⟨h1, h2⟩ := h
  unfold rg
  rw [tI_add (by rw [e, t1]; omega) (by rw [e, t1]; omega), e, t1]
  omega
theorem want_b {k n : Int32} {cd : Bool} (h : rg n 1 9) : rg (wantI k n cd) 0 18 := by
  have h0 := half_b h
  obtain ⟨h1, h2⟩ := h
  unfold wantI
  split
  · exact ⟨by have := h0.1; omega, by have := h0.2; omega⟩
  · split
    · unfold rg
      rw [tI_mul (by rw [t2]; omega) (by rw [t2]; omega), t2]
      omega
    · split
      · split
        · exact ⟨by rw [t0]; omega, by rw [t0]; omega⟩
        · exact ⟨by omega, by omega⟩
      · exact ⟨by omega, by omega⟩
theorem pour_b {wt : Nat → Int32} {dr : Nat → Bool} (hw : ∀ y, rg (wt y) 0 18 ∨ True) : ∀ (l : List Nat) (r : Int32) (d : Nat → Int32), (∀ y ∈ l, rg (wt y) 0 18) → 0 ≤ r.toInt → rg (pour wt dr l r d).1 0 r.toInt ∧ ∀ y, (y ∈ l ∨ rg (d y) 0 18) → rg ((pour wt dr l r d).2 y) 0 18 := by
  intro l
  induction l with
  | nil =>
    intro r d _ hr
    exact ⟨⟨hr, Int.le_refl _⟩, fun y h => h.elim (fun h => by cases h) id⟩
  | cons z l ih =>
    intro r d hl hr
    have hz := hl z List.mem_cons_self
    have he : rg (if dr z = true then (if r < wt z then r else wt z) else 0) 0 18 ∧ (if dr z = true then (if r < wt z then r else wt z) else 0).toInt ≤ r.toInt := by
      split
      · split
        · rename_i h; rw [lt_tI] at h; exact ⟨⟨hr, by have := hz.2; omega⟩, Int.le_refl _⟩
        · rename_i h; rw [lt_tI] at h; exact ⟨hz, by omega⟩
      · exact ⟨⟨by rw [t0]; omega, by rw [t0]; omega⟩, by rw [t0]; exact hr⟩
    rw [pour]
    generalize (if dr z = true then (if r < wt z then r else wt z) else 0) = e at he
    have es := tI_sub (x := r) (y := e) (by have := he.1.1; have := he.1.2; have := tI_hi r; omega) (by have := he.1.1; have := he.1.2; have := tI_hi r; omega)
    obtain ⟨i1, i2⟩ := ih (r - e) (upd d z e) (fun y hy => hl y (List.mem_cons_of_mem _ hy)) (by rw [es]; have := he.2; omega)
    refine ⟨⟨i1.1, by have := i1.2; rw [es] at this; have := he.1.1; omega⟩, fun y hy => i2 y ?_⟩
    by_cases hyl : y ∈ l
    · exact Or.inl hyl
    · refine Or.inr ?_
      by_cases hyz : y = z
      · rw [hyz, upd_s]; exact he.1
      · rw [upd_n hyz]
        rcases hy with h | h
        · simp [hyz, hyl] at h
        · exact h
theorem lap_b {d c : Int32} (hd : rg d 0 40) (hc : rg c 0 9) : rg (lapI d c) 0 9 ∧ (lapI d c).toInt ≤ d.toInt := by
  obtain ⟨a1, a2⟩ := hd
  obtain ⟨b1, b2⟩ := hc
  unfold lapI
  split
  · rename_i h; rw [lt_tI] at h; exact ⟨⟨a1, by omega⟩, Int.le_refl _⟩
  · rename_i h; rw [lt_tI] at h; exact ⟨⟨b1, b2⟩, by omega⟩
theorem pourA_b {P : Pl} (hp : pOk P) {x : Nat} {d c set : Int32} {dk : Nat → Int32} (hd : rg d 0 40) (hc : rg c 0 9) : rg (pourA P x d c set dk).1 0 40 ∧ ∀ y, y ∈ tl P x → rg ((pourA P x d c set dk).2 y) 0 18 := by
  unfold pourA
  obtain ⟨l1, l2⟩ := lap_b hd hc
  have es := tI_sub (x := d) (y := lapI d c) (by have := l1.1; have := hd.1; have := hd.2; have := l1.2; omega) (by have := l1.1; have := hd.2; omega)
  obtain ⟨a, b⟩ := pour_b (wt := fun y => wantI (pK P y) (pN P y) (decide (0 < lapI d c))) (dr := bit set) (fun _ => Or.inr trivial) (tl P x) (d - lapI d c) dk (fun y hy => want_b (hp.2.2.2.2 y ((tl_mem hp).mp hy).1).2.2) (by rw [es]; omega)
  refine ⟨⟨a.1, ?_⟩, fun y hy => b y (Or.inl hy)⟩
  have := a.2
  rw [es] at this
  have := l1.1
  have := hd.2
  omega
theorem clamp_b (z : Int32) : rg (clampI z) 0 20 := by
  unfold clampI
  by_cases h1 : z < 20
  · rw [if_pos h1]
    rw [lt_tI, t20] at h1
    by_cases h2 : 0 < z
    · rw [if_pos h2]
      rw [lt_tI, t0] at h2
      exact ⟨by omega, by omega⟩
    · rw [if_neg h2]
      exact ⟨by rw [t0]; omega, by rw [t0]; omega⟩
  · rw [if_neg h1, if_pos (by decide)]
    exact ⟨by rw [t20]; omega, by rw [t20]; omega⟩
theorem clamp_lo {z : Int32} (h : z.toInt ≤ 20) : clampI z = if 0 < z then z else 0 := by
  unfold clampI
  simp only [lt_tI, t0, t20]
  by_cases h1 : z.toInt < 20
  · simp [h1]
  · have h2 : z = 20 := by rw [eq_tI, t20]; omega
    subst h2
    rfl
theorem gain_b {k n d : Int32} (hn : rg n 1 9) (hd : rg d 0 18) : rg (gainI k n d) (-9) 1 := by
  obtain ⟨n1, n2⟩ := hn
  obtain ⟨d1, d2⟩ := hd
  unfold gainI
  by_cases hk : k = 1
  · simp only [hk, if_true]
    split
    · exact ⟨by rw [tm1]; omega, by rw [tm1]; omega⟩
    · exact ⟨by rw [t1]; omega, by rw [t1]; omega⟩
  · simp only [hk, if_false]
    split
    · rename_i h1
      rw [lt_tI] at h1
      unfold rg
      rw [tI_sub (by omega) (by omega)]
      omega
    · exact ⟨by rw [t1]; omega, by rw [t1]; omega⟩
theorem m_wellThen {P : Pl} (hp : pOk P) {t : Sg} (hP : mPlan P t) {y : Nat} (hy : y < pC P) (w d a3 a4 : Int32) (hw : w.toInt ≤ 20) (hd : rg d 0 18) :
    fX11_wellThen t (nI y) w d a3 a4 = some (if 0 < w then nwI (pK P y) (pN P y) d w (!decide (a3 = 0)) else 0, t) := by
  have hc := hp.2.1
  obtain ⟨h1, h2, h3, h4⟩ := hP.2.2.1 y hy
  have hn := (hp.2.2.2.2 y hy).2.2
  unfold fX11_wellThen
  by_cases hw0 : 0 < w
  · rw [if_pos hw0, if_pos hw0]
    rw [lt_tI, t0] at hw0
    have low : ∀ less g : Int32, less.toInt = - g.toInt → rg g (-9) 0 → fX11_larger t 0 (w - less) = some (clampI (w + g), t) := by
      intro less g e hg
      have e1 : w - less = w + g := by
        rw [eq_tI, tI_sub (by have := hg.1; have := hg.2; omega) (by have := hg.1; have := hg.2; omega), tI_add (by have := hg.1; have := hg.2; omega) (by have := hg.1; have := hg.2; omega)]
        omega
      rw [m_larger, e1, clamp_lo (by rw [tI_add (by have := hg.1; have := hg.2; omega) (by have := hg.1; have := hg.2; omega)]; have := hg.2; omega)]
    have hi : fX11_smaller t 20 (w + 1) = some (clampI (w + 1), t) := by
      have e := tI_add (x := w) (y := 1) (by rw [t1]; omega) (by rw [t1]; omega)
      rw [t1] at e
      rw [m_smaller]
      congr 2
      unfold clampI
      simp only [lt_tI, t0, t20, e]
      by_cases h20 : w.toInt + 1 < 20
      · have a : ¬ 20 < w.toInt + 1 := by omega
        simp [h20, a, e]
        omega
      · by_cases h21 : 20 < w.toInt + 1
        · simp [h20, h21, t20]
        · have a : w + 1 = 20 := by rw [eq_tI, e, t20]; omega
          simp [a, t20]
    simp only [gRd_n (show y < 8 by omega) (show 8 ≤ 1000 by decide), h1, h4, gLet, m_wants hP hc hy, gCl_s]
    have lm1 := low 1 (-1) (by rw [t1, tm1]; rfl) ⟨by rw [tm1]; omega, by rw [tm1]; omega⟩
    unfold nwI gainI
    by_cases hq : a3 = 0
    · simp only [hq, if_true]
      by_cases hk : pK P y = 1
      · simp only [hk, if_true, wantI]
        by_cases hd1 : d < pN P y / 2 + 1
        · simp [hd1, lm1, gCl]
        · simp [hd1, hi, gCl]
      · simp only [hk, if_false]
        by_cases hd1 : d < pN P y
        · have hd2 := hd1
          rw [lt_tI] at hd2
          have s1 := tI_sub (x := pN P y) (y := d) (by have := hn.1; have := hd.2; omega) (by have := hn.2; have := hd.1; omega)
          have s2 := tI_sub (x := d) (y := pN P y) (by have := hn.2; have := hd.1; omega) (by have := hn.1; have := hd.2; omega)
          have l2 := low (pN P y - d) (d - pN P y) (by rw [s1, s2]; omega) ⟨by rw [s2]; have := hn.2; have := hd.1; omega, by rw [s2]; omega⟩
          simp [hd1, l2, gCl]
        · simp [hd1, hi, gCl]
    · simp only [hq, if_false]
      by_cases hk : pK P y = 1
      · simp [hk, lm1, gCl]
      · simp [hk, lm1, gCl]
  · rw [if_neg hw0, if_neg hw0]
