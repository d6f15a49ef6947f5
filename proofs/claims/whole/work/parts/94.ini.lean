/-! ===== how both stand at first ===== -/
def sT0 : Nat → Nat := fun i => sTx.getD i 0
/-- what the text at first tells -/
def QI : Ql := fun a b => (([[5, 9, 6], [0, 1, 2, 0, 3, 0], [0, 0, 2, 2, 3, 4], [9, 15, 7, 4, 11, 20], [2, 4, 3, 1, 2, 5], [8, 6, 5, 9, 7, 10, 0, 0], [5, 0, 6, 2, 3, 0, 0, 0, 0], [0, 0, 2, 1, 0, 0, 0, 0, 0]] : List (List Nat)).getD a []).getD b 0
abbrev agQ (Q : Ql) : Prop := (∀ b, b < 3 → Q 0 b = QI 0 b) ∧ (∀ a, a < 4 → ∀ y, y < 6 → Q (a + 1) y = QI (a + 1) y) ∧ (∀ y, y < 8 → Q 5 y = QI 5 y) ∧ ∀ x, x < 9 → Q 6 x = QI 6 x ∧ Q 7 x = QI 7 x
def chkI : Bool := match prs sT0 106 107 Q0 0 with
  | some (.inr Q) => decide (agQ Q)
  | _ => false
theorem chkI_ok : chkI = true := by decide +kernel
theorem prs_I : ∃ Q, prs sT0 106 107 Q0 0 = some (.inr Q) ∧ agQ Q := by
  have h := chkI_ok
  unfold chkI at h
  cases hp : prs sT0 106 107 Q0 0 with
  | none => rw [hp] at h; exact absurd h (by decide)
  | some u =>
    cases u with
    | inl e => rw [hp] at h; exact absurd (show false = true from h) (by decide)
    | inr Q =>
      rw [hp] at h
      exact ⟨Q, rfl, of_decide_eq_true h⟩
theorem mPI_ag {Q Q' : Ql} {t : Sg} (h : agQ Q) (h' : agQ Q') (hI : mPI Q t) : mPI Q' t := by
  obtain ⟨b1, b2, b3, b4, b5, b6, b7, b8⟩ := hI
  have e0 : ∀ b, b < 3 → Q' 0 b = Q 0 b := fun b hb => (h'.1 b hb).trans (h.1 b hb).symm
  have e6 : Q 0 2 = 6 := h.1 2 (by decide)
  have ea : ∀ a y, a < 4 → y < 6 → Q' (a + 1) y = Q (a + 1) y := fun a y h1 h2 => (h'.2.1 a h1 y h2).trans (h.2.1 a h1 y h2).symm
  refine ⟨by rw [e0 0 (by decide)]; exact b1, by rw [e0 1 (by decide)]; exact b2, by rw [e0 2 (by decide)]; exact b3, fun y hy => ?_, fun y hy => by rw [(h'.2.2.1 y hy).trans (h.2.2.1 y hy).symm]; exact b5 y hy, b6, fun x hx => ?_, b8⟩
  · rw [e0 2 (by decide)] at hy
    rw [ea 0 y (by decide) (by omega), ea 1 y (by decide) (by omega), ea 2 y (by decide) (by omega), ea 3 y (by decide) (by omega)]
    exact b4 y hy
  · rw [(h'.2.2.2 x hx).1.trans (h.2.2.2 x hx).1.symm, (h'.2.2.2 x hx).2.trans (h.2.2.2 x hx).2.symm]
    exact b7 x hx
/-- the reader with the first letters of the text -/
def addS (i : Nat) : Sg := setC (setC z0 1 (upd (z0 1) 2 (nI i))) 2 (fun j => if j < i then nI (sTx.getD j 0) else 0)
theorem addS_0 : addS 0 = z0 := by
  funext k j
  unfold addS setC
  by_cases h2 : k = 2
  · rw [if_pos h2, if_neg (by omega)]; rfl
  · rw [if_neg h2]
    by_cases h1 : k = 1
    · rw [if_pos h1]
      by_cases hj : j = 2
      · rw [hj, upd_s]; rfl
      · rw [upd_n hj]; rfl
    · rw [if_neg h1]
theorem f_addS {i : Nat} (hi : i < 106) : fX4_add (addS i) (nI (sTx.getD i 0)) = some (addS (i + 1)) := by
  have e1 : addS i 1 2 = nI i := by
    unfold addS
    rw [setC_n (by decide), setC_s, upd_s]
  unfold fX4_add
  rw [e1, if_neg (by rw [show (200 : Int32) = nI 200 from rfl, nI_leN (by omega) (by omega)]; omega), gLet_s, gUp_c, nI_1, gWr_n (by omega) (by decide)]
  congr 1
  funext k j
  rw [setC_n (show 2 ≠ 1 by decide)]
  by_cases h2 : k = 2
  · subst h2
    rw [setC_s]
    unfold addS
    rw [setC_s, setC_s]
    unfold upd
    by_cases hj : j = i
    · rw [if_pos hj, hj, if_pos (by omega)]
    · rw [if_neg hj]
      show (if j < i then nI (sTx.getD j 0) else (0 : Int32)) = _
      by_cases hj2 : j < i
      · rw [if_pos hj2, if_pos (by omega)]
      · rw [if_neg hj2, if_neg (by omega)]
  · rw [setC_n h2]
    by_cases h1 : k = 1
    · subst h1
      rw [setC_s]
      unfold addS
      rw [setC_n (by decide), setC_s, setC_n (by decide), setC_s]
      unfold upd
      by_cases hj : j = 2
      · rw [if_pos hj, if_pos hj]
      · rw [if_neg hj, if_neg hj, if_neg hj]
    · rw [setC_n h1]
      unfold addS
      rw [setC_n h2, setC_n h1, setC_n h2, setC_n h1]
/-- how the class stands at first -/
def iniC (g : Sg) : Prop := ∃ (Q : Ql) (g2 : Sg), agQ Q ∧ qOk Q ∧ plJ 4 189 Q g2 ∧ (∀ k, ¬ (24 ≤ k ∧ k ≤ 27) → k ≠ 28 → k ≠ 62 → k ≠ 74 → g k = g2 k) ∧ (∀ j, j ≠ 2 → g 28 j = g2 28 j ∧ g 62 j = g2 62 j) ∧ g 28 2 = 0 ∧ g 62 2 = 0 ∧ g 74 2 = 0 ∧ cSt g 24 (S0 Q) ∧ g2 28 1 = 0 ∧ g2 62 1 = 0 ∧ g 1 2 = 0 ∧ g 148 0 = 0 ∧ g 149 0 = 0
theorem plJ_1 {N : Nat} {Q : Ql} {g1 : Sg} {f : Nat → Int32} (h : plJ 4 N Q g1) : plJ 4 N Q (setC g1 1 f) := by
  obtain ⟨a1, a2, a3, a4, a5, a6, a7⟩ := h
  exact ⟨by rw [setC_n (by decide)]; exact a1, by rw [setC_n (by decide)]; exact a2, by rw [setC_n (by decide)]; exact a3, fun i h1 h2 y hy => by rw [setC_n (by omega)]; exact a4 i h1 h2 y hy, fun x hx => by rw [setC_n (by omega), setC_n (by omega)]; exact a5 x hx, by rw [setC_n (by decide)]; exact a6, fun x hx => by rw [setC_n (by decide)]; exact a7 x hx⟩
theorem ini_C : ∃ (r : Int32) (g1 g2 g3 : Sg), fX4_readInto (addS 106) 4 = some (r, g1) ∧ fX4_clear g1 = some g2 ∧ fX10_start g2 = some g3 ∧ iniC g3 := by
  have ht : txt (addS 106) sT0 106 := by
    refine ⟨by decide, ?_, fun i hi => ⟨?_, (sTx_b i hi).2⟩⟩
    · unfold addS
      rw [setC_n (by decide), setC_s, upd_s]
    · unfold addS
      rw [setC_s, if_pos hi]
      rfl
  have z : ∀ k, k ≠ 1 → k ≠ 2 → addS 106 k = z0 k := fun k h1 h2 => by
    unfold addS
    rw [setC_n h2, setC_n h1]
  obtain ⟨QA, hA, hag⟩ := prs_I
  rcases f_readInto (p0 := 4) rfl (by omega) ht with ⟨e', c0, c1, g', c2, c3⟩ | ⟨Q, g1, c1, c2, c3, c4, c5⟩
  · rw [hA] at c1
    exact absurd c1 (by simp)
  · rw [hA] at c1
    simp only [Option.some.injEq, Sum.inr.injEq] at c1
    subst c1
    have hJ : plJ 4 189 QA (setC g1 1 (upd (g1 1) 2 0)) := plJ_1 c4
    obtain ⟨g3, d1, d2, d3, d4, d5, d6, d7⟩ := f_start c2 hJ
    refine ⟨_, g1, setC g1 1 (upd (g1 1) 2 0), g3, c3, ?_, d1, QA, _, hag, c2, hJ, d2, d3, d4, d5, d6, d7, ?_, ?_, ?_, ?_, ?_⟩
    · unfold fX4_clear
      rw [gLet_s, gUp_c]
    · rw [setC_n (by decide), c5 28 (by decide) (by omega), z 28 (by decide) (by decide)]; rfl
    · rw [setC_n (by decide), c5 62 (by decide) (by omega), z 62 (by decide) (by decide)]; rfl
    · rw [d2 1 (by omega) (by decide) (by decide) (by decide), setC_s, upd_s]
    · rw [d2 148 (by omega) (by decide) (by decide) (by decide), setC_n (by decide), c5 148 (by decide) (by omega), z 148 (by decide) (by decide)]; rfl
    · rw [d2 149 (by omega) (by decide) (by decide) (by decide), setC_n (by decide), c5 149 (by decide) (by omega), z 149 (by decide) (by decide)]; rfl
/-- how the reference stands at first -/
def iniM (t : Sg) : Prop := ∃ t2 : Sg, mPI QI t2 ∧ fX11_settles t2 = some t ∧ t2 0 16 = 0 ∧ t2 0 17 = 0 ∧ t2 0 18 = 0 ∧ t2 0 23 = 0
theorem agQ_I : agQ QI := ⟨fun _ _ => rfl, fun _ _ _ _ => rfl, fun _ _ => rfl, fun _ _ => ⟨rfl, rfl⟩⟩
theorem ini_both {g t : Sg} (hg : iniC g) (ht : iniM t) : Rx g t := by
  obtain ⟨Q, g2, a1, a2, a3, a4, a5, a6, a7, a8, a9, a10, a11, a12, a13, a14⟩ := hg
  obtain ⟨t2, b1, b2, b3, b4, b5, b6⟩ := ht
  have h6 : Q 0 2 = 6 := a1.1 2 (by decide)
  obtain ⟨t3, f1, f2, f3, f4, f5, f6⟩ := m_settles rfl a2 (by omega) (mPI_ag agQ_I a1 b1)
  have e : t = t3 := Option.some.inj (b2.symm.trans f1)
  subst e
  exact ⟨_, _, _, _, _, _, _, laid_both (t := t) (ny := 0) (nx := 0) a2 (by omega) a3 a4 a5 a6 a7 a8 a9 a10 (by decide) a11 (by decide) f2 f3 f4 (by rw [f6 16 (by decide)]; exact b3) (by rw [f6 17 (by decide)]; exact b4) (by rw [f6 23 (by decide)]; exact b6) ⟨0, by decide, a12, by rw [f6 18 (by decide)]; exact b5, fun i hi => absurd hi (by omega)⟩ a13 a14⟩
/-! the reference's cells put one by one -/
theorem mPI_k {Q : Ql} {t : Sg} {x v : Nat} (hx : x < 9) (hI : mPI Q t) : mPI (setQ Q 7 x v) (setC t 10 (upd (t 10) (326 + x) (nI v))) := by
  obtain ⟨b1, b2, b3, b4, b5, b6, b7, b8⟩ := hI
  refine ⟨by rw [setC_n (by decide), setQ_n (by omega)]; exact b1, by rw [setC_n (by decide), setQ_n (by omega)]; exact b2, by rw [setC_n (by decide), setQ_n (by omega)]; exact b3, fun y hy => ?_, fun y hy => ?_, by rw [setC_s, upd_n (by omega)]; exact b6, fun z hz => ?_, by rw [setC_s, upd_n (by omega)]; exact b8⟩
  · rw [setQ_n (by omega)] at hy
    rw [setC_n (by decide), setC_n (by decide), setC_n (by decide), setC_n (by decide), setQ_n (by omega), setQ_n (by omega), setQ_n (by omega), setQ_n (by omega)]
    exact b4 y hy
  · rw [setC_s, upd_n (by omega), setQ_n (by omega)]
    exact b5 y hy
  · rw [setC_s, upd_n (show 317 + z ≠ 326 + x by omega), setQ_n (show 6 ≠ 7 ∨ z ≠ x by omega)]
    refine ⟨(b7 z hz).1, ?_⟩
    by_cases e : z = x
    · rw [e, upd_s, setQ_s]
    · rw [upd_n (by omega), setQ_n (by omega)]
      exact (b7 z hz).2
theorem mPI_c {Q : Ql} {t : Sg} {x v : Nat} (hx : x < 9) (hI : mPI Q t) : mPI (setQ Q 6 x v) (setC t 10 (upd (t 10) (317 + x) (nI v))) := by
  obtain ⟨b1, b2, b3, b4, b5, b6, b7, b8⟩ := hI
  refine ⟨by rw [setC_n (by decide), setQ_n (by omega)]; exact b1, by rw [setC_n (by decide), setQ_n (by omega)]; exact b2, by rw [setC_n (by decide), setQ_n (by omega)]; exact b3, fun y hy => ?_, fun y hy => ?_, by rw [setC_s, upd_n (by omega)]; exact b6, fun z hz => ?_, by rw [setC_s, upd_n (by omega)]; exact b8⟩
  · rw [setQ_n (by omega)] at hy
    rw [setC_n (by decide), setC_n (by decide), setC_n (by decide), setC_n (by decide), setQ_n (by omega), setQ_n (by omega), setQ_n (by omega), setQ_n (by omega)]
    exact b4 y hy
  · rw [setC_s, upd_n (by omega), setQ_n (by omega)]
    exact b5 y hy
  · rw [setC_s, upd_n (show 326 + z ≠ 317 + x by omega), setQ_n (show 7 ≠ 6 ∨ z ≠ x by omega)]
    refine ⟨?_, (b7 z hz).2⟩
    by_cases e : z = x
    · rw [e, upd_s, setQ_s]
    · rw [upd_n (by omega), setQ_n (by omega)]
      exact (b7 z hz).1
theorem mPI_h {Q : Ql} {t : Sg} {v : Nat} (hI : mPI Q t) : mPI (setQ Q 0 1 v) (setC t 0 (upd (t 0) 9 (nI v))) := by
  obtain ⟨b1, b2, b3, b4, b5, b6, b7, b8⟩ := hI
  refine ⟨by rw [setC_s, upd_n (by decide), setQ_n (by omega)]; exact b1, by rw [setC_s, upd_s, setQ_s], by rw [setC_s, upd_n (by decide), setQ_n (by omega)]; exact b3, fun y hy => ?_, fun y hy => ?_, by rw [setC_n (by decide)]; exact b6, fun z hz => ?_, by rw [setC_n (by decide)]; exact b8⟩
  · rw [setQ_n (by omega)] at hy
    rw [setC_n (by decide), setC_n (by decide), setC_n (by decide), setC_n (by decide), setQ_n (by omega), setQ_n (by omega), setQ_n (by omega), setQ_n (by omega)]
    exact b4 y hy
  · rw [setC_n (by decide), setQ_n (by omega)]
    exact b5 y hy
  · rw [setC_n (by decide), setQ_n (by omega), setQ_n (by omega)]
    exact b7 z hz
def lF (l : List Nat) : Nat → Nat := fun i => l.getD i 0
/-- the reference's own first street -/
def p10 (t : Sg) (j v : Nat) : Sg := setC t 10 (upd (t 10) j (nI v))
def stQ (t : Sg) : Sg := p10 (p10 (p10 (p10 (p10 (p10 t 328 2) 329 1) 317 5) 319 6) 320 2) 321 3
def stH (t : Sg) : Sg := setC (stQ t) 0 (upd (stQ t 0) 9 (nI 9))
theorem p10_0 {t : Sg} {j v : Nat} : p10 t j v 0 = t 0 := setC_n (by decide)
theorem qOk_I : qOk QI := by
  refine ⟨by decide, by decide, by decide, by decide, by decide, by decide, fun h => absurd h (by decide), fun y hy => ?_, fun y h1 h2 => ?_, fun x hx => ?_⟩
  · have hy : y < 6 := hy
    have key : ∀ y, y < 6 → QI 1 y ≤ 3 ∧ QI 2 y < QI 0 0 ∧ QI 3 y ≤ 20 ∧ 1 ≤ QI 4 y ∧ QI 4 y ≤ 9 ∧ 1 ≤ QI 5 y ∧ QI 5 y ≤ 20 := by decide
    exact key y hy
  · have h1 : 6 ≤ y := h1
    rcases (show y = 6 ∨ y = 7 by omega) with h | h
    · rw [h]; rfl
    · rw [h]; rfl
  · have key : ∀ x, x < 9 → QI 6 x ≤ 40 ∧ QI 7 x ≤ 9 ∧ (QI 0 0 ≤ x → QI 6 x = 0) := by decide
    exact key x hx
theorem ini_M : ∃ t1 t2 t3 t4 t5 t6 t7 t8 : Sg, fX11_clears z0 = some t1 ∧ fX11_comes t1 (nI 0) (nI 0) (nI 9) (nI 2) (nI 8) = some t2 ∧ fX11_comes t2 (nI 1) (nI 0) (nI 15) (nI 4) (nI 6) = some t3 ∧ fX11_comes t3 (nI 2) (nI 2) (nI 7) (nI 3) (nI 5) = some t4 ∧ fX11_comes t4 (nI 0) (nI 2) (nI 4) (nI 1) (nI 9) = some t5 ∧ fX11_comes t5 (nI 3) (nI 3) (nI 11) (nI 2) (nI 7) = some t6 ∧ fX11_comes t6 (nI 0) (nI 4) (nI 20) (nI 5) (nI 10) = some t7 ∧ fX11_settles (stH t7) = some t8 ∧ iniM t8 := by
  have ht : mtx z0 (fun _ => 0) 0 := ⟨by decide, rfl, fun i hi => absurd hi (by omega)⟩
  obtain ⟨t1, e1, r1, I1, -⟩ := m_clears ht
  obtain ⟨t2, e2, r2, I2, -, -⟩ := m_comes (Q := Q0) (t := t1) (F := lF [0, 0, 9, 2, 8]) (v1 := 0) (v2 := 0) (v3 := 9) (v4 := 2) (v5 := 8) (by decide) I1 rfl rfl rfl rfl rfl
  obtain ⟨t3, e3, r3, I3, -, -⟩ := m_comes (Q := (addY Q0 (lF [0, 0, 9, 2, 8]))) (t := t2) (F := lF [1, 0, 15, 4, 6]) (v1 := 1) (v2 := 0) (v3 := 15) (v4 := 4) (v5 := 6) (by decide) I2 rfl rfl rfl rfl rfl
  obtain ⟨t4, e4, r4, I4, -, -⟩ := m_comes (Q := (addY (addY Q0 (lF [0, 0, 9, 2, 8])) (lF [1, 0, 15, 4, 6]))) (t := t3) (F := lF [2, 2, 7, 3, 5]) (v1 := 2) (v2 := 2) (v3 := 7) (v4 := 3) (v5 := 5) (by decide) I3 rfl rfl rfl rfl rfl
  obtain ⟨t5, e5, r5, I5, -, -⟩ := m_comes (Q := (addY (addY (addY Q0 (lF [0, 0, 9, 2, 8])) (lF [1, 0, 15, 4, 6])) (lF [2, 2, 7, 3, 5]))) (t := t4) (F := lF [0, 2, 4, 1, 9]) (v1 := 0) (v2 := 2) (v3 := 4) (v4 := 1) (v5 := 9) (by decide) I4 rfl rfl rfl rfl rfl
  obtain ⟨t6, e6, r6, I6, -, -⟩ := m_comes (Q := (addY (addY (addY (addY Q0 (lF [0, 0, 9, 2, 8])) (lF [1, 0, 15, 4, 6])) (lF [2, 2, 7, 3, 5])) (lF [0, 2, 4, 1, 9]))) (t := t5) (F := lF [3, 3, 11, 2, 7]) (v1 := 3) (v2 := 3) (v3 := 11) (v4 := 2) (v5 := 7) (by decide) I5 rfl rfl rfl rfl rfl
  obtain ⟨t7, e7, r7, I7, -, -⟩ := m_comes (Q := (addY (addY (addY (addY (addY Q0 (lF [0, 0, 9, 2, 8])) (lF [1, 0, 15, 4, 6])) (lF [2, 2, 7, 3, 5])) (lF [0, 2, 4, 1, 9])) (lF [3, 3, 11, 2, 7]))) (t := t6) (F := lF [0, 4, 20, 5, 10]) (v1 := 0) (v2 := 4) (v3 := 20) (v4 := 5) (v5 := 10) (by decide) I6 rfl rfl rfl rfl rfl
  have fr := (frM_tr r1 (frM_tr r2 (frM_tr r3 (frM_tr r4 (frM_tr r5 (frM_tr r6 r7))))))
  have J : mPI (setQ (setQ (setQ (setQ (setQ (setQ (setQ (addY (addY (addY (addY (addY (addY Q0 (lF [0, 0, 9, 2, 8])) (lF [1, 0, 15, 4, 6])) (lF [2, 2, 7, 3, 5])) (lF [0, 2, 4, 1, 9])) (lF [3, 3, 11, 2, 7])) (lF [0, 4, 20, 5, 10])) 7 2 2) 7 3 1) 6 0 5) 6 2 6) 6 3 2) 6 4 3) 0 1 9) (stH t7) := mPI_h (mPI_c (x := 4) (by decide) (mPI_c (x := 3) (by decide) (mPI_c (x := 2) (by decide) (mPI_c (x := 0) (by decide) (mPI_k (x := 3) (by decide) (mPI_k (x := 2) (by decide) I7))))))
  have ag : agQ (setQ (setQ (setQ (setQ (setQ (setQ (setQ (addY (addY (addY (addY (addY (addY Q0 (lF [0, 0, 9, 2, 8])) (lF [1, 0, 15, 4, 6])) (lF [2, 2, 7, 3, 5])) (lF [0, 2, 4, 1, 9])) (lF [3, 3, 11, 2, 7])) (lF [0, 4, 20, 5, 10])) 7 2 2) 7 3 1) 6 0 5) 6 2 6) 6 3 2) 6 4 3) 0 1 9) := by decide +kernel
  have J2 := mPI_ag ag agQ_I J
  obtain ⟨t8, f1, -⟩ := m_settles rfl qOk_I (by decide) J2
  have z : ∀ j, (16 ≤ j ∧ j ≤ 19) ∨ j = 23 → stH t7 0 j = 0 := fun j hj => by
    unfold stH
    rw [setC_s, upd_n (by omega)]
    unfold stQ
    rw [p10_0, p10_0, p10_0, p10_0, p10_0, p10_0, fr.2.2 j (by omega)]
    rfl
  exact ⟨t1, t2, t3, t4, t5, t6, t7, t8, e1, e2, e3, e4, e5, e6, e7, f1, stH t7, J2, f1, z 16 (by omega), z 17 (by omega), z 18 (by omega), z 23 (by omega)⟩
