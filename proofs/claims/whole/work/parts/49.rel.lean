/-! ===== how the class and the reference stand alike ===== -/
def vSt (P : Pl) (S : Sd) : Prop := (∀ y : Nat, y < 8 → rg (S y) 0 20) ∧ (∀ y : Nat, pC P ≤ y → y < 8 → S y = 0) ∧ (∃ m : Nat, m < 256 ∧ S 8 = nI m) ∧ (∀ x : Nat, x < 9 → rg (S (9 + x)) 0 40) ∧ (∀ x : Nat, pS P ≤ x → x < 9 → S (9 + x) = 0) ∧ (∀ x : Nat, x < 9 → rg (S (18 + x)) 0 9)
def txOk (g t : Sg) : Prop := ∃ L : Nat, L ≤ 200 ∧ g 1 2 = nI L ∧ t 0 18 = nI L ∧ ∀ i : Nat, i < L → g 2 i = t 11 i ∧ rg (g 2 i) 32 126
def snOk (g t : Sg) : Prop := ∃ n : Nat, n ≤ 6 ∧ g 74 2 = nI n ∧ t 0 23 = nI n ∧ ∀ i : Nat, i < n → g 75 i = t 12 i ∧ g 76 i = t 13 i
def Rl (P : Pl) (h : Int32) (S : Sd) (u : Nat) (U : Nat → Sd) (v : Nat) (V : Nat → Sd) (g t : Sg) : Prop :=
  (pOk P ∧ rg h 1 99 ∧ vSt P S ∧ (∀ j : Nat, j < u → vSt P (U j)) ∧ ∀ j : Nat, j < v → vSt P (V j)) ∧ (cPlan P g ∧ g 4 10 = h) ∧ (mPlan P t ∧ t 0 1 = h) ∧ cSt g 24 S ∧ mSt t 0 S ∧
  ((∃ nx, cRing g 28 8 30 nx u U) ∧ t 0 16 = nI u ∧ mRing t 28 u U) ∧ ((∃ nx, cRing g 62 2 64 nx v V) ∧ t 0 17 = nI v ∧ mRing t 252 v V) ∧ txOk g t ∧ snOk g t ∧ g 148 0 = 0 ∧ g 149 0 = 0
theorem txOk_eq {g g' t t' : Sg} (h1 : g' 1 = g 1) (h2 : g' 2 = g 2) (h3 : t' 0 18 = t 0 18) (h4 : t' 11 = t 11) (h : txOk g t) : txOk g' t' := by
  unfold txOk
  rw [h1, h2, h3, h4]
  exact h
theorem snOk_eq {g g' t t' : Sg} (h1 : g' 74 = g 74) (h2 : g' 75 = g 75) (h5 : g' 76 = g 76) (h3 : t' 0 23 = t 0 23) (h4 : t' 12 = t 12) (h6 : t' 13 = t 13) (h : snOk g t) : snOk g' t' := by
  unfold snOk
  rw [h1, h2, h3, h4, h5, h6]
  exact h
/-- the standing, and what can be undone, put anew; all else stays -/
theorem Rl_mk {P : Pl} {h : Int32} {S S' : Sd} {u u' : Nat} {U U' : Nat → Sd} {v : Nat} {V : Nat → Sd} {g g' t t' : Sg} (R : Rl P h S u U v V g t)
    (fc : ∀ k : Nat, k = 1 ∨ k = 2 ∨ (4 ≤ k ∧ k ≤ 13) ∨ (62 ≤ k ∧ k ≤ 71) ∨ (74 ≤ k ∧ k ≤ 76) → g' k = g k) (z1 : g' 148 0 = 0) (z2 : g' 149 0 = 0) (hc : cSt g' 24 S') (hr : ∃ nx, cRing g' 28 8 30 nx u' U')
    (fm : ∀ k : Nat, (1 ≤ k ∧ k ≤ 5) ∨ (11 ≤ k ∧ k ≤ 13) → t' k = t k) (f0 : ∀ j : Nat, j = 0 ∨ j = 1 ∨ j = 2 ∨ j = 17 ∨ j = 18 ∨ j = 23 → t' 0 j = t 0 j) (f10 : ∀ j : Nat, 252 ≤ j → j < 308 → t' 10 j = t 10 j)
    (hm : mSt t' 0 S') (h16 : t' 0 16 = nI u') (hmr : mRing t' 28 u' U') (vS : vSt P S') (vU : ∀ j : Nat, j < u' → vSt P (U' j)) : Rl P h S' u' U' v V g' t' := by
  obtain ⟨⟨a1, a2, a3, a4, a5⟩, ⟨b1, b2⟩, ⟨c1, c2⟩, d1, d2, ⟨e1, e2, e3⟩, ⟨⟨nx, i1⟩, i2, i3⟩, j1, j2, j3, j4⟩ := R
  have hv2 : v ≤ 2 := i1.2.1
  refine ⟨⟨a1, a2, vS, vU, a5⟩, ⟨cPlan_eq (fun k h1 h2 => fc k (by omega)) b1, by rw [fc 4 (by omega)]; exact b2⟩, ⟨mPlan_eq (fun k h1 h2 => fm k (by omega)) (f0 0 (by omega)) (f0 2 (by omega)) c1, by rw [f0 1 (by omega)]; exact c2⟩, hc, hm, ⟨hr, h16, hmr⟩, ⟨⟨nx, cRing_eq (fun k h1 h2 => fc k (by omega)) (fc 62 (by omega)) (by omega) i1⟩, by rw [f0 17 (by omega)]; exact i2, mRing_eq (fun j h1 h2 => f10 j h1 (by omega)) i3⟩, txOk_eq (fc 1 (by omega)) (fc 2 (by omega)) (f0 18 (by omega)) (fm 11 (by omega)) j1, snOk_eq (fc 74 (by omega)) (fc 75 (by omega)) (fc 76 (by omega)) (f0 23 (by omega)) (fm 12 (by omega)) (fm 13 (by omega)) j2, z1, z2⟩
/-- cells that hold nothing from call to call -/
def scC (k : Nat) : Prop := k = 3 ∨ (14 ≤ k ∧ k ≤ 23) ∨ k = 73 ∨ (78 ≤ k ∧ k ≤ 149)
def fQ (g g' : Sg) : Prop := (∀ k : Nat, ¬ scC k → g' k = g k) ∧ g' 148 0 = g 148 0 ∧ g' 149 0 = g 149 0
def mQ (t t' : Sg) : Prop := (∀ k : Nat, (1 ≤ k ∧ k ≤ 5) ∨ (11 ≤ k ∧ k ≤ 13) → t' k = t k) ∧ (∀ j : Nat, j < 308 → t' 10 j = t 10 j) ∧ ∀ j : Nat, j < 8 ∨ (16 ≤ j ∧ j ≤ 18) ∨ j = 23 → t' 0 j = t 0 j
theorem fQ_rf {g : Sg} : fQ g g := ⟨fun _ _ => rfl, rfl, rfl⟩
theorem mQ_rf {t : Sg} : mQ t t := ⟨fun _ _ => rfl, fun _ _ => rfl, fun _ _ => rfl⟩
theorem fQ_tr {g g1 g2 : Sg} (a : fQ g g1) (b : fQ g1 g2) : fQ g g2 := ⟨fun k h => (b.1 k h).trans (a.1 k h), b.2.1.trans a.2.1, b.2.2.trans a.2.2⟩
theorem mQ_tr {t t1 t2 : Sg} (a : mQ t t1) (b : mQ t1 t2) : mQ t t2 := ⟨fun k h => (b.1 k h).trans (a.1 k h), fun j h => (b.2.1 j h).trans (a.2.1 j h), fun j h => (b.2.2 j h).trans (a.2.2 j h)⟩
theorem fQ_set {g : Sg} {k : Nat} {f : Nat → Int32} (h : scC k) (h2 : k ≠ 148) (h3 : k ≠ 149) : fQ g (setC g k f) := by
  refine ⟨fun j hj => setC_n (fun e => hj (e ▸ h)), ?_, ?_⟩
  · rw [setC_n (by omega)]
  · rw [setC_n (by omega)]
theorem mQ_set {t : Sg} {k : Nat} {f : Nat → Int32} (h : (6 ≤ k ∧ k ≤ 9) ∨ 14 ≤ k) : mQ t (setC t k f) := ⟨fun j hj => setC_n (by omega), fun j _ => by rw [setC_n (by omega)], fun j _ => by rw [setC_n (by omega)]⟩
theorem mQ_10 {t : Sg} {f : Nat → Int32} (h : ∀ j : Nat, j < 308 → f j = t 10 j) : mQ t (setC t 10 f) := ⟨fun j hj => setC_n (by omega), fun j hj => by rw [setC_s]; exact h j hj, fun j _ => by rw [setC_n (by omega)]⟩
theorem Rl_q {P : Pl} {h : Int32} {S : Sd} {u : Nat} {U : Nat → Sd} {v : Nat} {V : Nat → Sd} {g g' t t' : Sg} (R : Rl P h S u U v V g t) (a : fQ g g') (b : mQ t t') : Rl P h S u U v V g' t' := by
  have R' := R
  obtain ⟨⟨a1, a2, a3, a4, a5⟩, ⟨b1, b2⟩, ⟨c1, c2⟩, d1, d2, ⟨⟨nx, e1⟩, e2, e3⟩, i1, j1, j2, j3, j4⟩ := R
  have hu : u ≤ 8 := e1.2.1
  refine Rl_mk R' (fun k hk => a.1 k (by unfold scC; omega)) (by rw [a.2.1]; exact j3) (by rw [a.2.2]; exact j4) (cSt_eq (fun k h1 h2 => a.1 k (by unfold scC; omega)) d1) ⟨nx, cRing_eq (fun k h1 h2 => a.1 k (by unfold scC; omega)) (a.1 28 (by unfold scC; omega)) (by omega) e1⟩ b.1 (fun j hj => b.2.2 j (by omega)) (fun j h1 h2 => b.2.1 j h2) (mSt_eq (fun j h1 h2 => b.2.1 j (by omega)) d2) (by rw [b.2.2 16 (by omega)]; exact e2) (mRing_eq (fun j h1 h2 => b.2.1 j (by omega)) e3) a3 a4
/-- what every call keeps: some state of both -/
def Rx (g t : Sg) : Prop := ∃ (P : Pl) (h : Int32) (S : Sd) (u : Nat) (U : Nat → Sd) (v : Nat) (V : Nat → Sd), Rl P h S u U v V g t
/-- a call that both answer alike -/
def alike (a b : Option (Int32 × Sg)) : Prop := ∃ (r : Int32) (g' t' : Sg), a = some (r, g') ∧ b = some (r, t') ∧ Rx g' t'
theorem alike_q {P : Pl} {h : Int32} {S : Sd} {u : Nat} {U : Nat → Sd} {v : Nat} {V : Nat → Sd} {g g' t t' : Sg} (R : Rl P h S u U v V g t) {r : Int32} {a b : Option (Int32 × Sg)} (ha : a = some (r, g')) (hb : b = some (r, t')) (h1 : fQ g g') (h2 : mQ t t') : alike a b := ⟨r, g', t', ha, hb, P, h, S, u, U, v, V, Rl_q R h1 h2⟩
/-! ===== steps and younger ones: such as there are ===== -/
theorem sub1 {n : Nat} (h : 1 ≤ n) : nI n - 1 = nI (n - 1) := by
  rw [show n = (n - 1) + 1 by omega]
  exact nI_pred _
theorem out_n {j n : Nat} (h : j < n) (hn : n ≤ 1000) : ¬ (nI j < 0 ∨ nI (n - 1) < nI j) := by
  rintro (a | a)
  · exact nI_pos (by omega) a
  · rw [nI_ltN (by omega) (by omega)] at a; omega
theorem out_y {x : Int32} {n : Nat} (hn : 1 ≤ n) (hn2 : n ≤ 1000) (h : x < 0 ∨ nI n ≤ x) : x < 0 ∨ nI (n - 1) < x := by
  rcases h with a | a
  · exact Or.inl a
  · right
    rw [lt_tI, tI_nI (by omega)]
    rw [le_tI, tI_nI (by omega)] at a
    omega
theorem f_noStep {P : Pl} (hp : pOk P) {g : Sg} (hP : cPlan P g) (x : Int32) : (∃ j : Nat, j < pS P ∧ x = nI j ∧ fX10_noStep g x = some (0, g)) ∨ (¬ (∃ j : Nat, j < pS P ∧ x = nI j)) ∧ fX10_noStep g x = some (1, g) := by
  have h9 := hp.2.2.2.1
  have h1 := hp.2.2.1
  unfold fX10_noStep
  rw [hP.2.1, sub1 h1, f_outside, gCl_s, gZ_b]
  rcases ix_c x (n := pS P) (by omega) with a | a | ⟨j, hj, rfl⟩
  · refine Or.inr ⟨fun ⟨j, hj, e⟩ => ?_, by rw [bI_t (Or.inl a)]⟩
    rw [e] at a
    exact nI_pos (by omega) a
  · refine Or.inr ⟨fun ⟨j, hj, e⟩ => ?_, by rw [bI_t (out_y h1 (by omega) (Or.inr a))]⟩
    rw [e, nI_leN (by omega) (by omega)] at a
    omega
  · exact Or.inl ⟨j, hj, rfl, by rw [bI_f (out_n hj (by omega))]⟩
theorem f_noYounger {P : Pl} (hp : pOk P) {g : Sg} (hP : cPlan P g) (x : Int32) : (∃ j : Nat, j < pC P ∧ x = nI j ∧ fX10_noYounger g x = some (0, g)) ∨ (¬ (∃ j : Nat, j < pC P ∧ x = nI j)) ∧ fX10_noYounger g x = some (1, g) := by
  have h9 := hp.2.1
  have h1 := hp.1
  unfold fX10_noYounger
  rw [hP.2.2.1, sub1 h1, f_outside, gCl_s, gZ_b]
  rcases ix_c x (n := pC P) (by omega) with a | a | ⟨j, hj, rfl⟩
  · refine Or.inr ⟨fun ⟨j, hj, e⟩ => ?_, by rw [bI_t (Or.inl a)]⟩
    rw [e] at a
    exact nI_pos (by omega) a
  · refine Or.inr ⟨fun ⟨j, hj, e⟩ => ?_, by rw [bI_t (out_y h1 (by omega) (Or.inr a))]⟩
    rw [e, nI_leN (by omega) (by omega)] at a
    omega
  · exact Or.inl ⟨j, hj, rfl, by rw [bI_f (out_n hj (by omega))]⟩
theorem m_rangeI {t : Sg} {n : Nat} (h1 : 1 ≤ n) (hn : n ≤ 1000) (x : Int32) : fX11_in t x.toInt64 (0 : Int64) ((nI n - 1).toInt64) = some (bI (0 ≤ x ∧ x ≤ nI (n - 1)), t) := by
  rw [show (0 : Int64) = (0 : Int32).toInt64 from rfl, sub1 h1, m_inI]
theorem m_isStep {P : Pl} (hp : pOk P) {t : Sg} (hP : mPlan P t) (x : Int32) : ((∃ j : Nat, j < pS P ∧ x = nI j) → fX11_isStep t x = some (1, t)) ∧ (¬ (∃ j : Nat, j < pS P ∧ x = nI j) → fX11_isStep t x = some (0, t)) := by
  have h9 := hp.2.2.2.1
  have h1 := hp.2.2.1
  unfold fX11_isStep
  rw [hP.1, m_rangeI h1 (by omega), gCl_s, gZ_b]
  refine ⟨fun ⟨j, hj, e⟩ => ?_, fun h => ?_⟩
  · rw [e, bI_t ⟨nI_pos' (by omega), by rw [nI_leN (by omega) (by omega)]; omega⟩]
  · rw [bI_f]
    rintro ⟨a, b⟩
    refine h ?_
    rcases ix_c x (n := pS P) (by omega) with c | c | c
    · rw [lt_tI] at c; rw [le_tI] at a; omega
    · rw [le_tI, tI_nI (by omega)] at b c; omega
    · exact c
theorem m_isOne {P : Pl} (hp : pOk P) {t : Sg} (hP : mPlan P t) (x : Int32) : ((∃ j : Nat, j < pC P ∧ x = nI j) → fX11_isOne t x = some (1, t)) ∧ (¬ (∃ j : Nat, j < pC P ∧ x = nI j) → fX11_isOne t x = some (0, t)) := by
  have h9 := hp.2.1
  have h1 := hp.1
  unfold fX11_isOne
  rw [hP.2.1, m_rangeI h1 (by omega), gCl_s, gZ_b]
  refine ⟨fun ⟨j, hj, e⟩ => ?_, fun h => ?_⟩
  · rw [e, bI_t ⟨nI_pos' (by omega), by rw [nI_leN (by omega) (by omega)]; omega⟩]
  · rw [bI_f]
    rintro ⟨a, b⟩
    refine h ?_
    rcases ix_c x (n := pC P) (by omega) with c | c | c
    · rw [lt_tI] at c; rw [le_tI] at a; omega
    · rw [le_tI, tI_nI (by omega)] at b c; omega
    · exact c
/-- a range of numbers, both ways of asking -/
theorem rng {x lo hi : Int32} : (lo ≤ x ∧ x ≤ hi) ↔ ¬ (x < lo ∨ hi < x) := by
  simp only [le_tI, lt_tI]
  omega
theorem m_rng (t : Sg) (x lo hi : Int32) : fX11_in t x.toInt64 lo.toInt64 hi.toInt64 = some (bI (¬ (x < lo ∨ hi < x)), t) := by
  rw [m_inI]
  congr 2
  unfold bI
  simp only [rng]
/-- asked alike: the class's 'outside' and the reference's 'in' -/
theorem rng_c (g t : Sg) (x lo hi : Int32) : (fX10_outside g x lo hi = some (0, g) ∧ fX11_in t x.toInt64 lo.toInt64 hi.toInt64 = some (1, t) ∧ ¬ (x < lo ∨ hi < x)) ∨ (fX10_outside g x lo hi = some (1, g) ∧ fX11_in t x.toInt64 lo.toInt64 hi.toInt64 = some (0, t)) := by
  rw [f_outside, m_rng]
  by_cases h : x < lo ∨ hi < x
  · exact Or.inr ⟨by rw [bI_t h], by rw [bI_f (fun z => z h)]⟩
  · exact Or.inl ⟨by rw [bI_f h], by rw [bI_t h], h⟩
