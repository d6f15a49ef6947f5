/-! ===== snows, by the reference ===== -/
theorem sn_b {b : Bool} {f : Nat → Int32} {N : Nat} (h : ∀ x, x < N → rg (f x) 0 40) : ∀ x, x < N → rg (snD (bI (b = true)) f x) 0 40 := by
  intro x hx
  unfold snD
  split
  · exact h x hx
  · exact ⟨by decide, by decide⟩
theorem m_snDay {P : Pl} (hp : pOk P) {x c n0 k : Nat} (hx : x < 9) (hc10 : c ≤ 10) (hn0 : n0 ≤ 8) {S : Sd} (K : Int32 → Int32 → Sg → Option (Int32 × Sg)) : ∀ (d i n : Nat) (t : Sg) (S' : Sd) (a : Int32), i + d = n0 → d < n → mPlan P t → mSt t 308 S' → vSt P S' → relX P x (pth P x c S (fun m => bit (nI k) m) i).1 S' → rg a 0 (360 * i) →
    ∃ t' a' S'', fX11_snows_79 (nI n0) (nI c) (nI k) n (nI (pth P x c S (fun m => bit (nI k) m) i).2) a (nI i) t K = K (nI (pth P x c S (fun m => bit (nI k) m) n0).2) a' t' ∧ mT t t' ∧ mSt t' 308 S'' ∧ relX P x (pth P x c S (fun m => bit (nI k) m) n0).1 S'' ∧ rg a' 0 (360 * n0) := by
  have h9 := hp.2.2.2.1
  intro d
  induction d with
  | zero =>
    intro i n t S' a hi hn hP hm vS hr ha
    match n, hn with
    | n + 1, _ =>
      have e0 : i = n0 := by omega
      subst e0
      rw [fX11_snows_79, if_pos ((nI_leN (by omega) (by omega)).mpr (by omega))]
      exact ⟨t, a, S', rfl, mT_rf, hm, hr, ha⟩
  | succ d ih =>
    intro i n t S' a hi hn hP hm vS hr ha
    match n, hn with
    | n + 1, hn =>
      obtain ⟨t1, e1, e2, e3, e4⟩ := m_day hp hP (b := 308) (by omega) hm vS (bI (bit (nI k) i = true))
      have hl := lftD_b hp vS (D := snD (bI (bit (nI k) i = true)) (fun x => S' (9 + x))) (sn_b (fun x hx => vS.2.2.2.1 x (by omega)))
      have a1 : mT t t1 := ⟨e3, fun j hj => e4 j (by omega)⟩
      have hr1 := relX_stepN hp hx (bit (nI k) i) hr
      obtain ⟨t2, a2, S2, k1, k2, k3, k4, k5⟩ := ih (i + 1) n t1 (dayD P (snD (bI (bit (nI k) i = true)) (fun x => S' (9 + x))) S') (a + lftD P (snD (bI (bit (nI k) i = true)) (fun x => S' (9 + x))) S') (by omega) (by omega) (mT_plan a1 hP) e2 (vSt_day vS) hr1 (by
        obtain ⟨a1, a2⟩ := ha
        obtain ⟨b1, b2⟩ := hl
        unfold rg
        rw [tI_add (by omega) (by omega)]
        omega)
      rw [fX11_snows_79, if_neg (by rw [nI_leN (by omega) (by omega)]; omega), m_has, gCl_s]
      simp only [gLet]
      have fin : ∀ z : Int32, z = nI (if bit (nI k) i = true then c else 10 - c) → ∃ t' a' S'', gCl (fX11_has t (nI k) (nI i)) (fun r40 g39 => gCl (fX11_goesOn g39 (308 : Int32) r40) (fun r43 g42 => fX11_snows_79 (nI n0) (nI c) (nI k) n (nI (pth P x c S (fun m => bit (nI k) m) i).2 * z) (a + r43) (nI i + 1) g42 K)) = K (nI (pth P x c S (fun m => bit (nI k) m) n0).2) a' t' ∧ mT t t' ∧ mSt t' 308 S'' ∧ relX P x (pth P x c S (fun m => bit (nI k) m) n0).1 S'' ∧ rg a' 0 (360 * n0) := by
        intro z hz
        rw [m_has, gCl_s, show (308 : Int32) = nI 308 from rfl, e1, gCl_s, hz, pk_mul, nI_1]
        exact ⟨t2, a2, S2, k1, mT_tr a1 k2, k3, k4, k5⟩
      by_cases hb : bit (nI k) i = true
      · rw [bI_t hb, if_neg one_ne]
        exact fin _ (by rw [if_pos hb])
      · rw [bI_f hb, if_pos rfl]
        exact fin _ (by rw [if_neg hb, show (10 : Int32) = nI 10 from rfl, pk_sub hc10])
theorem m_snLp {P : Pl} (hp : pOk P) {y c n0 : Nat} (hy : y < pC P) (hc10 : c ≤ 10) (hn0 : n0 ≤ 8) {S : Sd} (vS : vSt P S) (K : Int32 → Int32 → Sg → Option (Int32 × Sg)) : ∀ (d k n : Nat) (t : Sg), k + d = 2 ^ n0 → d < n → mPlan P t → mSt t 0 S →
    ∃ t', fX11_snows_54 (nI y) (nI n0) (nI c) n (nI (sumK (fun k => valB P (pA P y) c y S (br n0 k)) k)) (nI (sumK (fun k => wtB c (br n0 k)) k)) (nI k) t K = K (nI (sumK (fun k => valB P (pA P y) c y S (br n0 k)) (2 ^ n0))) (nI (sumK (fun k => wtB c (br n0 k)) (2 ^ n0))) t' ∧ mT t t' := by
  have h8 := hp.2.1
  have h9 := hp.2.2.2.1
  have hA := (hp.2.2.2.2 y hy).1
  have h256 := pow_256 n0 (by omega)
  intro d
  induction d with
  | zero =>
    intro k n t hk hn hP hm
    match n, hn with
    | n + 1, _ =>
      rw [fX11_snows_54, shl_n n0 (by omega), if_pos ((nI_leN (by omega) (by omega)).mpr (by omega)), ← hk]
      exact ⟨t, rfl, mT_rf⟩
  | succ d ih =>
    intro k n t hk hn hP hm
    match n, hn with
    | n + 1, hn =>
      obtain ⟨t1, e1, e2, e3⟩ := m_then hm
      rw [fX11_snows_54, shl_n n0 (by omega), if_neg (by rw [nI_leN (by omega) (by omega)]; omega), e1, gCv_s]
      have lp := fun K => m_snDay hp (x := pA P y) (by omega) hc10 hn0 (k := k) (S := S) K n0 0 gN t1 S 0 (by omega) (by unfold gN; omega) (mT_plan e2 hP) e3 vS relX_rf ⟨by decide, by decide⟩
      obtain ⟨t2, a2, S2, k1, k2, k3, k4, k5⟩ := lp _
      rw [show nI (pth P (pA P y) c S (fun m => bit (nI k) m) 0).2 = (1 : Int32) from rfl, show nI 0 = (0 : Int32) from rfl] at k1
      rw [k1]
      simp only [gLet]
      rw [if_neg (by rw [lt_tI, t0]; have := k5.1; omega), show (308 : Int32) = nI 308 from rfl, nI_add, gRd_n (by omega) (by decide), k3 y (by omega), ← k4.1 y ((tl_mem hp).mpr ⟨hy, rfl⟩)]
      have nxt := ih (k + 1) n t2 (by omega) (by omega) (mT_plan (mT_tr e2 k2) hP) (mSt_eq (fun j h1 h2 => (mT_tr e2 k2).2 j (by omega)) hm)
      obtain ⟨t3, c1, c2⟩ := nxt
      rw [show sumK (fun k => valB P (pA P y) c y S (br n0 k)) (k + 1) = sumK (fun k => valB P (pA P y) c y S (br n0 k)) k + valB P (pA P y) c y S (br n0 k) from rfl, show sumK (fun k => wtB c (br n0 k)) (k + 1) = sumK (fun k => wtB c (br n0 k)) k + wtB c (br n0 k) from rfl] at c1
      have vs := val_br (P := P) (x := pA P y) (c := c) (y := y) (n := n0) (k := k) (S := S)
      have vw : (pth P (pA P y) c S (fun m => bit (nI k) m) n0).2 = wtB c (br n0 k) := by
        rw [pth_fold, fold_wt, Nat.one_mul]; rfl
      by_cases z : (pth P (pA P y) c S (fun m => bit (nI k) m) n0).1 y ≤ 0
      · rw [if_pos z] at vs ⊢
        rw [← vs] at c1
        rw [show (0 : Int32) = nI 0 from rfl, nI_add, nI_1, vw, nI_add]
        exact ⟨t3, c1, mT_tr (mT_tr e2 k2) c2⟩
      · rw [if_neg z] at vs ⊢
        rw [← vs, vw] at c1
        rw [vw, nI_add, nI_1, nI_add]
        exact ⟨t3, c1, mT_tr (mT_tr e2 k2) c2⟩
theorem al_snows {P : Pl} {h : Int32} {S : Sd} {u : Nat} {U : Nat → Sd} {v : Nat} {V : Nat → Sd} {g t : Sg} (R : Rl P h S u U v V g t) (a b c d : Int32) : alike (fX10_snows g a b c d) (fX11_snows t a b c d) := by
  have R' := R
  obtain ⟨⟨hp, -, vS, -⟩, ⟨hP, -⟩, ⟨hM, -⟩, hc, hm, -⟩ := R
  unfold fX10_snows fX11_snows
  rw [show (0 : Int64) = (0 : Int32).toInt64 from rfl, show (1 : Int64) = (1 : Int32).toInt64 from rfl, show (8 : Int64) = (8 : Int32).toInt64 from rfl, show (10 : Int64) = (10 : Int32).toInt64 from rfl]
  rcases f_noYounger hp hP a with ⟨y, hy, rfl, e⟩ | ⟨hn, e⟩
  · rw [e, (m_isOne hp hM _).1 ⟨y, hy, rfl⟩, gCl_s, gCl_s, if_pos rfl, if_neg one_ne]
    rcases rng_c g t b 0 8 with ⟨d1, d2, d3⟩ | ⟨d1, d2⟩
    · rw [d1, d2, gCl_s, gCl_s, if_pos rfl, if_neg one_ne]
      rcases rng_c g t c 0 10 with ⟨e1, e2, e3⟩ | ⟨e1, e2⟩
      · rw [e1, e2, gCl_s, gCl_s, if_pos rfl, if_neg one_ne]
        rcases rng_c g t d 0 1 with ⟨f1, f2, f3⟩ | ⟨f1, f2⟩
        · rw [f1, f2, gCl_s, gCl_s, if_pos rfl, if_neg one_ne]
          have d3' : 0 ≤ b.toInt ∧ b.toInt ≤ 8 := by
            simp only [lt_tI, t0, show (8 : Int32).toInt = 8 from rfl] at d3
            omega
          have e3' : 0 ≤ c.toInt ∧ c.toInt ≤ 10 := by
            simp only [lt_tI, t0, show (10 : Int32).toInt = 10 from rfl] at e3
            omega
          obtain ⟨n, rfl, hn⟩ := nI_ex (x := b) (by omega)
          obtain ⟨x, rfl, hx⟩ := nI_ex (x := c) (by omega)
          have hx10 : x ≤ 10 := by omega
          have hn8 : n ≤ 8 := by omega
          obtain ⟨g1, p1, p2⟩ := f_ways hp hP hc hy hx10 hn8
          have p10 := fun K => f_p10 hn8 g1 K n 0 gN (by omega) (by unfold gN; omega)
          rw [show nI (10 ^ 0) = (1 : Int32) from rfl, show nI 0 = (0 : Int32) from rfl] at p10
          have q := fun K => m_snLp hp hy hx10 hn8 vS K (2 ^ n) 0 gN t (by omega) (by have := pow_256 n (by omega); unfold gN; omega) hM hm
          rw [show sumK (fun k => valB P (pA P y) x y S (br n k)) 0 = 0 from rfl, show sumK (fun k => wtB x (br n k)) 0 = 0 from rfl, show nI 0 = (0 : Int32) from rfl, sum_br _ (by omega), sum_br _ (by omega), sum_wt hx10] at q
          have hA : ((allB n).map (valB P (pA P y) x y S)).sum ≤ 10 ^ n := by
            rw [← sum_wt hx10 n]
            exact sum_le valB_le _
          generalize ((allB n).map (valB P (pA P y) x y S)).sum = A at *
          have hB := pow_10 n (by omega)
          have hB0 : 0 < 10 ^ n := Nat.pow_pos (by decide)
          generalize 10 ^ n = B at *
          have hg := Nat.gcd_pos_of_pos_right A hB0
          have hg2 : Nat.gcd A B ≤ B := Nat.le_of_dvd hB0 (Nat.gcd_dvd_right A B)
          obtain ⟨t1, q1, q2⟩ := q _
          rw [p1, gCl_s, p10, q1, m_gcdLp _ t1 27 A B gN (by omega) (by unfold gN; omega) (by omega) (by omega)]
          unfold fX10_commonDivisor
          rw [show (0 : Int32) = nI 0 from rfl, f_gcdLp g1 27 A B gN 0 (by omega) (by unfold gN; omega) (by omega) (by omega) (by omega), gCl_s]
          simp only [gLet]
          rw [show (if (1 : Int32) < nI (Nat.gcd A B) then nI (Nat.gcd A B) else (1 : Int32)) = nI (Nat.gcd A B) by
            by_cases z : Nat.gcd A B = 1
            · rw [z]; rfl
            · rw [if_pos (by rw [show (1 : Int32) = nI 1 from rfl, nI_ltN (by omega) (by omega)]; omega)], gNz_n hg (by omega), gNz_n hg (by omega), gNz_n hg (by omega), gNz_n hg (by omega)]
          by_cases z : d = nI 0
          · rw [if_pos z, if_pos z]
            exact alike_q R' rfl rfl p2 (mT_q q2)
          · rw [if_neg z, if_neg z]
            exact alike_q R' rfl rfl p2 (mT_q q2)
        · rw [f1, f2, gCl_s, gCl_s, if_neg one_ne, if_pos rfl]
          exact alike_q R' rfl rfl fQ_rf mQ_rf
      · rw [e1, e2, gCl_s, gCl_s, if_neg one_ne, if_pos rfl]
        exact alike_q R' rfl rfl fQ_rf mQ_rf
    · rw [d1, d2, gCl_s, gCl_s, if_neg one_ne, if_pos rfl]
      exact alike_q R' rfl rfl fQ_rf mQ_rf
  · rw [e, (m_isOne hp hM a).2 hn, gCl_s, gCl_s, if_neg one_ne, if_pos rfl]
    exact alike_q R' rfl rfl fQ_rf mQ_rf
