/-! ===== counting up, counting down ===== -/
def cF (p : Nat → Bool) : Nat → Nat → Nat
  | _, 0 => 0
  | i, d + 1 => (if p i = true then 1 else 0) + cF p (i + 1) d
def fF (p : Nat → Bool) : Nat → Nat → Int32
  | _, 0 => -4
  | i, d + 1 => if p i = true then nI i else fF p (i + 1) d
theorem cF_le (p : Nat → Bool) : ∀ (d i : Nat), cF p i d ≤ d := by
  intro d
  induction d with
  | zero => intro i; exact Nat.le_refl _
  | succ d ih => intro i; rw [cF]; have := ih (i + 1); split <;> omega
theorem cF_s (p : Nat → Bool) : ∀ (d i : Nat), cF p i (d + 1) = cF p i d + (if p (i + d) = true then 1 else 0) := by
  intro d
  induction d with
  | zero => intro i; simp [cF]
  | succ d ih =>
    intro i
    rw [cF, ih (i + 1), cF, show i + 1 + d = i + (d + 1) by omega]
    omega
theorem f_wasA {P : Pl} (hp : pOk P) {S : Sd} {y n0 : Nat} (hy : y < pC P) (hn0 : n0 ≤ 900) (K : Int32 → Sg → Option (Int32 × Sg)) : ∀ (d i n : Nat) (g : Sg), i + d = 21 → d < n → cPlan P g → cSt g 24 S → ∃ g', fX10_was_50 (nI y) (nI n0) 0 n (nI (cF (fun w => decide (itS P n0 (upd S y (nI w)) y = S y)) 0 i)) (nI i) g K = K (nI (cF (fun w => decide (itS P n0 (upd S y (nI w)) y = S y)) 0 21)) g' ∧ fT g g' := by
  have h8 := hp.2.1
  intro d
  induction d with
  | zero =>
    intro i n g hi hn hP hc
    match n, hn with
    | n + 1, _ =>
      rw [fX10_was_50, show (20 : Int32) = nI 20 from rfl, if_pos (by rw [nI_ltN (by omega) (by omega)]; omega), show i = 21 by omega]
      exact ⟨g, rfl, fun _ _ _ => rfl⟩
  | succ d ih =>
    intro i n g hi hn hP hc
    match n, hn with
    | n + 1, hn =>
      obtain ⟨g1, k1, k2⟩ := f_wbf hp hP hc hy hn0 (nI i)
      have hc1 : cSt g1 24 S := cSt_eq (fun k h1 h2 => k2 k (by omega) (by omega)) hc
      obtain ⟨g2, e1, e2⟩ := ih (i + 1) n g1 (by omega) (by omega) (fT_plan k2 hP) hc1
      rw [fX10_was_50, show (20 : Int32) = nI 20 from rfl, if_neg (by rw [nI_ltN (by omega) (by omega)]; omega), k1, gCl_s, gRd_n (by omega) (by decide), show g1 27 y = S y from hc1.1 y (by omega)]
      simp only [gLet, nI_1]
      rw [cF_s, Nat.zero_add] at e1
      refine ⟨g2, ?_, fT_tr k2 e2⟩
      by_cases hz : itS P n0 (upd S y (nI i)) y = S y
      · rw [if_pos hz, if_neg (by decide)]
        rw [if_pos (by simpa using hz)] at e1
        exact e1
      · rw [if_neg hz]
        rw [if_neg (by simpa using hz), Nat.add_zero] at e1
        exact e1
theorem f_wasB {P : Pl} (hp : pOk P) {S : Sd} {y n0 : Nat} (hy : y < pC P) (hn0 : n0 ≤ 900) (K : Int32 → Sg → Option (Int32 × Sg)) (hK : ∀ x g, K x g = some (-4, g)) : ∀ (d i n : Nat) (g : Sg) (x : Int32), i + d = 21 → d < n → cPlan P g → cSt g 24 S → ∃ g', fX10_was_50 (nI y) (nI n0) 1 n x (nI i) g K = some (fF (fun w => decide (itS P n0 (upd S y (nI w)) y = S y)) i d, g') ∧ fT g g' := by
  have h8 := hp.2.1
  intro d
  induction d with
  | zero =>
    intro i n g x hi hn hP hc
    match n, hn with
    | n + 1, _ =>
      rw [fX10_was_50, show (20 : Int32) = nI 20 from rfl, if_pos (by rw [nI_ltN (by omega) (by omega)]; omega), hK]
      exact ⟨g, rfl, fun _ _ _ => rfl⟩
  | succ d ih =>
    intro i n g x hi hn hP hc
    match n, hn with
    | n + 1, hn =>
      obtain ⟨g1, k1, k2⟩ := f_wbf hp hP hc hy hn0 (nI i)
      have hc1 : cSt g1 24 S := cSt_eq (fun k h1 h2 => k2 k (by omega) (by omega)) hc
      rw [fX10_was_50, show (20 : Int32) = nI 20 from rfl, if_neg (by rw [nI_ltN (by omega) (by omega)]; omega), k1, gCl_s, gRd_n (by omega) (by decide), show g1 27 y = S y from hc1.1 y (by omega)]
      simp only [gLet, nI_1]
      rw [fF]
      by_cases hz : itS P n0 (upd S y (nI i)) y = S y
      · rw [if_pos hz, if_pos trivial, if_pos (by simpa using hz)]
        exact ⟨g1, rfl, k2⟩
      · rw [if_neg hz, if_neg (by simpa using hz)]
        obtain ⟨g2, e1, e2⟩ := ih (i + 1) n g1 x (by omega) (by omega) (fT_plan k2 hP) hc1
        exact ⟨g2, e1, fT_tr k2 e2⟩
theorem neg1 : nI 0 + (-1) = (-1 : Int32) := rfl
theorem m_wasLp {P : Pl} (hp : pOk P) {S : Sd} (vS : vSt P S) {y n0 : Nat} (hy : y < pC P) (hn0 : n0 ≤ 900) (K : Int32 → Int32 → Sg → Option (Int32 × Sg)) : ∀ (i n : Nat) (t : Sg), i ≤ 21 → i < n → mPlan P t → mSt t 0 S → ∃ t', fX11_was_55 (nI y) (nI n0) n (nI (cF (fun w => decide (itS P n0 (upd S y (nI w)) y = S y)) i (21 - i))) (fF (fun w => decide (itS P n0 (upd S y (nI w)) y = S y)) i (21 - i)) (nI i + (-1)) t K = K (nI (cF (fun w => decide (itS P n0 (upd S y (nI w)) y = S y)) 0 21)) (fF (fun w => decide (itS P n0 (upd S y (nI w)) y = S y)) 0 21) t' ∧ mT t t' := by
  have h8 := hp.2.1
  intro i
  induction i with
  | zero =>
    intro n t hi hn hP hm
    match n, hn with
    | n + 1, _ =>
      rw [neg1, fX11_was_55, if_pos (by decide)]
      exact ⟨t, rfl, mT_rf⟩
  | succ i ih =>
    intro n t hi hn hP hm
    match n, hn with
    | n + 1, hn =>
      obtain ⟨t1, p1, p2, p3⟩ := m_then hm
      have p4 := mSt_put (i := y) (x := nI i) p3
      have a2 : mT t1 (setC t1 10 (upd (t1 10) (308 + y) (nI i))) := mT_put (by omega)
      obtain ⟨t3, q1, q2, q3⟩ := m_tries hp (mT_plan (mT_tr p2 a2) hP) hn0 p4 (vSt_well hy h8 ⟨by rw [tI_nI (by omega)]; omega, by rw [tI_nI (by omega)]; omega⟩ vS)
      have fr := mT_tr p2 (mT_tr a2 q2)
      obtain ⟨t4, e1, e2⟩ := ih n t3 (by omega) (by omega) (mT_plan fr hP) (mSt_eq (fun j h1 h2 => fr.2 j (by omega)) hm)
      rw [pk_m1, fX11_was_55, if_neg (nI_pos (by omega)), p1, gCv_s, show (308 : Int32) = nI 308 from rfl, nI_add, gWr_n (show 308 + y < 336 by omega) (by decide), q1, gCv_s, gRd_n (show 308 + y < 336 by omega) (by decide), gRd_n (show y < 336 by omega) (by decide), q3 y (by omega), show t3 10 y = S y from by rw [fr.2 y (by omega), ← hm y (by omega), Nat.zero_add]]
      simp only [gLet]
      refine ⟨t4, ?_, mT_tr fr e2⟩
      rw [show 21 - i = (21 - (i + 1)) + 1 by omega, cF, fF] at e1
      by_cases hz : itS P n0 (upd S y (nI i)) y = S y
      · rw [if_pos hz, if_neg one_ne, if_neg one_ne]
        rw [if_pos (by simpa using hz), if_pos (by simpa using hz)] at e1
        rw [show nI (cF (fun w => decide (itS P n0 (upd S y (nI w)) y = S y)) (i + 1) (21 - (i + 1))) + 1 = nI (1 + cF (fun w => decide (itS P n0 (upd S y (nI w)) y = S y)) (i + 1) (21 - (i + 1))) from by rw [nI_1, Nat.add_comm]]
        exact e1
      · rw [if_neg hz, if_pos trivial, if_pos trivial]
        rw [if_neg (by simpa using hz), if_neg (by simpa using hz), Nat.zero_add] at e1
        rw [add_0]
        exact e1
theorem al_was {P : Pl} {h : Int32} {S : Sd} {u : Nat} {U : Nat → Sd} {v : Nat} {V : Nat → Sd} {g t : Sg} (R : Rl P h S u U v V g t) (a b c : Int32) : alike (fX10_was g a b c) (fX11_was t a b c) := by
  have R' := R
  obtain ⟨⟨hp, -, vS, -⟩, ⟨hP, -⟩, ⟨hM, -⟩, hc, hm, -⟩ := R
  have h8 := hp.2.1
  unfold fX10_was fX11_was
  rw [show (0 : Int64) = (0 : Int32).toInt64 from rfl, show (1 : Int64) = (1 : Int32).toInt64 from rfl, show (20 : Int64) = (20 : Int32).toInt64 from rfl]
  rcases f_noYounger hp hP a with ⟨y, hy, rfl, e⟩ | ⟨hn, e⟩
  · rw [e, (m_isOne hp hM _).1 ⟨y, hy, rfl⟩, gCl_s, gCl_s, if_pos rfl, if_neg one_ne]
    rcases rng_c g t b 1 20 with ⟨e1, e2, e3⟩ | ⟨e1, e2⟩
    · rw [e1, e2, gCl_s, gCl_s, if_pos rfl, if_neg one_ne]
      rcases rng_c g t c 0 1 with ⟨d1, d2, d3⟩ | ⟨d1, d2⟩
      · have e3' : 1 ≤ b.toInt ∧ b.toInt ≤ 20 := by
          simp only [lt_tI, t1, t20] at e3
          omega
        obtain ⟨n, rfl, hn⟩ := nI_ex (x := b) (by omega)
        have hc01 : c = 0 ∨ c = 1 := by
          simp only [lt_tI, t0, t1] at d3
          rcases (by omega : c.toInt = 0 ∨ c.toInt = 1) with z | z
          · exact Or.inl (by rw [eq_tI, t0, z])
          · exact Or.inr (by rw [eq_tI, t1, z])
        rw [d1, d2, gCl_s, gCl_s, if_pos rfl, if_neg one_ne, gRd_n (show y < 8 by omega) (by decide), gRd_n (show y < 336 by omega) (by decide), show g 27 y = S y from hc.1 y (by omega), show t 10 y = S y from by rw [← hm y (by omega), Nat.zero_add]]
        by_cases hz : S y = 0
        · rw [if_pos hz, if_pos hz]
          exact alike_q R' rfl rfl fQ_rf mQ_rf
        · rw [if_neg hz, if_neg hz]
          obtain ⟨t2, q1, q2⟩ := m_wasLp hp vS hy (n0 := n) (by omega) (fun x50 x51 g52 => if c = 0 then some (x50, g52) else some (x51, g52)) 21 gN t (by omega) (by unfold gN; omega) hM hm
          rw [show 21 - 21 = 0 from rfl] at q1
          rw [show cF (fun w => decide (itS P n (upd S y (nI w)) y = S y)) 21 0 = 0 from rfl, show fF (fun w => decide (itS P n (upd S y (nI w)) y = S y)) 21 0 = -4 from rfl, show nI 21 + (-1) = 20 from rfl, show nI 0 = 0 from rfl] at q1
          rw [q1]
          rcases hc01 with rfl | rfl
          · obtain ⟨g2, k1, k2⟩ := f_wasA hp (S := S) hy (n0 := n) (by omega) (fun x36 g37 => if (0 : Int32) = 1 then some ((-4 : Int32), g37) else some (x36, g37)) 21 0 gN g (by omega) (by unfold gN; omega) hP hc
            rw [show cF (fun w => decide (itS P n (upd S y (nI w)) y = S y)) 0 0 = 0 from rfl, show nI 0 = 0 from rfl] at k1
            rw [k1, if_neg (by decide), if_pos rfl]
            exact alike_q R' rfl rfl (fT_q k2) (mT_q q2)
          · obtain ⟨g2, k1, k2⟩ := f_wasB hp (S := S) hy (n0 := n) (by omega) (fun x36 g37 => if (1 : Int32) = 1 then some ((-4 : Int32), g37) else some (x36, g37)) (fun x g => if_pos rfl) 21 0 gN g 0 (by omega) (by unfold gN; omega) hP hc
            rw [show nI 0 = 0 from rfl] at k1
            rw [k1, if_neg one_ne]
            exact alike_q R' rfl rfl (fT_q k2) (mT_q q2)
      · rw [d1, d2, gCl_s, gCl_s, if_neg one_ne, if_pos rfl]
        exact alike_q R' rfl rfl fQ_rf mQ_rf
    · rw [e1, e2, gCl_s, gCl_s, if_neg one_ne, if_pos rfl]
      exact alike_q R' rfl rfl fQ_rf mQ_rf
  · rw [e, (m_isOne hp hM a).2 hn, gCl_s, gCl_s, if_neg one_ne, if_pos rfl]
    exact alike_q R' rfl rfl fQ_rf mQ_rf
