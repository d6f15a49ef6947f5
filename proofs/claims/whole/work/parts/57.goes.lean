theorem f_goLp {P : Pl} (hp : pOk P) {y : Nat} (hy : y < pC P) : ∀ (d i n : Nat) (g : Sg) (S0 : Sd), i + d = 61 → d < n → cPlan P g → cSt g 78 (itX P (pA P y) i S0) → (∃ k, i ≤ k ∧ k ≤ 60 ∧ itX P (pA P y) k S0 y = 0 ∧ (∀ j, i ≤ j → j < k → ¬ itX P (pA P y) j S0 y = 0) ∧ ∃ g', fX1_daysToGo_10 (nI y) n (nI i) g = some (nI k, g') ∧ fT g g') ∨ ((∀ j, i ≤ j → j ≤ 60 → ¬ itX P (pA P y) j S0 y = 0) ∧ ∃ g', fX1_daysToGo_10 (nI y) n (nI i) g = some (-4, g') ∧ fT g g') := by
  have h8 := hp.2.1
  have h9 := hp.2.2.2.1
  have hA := (hp.2.2.2.2 y hy).1
  have itS1 : ∀ (x i : Nat) (S : Sd), itX P x 1 (itX P x i S) = itX P x (i + 1) S := by
    intro x i
    induction i with
    | zero => intro S; rfl
    | succ i ih => intro S; exact ih _
  intro d
  induction d with
  | zero =>
    intro i n g S0 hi hn hP hc
    match n, hn with
    | n + 1, _ =>
      right
      rw [fX1_daysToGo_10, show (60 : Int32) = nI 60 from rfl, if_pos (by rw [nI_ltN (by omega) (by omega)]; omega)]
      exact ⟨fun j h1 h2 => absurd h2 (by omega), g, rfl, fun _ _ _ => rfl⟩
  | succ d ih =>
    intro i n g S0 hi hn hP hc
    match n, hn with
    | n + 1, hn =>
      rw [fX1_daysToGo_10, show (60 : Int32) = nI 60 from rfl, if_neg (by rw [nI_ltN (by omega) (by omega)]; omega), gRd_n (by omega) (by decide), show g 81 y = itX P (pA P y) i S0 y from hc.1 y (by omega)]
      by_cases hz : itX P (pA P y) i S0 y = 0
      · left
        rw [if_pos hz]
        exact ⟨i, Nat.le_refl _, by omega, hz, fun j h1 h2 => absurd h2 (by omega), g, rfl, fun _ _ _ => rfl⟩
      · rw [if_neg hz, gRd_n (by omega) (by decide), (hP.1 y hy).2.1]
        obtain ⟨g1, k1, k2, k3⟩ := f_tgoByAt hp hP (x := pA P y) (n := 1) (by omega) (by omega) hc
        rw [show (1 : Int32) = nI 1 from rfl, k1, gCv_s]
        simp only [gLet, nI_add]
        rw [itS1] at k3
        rcases ih (i + 1) n g1 S0 (by omega) (by omega) (fT_plan k2 hP) k3 with ⟨k, a1, a2, a3, a4, g2, a5, a6⟩ | ⟨a4, g2, a5, a6⟩
        · left
          refine ⟨k, by omega, a2, a3, fun j h1 h2 => ?_, g2, a5, fT_tr k2 a6⟩
          by_cases e : j = i
          · rw [e]; exact hz
          · exact a4 j (by omega) h2
        · right
          refine ⟨fun j h1 h2 => ?_, g2, a5, fT_tr k2 a6⟩
          by_cases e : j = i
          · rw [e]; exact hz
          · exact a4 j (by omega) h2
theorem m_goLp {P : Pl} (hp : pOk P) {y : Nat} (hy : y < pC P) {S0 : Sd} (v0 : vSt P S0) : ∀ (d i n : Nat) (t : Sg), i + d = 61 → d < n → mPlan P t → mSt t 308 (itS P i S0) → (∃ k, i ≤ k ∧ k ≤ 60 ∧ itS P k S0 y = 0 ∧ (∀ j, i ≤ j → j < k → ¬ itS P j S0 y = 0) ∧ ∃ t', fX11_goes_20 (nI y) n (nI i) t = some (nI k, t') ∧ mT t t') ∨ ((∀ j, i ≤ j → j ≤ 60 → ¬ itS P j S0 y = 0) ∧ ∃ t', fX11_goes_20 (nI y) n (nI i) t = some (-4, t') ∧ mT t t') := by
  have h8 := hp.2.1
  have itS1 : ∀ (i : Nat) (S : Sd), itS P 1 (itS P i S) = itS P (i + 1) S := by
    intro i
    induction i with
    | zero => intro S; rfl
    | succ i ih => intro S; exact ih _
  intro d
  induction d with
  | zero =>
    intro i n t hi hn hP hm
    match n, hn with
    | n + 1, _ =>
      right
      rw [fX11_goes_20, show (60 : Int32) = nI 60 from rfl, if_pos (by rw [nI_ltN (by omega) (by omega)]; omega)]
      exact ⟨fun j h1 h2 => absurd h2 (by omega), t, rfl, mT_rf⟩
  | succ d ih =>
    intro i n t hi hn hP hm
    match n, hn with
    | n + 1, hn =>
      rw [fX11_goes_20, show (60 : Int32) = nI 60 from rfl, if_neg (by rw [nI_ltN (by omega) (by omega)]; omega), show (308 : Int32) = nI 308 from rfl, nI_add, gRd_n (show 308 + y < 336 by omega) (by decide), hm y (by omega)]
      by_cases hz : itS P i S0 y = 0
      · left
        rw [if_pos hz]
        exact ⟨i, Nat.le_refl _, by omega, hz, fun j h1 h2 => absurd h2 (by omega), t, rfl, mT_rf⟩
      · rw [if_neg hz]
        obtain ⟨t1, k1, k2, k3⟩ := m_tries hp hP (n := 1) (by omega) hm (itS_v _ _ v0)
        rw [show (1 : Int32) = nI 1 from rfl, k1, gCv_s]
        simp only [gLet, nI_add]
        rw [itS1] at k3
        rcases ih (i + 1) n t1 (by omega) (by omega) (mT_plan k2 hP) k3 with ⟨k, a1, a2, a3, a4, g2, a5, a6⟩ | ⟨a4, g2, a5, a6⟩
        · left
          refine ⟨k, by omega, a2, a3, fun j h1 h2 => ?_, g2, a5, mT_tr k2 a6⟩
          by_cases e : j = i
          · rw [e]; exact hz
          · exact a4 j (by omega) h2
        · right
          refine ⟨fun j h1 h2 => ?_, g2, a5, mT_tr k2 a6⟩
          by_cases e : j = i
          · rw [e]; exact hz
          · exact a4 j (by omega) h2
theorem al_goes {P : Pl} {h : Int32} {S : Sd} {u : Nat} {U : Nat → Sd} {v : Nat} {V : Nat → Sd} {g t : Sg} (R : Rl P h S u U v V g t) (a : Int32) : alike (fX10_goes g a) (fX11_goes t a) := by
  have R' := R
  obtain ⟨⟨hp, -, vS, -⟩, ⟨hP, -⟩, ⟨hM, -⟩, hc, hm, -⟩ := R
  have h9 := hp.2.2.2.1
  unfold fX10_goes fX11_goes
  rcases f_noYounger hp hP a with ⟨y, hy, rfl, e⟩ | ⟨hn, e⟩
  · have hA := (hp.2.2.2.2 y hy).1
    obtain ⟨g1, p1, p2, p3⟩ := f_then hc
    obtain ⟨t1, q1, q2, q3⟩ := m_then hm
    rw [e, (m_isOne hp hM _).1 ⟨y, hy, rfl⟩, gCl_s, gCl_s, if_pos rfl, if_neg one_ne]
    unfold fX1_daysToGo
    rw [p1, gCv_s, q1, gCv_s]
    have same : ∀ k, itX P (pA P y) k S y = itS P k S y := fun k => (relX_it hp (x := pA P y) (by omega) k _ _ relX_rf).1 y ((tl_mem hp).mpr ⟨hy, rfl⟩)
    have c1 := f_goLp hp hy 61 0 gN g1 S (by omega) (by unfold gN; omega) (fT_plan p2 hP) p3
    have c2 := m_goLp hp hy vS 61 0 gN t1 (by omega) (by unfold gN; omega) (mT_plan q2 hM) q3
    rw [show (0 : Int32) = nI 0 from rfl]
    rcases c1 with ⟨k, a1, a2, a3, a4, g2, a5, a6⟩ | ⟨a4, g2, a5, a6⟩
    · rcases c2 with ⟨k', b1, b2, b3, b4, t2, b5, b6⟩ | ⟨b4, t2, b5, b6⟩
      · have ek : k = k' := by
          rcases Nat.lt_trichotomy k k' with z | z | z
          · exact absurd ((same k).symm.trans a3) (b4 k (by omega) z)
          · exact z
          · exact absurd ((same k').trans b3) (a4 k' (by omega) z)
        rw [a5, b5, ek, gCl_s]
        exact alike_q R' rfl rfl (fT_q (fT_tr p2 a6)) (mT_q (mT_tr q2 b6))
      · exact absurd ((same k).symm.trans a3) (b4 k (by omega) a2)
    · rcases c2 with ⟨k', b1, b2, b3, b4, t2, b5, b6⟩ | ⟨b4, t2, b5, b6⟩
      · exact absurd ((same k').trans b3) (a4 k' (by omega) b2)
      · rw [a5, b5, gCl_s]
        exact alike_q R' rfl rfl (fT_q (fT_tr p2 a6)) (mT_q (mT_tr q2 b6))
  · rw [e, (m_isOne hp hM a).2 hn, gCl_s, gCl_s, if_neg one_ne, if_pos rfl]
    exact alike_q R' rfl rfl fQ_rf mQ_rf
/-! ===== least ===== -/
/-- who of a step has not gone behind n days, with so much set down there -/
def stay (P : Pl) (S : Sd) (x n m : Nat) : Int32 := thrL (itS P n (upd S (9 + x) (nI m))) (tl P x) 0
theorem f_leLp {P : Pl} (hp : pOk P) {x n0 : Nat} (hx : x < pS P) (hn0 : n0 ≤ 900) {S : Sd} (r3 : Int32) : ∀ (d i n : Nat) (g : Sg), i + d = 41 → d < n → cPlan P g → cSt g 24 S → (∃ k, i ≤ k ∧ k ≤ 40 ∧ stay P S x n0 k = r3 ∧ (∀ j, i ≤ j → j < k → ¬ stay P S x n0 j = r3) ∧ ∃ g', fX1_leastFor_14 (nI x) (nI n0) r3 n (nI i) g = some (nI k, g') ∧ fT g g') ∨ ((∀ j, i ≤ j → j ≤ 40 → ¬ stay P S x n0 j = r3) ∧ ∃ g', fX1_leastFor_14 (nI x) (nI n0) r3 n (nI i) g = some (-4, g') ∧ fT g g') := by
  have h8 := hp.2.1
  have h9 := hp.2.2.2.1
  intro d
  induction d with
  | zero =>
    intro i n g hi hn hP hc
    match n, hn with
    | n + 1, _ =>
      right
      rw [fX1_leastFor_14, show (40 : Int32) = nI 40 from rfl, if_pos (by rw [nI_ltN (by omega) (by omega)]; omega)]
      exact ⟨fun j h1 h2 => absurd h2 (by omega), g, rfl, fun _ _ _ => rfl⟩
  | succ d ih =>
    intro i n g hi hn hP hc
    match n, hn with
    | n + 1, hn =>
      obtain ⟨g1, e1, e2, e3⟩ := f_then hc
      have hc2 := cSt_down (d := nI i) (show x < 9 by omega) e3
      have a2 : fT g1 (setC g1 (78 + 1) (upd (g1 (78 + 1)) x (nI i))) := fun k h1 h2 => setC_n (by omega)
      have hP2 := fT_plan (fT_tr e2 a2) hP
      obtain ⟨g3, k1, k2, k3⟩ := f_tgoByAt hp hP2 (x := x) (by omega) hn0 hc2
      have fr := fT_tr e2 (fT_tr a2 k2)
      have hP3 := fT_plan fr hP
      rw [fX1_leastFor_14, show (40 : Int32) = nI 40 from rfl, if_neg (by rw [nI_ltN (by omega) (by omega)]; omega), e1, gCv_s, gWr_n (by omega) (by decide), k1, gCv_s, f_notGoneAt hp hP3 (by omega), gCl_s]
      have es : thrL (g3 (78 + 3)) (tl P x) 0 = stay P S x n0 i := by
        unfold stay
        refine thrL_congr _ _ (fun y hy => ?_)
        rw [k3.1 y (by have := ((tl_mem hp).mp hy).1; omega)]
        exact (relX_it hp (x := x) (by omega) n0 _ _ relX_rf).1 y hy
      rw [es]
      simp only [gLet, nI_1]
      by_cases hz : stay P S x n0 i = r3
      · left
        rw [if_pos hz]
        exact ⟨i, Nat.le_refl _, by omega, hz, fun j h1 h2 => absurd h2 (by omega), g3, rfl, fr⟩
      · rw [if_neg hz]
        rcases ih (i + 1) n g3 (by omega) (by omega) hP3 (cSt_eq (fun k h1 h2 => fr k (by omega) (by omega)) hc) with ⟨k, a1, a2, a3, a4, g2, a5, a6⟩ | ⟨a4, g2, a5, a6⟩
        · left
          refine ⟨k, by omega, a2, a3, fun j h1 h2 => ?_, g2, a5, fT_tr fr a6⟩
          by_cases e : j = i
          · rw [e]; exact hz
          · exact a4 j (by omega) h2
        · right
          refine ⟨fun j h1 h2 => ?_, g2, a5, fT_tr fr a6⟩
          by_cases e : j = i
          · rw [e]; exact hz
          · exact a4 j (by omega) h2
theorem m_staysAt {P : Pl} (hp : pOk P) {t : Sg} (hP : mPlan P t) {x n m : Nat} (hx : x < pS P) (hn : n ≤ 900) (hm40 : m ≤ 40) {S : Sd} (hm : mSt t 0 S) (vS : vSt P S) : ∃ t', fX11_staysAt t (nI x) (nI m) (nI n) = some (stay P S x n m, t') ∧ mT t t' := by
  have h9 := hp.2.2.2.1
  have h8 := hp.2.1
  obtain ⟨t1, p1, p2, p3⟩ := m_then hm
  have p4 := mSt_put (i := 9 + x) (x := nI m) p3
  have a2 : mT t1 (setC t1 10 (upd (t1 10) (308 + (9 + x)) (nI m))) := mT_put (by omega)
  obtain ⟨t3, q1, q2, q3⟩ := m_tries hp (mT_plan (mT_tr p2 a2) hP) hn p4 (vSt_down hx (by omega) ⟨by rw [tI_nI (by omega)]; omega, by rw [tI_nI (by omega)]; omega⟩ vS)
  have fr := mT_tr p2 (mT_tr a2 q2)
  unfold fX11_staysAt
  rw [p1, gCv_s, show (317 : Int32) = nI 317 from rfl, nI_add, gWr_n (show 317 + x < 336 by omega) (by decide), show 317 + x = 308 + (9 + x) by omega, q1, gCv_s, show (308 : Int32) = nI 308 from rfl, m_thereAt hp (mT_plan fr hP) (by omega) (by omega), gCl_s]
  refine ⟨t3, ?_, fr⟩
  unfold stay
  rw [thrL_congr (W' := itS P n (upd S (9 + x) (nI m))) (tl P x) 0 (fun y hy => q3 y (by have := ((tl_mem hp).mp hy).1; omega))]
theorem m_leLp {P : Pl} (hp : pOk P) {x n0 : Nat} (hx : x < pS P) (hn0 : n0 ≤ 900) {S : Sd} (vS : vSt P S) (r3 : Int32) : ∀ (d i n : Nat) (t : Sg), i + d = 41 → d < n → mPlan P t → mSt t 0 S → (∃ k, i ≤ k ∧ k ≤ 40 ∧ stay P S x n0 k = r3 ∧ (∀ j, i ≤ j → j < k → ¬ stay P S x n0 j = r3) ∧ ∃ t', fX11_least_32 (nI x) (nI n0) r3 n (nI i) t = some (nI k, t') ∧ mT t t') ∨ ((∀ j, i ≤ j → j ≤ 40 → ¬ stay P S x n0 j = r3) ∧ ∃ t', fX11_least_32 (nI x) (nI n0) r3 n (nI i) t = some (-4, t') ∧ mT t t') := by
  intro d
  induction d with
  | zero =>
    intro i n t hi hn hP hm
    match n, hn with
    | n + 1, _ =>
      right
      rw [fX11_least_32, show (40 : Int32) = nI 40 from rfl, if_pos (by rw [nI_ltN (by omega) (by omega)]; omega)]
      exact ⟨fun j h1 h2 => absurd h2 (by omega), t, rfl, mT_rf⟩
  | succ d ih =>
    intro i n t hi hn hP hm
    match n, hn with
    | n + 1, hn =>
      obtain ⟨t1, k1, k2⟩ := m_staysAt hp hP hx hn0 (m := i) (by omega) hm vS
      rw [fX11_least_32, show (40 : Int32) = nI 40 from rfl, if_neg (by rw [nI_ltN (by omega) (by omega)]; omega), k1, gCl_s]
      simp only [gLet, nI_1]
      by_cases hz : stay P S x n0 i = r3
      · left
        rw [if_pos hz]
        exact ⟨i, Nat.le_refl _, by omega, hz, fun j h1 h2 => absurd h2 (by omega), t1, rfl, k2⟩
      · rw [if_neg hz]
        rcases ih (i + 1) n t1 (by omega) (by omega) (mT_plan k2 hP) (mSt_eq (fun j h1 h2 => k2.2 j (by omega)) hm) with ⟨k, a1, a2, a3, a4, g2, a5, a6⟩ | ⟨a4, g2, a5, a6⟩
        · left
          refine ⟨k, by omega, a2, a3, fun j h1 h2 => ?_, g2, a5, mT_tr k2 a6⟩
          by_cases e : j = i
          · rw [e]; exact hz
          · exact a4 j (by omega) h2
        · right
          refine ⟨fun j h1 h2 => ?_, g2, a5, mT_tr k2 a6⟩
          by_cases e : j = i
          · rw [e]; exact hz
          · exact a4 j (by omega) h2
theorem al_least {P : Pl} {h : Int32} {S : Sd} {u : Nat} {U : Nat → Sd} {v : Nat} {V : Nat → Sd} {g t : Sg} (R : Rl P h S u U v V g t) (a b : Int32) : alike (fX10_least g a b) (fX11_least t a b) := by
  have R' := R
  obtain ⟨⟨hp, -, vS, -⟩, ⟨hP, -⟩, ⟨hM, -⟩, hc, hm, -⟩ := R
  have h9 := hp.2.2.2.1
  unfold fX10_least fX11_least
  rw [show (1 : Int64) = (1 : Int32).toInt64 from rfl, show (20 : Int64) = (20 : Int32).toInt64 from rfl]
  rcases f_noStep hp hP a with ⟨x, hx, rfl, e⟩ | ⟨hn, e⟩
  · rw [e, (m_isStep hp hM _).1 ⟨x, hx, rfl⟩, gCl_s, gCl_s, if_pos rfl, if_neg one_ne]
    rcases rng_c g t b 1 20 with ⟨e1, e2, e3⟩ | ⟨e1, e2⟩
    · have e3' : 1 ≤ b.toInt ∧ b.toInt ≤ 20 := by
        simp only [lt_tI, t1, t20] at e3
        omega
      obtain ⟨n, rfl, hn⟩ := nI_ex (x := b) (by omega)
      rw [e1, e2, gCl_s, gCl_s, if_pos rfl, if_neg one_ne]
      unfold fX1_leastFor
      rw [f_notGoneAt hp hP (by omega), gCl_s, show (0 : Int32) = nI 0 from rfl, m_thereAt hp hM (by omega) (by omega), gCl_s, show nI 0 = 0 from rfl, ← thr_same hp hc hm, show (0 : Int32) = nI 0 from rfl]
      have c1 := f_leLp hp hx (n0 := n) (by omega) (S := S) (thrL (g (24 + 3)) (tl P x) (nI 0)) 41 0 gN g (by omega) (by unfold gN; omega) hP hc
      have c2 := m_leLp hp hx (n0 := n) (by omega) vS (thrL (g (24 + 3)) (tl P x) (nI 0)) 41 0 gN t (by omega) (by unfold gN; omega) hM hm
      rcases c1 with ⟨k, a1, a2, a3, a4, g2, a5, a6⟩ | ⟨a4, g2, a5, a6⟩
      · rcases c2 with ⟨k', b1, b2, b3, b4, t2, b5, b6⟩ | ⟨b4, t2, b5, b6⟩
        · have ek : k = k' := by
            rcases Nat.lt_trichotomy k k' with z | z | z
            · exact absurd a3 (b4 k (by omega) z)
            · exact z
            · exact absurd b3 (a4 k' (by omega) z)
          rw [a5, b5, ek, gCl_s]
          exact alike_q R' rfl rfl (fT_q a6) (mT_q b6)
        · exact absurd a3 (b4 k (by omega) a2)
      · rcases c2 with ⟨k', b1, b2, b3, b4, t2, b5, b6⟩ | ⟨b4, t2, b5, b6⟩
        · exact absurd b3 (a4 k' (by omega) b2)
        · rw [a5, b5, gCl_s]
          exact alike_q R' rfl rfl (fT_q a6) (mT_q b6)
    · rw [e1, e2, gCl_s, gCl_s, if_neg one_ne, if_pos rfl]
      exact alike_q R' rfl rfl fQ_rf mQ_rf
  · rw [e, (m_isStep hp hM a).2 hn, gCl_s, gCl_s, if_neg one_ne, if_pos rfl]
    exact alike_q R' rfl rfl fQ_rf mQ_rf
