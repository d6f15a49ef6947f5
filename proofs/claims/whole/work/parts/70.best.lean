/-! ===== how most are kept: both ===== -/
theorem m_krLp {st : Nat → Nat → Nat} (hst : ∀ x e, st x e ≤ 9) {N m x d : Nat} (hN : N ≤ 9) (hx : x + (d + 1) = N) (hm : m ≤ 99) (K : Sg → Option Sg) : ∀ (q L n : Nat) (t : Sg), L + q = m + 1 → q < n → sRow st N t → (∀ j, x < j → j ≤ N → mRow st N m j t) → (∀ j, j < L → t 17 (100 * x + j) = nI (VV st N (d + 1) j).1 ∧ t 18 (100 * x + j) = nI (VV st N (d + 1) j).2) →
    ∃ t', fX11_keepsBy_98 (nI m) (nI x) n (nI L) t K = K t' ∧ mB t t' ∧ t' 16 = t 16 ∧ (∀ j, x ≤ j → j ≤ N → mRow st N m j t') := by
  intro q
  induction q with
  | zero =>
    intro L n t hL hn hs hw hr
    match n, hn with
    | n + 1, _ =>
      rw [fX11_keepsBy_98, if_pos (by rw [nI_ltN (by omega) (by omega)]; omega)]
      refine ⟨t, rfl, mB_rf, rfl, fun j h1 h2 => ?_⟩
      by_cases z : j = x
      · rw [z]
        intro q hq
        rw [show N - x = d + 1 by omega]
        exact hr q (by omega)
      · exact hw j (by omega) h2
  | succ q ih =>
    intro L n t hL hn hs hw hr
    match n, hn with
    | n + 1, hn =>
      have b := VV_b (N := N) hst d L
      have b2 := hst x 0
      have hmn := mn9_le L
      rw [fX11_keepsBy_98, if_neg (by rw [nI_ltN (by omega) (by omega)]; omega), show (100 : Int32) = nI 100 from rfl, pk_mul]
      simp only [gLet, nI_add, nI_1]
      rw [gWr_n (by omega) (by decide), show gN = 999 + 1 from rfl, show (0 : Int32) = nI 0 from rfl]
      have e17 : (setC t 17 (upd (t 17) (100 * x + L) (-1))) 17 (100 * x + L) = -1 := by rw [setC_s, upd_s]
      have s1 : sRow st N (setC t 17 (upd (t 17) (100 * x + L) (-1))) := fun j e h1 h2 => by rw [setC_n (by decide)]; exact hs j e h1 h2
      have w1 : mRow st N m (x + 1) (setC t 17 (upd (t 17) (100 * x + L) (-1))) := fun q hq => by rw [setC_s, setC_n (by decide), upd_n (by omega)]; exact hw (x + 1) (by omega) (by omega) q hq
      have sm : vA st x (VV st N d) L 0 ≤ 200 := by unfold vA; rw [Nat.sub_zero]; omega
      rw [m_kbSt hst hN hx hm (by omega) (v := 0) (by omega) s1 w1 _ 999 True (by
        rw [e17]
        refine ⟨fun _ => Or.inl ?_, fun _ => trivial⟩
        rw [lt_tI, tI_nI (by omega), show (-1 : Int32).toInt = -1 from rfl]
        omega)]
      simp only [if_true]
      have e2 : setC (setC (setC t 17 (upd (t 17) (100 * x + L) (-1))) 18 (upd ((setC t 17 (upd (t 17) (100 * x + L) (-1))) 18) (100 * x + L) (nI (vB (VV st N d) L 0)))) 17 (upd ((setC t 17 (upd (t 17) (100 * x + L) (-1))) 17) (100 * x + L) (nI (vA st x (VV st N d) L 0))) = put2 t (100 * x + L) (nI (vA st x (VV st N d) L 0)) (nI (vB (VV st N d) L 0)) := by
        unfold put2
        funext j i
        by_cases z7 : j = 17
        · subst z7
          rw [setC_s, setC_s, setC_s]
          by_cases z : i = 100 * x + L
          · rw [z, upd_s, upd_s]
          · rw [upd_n z, upd_n z, upd_n z]
        · rw [setC_n z7, setC_n z7]
          by_cases z8 : j = 18
          · subst z8
            rw [setC_s, setC_s, setC_n (by decide)]
          · rw [setC_n z8, setC_n z8, setC_n z7]
      rw [e2]
      have lp := fun K => m_kbLp hst hN hx hm (by omega : L ≤ m) K (mn9 L) 0 999 (put2 t (100 * x + L) (nI (vA st x (VV st N d) L 0)) (nI (vB (VV st N d) L 0))) (by omega) (by omega) (sRow_put2 hs) (mRow_put2 hm (by omega) (by omega) (hw (x + 1) (by omega) (by omega))) (by rw [put2_17, upd_s]; rfl) (by rw [put2_18, upd_s]; rfl)
      obtain ⟨t2, k1, k2, k3, k4, k5, k6⟩ := lp _
      rw [k1]
      obtain ⟨t3, c1, c2, c3, c4⟩ := ih (L + 1) n t2 (by omega) (by omega) (fun j e h1 h2 => by rw [k3]; exact sRow_put2 hs j e h1 h2) (fun j h1 h2 q hq => by
        rw [(k4 (100 * j + q) (by omega)).1, (k4 (100 * j + q) (by omega)).2]
        exact mRow_put2 hm (by omega) (by omega) (hw j h1 h2) q hq) (fun j hj => by
        by_cases z : j = L
        · rw [z]; exact ⟨k5, k6⟩
        · rw [(k4 (100 * x + j) (by omega)).1, (k4 (100 * x + j) (by omega)).2, put2_17, put2_18, upd_n (by omega), upd_n (by omega)]
          exact hr j (by omega))
      exact ⟨t3, c1, mB_tr put2_B (mB_tr k2 c2), by rw [c3, k3, put2_n (by decide) (by decide)], c4⟩
theorem neg_1 : (nI 0) + (-1 : Int32) < 0 := by decide
theorem m_kxLp {st : Nat → Nat → Nat} (hst : ∀ x e, st x e ≤ 9) {N m : Nat} (hN : N ≤ 9) (hm : m ≤ 99) : ∀ (x n : Nat) (t : Sg), x < N → x + 1 < n → sRow st N t → (∀ j, x < j → j ≤ N → mRow st N m j t) →
    ∃ t', fX11_keepsBy_91 (nI m) n (nI x) t = some t' ∧ mB t t' ∧ sRow st N t' ∧ (∀ j, j ≤ N → mRow st N m j t') := by
  intro x
  induction x with
  | zero =>
    intro n t hx hn hs hw
    match n, hn with
    | n + 2, _ =>
      rw [fX11_keepsBy_91, if_neg (by decide)]
      have lp := fun K => m_krLp hst hN (x := 0) (d := N - 1) (by omega) hm K (m + 1) 0 gN t (by omega) (by unfold gN; omega) hs hw (fun j hj => absurd hj (by omega))
      obtain ⟨t1, a1, a2, a3, a4⟩ := lp _
      rw [show (0 : Int32) = nI 0 from rfl, a1]
      simp only [gLet]
      rw [fX11_keepsBy_91, if_pos neg_1]
      exact ⟨t1, rfl, a2, fun j e h1 h2 => by rw [a3]; exact hs j e h1 h2, fun j h => a4 j (Nat.zero_le _) h⟩
  | succ x ih =>
    intro n t hx hn hs hw
    match n, hn with
    | n + 1, hn =>
      rw [fX11_keepsBy_91, if_neg (by rw [lt_tI, tI_nI (by omega), t0]; omega)]
      have lp := fun K => m_krLp hst hN (x := x + 1) (d := N - (x + 1) - 1) (by omega) hm K (m + 1) 0 gN t (by omega) (by unfold gN; omega) hs hw (fun j hj => absurd hj (by omega))
      obtain ⟨t1, a1, a2, a3, a4⟩ := lp _
      rw [show (0 : Int32) = nI 0 from rfl, a1]
      simp only [gLet, pk_m1]
      obtain ⟨t2, k1, k2, k3, k4⟩ := ih n t1 (by omega) (by omega) (fun j e h1 h2 => by rw [a3]; exact hs j e h1 h2) (fun j h1 h2 => a4 j (by omega) h2)
      exact ⟨t2, k1, mB_tr a2 k2, k3, k4⟩
theorem m_keepsBy {P : Pl} (hp : pOk P) {t : Sg} (hP : mPlan P t) {S : Sd} (hm : mSt t 0 S) (vS : vSt P S) {m n0 : Nat} (hm99 : m ≤ 99) (hn0 : n0 ≤ 900) : ∃ t', fX11_keepsBy t (nI m) (nI n0) = some t' ∧ mB t t' ∧ sRow (stN P S n0) (pS P) t' ∧ (∀ j, j ≤ pS P → mRow (stN P S n0) (pS P) m j t') := by
  have h9 := hp.2.2.2.1
  have h1s := hp.2.2.1
  have hst := stN_b hp (S := S) (n := n0)
  unfold fX11_keepsBy
  rw [show (0 : Int32) = nI 0 from rfl]
  have l1 := fun K => m_stLp hp hn0 vS K (10 * pS P) 0 gN t (by omega) (by unfold gN; omega) hP hm (fun j e a b c => absurd c (by omega))
  obtain ⟨t1, a1, a2, a3⟩ := l1 _
  rw [a1]
  have h0 := (mB_plan a2 hP).1
  have l2 := fun K => m_kzLp h9 hm99 K (m + 1) 0 gN t1 (by omega) (by unfold gN; omega) h0 (fun j hj => absurd hj (by omega))
  obtain ⟨t2, b1, b2, b3, b4⟩ := l2 _
  rw [b1]
  simp only [gLet]
  rw [(mB_plan b2 (mB_plan a2 hP)).1, sub1 h1s]
  obtain ⟨t3, c1, c2, c3, c4⟩ := m_kxLp hst h9 hm99 (pS P - 1) gN t2 (by omega) (by unfold gN; omega) (fun j e h1 h2 => by rw [b3]; exact a3 j e h1 h2) (fun j h1 h2 q hq => by
    have ej : j = pS P := by omega
    rw [ej, (b4 q hq).1, (b4 q hq).2, Nat.sub_self]
    exact ⟨rfl, rfl⟩)
  exact ⟨t3, c1, mB_tr a2 (mB_tr b2 c2), c3, c4⟩
theorem m_chLp {st : Nat → Nat → Nat} (hst : ∀ x e, st x e ≤ 9) {N m x d L : Nat} (hN : N ≤ 9) (hx : x + (d + 1) = N) (hm : m ≤ 99) (hL : L ≤ m) {t : Sg} (hs : sRow st N t) (hw : ∀ j, j ≤ N → mRow st N m j t) (K : Int32 → Sg → Option (Int32 × Sg)) : ∀ (q v n : Nat), v + q = shr st N d L → q < n → fX11_best_78 (nI x) (nI (100 * x + L)) n (nI v) t K = K (nI (shr st N d L)) t := by
  have hsh := shr_le (st := st) (N := N) (d := d) (L := L)
  have e1 := (hw x (by omega) L hL).1
  have e2 := (hw x (by omega) L hL).2
  have hV := VV_s (st := st) (N := N) (d := d) (L := L)
  rw [show N - (d + 1) = x by omega] at hV
  rw [show N - x = d + 1 by omega, hV] at e1 e2
  have bb : ∀ w, w ≤ 9 → w ≤ L → vA st x (VV st N d) L w ≤ 200 ∧ vB (VV st N d) L w ≤ 99 := by
    intro w h1 h2
    have b := VV_b (N := N) hst d (L - w)
    have b2 := hst x w
    unfold vA vB
    omega
  have bs0 := bb (shr st N d L) (by omega) (by omega)
  intro q
  induction q with
  | zero =>
    intro v n hv hn
    match n, hn with
    | n + 1, _ =>
      have hv : v = shr st N d L := by omega
      rw [fX11_best_78, show (10 : Int32) = nI 10 from rfl, pk_mul, nI_add, gRd_n (by omega) (by decide), hs x v (by omega) (by omega), show (100 : Int32) = nI 100 from rfl, nI_add, pk_sub (by omega), gRd_n (by omega) (by decide), show 100 * x + L + 100 - v = 100 * (x + 1) + (L - v) by omega, (hw (x + 1) (by omega) (L - v) (by omega)).1, gRd_n (by omega) (by decide), e1, show N - (x + 1) = d by omega, nI_add]
      simp only [gLet]
      rw [if_pos (by rw [hv]; rfl), gRd_n (by omega) (by decide), (hw (x + 1) (by omega) (L - v) (by omega)).2, gRd_n (by omega) (by decide), e2, show N - (x + 1) = d by omega, nI_add, if_pos (by rw [hv]; rfl), hv]
  | succ q ih =>
    intro v n hv hn
    match n, hn with
    | n + 1, hn =>
      have bv := bb v (by omega) (by omega)
      have hf := bs_first (vA st x (VV st N d) L) (vB (VV st N d) L) (mn9 L) v (by
        have : shr st N d L = bs (vA st x (VV st N d) L) (vB (VV st N d) L) (mn9 L) := by unfold shr; rw [show N - (d + 1) = x by omega]
        omega)
      rw [show bs (vA st x (VV st N d) L) (vB (VV st N d) L) (mn9 L) = shr st N d L by unfold shr; rw [show N - (d + 1) = x by omega]] at hf
      rw [fX11_best_78, show (10 : Int32) = nI 10 from rfl, pk_mul, nI_add, gRd_n (by omega) (by decide), hs x v (by omega) (by omega), show (100 : Int32) = nI 100 from rfl, nI_add, pk_sub (by omega), gRd_n (by omega) (by decide), show 100 * x + L + 100 - v = 100 * (x + 1) + (L - v) by omega, (hw (x + 1) (by omega) (L - v) (by omega)).1, gRd_n (by omega) (by decide), e1, show N - (x + 1) = d by omega, nI_add]
      simp only [gLet, nI_1]
      rw [show st x v + (VV st N d (L - v)).1 = vA st x (VV st N d) L v from rfl]
      by_cases z : vA st x (VV st N d) L v = vA st x (VV st N d) L (shr st N d L)
      · rw [if_pos (by rw [z]), gRd_n (by omega) (by decide), (hw (x + 1) (by omega) (L - v) (by omega)).2, gRd_n (by omega) (by decide), e2, show N - (x + 1) = d by omega, nI_add, show v + (VV st N d (L - v)).2 = vB (VV st N d) L v from rfl, if_neg (by rw [nI_inj (by omega) (by omega)]; exact fun h => hf ⟨z, h⟩)]
        exact ih (v + 1) n (by omega) (by omega)
      · rw [if_neg (by rw [nI_inj (by omega) (by omega)]; exact z)]
        exact ih (v + 1) n (by omega) (by omega)
theorem m_dlLp {st : Nat → Nat → Nat} (hst : ∀ x e, st x e ≤ 9) {N m : Nat} (hN : N ≤ 9) (hm : m ≤ 99) (K : Sg → Option (Int32 × Sg)) : ∀ (d x n L : Nat) (t : Sg), x + d = N → d < n → L ≤ m → t 0 0 = nI N → sRow st N t → (∀ j, j ≤ N → mRow st N m j t) →
    ∃ t', fX11_best_56 n (nI L) (nI x) t K = K t' ∧ mB t t' ∧ t' 17 = t 17 ∧ (∀ j, j < d → t' 19 (x + j) = nI (dlt st N d L j)) ∧ (∀ j, j < x → t' 19 j = t 19 j) := by
  intro d
  induction d with
  | zero =>
    intro x n L t hx hn hL h0 hs hw
    match n, hn with
    | n + 1, _ =>
      rw [fX11_best_56, h0, if_pos ((nI_leN (by omega) (by omega)).mpr (by omega))]
      exact ⟨t, rfl, mB_rf, rfl, fun j hj => absurd hj (by omega), fun _ _ => rfl⟩
  | succ d ih =>
    intro x n L t hx hn hL h0 hs hw
    match n, hn with
    | n + 1, hn =>
      have hsh := shr_le (st := st) (N := N) (d := d) (L := L)
      rw [fX11_best_56, h0, if_neg (by rw [nI_leN (by omega) (by omega)]; omega), show (100 : Int32) = nI 100 from rfl, pk_mul]
      simp only [gLet, nI_1]
      rw [nI_add]
      have hgN : shr st N d L < gN := by unfold gN; omega
      generalize gN = qN at hgN ⊢
      have ch := fun K => m_chLp hst hN (x := x) (d := d) (L := L) (by omega) hm hL hs hw K (shr st N d L) 0 qN (by omega) hgN
      rw [show (0 : Int32) = nI 0 from rfl, ch, gWr_n (by omega) (by decide), pk_sub hsh.1]
      obtain ⟨t2, k1, k2, k3, k4, k5⟩ := ih (x + 1) n (L - shr st N d L) (setC t 19 (upd (t 19) x (nI (shr st N d L)))) (by omega) (by omega) (by omega) (by rw [setC_n (by decide)]; exact h0) (fun j e h1 h2 => by rw [setC_n (by decide)]; exact hs j e h1 h2) (fun j h q hq => by rw [setC_n (by decide), setC_n (by decide)]; exact hw j h q hq)
      refine ⟨t2, k1, mB_tr (mB_set (by omega)) k2, by rw [k3, setC_n (by decide)], fun j hj => ?_, fun j hj => by rw [k5 j (by omega), setC_s, upd_n (by omega)]⟩
      match j with
      | 0 => rw [k5 (x + 0) (by omega), setC_s]; exact upd_s
      | j + 1 => rw [show x + (j + 1) = x + 1 + j by omega, k4 j (by omega)]; rfl
theorem al_best {P : Pl} {h : Int32} {S : Sd} {u : Nat} {U : Nat → Sd} {v : Nat} {V : Nat → Sd} {g t : Sg} (R : Rl P h S u U v V g t) (a b c : Int32) : alike (fX10_best g a b c) (fX11_best t a b c) := by
  have R' := R
  obtain ⟨⟨hp, -, vS, -⟩, ⟨hP, -⟩, ⟨hM, -⟩, hc, hm, -⟩ := R
  have h9 := hp.2.2.2.1
  have h1s := hp.2.2.1
  unfold fX10_best fX11_best
  rw [show (-1 : Int64) = (-1 : Int32).toInt64 from rfl, show (0 : Int64) = (0 : Int32).toInt64 from rfl, show (1 : Int64) = (1 : Int32).toInt64 from rfl, show (99 : Int64) = (99 : Int32).toInt64 from rfl, show (20 : Int64) = (20 : Int32).toInt64 from rfl]
  simp only [gLet]
  rcases rng_c g t a 0 99 with ⟨d1, d2, d3⟩ | ⟨d1, d2⟩
  · rw [d1, d2, gCl_s, gCl_s, if_pos rfl, if_neg one_ne]
    rcases rng_c g t b 1 20 with ⟨e1, e2, e3⟩ | ⟨e1, e2⟩
    · rw [e1, e2, gCl_s, gCl_s, if_pos rfl, if_neg one_ne, hM.1, sub1 h1s, m_rng, gCl_s]
      have d3' : 0 ≤ a.toInt ∧ a.toInt ≤ 99 := by
        simp only [lt_tI, t0, show (99 : Int32).toInt = 99 from rfl] at d3
        omega
      have e3' : 1 ≤ b.toInt ∧ b.toInt ≤ 20 := by
        simp only [lt_tI, t1, t20] at e3
        omega
      obtain ⟨m, rfl, hmI⟩ := nI_ex (x := a) (by omega)
      obtain ⟨n, rfl, hn⟩ := nI_ex (x := b) (by omega)
      obtain ⟨g1, p1, p2, p3, p4⟩ := f_dealOut hp hP hc (m := m) (n0 := n) (by omega) (by omega)
      obtain ⟨t1, q1, q2, q3, q4⟩ := m_keepsBy hp hM hm vS (m := m) (n0 := n) (by omega) (by omega)
      have r := fun K => m_dlLp (stN_b hp (S := S) (n := n)) h9 (m := m) (by omega) K (pS P) 0 gN m t1 (by omega) (by unfold gN; omega) (Nat.le_refl _) (mB_plan q2 hM).1 q3 q4
      by_cases z : c = -1
      · subst z
        rw [if_pos rfl, p1, gCv_s, if_pos rfl, bI_t (by rw [lt_tI, lt_tI, tI_nI (by omega), show (-1 : Int32).toInt = -1 from rfl]; omega), if_neg one_ne, q1, gCv_s]
        obtain ⟨t2, r1, r2, r3, r4, r5⟩ := r _
        rw [show (0 : Int32) = nI 0 from rfl, r1, if_neg (by decide), gRd_n (by omega) (by decide), r3]
        have q5 := (q4 0 (Nat.zero_le _) m (Nat.le_refl _)).1
        rw [Nat.mul_zero, Nat.zero_add, Nat.sub_zero] at q5
        rw [q5, p3]
        exact alike_q R' rfl rfl (fB_q p2) (mB_q (mB_tr q2 r2))
      · rw [if_neg z]
        rcases f_noStep hp hP c with ⟨x, hx, rfl, e⟩ | ⟨hn', e⟩
        · rw [e, gCl_s, if_pos rfl, p1, gCv_s, if_neg z, gRd_n (by omega) (by decide), bI_t (by rw [lt_tI, lt_tI, tI_nI (by omega), tI_nI (by omega), show (-1 : Int32).toInt = -1 from rfl]; omega), if_neg one_ne, q1, gCv_s]
          obtain ⟨t2, r1, r2, r3, r4, r5⟩ := r _
          rw [show (0 : Int32) = nI 0 from rfl, r1, if_pos (nI_le (Nat.zero_le _) (by omega)), gRd_n (by omega) (by decide), p4 x hx]
          have r6 := r4 x hx
          rw [Nat.zero_add] at r6
          rw [r6]
          exact alike_q R' rfl rfl (fB_q p2) (mB_q (mB_tr q2 r2))
        · rw [e, gCl_s, if_neg one_ne, bI_f (by
            intro hh
            simp only [lt_tI, tI_nI (show pS P - 1 < 2147483648 by omega), show (-1 : Int32).toInt = -1 from rfl] at hh
            have z2 : c.toInt ≠ -1 := fun h => z (eq_tI.mpr h)
            exact hn' ⟨c.toInt.toNat, by omega, nI_tI (by omega)⟩), if_pos rfl]
          exact alike_q R' rfl rfl fQ_rf mQ_rf
    · rw [e1, e2, gCl_s, gCl_s, if_neg one_ne, if_pos rfl]
      exact alike_q R' rfl rfl fQ_rf mQ_rf
  · rw [d1, d2, gCl_s, gCl_s, if_neg one_ne, if_pos rfl]
    exact alike_q R' rfl rfl fQ_rf mQ_rf
