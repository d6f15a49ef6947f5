/-! ===== how most are kept, by the reference ===== -/
def mB (t t' : Sg) : Prop := (∀ k : Nat, k ≠ 10 → k ≠ 14 → k ≠ 16 → k ≠ 17 → k ≠ 18 → k ≠ 19 → t' k = t k) ∧ ∀ j : Nat, j < 308 → t' 10 j = t 10 j
theorem mB_rf {t : Sg} : mB t t := ⟨fun _ _ _ _ _ _ _ => rfl, fun _ _ => rfl⟩
theorem mB_tr {t t1 t2 : Sg} (a : mB t t1) (b : mB t1 t2) : mB t t2 := ⟨fun k h1 h2 h3 h4 h5 h6 => (b.1 k h1 h2 h3 h4 h5 h6).trans (a.1 k h1 h2 h3 h4 h5 h6), fun j h => (b.2 j h).trans (a.2 j h)⟩
theorem mB_T {t t' : Sg} (a : mT t t') : mB t t' := ⟨fun k h1 h2 _ _ _ _ => a.1 k h1 h2, a.2⟩
theorem mB_q {t t' : Sg} (a : mB t t') : mQ t t' := ⟨fun k h => a.1 k (by omega) (by omega) (by omega) (by omega) (by omega) (by omega), a.2, fun j _ => by rw [a.1 0 (by decide) (by decide) (by decide) (by decide) (by decide) (by decide)]⟩
theorem mB_plan {P : Pl} {t t' : Sg} (a : mB t t') (h : mPlan P t) : mPlan P t' := mQ_plan (mB_q a) h
theorem mB_now {S : Sd} {t t' : Sg} (a : mB t t') (h : mSt t 0 S) : mSt t' 0 S := mQ_now (mB_q a) h
theorem mB_set {t : Sg} {k : Nat} {f : Nat → Int32} (h : 16 ≤ k ∧ k ≤ 19) : mB t (setC t k f) := ⟨fun j _ _ _ _ _ _ => setC_n (by omega), fun j _ => by rw [setC_n (by omega)]⟩
def sRow (st : Nat → Nat → Nat) (N : Nat) (t : Sg) : Prop := ∀ j e, j < N → e ≤ 9 → t 16 (10 * j + e) = nI (st j e)
def mRow (st : Nat → Nat → Nat) (N m x : Nat) (t : Sg) : Prop := ∀ L, L ≤ m → t 17 (100 * x + L) = nI (VV st N (N - x) L).1 ∧ t 18 (100 * x + L) = nI (VV st N (N - x) L).2
theorem m_stLp {P : Pl} (hp : pOk P) {n0 : Nat} (hn0 : n0 ≤ 900) {S : Sd} (vS : vSt P S) (K : Sg → Option Sg) : ∀ (d i n : Nat) (t : Sg), i + d = 10 * pS P → d < n → mPlan P t → mSt t 0 S → (∀ j e, j < pS P → e ≤ 9 → 10 * j + e < i → t 16 (10 * j + e) = nI (stN P S n0 j e)) →
    ∃ t', fX11_keepsBy_2 (nI n0) n (nI i) t K = K t' ∧ mB t t' ∧ sRow (stN P S n0) (pS P) t' := by
  have h9 := hp.2.2.2.1
  intro d
  induction d with
  | zero =>
    intro i n t hi hn hP hm h1
    match n, hn with
    | n + 1, _ =>
      rw [fX11_keepsBy_2, hP.1, show (10 : Int32) = nI 10 from rfl, pk_mul, if_pos ((nI_leN (by omega) (by omega)).mpr (by omega))]
      exact ⟨t, rfl, mB_rf, fun j e a b => h1 j e a b (by omega)⟩
  | succ d ih =>
    intro i n t hi hn hP hm h1
    match n, hn with
    | n + 1, hn =>
      obtain ⟨t1, e1, e2⟩ := m_staysAt hp hP (x := i / 10) (n := n0) (m := i % 10) (by omega) hn0 (by omega) hm vS
      rw [fX11_keepsBy_2, hP.1, show (10 : Int32) = nI 10 from rfl, pk_mul, if_neg (by rw [nI_leN (by omega) (by omega)]; omega), pk_rem (by omega) (by decide) (by decide), pk_div (by omega) (by decide) (by decide), e1, gCl_s, m_bits, gCl_s, gWr_n (by omega) (by decide), (stN_e hp (by omega)).1]
      simp only [gLet, nI_1]
      have w1 : mB t (setC t1 16 (upd (t1 16) i (nI (stN P S n0 (i / 10) (i % 10))))) := mB_tr (mB_T e2) (mB_set (by omega))
      obtain ⟨t2, k1, k2, k3⟩ := ih (i + 1) n _ (by omega) (by omega) (mB_plan w1 hP) (mB_now w1 hm) (fun j e a b c => by
        rw [setC_s]
        by_cases z : 10 * j + e = i
        · rw [z, upd_s, show i / 10 = j by omega, show i % 10 = e by omega]
        · rw [upd_n z, e2.1 16 (by decide) (by decide)]; exact h1 j e a b (by omega))
      exact ⟨t2, k1, mB_tr w1 k2, k3⟩
theorem m_kzLp {N m : Nat} (hN : N ≤ 9) (hm : m ≤ 99) (K : Sg → Option Sg) : ∀ (d i n : Nat) (t : Sg), i + d = m + 1 → d < n → t 0 0 = nI N → (∀ j, j < i → t 17 (100 * N + j) = 0 ∧ t 18 (100 * N + j) = 0) →
    ∃ t', fX11_keepsBy_43 (nI m) n (nI i) t K = K t' ∧ mB t t' ∧ t' 16 = t 16 ∧ (∀ j, j ≤ m → t' 17 (100 * N + j) = 0 ∧ t' 18 (100 * N + j) = 0) := by
  intro d
  induction d with
  | zero =>
    intro i n t hi hn h0 h1
    match n, hn with
    | n + 1, _ =>
      rw [fX11_keepsBy_43, if_pos (by rw [nI_ltN (by omega) (by omega)]; omega)]
      exact ⟨t, rfl, mB_rf, rfl, fun j a => h1 j (by omega)⟩
  | succ d ih =>
    intro i n t hi hn h0 h1
    match n, hn with
    | n + 1, hn =>
      rw [fX11_keepsBy_43, if_neg (by rw [nI_ltN (by omega) (by omega)]; omega), h0, show (100 : Int32) = nI 100 from rfl, pk_mul, nI_add, gWr_n (by omega) (by decide), setC_n (by decide), h0, pk_mul, nI_add, gWr_n (by omega) (by decide), setC_n (show 18 ≠ 17 by decide)]
      simp only [gLet, nI_1]
      have w1 : mB t (setC (setC t 17 (upd (t 17) (100 * N + i) 0)) 18 (upd (t 18) (100 * N + i) 0)) := mB_tr (mB_set (by omega)) (mB_set (by omega))
      obtain ⟨t2, k1, k2, k3, k4⟩ := ih (i + 1) n (setC (setC t 17 (upd (t 17) (100 * N + i) 0)) 18 (upd (t 18) (100 * N + i) 0)) (by omega) (by omega) (by rw [setC_n (by decide), setC_n (by decide)]; exact h0) (fun j hj => by
        rw [setC_n (by decide), setC_s, setC_s]
        by_cases z : j = i
        · rw [z, upd_s, upd_s]; exact ⟨rfl, rfl⟩
        · rw [upd_n (by omega), upd_n (by omega)]; exact h1 j (by omega))
      exact ⟨t2, k1, mB_tr w1 k2, by rw [k3, setC_n (by decide), setC_n (by decide)], k4⟩
/-- one share tried -/
theorem m_kbSt {st : Nat → Nat → Nat} (hst : ∀ x e, st x e ≤ 9) {N m x d L v : Nat} (hN : N ≤ 9) (hx : x + (d + 1) = N) (hm : m ≤ 99) (hL : L ≤ m) (hv : v ≤ mn9 L) {t : Sg} (hs : sRow st N t) (hw : mRow st N m (x + 1) t) (K : Sg → Option Sg) (n : Nat) (c : Prop) [Decidable c] (hc : c ↔ (t 17 (100 * x + L) < nI (vA st x (VV st N d) L v) ∨ (nI (vA st x (VV st N d) L v) = t 17 (100 * x + L) ∧ ¬ t 18 (100 * x + L) ≤ nI (vB (VV st N d) L v)))) :
    fX11_keepsBy_124 (nI x) (nI L) (nI (100 * x + L)) (n + 1) (nI v) t K = fX11_keepsBy_124 (nI x) (nI L) (nI (100 * x + L)) n (nI (v + 1)) (setC (setC t 18 (upd (t 18) (100 * x + L) (if c then nI (vB (VV st N d) L v) else t 18 (100 * x + L)))) 17 (upd (t 17) (100 * x + L) (if c then nI (vA st x (VV st N d) L v) else t 17 (100 * x + L)))) K := by
  have hmn := mn9_le L
  rw [fX11_keepsBy_124, m_smaller, gCl_s, show (9 : Int32) = nI 9 from rfl]
  have e9 : (if nI 9 < nI L then nI 9 else nI L) = nI (mn9 L) := by
    unfold mn9
    by_cases z : 9 < L
    · rw [if_pos ((nI_ltN (by omega) (by omega)).mpr z), if_neg (by omega)]
    · rw [if_neg (by rw [nI_ltN (by omega) (by omega)]; exact z)]
      split
      · rfl
      · rw [show L = 9 by omega]
  rw [e9, if_neg (by rw [nI_ltN (by omega) (by omega)]; omega)]
  simp only [gLet]
  rw [show (100 : Int32) = nI 100 from rfl, show (10 : Int32) = nI 10 from rfl, nI_add, pk_sub (by omega), pk_mul, nI_add, gRd_n (by omega) (by decide), hs x v (by omega) (by omega), gRd_n (by omega) (by decide), show 100 * x + L + 100 - v = 100 * (x + 1) + (L - v) by omega, (hw (L - v) (by omega)).1, gRd_n (by omega) (by decide), (hw (L - v) (by omega)).2, gRd_n (by omega) (by decide), show N - (x + 1) = d by omega, nI_add, nI_add, nI_1]
  rw [show st x v + (VV st N d (L - v)).1 = vA st x (VV st N d) L v from rfl, show v + (VV st N d (L - v)).2 = vB (VV st N d) L v from rfl]
  have k17 : (setC t 18 (upd (t 18) (100 * x + L) (nI (vB (VV st N d) L v)))) 17 = t 17 := setC_n (by decide)
  have k17' : (setC t 18 (upd (t 18) (100 * x + L) (t 18 (100 * x + L)))) 17 = t 17 := setC_n (by decide)
  by_cases z1 : t 17 (100 * x + L) < nI (vA st x (VV st N d) L v)
  · have cc : c := hc.mpr (Or.inl z1)
    rw [if_pos z1, if_pos cc, if_pos cc]
    simp only [if_neg one_ne]
    rw [gWr_n (by omega) (by decide), gWr_n (by omega) (by decide), k17]
  · rw [if_neg z1, gRd_n (by omega) (by decide)]
    by_cases z2 : nI (vA st x (VV st N d) L v) = t 17 (100 * x + L)
    · rw [if_pos z2, gRd_n (by omega) (by decide)]
      by_cases z3 : t 18 (100 * x + L) ≤ nI (vB (VV st N d) L v)
      · have cc : ¬ c := fun h => (hc.mp h).elim z1 (fun h => h.2 z3)
        rw [if_pos z3, if_neg cc, if_neg cc]
        simp only [if_pos]
        rw [gRd_n (by omega) (by decide), gWr_n (by omega) (by decide), gRd_n (by omega) (by decide), k17', gWr_n (by omega) (by decide), k17']
      · have cc : c := hc.mpr (Or.inr ⟨z2, z3⟩)
        rw [if_neg z3, if_pos cc, if_pos cc]
        simp only [if_neg one_ne]
        rw [gWr_n (by omega) (by decide), gWr_n (by omega) (by decide), k17]
    · have cc : ¬ c := fun h => (hc.mp h).elim z1 (fun h => z2 h.1)
      rw [if_neg z2, if_neg cc, if_neg cc]
      simp only [if_pos]
      rw [gRd_n (by omega) (by decide), gWr_n (by omega) (by decide), gRd_n (by omega) (by decide), k17', gWr_n (by omega) (by decide), k17']
/-- two cells of the reference put anew at a place -/
def put2 (t : Sg) (k : Nat) (a b : Int32) : Sg := setC (setC t 18 (upd (t 18) k b)) 17 (upd (t 17) k a)
theorem put2_17 {t : Sg} {k : Nat} {a b : Int32} : put2 t k a b 17 = upd (t 17) k a := by unfold put2; rw [setC_s]
theorem put2_18 {t : Sg} {k : Nat} {a b : Int32} : put2 t k a b 18 = upd (t 18) k b := by unfold put2; rw [setC_n (by decide), setC_s]
theorem put2_n {t : Sg} {k j : Nat} {a b : Int32} (h1 : j ≠ 17) (h2 : j ≠ 18) : put2 t k a b j = t j := by unfold put2; rw [setC_n h1, setC_n h2]
theorem put2_B {t : Sg} {k : Nat} {a b : Int32} : mB t (put2 t k a b) := mB_tr (mB_set (by omega)) (mB_set (by omega))
theorem mRow_put2 {st : Nat → Nat → Nat} {N m x x' L : Nat} {t : Sg} {a b : Int32} (hm : m ≤ 99) (hL : L ≤ 99) (hx : x' ≠ x) (h : mRow st N m x' t) : mRow st N m x' (put2 t (100 * x + L) a b) := by
  intro q hq
  rw [put2_17, put2_18, upd_n (by omega), upd_n (by omega)]
  exact h q hq
theorem sRow_put2 {st : Nat → Nat → Nat} {N k : Nat} {t : Sg} {a b : Int32} (h : sRow st N t) : sRow st N (put2 t k a b) := by
  intro j e h1 h2
  rw [put2_n (by decide) (by decide)]
  exact h j e h1 h2
theorem m_kbLp {st : Nat → Nat → Nat} (hst : ∀ x e, st x e ≤ 9) {N m x d L : Nat} (hN : N ≤ 9) (hx : x + (d + 1) = N) (hm : m ≤ 99) (hL : L ≤ m) (K : Sg → Option Sg) : ∀ (q v n : Nat) (t : Sg), v + q = mn9 L → q < n → sRow st N t → mRow st N m (x + 1) t → t 17 (100 * x + L) = nI (vA st x (VV st N d) L (bs (vA st x (VV st N d) L) (vB (VV st N d) L) v)) → t 18 (100 * x + L) = nI (vB (VV st N d) L (bs (vA st x (VV st N d) L) (vB (VV st N d) L) v)) →
    ∃ t', fX11_keepsBy_124 (nI x) (nI L) (nI (100 * x + L)) n (nI (v + 1)) t K = K t' ∧ mB t t' ∧ t' 16 = t 16 ∧ (∀ j, j ≠ 100 * x + L → t' 17 j = t 17 j ∧ t' 18 j = t 18 j) ∧ t' 17 (100 * x + L) = nI (VV st N (d + 1) L).1 ∧ t' 18 (100 * x + L) = nI (VV st N (d + 1) L).2 := by
  have hmn := mn9_le L
  intro q
  induction q with
  | zero =>
    intro v n t hv hn hs hw h17 h18
    match n, hn with
    | n + 1, _ =>
      have hv : v = mn9 L := by omega
      rw [fX11_keepsBy_124, m_smaller, gCl_s, show (9 : Int32) = nI 9 from rfl, if_pos (by
        split
        · rw [nI_ltN (by omega) (by omega)]; unfold mn9 at hv; split at hv <;> rename_i h1 h2 <;> rw [nI_ltN (by omega) (by omega)] at h1 <;> omega
        · rw [nI_ltN (by omega) (by omega)]; unfold mn9 at hv; split at hv <;> rename_i h1 h2 <;> rw [nI_ltN (by omega) (by omega)] at h1 <;> omega)]
      rw [VV_s]
      unfold shr
      rw [show N - (d + 1) = x by omega, ← hv]
      exact ⟨t, rfl, mB_rf, rfl, fun _ _ => ⟨rfl, rfl⟩, h17, h18⟩
  | succ q ih =>
    intro v n t hv hn hs hw h17 h18
    match n, hn with
    | n + 1, hn =>
      have hb := bs_le (vA st x (VV st N d) L) (vB (VV st N d) L) v
      have bb : ∀ w, w ≤ 9 → w ≤ L → vA st x (VV st N d) L w ≤ 200 ∧ vB (VV st N d) L w ≤ 99 := by
        intro w h1 h2
        have b := VV_b (N := N) hst d (L - w)
        have b2 := hst x w
        unfold vA vB
        omega
      have b1 := bb (v + 1) (by omega) (by omega)
      have b2 := bb (bs (vA st x (VV st N d) L) (vB (VV st N d) L) v) (by omega) (by omega)
      rw [m_kbSt hst hN hx hm hL (v := v + 1) (by omega) hs hw K n (btr (vA st x (VV st N d) L (bs (vA st x (VV st N d) L) (vB (VV st N d) L) v)) (vB (VV st N d) L (bs (vA st x (VV st N d) L) (vB (VV st N d) L) v)) (vA st x (VV st N d) L (v + 1)) (vB (VV st N d) L (v + 1))) (by
        rw [h17, h18, nI_ltN (by omega) (by omega), nI_inj (by omega) (by omega), nI_leN (by omega) (by omega)]
        unfold btr
        omega)]
      obtain ⟨t2, k1, k2, k3, k4, k5, k6⟩ := ih (v + 1) n (put2 t (100 * x + L) (if btr (vA st x (VV st N d) L (bs (vA st x (VV st N d) L) (vB (VV st N d) L) v)) (vB (VV st N d) L (bs (vA st x (VV st N d) L) (vB (VV st N d) L) v)) (vA st x (VV st N d) L (v + 1)) (vB (VV st N d) L (v + 1)) then nI (vA st x (VV st N d) L (v + 1)) else t 17 (100 * x + L)) (if btr (vA st x (VV st N d) L (bs (vA st x (VV st N d) L) (vB (VV st N d) L) v)) (vB (VV st N d) L (bs (vA st x (VV st N d) L) (vB (VV st N d) L) v)) (vA st x (VV st N d) L (v + 1)) (vB (VV st N d) L (v + 1)) then nI (vB (VV st N d) L (v + 1)) else t 18 (100 * x + L))) (by omega) (by omega) (sRow_put2 hs) (mRow_put2 hm (by omega) (by omega) hw) (by
          rw [put2_17, upd_s, h17, bs]
          split <;> rfl) (by
          rw [put2_18, upd_s, h18, bs]
          split <;> rfl)
      exact ⟨t2, k1, mB_tr put2_B k2, by rw [k3, put2_n (by decide) (by decide)], fun j hj => ⟨by rw [(k4 j hj).1, put2_17, upd_n hj], by rw [(k4 j hj).2, put2_18, upd_n hj]⟩, k5, k6⟩
