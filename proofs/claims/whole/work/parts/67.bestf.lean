/-! ===== how most are kept, by the class ===== -/
def fB (g g' : Sg) : Prop := ∀ k : Nat, k ≠ 73 → k < 82 ∨ 107 < k → g' k = g k
theorem fB_rf {g : Sg} : fB g g := fun _ _ _ => rfl
theorem fB_tr {g g1 g2 : Sg} (a : fB g g1) (b : fB g1 g2) : fB g g2 := fun k h1 h2 => (b k h1 h2).trans (a k h1 h2)
theorem fB_q {g g' : Sg} (a : fB g g') : fQ g g' := ⟨fun k h => a k (fun e => h (by unfold scC; omega)) (by unfold scC at h; omega), by rw [a 148 (by decide) (by decide)], by rw [a 149 (by decide) (by decide)]⟩
theorem fB_plan {P : Pl} {g g' : Sg} (a : fB g g') (h : cPlan P g) : cPlan P g' := cPlan_eq (fun k h1 h2 => a k (by omega) (by omega)) h
theorem fB_set {g : Sg} {k : Nat} {f : Nat → Int32} (h1 : 82 ≤ k) (h2 : k ≤ 107) : fB g (setC g k f) := fun j _ hj => setC_n (by omega)
theorem f_sbIn {P : Pl} (hp : pOk P) {x n0 : Nat} (hx : x < 9) (hn0 : n0 ≤ 900) (e : Int32) (K : Sg → Option Sg) : ∀ (d i n : Nat) (g : Sg) (T : Sd), i + d = n0 → d < n → cPlan P g → cSt g 83 T → ∃ g', fX6_stayBy_26 e (nI n0) (nI x) n (nI i) g K = K g' ∧ (∀ k, k ≠ 73 → k < 83 ∨ 87 ≤ k → g' k = g k) ∧ cSt g' 83 (itE P x e d T) := by
  intro d
  induction d with
  | zero =>
    intro i n g T hi hn hP hc
    match n, hn with
    | n + 1, _ =>
      rw [fX6_stayBy_26, if_pos ((nI_leN (by omega) (by omega)).mpr (by omega))]
      exact ⟨g, rfl, fun _ _ _ => rfl, hc⟩
  | succ d ih =>
    intro i n g T hi hn hP hc
    match n, hn with
    | n + 1, hn =>
      obtain ⟨r, g1, e1, e2, e3⟩ := f_stepE hp hP (s := 83) (by unfold oSt; omega) hx e hc
      obtain ⟨g2, k1, k2, k3⟩ := ih (i + 1) n g1 (stepE P x e T) (by omega) (by omega) (cPlan_eq (fun k h1 h2 => e3 k (by omega) (by omega)) hP) e2
      rw [fX6_stayBy_26, if_neg (by rw [nI_leN (by omega) (by omega)]; omega), e1, gCl_s]
      simp only [gLet, nI_1]
      exact ⟨g2, k1, fun k h1 h2 => (k2 k h1 h2).trans (e3 k h1 h2), k3⟩
theorem f_sbLp {P : Pl} (hp : pOk P) {n0 e : Nat} (hn0 : n0 ≤ 900) (he : e ≤ 9) {S : Sd} : ∀ (d x n : Nat) (g : Sg) (T : Sd), x + d = pS P → d < n → cPlan P g → cSt g 83 T → (∀ y, y < pC P → x ≤ pA P y → T y = S y) → T 8 = S 8 → (∀ j, j < 9 → T (18 + j) = S (18 + j)) →
    ∃ g', fX6_stayBy_11 (nI e) (nI n0) n (nI x) g = some g' ∧ (∀ k, k ≠ 73 → k < 83 ∨ 97 ≤ k → g' k = g k) ∧ (∀ j, x ≤ j → j < pS P → g' (88 + j) e = nI (stN P S n0 j e)) ∧ (∀ k j, 88 ≤ k → k ≤ 96 → j ≠ e ∨ k < 88 + x → g' k j = g k j) := by
  have h8 := hp.2.1
  have h9 := hp.2.2.2.1
  intro d
  induction d with
  | zero =>
    intro x n g T hx hn hP hc h1 h2 h3
    match n, hn with
    | n + 1, _ =>
      rw [fX6_stayBy_11, hP.2.1, if_pos ((nI_leN (by omega) (by omega)).mpr (by omega))]
      exact ⟨g, rfl, fun _ _ _ => rfl, fun j a b => absurd b (by omega), fun _ _ _ _ _ => rfl⟩
  | succ d ih =>
    intro x n g T hx hn hP hc h1 h2 h3
    match n, hn with
    | n + 1, hn =>
      have lp := fun K => f_sbIn hp (x := x) (by omega) hn0 (nI e) K n0 0 gN g T (by omega) (by unfold gN; omega) hP hc
      obtain ⟨g1, a1, a2, a3⟩ := lp _
      have hP1 : cPlan P g1 := cPlan_eq (fun k h1 h2 => a2 k (by omega) (by omega)) hP
      have hrel : relE P x (nI e) T (upd S (9 + x) (nI e)) := by
        refine ⟨fun y hy => ?_, ?_, upd_s, ?_⟩
        · have hy' := (tl_mem hp).mp hy
          rw [upd_n (by omega)]
          exact h1 y hy'.1 (by omega)
        · rw [upd_n (by omega)]; exact h2
        · rw [upd_n (by omega)]; exact h3 x (by omega)
      have hst : thrL (g1 (83 + 3)) (tl P x) 0 = stay P S x n0 e := by
        unfold stay
        refine thrL_congr _ _ (fun y hy => ?_)
        have hy' := (tl_mem hp).mp hy
        rw [a3.1 y (by omega)]
        exact (relE_it hp (by omega) n0 _ _ hrel).1 y hy
      rw [fX6_stayBy_11, hP.2.1, if_neg (by rw [nI_leN (by omega) (by omega)]; omega), show (0 : Int32) = nI 0 from rfl, a1, gIx_n (by omega) (by decide), f_notGoneAt hp hP1 (by omega), hst, gCl_s, f_bitCount, gCl_s, gWr_n (by omega) (by decide), (stN_e hp he).2, show 88 + 1 * x = 88 + x by omega]
      simp only [gLet, nI_1]
      obtain ⟨g2, k1, k2, k3, k4⟩ := ih (x + 1) n (setC g1 (88 + x) (upd (g1 (88 + x)) e (nI (stN P S n0 x e)))) (itE P x (nI e) n0 T) (by omega) (by omega) (cPlan_set (by omega) hP1) (cSt_eq (fun k b1 b2 => setC_n (by omega)) a3) (fun y hy hA => by
        rw [itE_out n0 T y (Or.inr (fun hm => by have := ((tl_mem hp).mp hm).2; omega))]
        exact h1 y hy (by omega)) (by rw [itE_out n0 T 8 (Or.inl (by omega))]; exact h2) (fun j hj => by rw [itE_out n0 T _ (Or.inl (by omega))]; exact h3 j hj)
      refine ⟨g2, k1, fun k b1 b2 => by rw [k2 k b1 b2, setC_n (by omega), a2 k b1 (by omega)], fun j b1 b2 => ?_, fun k j b1 b2 b3 => ?_⟩
      · by_cases z : j = x
        · subst z
          rw [k4 (88 + j) e (by omega) (by omega) (Or.inr (by omega)), setC_s, upd_s]
        · exact k3 j (by omega) b2
      · rw [k4 k j b1 b2 (by omega)]
        by_cases z : k = 88 + x
        · rw [z, setC_s, upd_n (by omega), a2 (88 + x) (by omega) (by omega)]
        · rw [setC_n z, a2 k (by omega) (by omega)]
theorem f_stayBy {P : Pl} (hp : pOk P) {g : Sg} (hP : cPlan P g) {n0 e : Nat} (hn0 : n0 ≤ 900) (he : e ≤ 9) {S : Sd} (hc : cSt g 24 S) : ∃ g', fX6_stayBy g (nI e) (nI n0) = some g' ∧ (∀ k, k ≠ 73 → k < 83 ∨ 97 ≤ k → g' k = g k) ∧ (∀ j, j < pS P → g' (88 + j) e = nI (stN P S n0 j e)) ∧ (∀ k j, 88 ≤ k → k ≤ 96 → j ≠ e → g' k j = g k j) := by
  obtain ⟨g1, e1, e2, e3⟩ := f_become (s := 24) (t := 83) (by omega) g
  unfold fX6_stayBy
  rw [e1, gCv_s, show (0 : Int32) = nI 0 from rfl]
  obtain ⟨g2, k1, k2, k3, k4⟩ := f_sbLp hp hn0 he (S := S) (pS P) 0 gN g1 S (by omega) (by have := hp.2.2.2.1; unfold gN; omega) (cPlan_eq (fun k h1 h2 => e2 k (by omega)) hP) (e3 S hc) (fun _ _ _ => rfl) rfl (fun _ _ => rfl)
  refine ⟨g2, k1, fun k b1 b2 => by rw [k2 k b1 b2, e2 k (by omega)], fun j b => k3 j (Nat.zero_le _) b, fun k j b1 b2 b3 => by rw [k4 k j b1 b2 (Or.inl b3), e2 k (by omega)]⟩
theorem f_dsLp {P : Pl} (hp : pOk P) {n0 : Nat} (hn0 : n0 ≤ 900) {S : Sd} (K : Sg → Option Sg) : ∀ (d i n : Nat) (g : Sg), i + d = 10 → d < n → cPlan P g → cSt g 24 S → (∀ j e, j < pS P → e < i → g (88 + j) e = nI (stN P S n0 j e)) →
    ∃ g', fX6_dealOut_3 (nI n0) n (nI i) g K = K g' ∧ fB g g' ∧ (∀ j e, j < pS P → e ≤ 9 → g' (88 + j) e = nI (stN P S n0 j e)) := by
  have h9 := hp.2.2.2.1
  intro d
  induction d with
  | zero =>
    intro i n g hi hn hP hc h1
    match n, hn with
    | n + 1, _ =>
      rw [fX6_dealOut_3, if_pos (by rw [show (9 : Int32) = nI 9 from rfl, nI_ltN (by omega) (by omega)]; omega)]
      exact ⟨g, rfl, fun _ _ _ => rfl, fun j e a b => h1 j e a (by omega)⟩
  | succ d ih =>
    intro i n g hi hn hP hc h1
    match n, hn with
    | n + 1, hn =>
      obtain ⟨g1, e1, e2, e3, e4⟩ := f_stayBy hp hP hn0 (e := i) (by omega) hc
      have w1 : fB g g1 := fun k a b => e2 k a (by omega)
      obtain ⟨g2, k1, k2, k3⟩ := ih (i + 1) n g1 (by omega) (by omega) (fB_plan w1 hP) (cSt_eq (fun k a b => e2 k (by omega) (by omega)) hc) (fun j e a b => by
        by_cases z : e = i
        · rw [z]; exact e3 j a
        · rw [e4 (88 + j) e (by omega) (by omega) z]; exact h1 j e a (by omega))
      rw [fX6_dealOut_3, if_neg (by rw [show (9 : Int32) = nI 9 from rfl, nI_ltN (by omega) (by omega)]; omega), e1, gCv_s]
      simp only [gLet, nI_1]
      exact ⟨g2, k1, fB_tr w1 k2, k3⟩
/-- the worth that the class has written down of the steps from one on -/
def wRow (st : Nat → Nat → Nat) (N m x : Nat) (g : Sg) : Prop := ∀ L, L ≤ m → g (98 + x) L = vI (VV st N (N - x) L).1 (VV st N (N - x) L).2
def stRow (st : Nat → Nat → Nat) (N : Nat) (g : Sg) : Prop := ∀ j e, j < N → e ≤ 9 → g (88 + j) e = nI (st j e)
theorem f_worthOf {st : Nat → Nat → Nat} (hst : ∀ x e, st x e ≤ 9) {N m x d L e : Nat} {g : Sg} (hN : N ≤ 9) (h4 : g 4 9 = nI N) (hx : x + (d + 1) = N) (hm : m ≤ 99) (hL : L ≤ m) (heL : e ≤ L) (he : e ≤ 9) (hs : stRow st N g) (hw : x + 1 < N → wRow st N m (x + 1) g) :
    fX6_worthOf g (nI x) (nI L) (nI e) = some (vI (vA st x (VV st N d) L e) (vB (VV st N d) L e), g) := by
  have b := VV_b (N := N) hst d (L - e)
  have b2 := hst x e
  unfold fX6_worthOf
  simp only [gLet, nI_1]
  rw [h4]
  have fin : ∀ z : Int32, z = vI (VV st N d (L - e)).1 (VV st N d (L - e)).2 → gIx (nI x) 9 (fun j4 => gRd (nI e) 10 (g (88 + 1 * j4)) (fun x8 => some (((((100 : Int32) * x8) - nI e) + z), g))) = some (vI (vA st x (VV st N d) L e) (vB (VV st N d) L e), g) := by
    intro z hz
    rw [gIx_n (by omega) (by decide), gRd_n (by omega) (by decide), show 88 + 1 * x = 88 + x by omega, hs x e (by omega) he, hz, vI_add (by omega) (by omega) (by omega) (by omega)]
    rfl
  by_cases z : N ≤ x + 1
  · rw [if_pos ((nI_leN (by omega) (by omega)).mpr z)]
    exact fin _ (by
      have d0 : d = 0 := by omega
      rw [d0]; show (0 : Int32) = vI 0 0; unfold vI; decide)
  · rw [if_neg (by rw [nI_leN (by omega) (by omega)]; exact z), gIx_n (by omega) (by decide), pk_sub heL, gRd_n (by omega) (by decide), show 98 + 1 * (x + 1) = 98 + (x + 1) by omega, hw (by omega) (L - e) (by omega)]
    exact fin _ (by rw [show N - (x + 1) = d by omega])
theorem f_bsLp {st : Nat → Nat → Nat} (hst : ∀ x e, st x e ≤ 9) {N m x d L : Nat} {g : Sg} (hN : N ≤ 9) (h4 : g 4 9 = nI N) (hx : x + (d + 1) = N) (hm : m ≤ 99) (hL : L ≤ m) (hs : stRow st N g) (hw : x + 1 < N → wRow st N m (x + 1) g) : ∀ (q v n : Nat), v + q = mn9 L → q < n →
    fX6_bestShare_14 (nI x) (nI L) n (nI (bs (vA st x (VV st N d) L) (vB (VV st N d) L) v)) (vI (vA st x (VV st N d) L (bs (vA st x (VV st N d) L) (vB (VV st N d) L) v)) (vB (VV st N d) L (bs (vA st x (VV st N d) L) (vB (VV st N d) L) v))) (nI (v + 1)) g = some (nI (bs (vA st x (VV st N d) L) (vB (VV st N d) L) (mn9 L)), g) := by
  have hmn := mn9_le L
  intro q
  induction q with
  | zero =>
    intro v n hv hn
    match n, hn with
    | n + 1, _ =>
      rw [fX6_bestShare_14]
      have hv : v = mn9 L := by omega
      by_cases z : 9 < v + 1
      · rw [if_pos (by rw [show (9 : Int32) = nI 9 from rfl, nI_ltN (by omega) (by omega)]; exact z), hv]
      · rw [if_neg (by rw [show (9 : Int32) = nI 9 from rfl, nI_ltN (by omega) (by omega)]; exact z), if_pos (by rw [nI_ltN (by omega) (by omega)]; unfold mn9 at hv; split at hv <;> omega), hv]
  | succ q ih =>
    intro v n hv hn
    match n, hn with
    | n + 1, hn =>
      have hb := bs_le (vA st x (VV st N d) L) (vB (VV st N d) L) v
      rw [fX6_bestShare_14, if_neg (by rw [show (9 : Int32) = nI 9 from rfl, nI_ltN (by omega) (by omega)]; omega), if_neg (by rw [nI_ltN (by omega) (by omega)]; omega), f_worthOf hst hN h4 hx hm hL (by omega) (by omega) hs hw, gCl_s]
      simp only [gLet, nI_1]
      have bb : ∀ w, w ≤ 9 → w ≤ L → vA st x (VV st N d) L w ≤ 200 ∧ vB (VV st N d) L w ≤ 99 := by
        intro w h1 h2
        have b := VV_b (N := N) hst d (L - w)
        have b2 := hst x w
        unfold vA vB
        omega
      have b1 := bb (v + 1) (by omega) (by omega)
      have b2 := bb (bs (vA st x (VV st N d) L) (vB (VV st N d) L) v) (by omega) (by omega)
      have nx := ih (v + 1) n (by omega) (by omega)
      rw [bs] at nx
      by_cases z : btr (vA st x (VV st N d) L (bs (vA st x (VV st N d) L) (vB (VV st N d) L) v)) (vB (VV st N d) L (bs (vA st x (VV st N d) L) (vB (VV st N d) L) v)) (vA st x (VV st N d) L (v + 1)) (vB (VV st N d) L (v + 1))
      · rw [if_pos z] at nx
        rw [if_neg (by rw [vI_le b2.1 b2.2 b1.1 b1.2]; exact fun h => h z)]
        exact nx
      · rw [if_neg z] at nx
        rw [if_pos (by rw [vI_le b2.1 b2.2 b1.1 b1.2]; exact z)]
        exact nx
theorem f_bestShare {st : Nat → Nat → Nat} (hst : ∀ x e, st x e ≤ 9) {N m x d L : Nat} {g : Sg} (hN : N ≤ 9) (h4 : g 4 9 = nI N) (hx : x + (d + 1) = N) (hm : m ≤ 99) (hL : L ≤ m) (hs : stRow st N g) (hw : x + 1 < N → wRow st N m (x + 1) g) : fX6_bestShare g (nI x) (nI L) = some (nI (shr st N d L), g) := by
  have hmn := mn9_le L
  unfold fX6_bestShare shr
  rw [show (0 : Int32) = nI 0 from rfl, f_worthOf hst hN h4 hx hm hL (by omega) (by omega) hs hw, gCl_s, show N - (d + 1) = x by omega]
  exact f_bsLp hst hN h4 hx hm hL hs hw (mn9 L) 0 gN (by omega) (by unfold gN; omega)
