/-! ===== how most are kept, by the class: dealing out ===== -/
theorem f_doRow {st : Nat → Nat → Nat} (hst : ∀ x e, st x e ≤ 9) {N m x d : Nat} (hN : N ≤ 9) (hx : x + (d + 1) = N) (hx0 : 0 < x) (hm : m ≤ 99) (K : Sg → Option Sg) : ∀ (q L n : Nat) (g : Sg), L + q = m + 1 → q < n → g 4 9 = nI N → stRow st N g → (x + 1 < N → wRow st N m (x + 1) g) → (∀ j, j < L → g (98 + x) j = vI (VV st N (d + 1) j).1 (VV st N (d + 1) j).2) →
    ∃ g', fX6_dealOut_43 (nI m) (nI x) n (nI L) g K = K g' ∧ (∀ k, k ≠ 98 + x → g' k = g k) ∧ wRow st N m x g' := by
  intro q
  induction q with
  | zero =>
    intro L n g hL hn h4 hs hw hr
    match n, hn with
    | n + 1, _ =>
      rw [fX6_dealOut_43, if_pos (by rw [nI_ltN (by omega) (by omega)]; omega)]
      exact ⟨g, rfl, fun _ _ => rfl, fun j hj => by rw [show N - x = d + 1 by omega]; exact hr j (by omega)⟩
  | succ q ih =>
    intro L n g hL hn h4 hs hw hr
    match n, hn with
    | n + 1, hn =>
      have hsh := shr_le (st := st) (N := N) (d := d) (L := L)
      rw [fX6_dealOut_43, if_neg (by rw [nI_ltN (by omega) (by omega)]; omega), gIx_n (by omega) (by decide), f_bestShare hst hN h4 hx hm (by omega) hs hw, gCl_s, f_worthOf hst hN h4 hx hm (by omega) hsh.1 hsh.2 hs hw, gCl_s, gWr_n (by omega) (by decide), show 98 + 1 * x = 98 + x by omega]
      simp only [gLet, nI_1]
      obtain ⟨g2, k1, k2, k3⟩ := ih (L + 1) n (setC g (98 + x) (upd (g (98 + x)) L (vI (vA st x (VV st N d) L (shr st N d L)) (vB (VV st N d) L (shr st N d L))))) (by omega) (by omega) (by rw [setC_n (by omega)]; exact h4) (fun j e h1 h2 => by rw [setC_n (by omega)]; exact hs j e h1 h2) (fun h j hj => by rw [setC_n (by omega)]; exact hw h j hj) (fun j hj => by
        rw [setC_s]
        by_cases z : j = L
        · rw [z, upd_s, VV_s, show N - (d + 1) = x by omega]
        · rw [upd_n z]; exact hr j (by omega))
      exact ⟨g2, k1, fun k hk => by rw [k2 k hk, setC_n hk], k3⟩
theorem f_doLp {st : Nat → Nat → Nat} (hst : ∀ x e, st x e ≤ 9) {N m : Nat} (hN : N ≤ 9) (hm : m ≤ 99) (K : Sg → Option Sg) : ∀ (x n : Nat) (g : Sg), x + 1 ≤ N → x < n → g 4 9 = nI N → stRow st N g → (∀ j, x < j → j < N → wRow st N m j g) →
    ∃ g', fX6_dealOut_35 (nI m) n (nI x) g K = K g' ∧ (∀ k, k < 98 ∨ 106 < k → g' k = g k) ∧ (∀ j, 0 < j → j < N → wRow st N m j g') := by
  intro x
  induction x with
  | zero =>
    intro n g hx hn h4 hs hr
    match n, hn with
    | n + 1, _ =>
      rw [fX6_dealOut_35, if_pos (by rfl)]
      exact ⟨g, rfl, fun _ _ => rfl, hr⟩
  | succ x ih =>
    intro n g hx hn h4 hs hr
    match n, hn with
    | n + 1, hn =>
      rw [fX6_dealOut_35, if_neg (nI_nle (by omega) (by omega))]
      have lp := fun K => f_doRow hst hN (x := x + 1) (d := N - (x + 1) - 1) (by omega) (by omega) hm K (m + 1) 0 gN g (by omega) (by unfold gN; omega) h4 hs (fun h => hr _ (by omega) h) (fun j hj => absurd hj (by omega))
      obtain ⟨g1, a1, a2, a3⟩ := lp _
      rw [show (0 : Int32) = nI 0 from rfl, a1]
      simp only [gLet, pk_m1]
      obtain ⟨g2, k1, k2, k3⟩ := ih n g1 (by omega) (by omega) (by rw [a2 4 (by omega)]; exact h4) (fun j e h1 h2 => by rw [a2 _ (by omega)]; exact hs j e h1 h2) (fun j h1 h2 => by
        by_cases z : j = x + 1
        · rw [z]; exact a3
        · intro L hL
          rw [a2 _ (by omega)]
          exact hr j (by omega) h2 L hL)
      exact ⟨g2, k1, fun k hk => by rw [k2 k hk, a2 k (by omega)], k3⟩
theorem f_dlLp {st : Nat → Nat → Nat} (hst : ∀ x e, st x e ≤ 9) {N m : Nat} (hN : N ≤ 9) (hm : m ≤ 99) : ∀ (d x n L k0 : Nat) (g : Sg), x + d = N → d < n → L ≤ m → g 4 9 = nI N → stRow st N g → (∀ j, 0 < j → j < N → wRow st N m j g) → g 82 6 = nI k0 →
    ∃ g', fX6_deal_9 n (nI L) (nI x) g = some g' ∧ (∀ k, k ≠ 82 → k ≠ 107 → g' k = g k) ∧ g' 82 6 = nI (k0 + (VV st N d L).1) ∧ (∀ j, j < d → g' 107 (x + j) = nI (dlt st N d L j)) ∧ (∀ j, j < x → g' 107 j = g 107 j) := by
  intro d
  induction d with
  | zero =>
    intro x n L k0 g hx hn hL h4 hs hr hk
    match n, hn with
    | n + 1, _ =>
      rw [fX6_deal_9, h4, if_pos ((nI_leN (by omega) (by omega)).mpr (by omega))]
      exact ⟨g, rfl, fun _ _ _ => rfl, hk, fun j hj => absurd hj (by omega), fun _ _ => rfl⟩
  | succ d ih =>
    intro x n L k0 g hx hn hL h4 hs hr hk
    match n, hn with
    | n + 1, hn =>
      have hsh := shr_le (st := st) (N := N) (d := d) (L := L)
      rw [fX6_deal_9, h4, if_neg (by rw [nI_leN (by omega) (by omega)]; omega), f_bestShare hst hN h4 (d := d) (by omega) hm hL hs (fun h => hr _ (by omega) h), gCl_s, gWr_n (by omega) (by decide), gRd_n (by omega) (by decide), setC_s, upd_s]
      simp only [gLet]
      rw [pk_sub hsh.1, gIx_n (by omega) (by decide), gRd_n (by omega) (by decide), upd_s, gRd_n (by omega) (by decide), show 88 + 1 * x = 88 + x by omega, setC_n (show 82 ≠ 107 by decide), setC_n (show 88 + x ≠ 107 by omega), hs x _ (by omega) hsh.2, hk, nI_add, nI_1, gUp_c, setC_n (show 82 ≠ 107 by decide)]
      obtain ⟨g2, k1, k2, k3, k4, k5⟩ := ih (x + 1) n (L - shr st N d L) (k0 + st x (shr st N d L)) (setC (setC g 107 (upd (g 107) x (nI (shr st N d L)))) 82 (upd (g 82) 6 (nI (k0 + st x (shr st N d L))))) (by omega) (by omega) (by omega) (by rw [setC_n (by decide), setC_n (by decide)]; exact h4) (fun j e h1 h2 => by rw [setC_n (by omega), setC_n (by omega)]; exact hs j e h1 h2) (fun j h1 h2 q hq => by rw [setC_n (by omega), setC_n (by omega)]; exact hr j h1 h2 q hq) (by rw [setC_s, upd_s])
      refine ⟨g2, k1, fun k h1 h2 => by rw [k2 k h1 h2, setC_n h1, setC_n h2], ?_, fun j hj => ?_, fun j hj => by rw [k5 j (by omega), setC_n (by decide), setC_s, upd_n (by omega)]⟩
      · rw [k3, VV_s, show N - (d + 1) = x by omega]
        unfold vA
        dsimp only
        rw [Nat.add_assoc]
      · match j with
        | 0 => rw [k5 (x + 0) (by omega), setC_n (by decide), setC_s]; exact upd_s
        | j + 1 => rw [show x + (j + 1) = x + 1 + j by omega, k4 j (by omega)]; rfl
theorem f_dealOut {P : Pl} (hp : pOk P) {g : Sg} (hP : cPlan P g) {S : Sd} (hc : cSt g 24 S) {m n0 : Nat} (hm : m ≤ 99) (hn0 : n0 ≤ 900) : ∃ g', fX6_dealOut g (nI m) (nI n0) = some g' ∧ fB g g' ∧ g' 82 6 = nI (VV (stN P S n0) (pS P) (pS P) m).1 ∧ ∀ j, j < pS P → g' 107 j = nI (dlt (stN P S n0) (pS P) (pS P) m j) := by
  have h9 := hp.2.2.2.1
  have h1s := hp.2.2.1
  have hst := stN_b hp (S := S) (n := n0)
  unfold fX6_dealOut
  have l1 := fun K => f_dsLp hp hn0 (S := S) K 10 0 gN g (by omega) (by unfold gN; omega) hP hc (fun j e a b => absurd b (by omega))
  obtain ⟨g1, a1, a2, a3⟩ := l1 _
  rw [show (0 : Int32) = nI 0 from rfl, a1]
  simp only [gLet]
  have h4 : g1 4 9 = nI (pS P) := (fB_plan a2 hP).2.1
  rw [h4, sub1 h1s]
  have l2 := fun K => f_doLp hst h9 hm K (pS P - 1) gN g1 (by omega) (by unfold gN; omega) h4 a3 (fun j h1 h2 => absurd h2 (by omega))
  obtain ⟨g2, b1, b2, b3⟩ := l2 _
  rw [b1]
  unfold fX6_deal
  simp only [gLet, gUp_c]
  have l3 := f_dlLp hst h9 hm (pS P) 0 gN m 0 (setC g2 82 (upd (g2 82) 6 (0 : Int32))) (by omega) (by unfold gN; omega) (Nat.le_refl _) (by rw [setC_n (by decide), b2 4 (by omega)]; exact h4) (fun j e h1 h2 => by rw [setC_n (by omega), b2 _ (by omega)]; exact a3 j e h1 h2) (fun j h1 h2 q hq => by rw [setC_n (by omega)]; exact b3 j h1 h2 q hq) (by rw [setC_s, upd_s]; rfl)
  obtain ⟨g3, c1, c2, c3, c4, -⟩ := l3
  rw [show (0 : Int32) = nI 0 from rfl] at c1 ⊢
  rw [c1, gCv_s]
  refine ⟨g3, rfl, fB_tr a2 (fun k h1 h2 => by rw [c2 k (by omega) (by omega), setC_n (by omega), b2 k (by omega)]), by rw [c3, Nat.zero_add], fun j hj => by have := c4 j hj; rw [Nat.zero_add] at this; exact this⟩
