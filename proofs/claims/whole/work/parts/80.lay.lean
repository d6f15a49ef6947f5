/-! ===== the class lays a street ===== -/
def Q0 : Ql := fun a b => if a = 0 then (if b = 0 then 5 else if b = 1 then 20 else if b = 2 then 0 else 1) else 0
theorem qOk_0 : qOk Q0 := by
  refine ⟨by decide, by decide, by decide, by decide, by decide, by decide, fun _ => ⟨rfl, fun x _ => rfl⟩, fun y hy => absurd hy (by show ¬ y < 0; omega), fun y _ _ => rfl, fun x _ => ⟨Nat.zero_le _, Nat.zero_le _, fun _ => rfl⟩⟩
theorem f_clLp {p0 : Nat} (h4 : 4 ≤ p0) (K : Sg → Option Sg) : ∀ (d i n : Nat) (g : Sg), i + d = 9 → d < n → (∀ x, x < i → g (p0 + 6) x = 0 ∧ g (p0 + 7) x = 0 ∧ g (p0 + 9) x = 0) →
    ∃ g', fX3_clear_23 p0 n (nI i) g K = K g' ∧ (∀ k, k ≠ p0 + 6 → k ≠ p0 + 7 → k ≠ p0 + 9 → g' k = g k) ∧ (∀ x, x < 9 → g' (p0 + 6) x = 0 ∧ g' (p0 + 7) x = 0 ∧ g' (p0 + 9) x = 0) := by
  intro d
  induction d with
  | zero =>
    intro i n g hi hn h
    match n, hn with
    | n + 1, _ =>
      rw [fX3_clear_23, if_pos (by rw [show (9 : Int32) = nI 9 from rfl, nI_leN (by omega) (by omega)]; omega)]
      exact ⟨g, rfl, fun _ _ _ _ => rfl, fun x hx => h x (by omega)⟩
  | succ d ih =>
    intro i n g hi hn h
    match n, hn with
    | n + 1, hn =>
      rw [fX3_clear_23, if_neg (by rw [show (9 : Int32) = nI 9 from rfl, nI_leN (by omega) (by omega)]; omega), gWr_n (by omega) (by decide), gWr_n (by omega) (by decide), gWr_n (by omega) (by decide)]
      simp only [gLet, nI_1]
      obtain ⟨g2, k1, k2, k3⟩ := ih (i + 1) n (setC (setC (setC g (p0 + 6) (upd (g (p0 + 6)) i 0)) (p0 + 7) (upd (g (p0 + 7)) i 0)) (p0 + 9) (upd (g (p0 + 9)) i 0)) (by omega) (by omega) (fun x hx => by
        rw [setC_n (show p0 + 6 ≠ p0 + 9 by omega), setC_n (show p0 + 6 ≠ p0 + 7 by omega), setC_s, setC_n (show p0 + 7 ≠ p0 + 9 by omega), setC_s, setC_s]
        by_cases z : x = i
        · rw [z, upd_s, upd_s, upd_s]; exact ⟨rfl, rfl, rfl⟩
        · rw [upd_n z, upd_n z, upd_n z]; exact h x (by omega))
      rw [setC_n (show p0 + 7 ≠ p0 + 6 by omega), setC_n (show p0 + 9 ≠ p0 + 7 by omega), setC_n (show p0 + 9 ≠ p0 + 6 by omega)]
      exact ⟨g2, k1, fun k h1 h2 h3 => by rw [k2 k h1 h2 h3, setC_n h3, setC_n h2, setC_n h1], k3⟩
theorem f_clear {p0 : Nat} (h4 : 4 ≤ p0) (g : Sg) : ∃ g', fX3_clear g p0 = some g' ∧ plI p0 Q0 g' ∧ frP p0 g g' := by
  unfold fX3_clear
  have hq : 20 ≤ gN := by unfold gN; omega
  generalize gN = qN at hq ⊢
  rw [gLet_s, gLet_s, gLet_s, gLet_s]
  simp only [gUp_c, setC_2, setC_s]
  have lp := fun K => f_clLp h4 K 9 0 qN (setC g p0 (upd (upd (upd (upd (g p0) 9 5) 10 20) 11 0) 12 1)) (by omega) (by omega) (fun x hx => absurd hx (by omega))
  obtain ⟨g1, a1, a2, a3⟩ := lp _
  rw [show (0 : Int32) = nI 0 from rfl] at *
  rw [a1, show (9 : Int32) = nI 9 from rfl, gWr_n (by decide) (by decide)]
  have e0 : ∀ j, setC g1 (p0 + 9) (upd (g1 (p0 + 9)) 9 (nI 0)) p0 j = (upd (upd (upd (upd (g p0) 9 5) 10 20) 11 (nI 0)) 12 1) j := fun j => by rw [setC_n (by omega), a2 p0 (by omega) (by omega) (by omega), setC_s]
  refine ⟨_, rfl, ⟨?_, ?_, ?_, ?_, fun i h1 h2 y hy => absurd hy (by show ¬ y < 0; omega), fun x hx => ?_, fun x hx => ?_⟩, fun j h1 h2 => by rw [setC_n (by omega), a2 j (by omega) (by omega) (by omega), setC_n (by omega)]⟩
  · rw [e0, upd_n (by decide), upd_n (by decide), upd_n (by decide), upd_s]; rfl
  · rw [e0, upd_n (by decide), upd_n (by decide), upd_s]; rfl
  · rw [e0, upd_n (by decide), upd_s]; rfl
  · rw [e0, upd_s]; rfl
  · rw [setC_n (by omega), setC_n (by omega)]
    exact ⟨(a3 x hx).1, (a3 x hx).2.1⟩
  · rw [setC_s]
    by_cases z : x = 9
    · rw [z, upd_s]; rfl
    · rw [upd_n z]; exact (a3 x (by omega)).2.2
/-- a plan, all read -/
def plJ (p0 N : Nat) (Q : Ql) (g : Sg) : Prop := g p0 9 = nI (Q 0 0) ∧ g p0 10 = nI (Q 0 1) ∧ g p0 11 = nI (Q 0 2) ∧ (∀ i, 1 ≤ i → i ≤ 5 → ∀ y, y < Q 0 2 → g (p0 + i) y = nI (Q i y)) ∧ (∀ x, x < 9 → g (p0 + 6) x = nI (Q 6 x) ∧ g (p0 + 7) x = nI (Q 7 x)) ∧ seg (g (p0 + 8)) 0 (rs (Q 2) (Q 3) (Q 0 2) 0 N) ∧ ∀ x, x < 10 → g (p0 + 9) x = nI (rs (Q 2) (Q 3) (Q 0 2) 0 (21 * x)).length
theorem f_lineQ {p0 N : Nat} (hN : N = 189) {Q : Ql} {g : Sg} (hI : plI p0 Q g) (hQ : qOk Q) : ∃ g', fX3_lineUp g p0 = some g' ∧ plJ p0 N Q g' ∧ ∀ k, k ≠ p0 + 8 → k ≠ p0 + 9 → g' k = g k := by
  obtain ⟨a1, a2, a3, a4, a5, a6, a7⟩ := hI
  obtain ⟨g', e1, e2, e3, e4⟩ := f_lineUp (t := p0) (c := Q 0 2) (A := Q 2) (G := Q 3) hN hQ.2.2.2.2.1 a3 (fun y hy => by
    have h := hQ.2.2.2.2.2.2.2.1 y hy
    have h9 := hQ.2.1
    exact ⟨a5 2 (by omega) (by omega) y hy, a5 3 (by omega) (by omega) y hy, by omega, h.2.2.1⟩) a7
  refine ⟨g', e1, ⟨by rw [e2 p0 (by omega) (by omega)]; exact a1, by rw [e2 p0 (by omega) (by omega)]; exact a2, by rw [e2 p0 (by omega) (by omega)]; exact a3, fun i h1 h2 y hy => by rw [e2 (p0 + i) (by omega) (by omega)]; exact a5 i h1 h2 y hy, fun x hx => by rw [e2 (p0 + 6) (by omega) (by omega), e2 (p0 + 7) (by omega) (by omega)]; exact a6 x hx, e3, e4⟩, e2⟩
theorem f_readInto {p0 L N : Nat} (hN : N = 189) (h4 : 4 ≤ p0) {T : Nat → Nat} {g : Sg} (ht : txt g T L) :
    (∃ e, e < L ∧ prs T L (L + 1) Q0 0 = some (.inl e) ∧ ∃ g', fX4_readInto g p0 = some (nI e, g') ∧ frP p0 g g') ∨ ∃ Q' g', prs T L (L + 1) Q0 0 = some (.inr Q') ∧ qOk Q' ∧ fX4_readInto g p0 = some (-4, g') ∧ plJ p0 N Q' g' ∧ frP p0 g g' := by
  have h200 := ht.1
  obtain ⟨g1, a1, a2, a3⟩ := f_clear h4 g
  have ht1 := frP_txt h4 a3 ht
  unfold fX4_readInto
  rw [a1, gCv_s]
  have pr := fun K hK => f_prs h4 (L := L) (T := T) K hK (L + 1) Q0 0 gN g1 (by omega) (by omega) (by unfold gN; omega) ht1 a2 qOk_0
  rw [show (0 : Int32) = nI 0 from rfl]
  rcases pr (fun (x51 : Int32) (g52 : Sg) => gCv (fX3_lineUp g52 p0) (fun g54 => if (g54 1 2) ≤ x51 then some ((-4 : Int32), g54) else some (x51, g54))) (by
    intro b Q g2 hb hI hQ ht2 g3 hg3
    have hI3 : plI p0 Q g3 := plI_eq (fun j h1 h2 => hg3 j (by omega)) hI
    obtain ⟨g4, b1, b2, b3⟩ := f_lineQ hN hI3 hQ
    refine ⟨g4, ?_, fun j h1 h2 => b3 j (by omega) (by omega)⟩
    dsimp only
    have e1 : g4 1 2 = nI L := by rw [b3 1 (by omega) (by omega), hg3 1 (by decide)]; exact ht2.2.1
    rw [b1, gCv_s, e1, if_neg (by rw [nI_leN (by omega) (by omega)]; omega)]) with ⟨e, c0, c1, g', c2, c3⟩ | ⟨Q', g', c1, c2, c3, c4, c5⟩
  · exact Or.inl ⟨e, c0, c1, g', c2, frP_tr a3 c3⟩
  · right
    obtain ⟨g4, b1, b2, b3⟩ := f_lineQ hN c4 c2
    have e1 : g4 1 2 = nI L := by rw [b3 1 (by omega) (by omega)]; exact (frP_txt h4 c5 ht1).2.1
    refine ⟨Q', g4, c1, c2, ?_, b2, frP_tr a3 (frP_tr c5 (fun j h1 h2 => b3 j (by omega) (by omega)))⟩
    rw [c3, b1, gCv_s, e1, if_pos (nI_le (Nat.le_refl _) (by omega))]
/-- how it stands at first -/
def S0 (Q : Ql) : Sd := fun j => if j < 8 then nI (Q 5 j) else if j = 8 then 0 else if j < 18 then nI (Q 6 (j - 9)) else if j < 27 then nI (Q 7 (j - 18)) else 0
def PQ (Q : Ql) : Pl := (Q 0 2, Q 0 0, Q 2, Q 3, fun y => nI (Q 1 y), fun y => nI (Q 4 y))
theorem pOk_Q {Q : Ql} (h : qOk Q) (h1 : 1 ≤ Q 0 2) : pOk (PQ Q) := by
  obtain ⟨a1, a2, a3, a4, a5, a6, a7, a8, a9, a10⟩ := h
  refine ⟨h1, a5, a1, a2, fun y hy => ?_⟩
  have b := a8 y hy
  refine ⟨b.2.1, b.2.2.1, ?_, ?_⟩
  · show 1 ≤ (nI (Q 4 y)).toInt
    rw [tI_nI (by omega)]; omega
  · show (nI (Q 4 y)).toInt ≤ 9
    rw [tI_nI (by omega)]; omega
theorem vSt_0 {Q : Ql} (h : qOk Q) : vSt (PQ Q) (S0 Q) := by
  obtain ⟨a1, a2, a3, a4, a5, a6, a7, a8, a9, a10⟩ := h
  have e5 : ∀ y, y < 8 → S0 Q y = nI (Q 5 y) := fun y hy => if_pos hy
  have e6 : ∀ x, x < 9 → S0 Q (9 + x) = nI (Q 6 x) := fun x hx => by
    unfold S0
    rw [if_neg (by omega), if_neg (by omega), if_pos (by omega), show 9 + x - 9 = x by omega]
  have e7 : ∀ x, x < 9 → S0 Q (18 + x) = nI (Q 7 x) := fun x hx => by
    unfold S0
    rw [if_neg (by omega), if_neg (by omega), if_neg (by omega), if_pos (by omega), show 18 + x - 18 = x by omega]
  refine ⟨fun y hy => ?_, fun y h1 h2 => ?_, ⟨0, by decide, rfl⟩, fun x hx => ?_, fun x h1 h2 => ?_, fun x hx => ?_⟩
  · rw [e5 y hy]
    by_cases z : y < Q 0 2
    · have := a8 y z
      exact rg_n (by omega) (by omega)
    · rw [a9 y (by omega) hy]; exact ⟨by decide, by decide⟩
  · rw [e5 y h2, a9 y h1 h2]; rfl
  · rw [e6 x hx]
    have := a10 x hx
    exact rg_n (by omega) (by omega)
  · rw [e6 x h2, (a10 x h2).2.2 h1]; rfl
  · rw [e7 x hx]
    have := a10 x hx
    exact rg_n (by omega) (by omega)
theorem cPlan_J {N : Nat} (hN : N = 189) {Q : Ql} {g : Sg} (hQ : qOk Q) (h1 : 1 ≤ Q 0 2) (h : plJ 4 N Q g) : cPlan (PQ Q) g := by
  have hp := pOk_Q hQ h1
  obtain ⟨a1, a2, a3, a4, a5, a6, a7⟩ := h
  have hk : ∀ y, y < Q 0 2 → kF (Q 2) (Q 3) y < 189 := fun y hy => by
    have := hQ.2.2.2.2.2.2.2.1 y hy
    have := hQ.2.1
    unfold kF
    omega
  have hQ8 := hQ.2.2.2.2.1
  refine ⟨fun y hy => ⟨a4 1 (by omega) (by omega) y hy, a4 2 (by omega) (by omega) y hy, a4 3 (by omega) (by omega) y hy, a4 4 (by omega) (by omega) y hy⟩, a1, a3, fun x => (rs (Q 2) (Q 3) (Q 0 2) 0 (21 * x)).length, fun x hx => ⟨a7 x (by omega), ?_⟩, fun x hx => ⟨?_, ?_⟩⟩
  · have := rs_len_le (n := 21 * x) hk (by omega)
    dsimp only
    omega
  · have e := rs_tl2 hp x
    rw [show rs (pA (PQ Q)) (pG (PQ Q)) (pC (PQ Q)) = rs (Q 2) (Q 3) (Q 0 2) from rfl] at e
    dsimp only
    rw [e, List.length_append]
  · have e := rs_tl2 hp x
    rw [show rs (pA (PQ Q)) (pG (PQ Q)) (pC (PQ Q)) = rs (Q 2) (Q 3) (Q 0 2) from rfl] at e
    rw [rs_sp (m := 21 * (x + 1)) (by omega), e, List.append_assoc, seg_app, Nat.zero_add, seg_app] at a6
    exact a6.2.1
