theorem f_hasQ (g : Sg) (s j : Nat) : fX9_hasQuarrelled g s (nI j) = some (bI (bit (g s 3) j = true), g) := by
  unfold fX9_hasQuarrelled
  rw [f_has, gCl_s, gZ_b]
/-- quarrelled, or at peace again -/
def turnS (S : Sd) (j : Nat) : Sd := upd S 8 (S 8 ^^^ ((1 : Int32) <<< (nI j &&& 31)))
theorem vSt_turn {P : Pl} {S : Sd} {j : Nat} (hj : j < 8) (h : vSt P S) : vSt P (turnS S j) := by
  obtain ⟨v1, v2, ⟨m, m1, m2⟩, v4, v5, v6⟩ := h
  unfold turnS
  refine ⟨fun y hy => by rw [upd_n (by omega)]; exact v1 y hy, fun y h1 h2 => by rw [upd_n (by omega)]; exact v2 y h1 h2, ?_, fun x hx => by rw [upd_n (by omega)]; exact v4 x hx, fun x h1 h2 => by rw [upd_n (by omega)]; exact v5 x h1 h2, fun x hx => by rw [upd_n (by omega)]; exact v6 x hx⟩
  obtain ⟨x1, x2⟩ := xor_b j hj m m1
  exact ⟨_, x2, by rw [upd_s, m2, x1]⟩
theorem cSt_turn {g : Sg} {s : Nat} {S : Sd} {j : Nat} (hc : cSt g s S) : fX9_turn g s (nI j) = some (setC g s (upd (g s) 3 (S 8 ^^^ ((1 : Int32) <<< (nI j &&& 31))))) ∧ cSt (setC g s (upd (g s) 3 (S 8 ^^^ ((1 : Int32) <<< (nI j &&& 31))))) s (turnS S j) := by
  obtain ⟨c1, c2, c3, c4, c5⟩ := hc
  unfold fX9_turn turnS
  simp only [gLet, gUp_c, c2]
  refine ⟨trivial, fun y hy => by rw [setC_n (by omega), upd_n (by omega)]; exact c1 y hy, by rw [setC_s, upd_s, upd_s], fun x hx => by rw [setC_n (by omega), upd_n (by omega)]; exact c3 x hx, fun x hx => by rw [setC_n (by omega), upd_n (by omega)]; exact c4 x hx, by rw [setC_s, upd_n (by decide), upd_n (by decide)]; exact c5⟩
theorem mSt_put {t : Sg} {b i : Nat} {S : Sd} {x : Int32} (hm : mSt t b S) : mSt (setC t 10 (upd (t 10) (b + i) x)) b (upd S i x) := by
  intro k hk
  rw [setC_s]
  by_cases h : k = i
  · rw [h, upd_s, upd_s]
  · rw [upd_n (show b + k ≠ b + i by omega), upd_n h]
    exact hm k hk
theorem al_quarrel {P : Pl} {h : Int32} {S : Sd} {u : Nat} {U : Nat → Sd} {v : Nat} {V : Nat → Sd} {g t : Sg} (R : Rl P h S u U v V g t) (a b : Int32) : alike (fX10_quarrel g a b) (fX11_quarrel t a b) := by
  have R' := R
  obtain ⟨⟨hp, -, vS, -⟩, ⟨hP, -⟩, ⟨hM, -⟩, hc0, hm0, -⟩ := R
  have h8 := hp.2.1
  unfold fX10_quarrel fX11_quarrel
  rw [show (0 : Int64) = (0 : Int32).toInt64 from rfl, show (1 : Int64) = (1 : Int32).toInt64 from rfl]
  rcases f_noYounger hp hP a with ⟨j, hj, rfl, e⟩ | ⟨hn, e⟩
  · rw [e, (m_isOne hp hM _).1 ⟨j, hj, rfl⟩, gCl_s, gCl_s, if_pos rfl, if_neg one_ne]
    rcases rng_c g t b 0 1 with ⟨e1, e2, e3⟩ | ⟨e1, e2⟩
    · rw [e1, e2, gCl_s, gCl_s, if_pos rfl, if_neg one_ne, f_hasQ, gCl_s]
      have hb01 : b = 0 ∨ b = 1 := by
        simp only [lt_tI, t0, t1] at e3
        rcases (by omega : b.toInt = 0 ∨ b.toInt = 1) with z | z
        · exact Or.inl (by rw [eq_tI, t0, z])
        · exact Or.inr (by rw [eq_tI, t1, z])
      have eW : t 10 j = S j := by rw [← hm0 j (by omega), Nat.zero_add]
      have eQ : t 10 8 = S 8 := hm0 8 (by omega)
      rw [gRd_n (show j < 336 by omega) (by decide), eW, show (8 : Int32) = nI 8 from rfl, gRd_n (by omega) (by decide), eQ, bit_1, hc0.2.1]
      simp only [gLet]
      have kb : (if b = 1 then (if bI (bit (S 8) j = true) = 1 then some ((-2 : Int32), g) else gRd (nI j) 8 (g 27) (fun x16 => if x16 = 0 then some (-2, g) else gCv (fX7_push g 28 8 30) (fun g20 => gCv (fX9_turn g20 24 (nI j)) (fun g22 => gCl (fJ6_bitCount_0f7a4 g22 (g22 24 3)) (fun r25 g24 => some (r25, g24)))))) else (if bI (bit (S 8) j = true) = 0 then some (-2, g) else gRd (nI j) 8 (g 27) (fun x16 => if x16 = 0 then some (-2, g) else gCv (fX7_push g 28 8 30) (fun g20 => gCv (fX9_turn g20 24 (nI j)) (fun g22 => gCl (fJ6_bitCount_0f7a4 g22 (g22 24 3)) (fun r25 g24 => some (r25, g24))))))) =
          (if (if bit (S 8) j = true then (1 : Int32) else 0) = b then some ((-2 : Int32), g) else gRd (nI j) 8 (g 27) (fun x16 => if x16 = 0 then some (-2, g) else gCv (fX7_push g 28 8 30) (fun g20 => gCv (fX9_turn g20 24 (nI j)) (fun g22 => gCl (fJ6_bitCount_0f7a4 g22 (g22 24 3)) (fun r25 g24 => some (r25, g24)))))) := by
        rcases hb01 with rfl | rfl
        · rw [if_neg (by decide)]; rfl
        · rw [if_pos rfl]; rfl
      rw [kb]
      by_cases hq : (if bit (S 8) j = true then (1 : Int32) else 0) = b
      · rw [if_pos hq, if_pos hq]
        have : (if S j = 0 then some ((-2 : Int32), t) else some ((-2 : Int32), t)) = some ((-2 : Int32), t) := by split <;> rfl
        rw [this]
        exact alike_q R' rfl rfl fQ_rf mQ_rf
      · rw [if_neg hq, if_neg hq, gRd_n (show j < 8 by omega) (by decide), show g 27 j = S j from hc0.1 j (by omega)]
        by_cases hz : S j = 0
        · rw [if_pos hz, if_pos hz]
          exact alike_q R' rfl rfl fQ_rf mQ_rf
        · rw [if_neg hz, if_neg hz]
          obtain ⟨g1, t1, k1, k2, K⟩ := known_both R'
          obtain ⟨-, -, -, hc, hm, -⟩ := id K
          obtain ⟨x1, x2⟩ := cSt_turn (j := j) hc
          have eQ1 : t1 10 8 = S 8 := hm 8 (by omega)
          have vT := vSt_turn (j := j) (by omega) vS
          obtain ⟨m, m1, m2⟩ := vT.2.2.1
          have e8 : (S 8 ^^^ ((1 : Int32) <<< (nI j &&& 31))) = nI m := by rw [← m2]; unfold turnS; rw [upd_s]
          have hmm := mSt_put (i := 8) (x := S 8 ^^^ ((1 : Int32) <<< (nI j &&& 31))) hm
          rw [show 0 + 8 = 8 from rfl] at hmm
          rw [e8] at x1 x2
          rw [k1, k2, gCv_s, gCv_s, x1, gCv_s, f_bitCount, gCl_s, gRd_n (by omega) (by decide), gWr_n (by omega) (by decide), gRd_n (by omega) (by decide), eQ1, e8]
          rw [show setC g1 24 (upd (g1 24) 3 (nI m)) 24 3 = nI m from by rw [setC_s, upd_s], show setC t1 10 (upd (t1 10) 8 (nI m)) 10 8 = nI m from by rw [setC_s, upd_s], m_bits, gCl_s, bc_bs m m1]
          refine ⟨_, _, _, rfl, rfl, P, h, turnS S j, _, _, v, V, Rl_now K (fun k h1 h2 => by rw [setC_n (by omega)]) (by rw [setC_n (by decide)]) (by rw [setC_n (by decide)]) x2 (fun k hk => by rw [setC_n (by omega)]) (fun k hk => by rw [setC_n (by decide)]) (fun k h1 h2 => by rw [setC_s, upd_n (by omega)]) ?_ vT⟩
          rw [e8] at hmm
          unfold turnS
          rw [e8]
          exact hmm
    · rw [e1, e2, gCl_s, gCl_s, if_neg one_ne, if_pos rfl]
      exact alike_q R' rfl rfl fQ_rf mQ_rf
  · rw [e, (m_isOne hp hM a).2 hn, gCl_s, gCl_s, if_neg one_ne, if_pos rfl]
    exact alike_q R' rfl rfl fQ_rf mQ_rf
theorem al_undo {P : Pl} {h : Int32} {S : Sd} {u : Nat} {U : Nat → Sd} {v : Nat} {V : Nat → Sd} {g t : Sg} (R : Rl P h S u U v V g t) : alike (fX10_undo g) (fX11_undo t) := by
  have R' := R
  obtain ⟨⟨a1, a2, a3, a4, a5⟩, ⟨b1, b2⟩, ⟨c1, c2⟩, d1, d2, ⟨⟨nx, e1⟩, e2, e3⟩, i1, j1, j2, j3, j4⟩ := R
  have hu : u ≤ 8 := e1.2.1
  unfold fX10_undo fX11_undo
  rw [e1.2.2.2.1, e2]
  match u, hu with
  | 0, _ =>
    rw [if_pos (show nI 0 = 0 from rfl), if_pos (show nI 0 = 0 from rfl)]
    exact alike_q R' rfl rfl fQ_rf mQ_rf
  | u + 1, hu =>
    rw [if_neg (nI_ne0 (by omega) (by omega)), if_neg (nI_ne0 (by omega) (by omega))]
    obtain ⟨g1, p1, p2, p3, ny, p4⟩ := f_pop (by decide) (by decide) (by decide) (by decide) e1
    rw [p1, gCv_s, p4.2.2.2.1, show (28 : Int32) = nI 28 from rfl, pk_mul, show (0 : Int32) = nI 0 from rfl, m_copies (by omega) (by omega) (by omega), gCv_s]
    simp only [gLet, gUp_c]
    rw [setC_n (show 0 ≠ 10 by decide), e2, show nI (u + 1) - 1 = nI u from nI_pred u, setC_s, upd_s]
    refine ⟨_, _, _, rfl, rfl, P, h, U u, u, U, v, V, Rl_mk R' (fun k hk => p2 k (by omega) (by omega)) (by rw [p2 148 (by decide) (by decide)]; exact j3) (by rw [p2 149 (by decide) (by decide)]; exact j4) p3 ⟨ny, p4⟩ (fun k hk => by rw [setC_n (by omega), setC_n (by omega)]) (fun j hj => by rw [setC_s, upd_n (by omega)]) (fun j h1 h2 => by rw [setC_n (by decide), setC_s, cpN_out (by omega)]) (fun k hk => ?_) (by rw [setC_s, upd_s]) (mRing_eq (fun j h1 h2 => by rw [setC_n (by decide), setC_s, cpN_out (by omega)]) (fun j hj => e3 j (by omega))) (a4 u (by omega)) (fun j hj => a4 j (by omega))⟩
    rw [setC_n (by decide), setC_s, cpN_to hk, show (u + 1) * 28 + k = 28 + 28 * u + k by omega]
    exact e3 u (by omega) k hk
/-- what is kept put anew; all else stays, but what can be undone may be fewer -/
theorem al_keep {P : Pl} {h : Int32} {S : Sd} {u : Nat} {U : Nat → Sd} {v : Nat} {V : Nat → Sd} {g t : Sg} (R : Rl P h S u U v V g t) : alike (fX10_keep g) (fX11_keep t) := by
  have R' := R
  obtain ⟨⟨a1, a2, a3, a4, a5⟩, ⟨b1, b2⟩, ⟨c1, c2⟩, d1, d2, ⟨⟨nx, e1⟩, e2, e3⟩, ⟨⟨ny, i1⟩, i2, i3⟩, j1, j2, j3, j4⟩ := R
  have hu : u ≤ 8 := e1.2.1
  have hv : v ≤ 2 := i1.2.1
  unfold fX10_keep fX11_keep
  rw [i1.2.2.2.1, i2]
  by_cases h2 : v = 2
  · subst h2
    rw [if_neg (by decide), if_pos (show nI 2 = 2 from rfl)]
    exact alike_q R' rfl rfl fQ_rf mQ_rf
  · obtain ⟨g1, p1, p2, p3⟩ := f_push (by decide) (by decide) (by decide) (by decide) i1 d1
    have hv2 : v < 2 := by omega
    rw [if_pos (show v < 2 by omega)] at p3
    rw [if_pos (by rw [show (2 : Int32) = nI 2 from rfl, nI_ltN (by omega) (by omega)]; omega), if_neg (by rw [show (2 : Int32) = nI 2 from rfl, nI_inj (by omega) (by omega)]; exact h2), p1, gCv_s, p3.2.2.2.1, show (28 : Int32) = nI 28 from rfl, show (9 : Int32) = nI 9 from rfl, nI_add, pk_mul, show (0 : Int32) = nI 0 from rfl, m_copies (by omega) (by omega) (by omega), gCv_s]
    simp only [gLet, gUp_c]
    rw [setC_n (show 0 ≠ 10 by decide), i2, nI_1, setC_s, upd_s]
    refine ⟨_, _, _, rfl, rfl, P, h, S, u, U, v + 1, pushU 2 v V S, ⟨a1, a2, a3, a4, fun j hj => ?_⟩, ⟨cPlan_eq (fun k h1 h2 => p2 k (by omega) (by omega)) b1, by rw [p2 4 (by decide) (by decide)]; exact b2⟩, ⟨mPlan_eq (fun k h1 h2 => by rw [setC_n (by omega), setC_n (by omega)]) (by rw [setC_s, upd_n (by decide)]) (by rw [setC_s, upd_n (by decide)]) c1, by rw [setC_s, upd_n (by decide)]; exact c2⟩, cSt_eq (fun k h1 h2 => p2 k (by omega) (by omega)) d1, mSt_eq (fun j h1 h2 => by rw [setC_n (by decide), setC_s, cpN_out (by omega)]) d2, ⟨⟨nx, cRing_eq (fun k h1 h2 => p2 k (by omega) (by omega)) (p2 28 (by decide) (by decide)) (by omega) e1⟩, by rw [setC_s, upd_n (by decide)]; exact e2, mRing_eq (fun j h1 h2 => by rw [setC_n (by decide), setC_s, cpN_out (by omega)]) e3⟩, ⟨⟨_, p3⟩, by rw [setC_s, upd_s], fun j hj k hk => ?_⟩, txOk_eq (p2 1 (by decide) (by decide)) (p2 2 (by decide) (by decide)) (by rw [setC_s, upd_n (by decide)]) (by rw [setC_n (by decide), setC_n (by decide)]) j1, snOk_eq (p2 74 (by decide) (by decide)) (p2 75 (by decide) (by decide)) (p2 76 (by decide) (by decide)) (by rw [setC_s, upd_n (by decide)]) (by rw [setC_n (by decide), setC_n (by decide)]) (by rw [setC_n (by decide), setC_n (by decide)]) j2, by rw [p2 148 (by decide) (by decide)]; exact j3, by rw [p2 149 (by decide) (by decide)]; exact j4⟩
    · unfold pushU
      rw [if_pos hv2]
      split
      · exact a5 j (by assumption)
      · exact a3
    · rw [setC_n (by decide), setC_s]
      unfold pushU
      rw [if_pos hv2]
      by_cases hjv : j < v
      · rw [if_pos hjv, cpN_out (by omega)]
        exact i3 j hjv k hk
      · rw [if_neg hjv, show 252 + 28 * j + k = (9 + v) * 28 + k by omega, cpN_to hk]
        exact d2 k hk
theorem al_back {P : Pl} {h : Int32} {S : Sd} {u : Nat} {U : Nat → Sd} {v : Nat} {V : Nat → Sd} {g t : Sg} (R : Rl P h S u U v V g t) : alike (fX10_back g) (fX11_back t) := by
  have R' := R
  obtain ⟨⟨a1, a2, a3, a4, a5⟩, ⟨b1, b2⟩, ⟨c1, c2⟩, d1, d2, ⟨⟨nx, e1⟩, e2, e3⟩, ⟨⟨ny, i1⟩, i2, i3⟩, j1, j2, j3, j4⟩ := R
  have hu : u ≤ 8 := e1.2.1
  have hv : v ≤ 2 := i1.2.1
  unfold fX10_back fX11_back
  rw [i1.2.2.2.1, i2]
  match v, hv with
  | 0, _ =>
    rw [if_pos (show nI 0 = 0 from rfl), if_pos (show nI 0 = 0 from rfl)]
    exact alike_q R' rfl rfl fQ_rf mQ_rf
  | v + 1, hv =>
    rw [if_neg (nI_ne0 (by omega) (by omega)), if_neg (nI_ne0 (by omega) (by omega))]
    obtain ⟨g1, p1, p2, p3, nz, p4⟩ := f_pop (by decide) (by decide) (by decide) (by decide) i1
    unfold fX7_clear
    rw [p1, gCv_s]
    simp only [gLet, gUp_c, gCv_s]
    rw [setC_n (show 62 ≠ 28 by decide), p4.2.2.2.1, show nI (v + 1) - 1 = nI v from nI_pred v, setC_s, upd_s, show (28 : Int32) = nI 28 from rfl, show (9 : Int32) = nI 9 from rfl, nI_add, pk_mul, show (0 : Int32) = nI 0 from rfl, m_copies (by omega) (by omega) (by omega), gCv_s]
    have r0 : setC (setC (setC t 0 (upd (t 0) 17 (nI v))) 10 (cpN (setC t 0 (upd (t 0) 17 (nI v)) 10) ((9 + v) * 28) 0 28)) 0 (upd (setC (setC t 0 (upd (t 0) 17 (nI v))) 10 (cpN (setC t 0 (upd (t 0) 17 (nI v)) 10) ((9 + v) * 28) 0 28) 0) 16 (nI 0)) 0 17 = nI v := by
      rw [setC_s, upd_n (by decide), setC_n (by decide), setC_s, upd_s]
    rw [r0]
    have f0 : ∀ j : Nat, j ≠ 16 → j ≠ 17 → setC (setC (setC t 0 (upd (t 0) 17 (nI v))) 10 (cpN (setC t 0 (upd (t 0) 17 (nI v)) 10) ((9 + v) * 28) 0 28)) 0 (upd (setC (setC t 0 (upd (t 0) 17 (nI v))) 10 (cpN (setC t 0 (upd (t 0) 17 (nI v)) 10) ((9 + v) * 28) 0 28) 0) 16 (nI 0)) 0 j = t 0 j := fun j h1 h2 => by
      rw [setC_s, upd_n h1, setC_n (by decide), setC_s, upd_n h2]
    have fk : ∀ k : Nat, k ≠ 0 → k ≠ 10 → setC (setC (setC t 0 (upd (t 0) 17 (nI v))) 10 (cpN (setC t 0 (upd (t 0) 17 (nI v)) 10) ((9 + v) * 28) 0 28)) 0 (upd (setC (setC t 0 (upd (t 0) 17 (nI v))) 10 (cpN (setC t 0 (upd (t 0) 17 (nI v)) 10) ((9 + v) * 28) 0 28) 0) 16 (nI 0)) k = t k := fun k h1 h2 => by
      rw [setC_n h1, setC_n h2, setC_n h1]
    have f10 : ∀ j : Nat, 28 ≤ j → setC (setC (setC t 0 (upd (t 0) 17 (nI v))) 10 (cpN (setC t 0 (upd (t 0) 17 (nI v)) 10) ((9 + v) * 28) 0 28)) 0 (upd (setC (setC t 0 (upd (t 0) 17 (nI v))) 10 (cpN (setC t 0 (upd (t 0) 17 (nI v)) 10) ((9 + v) * 28) 0 28) 0) 16 (nI 0)) 10 j = t 10 j := fun j h1 => by
      rw [setC_n (by decide), setC_s, cpN_out (by omega), setC_n (by decide)]
    have q : ∀ k : Nat, k ≠ 62 → k < 24 ∨ 29 ≤ k → setC g1 28 (upd (g1 28) 2 (nI 0)) k = g k := fun k h1 h2 => by rw [setC_n (by omega), p2 k h1 (by omega)]
    refine ⟨_, _, _, rfl, rfl, P, h, V v, 0, U, v, V, ⟨a1, a2, a5 v (by omega), fun j hj => absurd hj (by omega), fun j hj => a5 j (by omega)⟩, ⟨cPlan_eq (fun k h1 h2 => q k (by omega) (by omega)) b1, by rw [q 4 (by decide) (by decide)]; exact b2⟩, ⟨mPlan_eq (fun k h1 h2 => fk k (by omega) (by omega)) (f0 0 (by decide) (by decide)) (f0 2 (by decide) (by decide)) c1, by rw [f0 1 (by decide) (by decide)]; exact c2⟩, cSt_eq (fun k h1 h2 => setC_n (by omega)) p3, fun k hk => ?_, ⟨⟨nx, e1.1, by omega, by rw [setC_s, upd_n (by decide), p2 28 (by decide) (by decide)]; exact e1.2.2.1, by rw [setC_s, upd_s], fun j hj => absurd hj (by omega)⟩, by rw [setC_s, upd_s], fun j hj => absurd hj (by omega)⟩, ⟨⟨nz, cRing_eq (fun k h1 h2 => setC_n (by omega)) (setC_n (by decide)) (by omega) p4⟩, r0, mRing_eq (fun j h1 h2 => f10 j (by omega)) (fun j hj => i3 j (by omega))⟩, txOk_eq (q 1 (by decide) (by decide)) (q 2 (by decide) (by decide)) (f0 18 (by decide) (by decide)) (fk 11 (by decide) (by decide)) j1, snOk_eq (q 74 (by decide) (by decide)) (q 75 (by decide) (by decide)) (q 76 (by decide) (by decide)) (f0 23 (by decide) (by decide)) (fk 12 (by decide) (by decide)) (fk 13 (by decide) (by decide)) j2, by rw [q 148 (by decide) (by decide)]; exact j3, by rw [q 149 (by decide) (by decide)]; exact j4⟩
    rw [setC_n (by decide), setC_s, cpN_to hk, setC_n (by decide), show (9 + v) * 28 + k = 252 + 28 * v + k by omega]
    exact i3 v (by omega) k hk
