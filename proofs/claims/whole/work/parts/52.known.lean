/-! ===== acts: what stood is kept to be undone ===== -/
theorem known_both {P : Pl} {h : Int32} {S : Sd} {u : Nat} {U : Nat → Sd} {v : Nat} {V : Nat → Sd} {g t : Sg} (R : Rl P h S u U v V g t) : ∃ g1 t1, fX7_push g 28 8 30 = some g1 ∧ fX11_known t = some t1 ∧ Rl P h S (if u < 8 then u + 1 else 8) (pushU 8 u U S) v V g1 t1 := by
  have R' := R
  obtain ⟨⟨a1, a2, a3, a4, a5⟩, ⟨b1, b2⟩, ⟨c1, c2⟩, d1, d2, ⟨⟨nx, e1⟩, e2, e3⟩, i1, j1, j2, j3, j4⟩ := R
  have hu : u ≤ 8 := e1.2.1
  obtain ⟨g1, p1, p2, p3⟩ := f_push (by decide) (by decide) (by decide) (by decide) e1 d1
  obtain ⟨t1, q1, q2, q3, q4, q5, q6⟩ := m_known hu e2 e3 d2
  refine ⟨g1, t1, p1, q1, Rl_mk R' (fun k hk => p2 k (by omega) (by omega)) (by rw [p2 148 (by decide) (by decide)]; exact j3) (by rw [p2 149 (by decide) (by decide)]; exact j4) (cSt_eq (fun k h1 h2 => p2 k (by omega) (by omega)) d1) ⟨_, p3⟩ (fun k hk => q2 k (by omega) (by omega)) (fun j hj => q3 j (by omega)) (fun j h1 h2 => q5 j (by omega)) (mSt_eq (fun j h1 h2 => q5 j (by omega)) d2) q4 q6 a3 (fun j hj => ?_)⟩
  unfold pushU
  split
  · split
    · exact a4 j (by assumption)
    · exact a3
  · split
    · exact a4 (j + 1) (by omega)
    · exact a3
/-- the standing alone put anew -/
theorem Rl_now {P : Pl} {h : Int32} {S S' : Sd} {u : Nat} {U : Nat → Sd} {v : Nat} {V : Nat → Sd} {g g' t t' : Sg} (R : Rl P h S u U v V g t) (fc : ∀ k : Nat, ¬ (24 ≤ k ∧ k ≤ 27) → ¬ scC k → g' k = g k) (z1 : g' 148 0 = g 148 0) (z2 : g' 149 0 = g 149 0) (hc : cSt g' 24 S') (fm : ∀ k : Nat, (1 ≤ k ∧ k ≤ 5) ∨ (11 ≤ k ∧ k ≤ 13) → t' k = t k) (f0 : ∀ j : Nat, j < 8 ∨ (16 ≤ j ∧ j ≤ 18) ∨ j = 23 → t' 0 j = t 0 j) (f10 : ∀ j : Nat, 28 ≤ j → j < 308 → t' 10 j = t 10 j) (hm : mSt t' 0 S') (vS : vSt P S') : Rl P h S' u U v V g' t' := by
  have R' := R
  obtain ⟨⟨a1, a2, a3, a4, a5⟩, ⟨b1, b2⟩, ⟨c1, c2⟩, d1, d2, ⟨⟨nx, e1⟩, e2, e3⟩, i1, j1, j2, j3, j4⟩ := R
  have hu : u ≤ 8 := e1.2.1
  exact Rl_mk R' (fun k hk => fc k (by omega) (by unfold scC; omega)) (by rw [z1]; exact j3) (by rw [z2]; exact j4) hc ⟨nx, cRing_eq (fun k h1 h2 => fc k (by omega) (by unfold scC; omega)) (fc 28 (by omega) (by unfold scC; omega)) (by omega) e1⟩ fm (fun j hj => f0 j (by omega)) (fun j h1 h2 => f10 j (by omega) h2) hm (by rw [f0 16 (by omega)]; exact e2) (mRing_eq (fun j h1 h2 => f10 j (by omega) (by omega)) e3) vS a4
theorem upd_o {f : Nat → Int32} {j i : Nat} {v : Int32} (h : ¬ i = j) : upd f j v i = f i := if_neg h
theorem al_put {P : Pl} {h : Int32} {S : Sd} {u : Nat} {U : Nat → Sd} {v : Nat} {V : Nat → Sd} {g t : Sg} (R : Rl P h S u U v V g t) (a b : Int32) : alike (fX10_put g a b) (fX11_put t a b) := by
  have R' := R
  obtain ⟨⟨hp, -, vS, -⟩, ⟨hP, -⟩, ⟨hM, -⟩, -⟩ := R
  have h9 := hp.2.2.2.1
  unfold fX10_put fX11_put
  rw [show (0 : Int64) = (0 : Int32).toInt64 from rfl, show (40 : Int64) = (40 : Int32).toInt64 from rfl]
  rcases f_noStep hp hP a with ⟨j, hj, rfl, e⟩ | ⟨hn, e⟩
  · rw [e, (m_isStep hp hM _).1 ⟨j, hj, rfl⟩, gCl_s, gCl_s, if_pos rfl, if_neg one_ne]
    rcases rng_c g t b 0 40 with ⟨e1, e2, e3⟩ | ⟨e1, e2⟩
    · obtain ⟨g1, t1, k1, k2, K⟩ := known_both R'
      obtain ⟨-, -, -, hc, hm, -⟩ := id K
      rw [e1, e2, gCl_s, gCl_s, if_pos rfl, if_neg one_ne, k1, k2, gCv_s, gCv_s, gRd_n (by omega) (by decide), gWr_n (by omega) (by decide), show (9 : Int32) = nI 9 from rfl]
      simp only [nI_add]
      rw [gRd_n (show 9 + j < 336 by omega) (by decide), gWr_n (show 9 + j < 336 by omega) (by decide), show g1 25 j = S (9 + j) from hc.2.2.1 j (by omega), show t1 10 (9 + j) = S (9 + j) from by rw [← hm (9 + j) (by omega), Nat.zero_add]]
      have hb : rg b 0 40 := by
        simp only [lt_tI, t0, show (40 : Int32).toInt = 40 from rfl] at e3
        exact ⟨by omega, by omega⟩
      refine ⟨_, _, _, rfl, rfl, P, h, upd S (9 + j) b, _, _, v, V, Rl_now K (fun k h1 h2 => by rw [setC_n (by omega)]) (by rw [setC_n (by decide)]) (by rw [setC_n (by decide)]) ?_ (fun k hk => by rw [setC_n (by omega)]) (fun k hk => by rw [setC_n (by decide)]) (fun k h1 h2 => by rw [setC_s, upd_n (by omega)]) (fun k hk => ?_) ?_⟩
      · refine ⟨fun y hy => ?_, ?_, fun x hx => ?_, fun x hx => ?_, ?_⟩
        · rw [setC_n (by decide), upd_n (by omega)]; exact hc.1 y hy
        · rw [setC_n (by decide), upd_n (by omega)]; exact hc.2.1
        · rw [setC_s]
          by_cases hx2 : x = j
          · rw [hx2, upd_s, upd_s]
          · rw [upd_n hx2, upd_n (by omega)]; exact hc.2.2.1 x hx
        · rw [setC_n (by decide), upd_n (by omega)]; exact hc.2.2.2.1 x hx
        · rw [setC_n (by decide), upd_n (by omega)]; exact hc.2.2.2.2
      · rw [setC_s, Nat.zero_add]
        by_cases hk2 : k = 9 + j
        · rw [hk2, upd_s, upd_s]
        · rw [upd_n hk2, upd_n hk2, ← hm k hk, Nat.zero_add]
      · obtain ⟨v1, v2, v3, v4, v5, v6⟩ := vS
        refine ⟨fun y hy => by rw [upd_n (by omega)]; exact v1 y hy, fun y h1 h2 => by rw [upd_n (by omega)]; exact v2 y h1 h2, by rw [upd_n (by omega)]; exact v3, fun x hx => ?_, fun x h1 h2 => by rw [upd_n (by omega)]; exact v5 x h1 h2, fun x hx => by rw [upd_n (by omega)]; exact v6 x hx⟩
        by_cases hx2 : x = j
        · rw [hx2, upd_s]; exact hb
        · rw [upd_n (by omega)]; exact v4 x hx
    · rw [e1, e2, gCl_s, gCl_s, if_neg one_ne, if_pos rfl]
      exact alike_q R' rfl rfl fQ_rf mQ_rf
  · rw [e, (m_isStep hp hM a).2 hn, gCl_s, gCl_s, if_neg one_ne, if_pos rfl]
    exact alike_q R' rfl rfl fQ_rf mQ_rf
theorem al_cats {P : Pl} {h : Int32} {S : Sd} {u : Nat} {U : Nat → Sd} {v : Nat} {V : Nat → Sd} {g t : Sg} (R : Rl P h S u U v V g t) (a b : Int32) : alike (fX10_cats g a b) (fX11_cats t a b) := by
  have R' := R
  obtain ⟨⟨hp, -, vS, -⟩, ⟨hP, -⟩, ⟨hM, -⟩, -⟩ := R
  have h9 := hp.2.2.2.1
  unfold fX10_cats fX11_cats
  rw [show (0 : Int64) = (0 : Int32).toInt64 from rfl, show (9 : Int64) = (9 : Int32).toInt64 from rfl]
  rcases f_noStep hp hP a with ⟨j, hj, rfl, e⟩ | ⟨hn, e⟩
  · rw [e, (m_isStep hp hM _).1 ⟨j, hj, rfl⟩, gCl_s, gCl_s, if_pos rfl, if_neg one_ne]
    rcases rng_c g t b 0 9 with ⟨e1, e2, e3⟩ | ⟨e1, e2⟩
    · obtain ⟨g1, t1, k1, k2, K⟩ := known_both R'
      obtain ⟨-, -, -, hc, hm, -⟩ := id K
      rw [e1, e2, gCl_s, gCl_s, if_pos rfl, if_neg one_ne, k1, k2, gCv_s, gCv_s, gRd_n (by omega) (by decide), gWr_n (by omega) (by decide), show (18 : Int32) = nI 18 from rfl]
      simp only [nI_add]
      rw [gRd_n (show 18 + j < 336 by omega) (by decide), gWr_n (show 18 + j < 336 by omega) (by decide), show g1 26 j = S (18 + j) from hc.2.2.2.1 j (by omega), show t1 10 (18 + j) = S (18 + j) from by rw [← hm (18 + j) (by omega), Nat.zero_add]]
      have hb : rg b 0 9 := by
        simp only [lt_tI, t0, show (9 : Int32).toInt = 9 from rfl] at e3
        exact ⟨by omega, by omega⟩
      refine ⟨_, _, _, rfl, rfl, P, h, upd S (18 + j) b, _, _, v, V, Rl_now K (fun k h1 h2 => by rw [setC_n (by omega)]) (by rw [setC_n (by decide)]) (by rw [setC_n (by decide)]) ?_ (fun k hk => by rw [setC_n (by omega)]) (fun k hk => by rw [setC_n (by decide)]) (fun k h1 h2 => by rw [setC_s, upd_n (by omega)]) (fun k hk => ?_) ?_⟩
      · refine ⟨fun y hy => ?_, ?_, fun x hx => ?_, fun x hx => ?_, ?_⟩
        · rw [setC_n (by decide), upd_n (by omega)]; exact hc.1 y hy
        · rw [setC_n (by decide), upd_n (by omega)]; exact hc.2.1
        · rw [setC_n (by decide), upd_n (by omega)]; exact hc.2.2.1 x hx
        · rw [setC_s]
          by_cases hx2 : x = j
          · rw [hx2, upd_s, upd_s]
          · rw [upd_n hx2, upd_n (by omega)]; exact hc.2.2.2.1 x hx
        · rw [setC_n (by decide), upd_n (by omega)]; exact hc.2.2.2.2
      · rw [setC_s, Nat.zero_add]
        by_cases hk2 : k = 18 + j
        · rw [hk2, upd_s, upd_s]
        · rw [upd_n hk2, upd_n hk2, ← hm k hk, Nat.zero_add]
      · obtain ⟨v1, v2, v3, v4, v5, v6⟩ := vS
        refine ⟨fun y hy => by rw [upd_n (by omega)]; exact v1 y hy, fun y h1 h2 => by rw [upd_n (by omega)]; exact v2 y h1 h2, by rw [upd_n (by omega)]; exact v3, fun x hx => by rw [upd_n (by omega)]; exact v4 x hx, fun x h1 h2 => by rw [upd_n (by omega)]; exact v5 x h1 h2, fun x hx => ?_⟩
        by_cases hx2 : x = j
        · rw [hx2, upd_s]; exact hb
        · rw [upd_n (by omega)]; exact v6 x hx
    · rw [e1, e2, gCl_s, gCl_s, if_neg one_ne, if_pos rfl]
      exact alike_q R' rfl rfl fQ_rf mQ_rf
  · rw [e, (m_isStep hp hM a).2 hn, gCl_s, gCl_s, if_neg one_ne, if_pos rfl]
    exact alike_q R' rfl rfl fQ_rf mQ_rf
/-! ===== counting bits ===== -/
def bcI (a : Int32) : Int32 := match fJ6_bitCount_0f7a4 (fun _ _ => 0) a with | some (r, _) => r | none => 0
theorem f_bitCount (g : Sg) (a : Int32) : fJ6_bitCount_0f7a4 g a = some (bcI a, g) := rfl
def bsI (a : Int32) : Nat → Int32
  | 0 => 0
  | k + 1 => bsI a k + ((a >>> (nI k &&& 31)) &&& 1)
theorem bc_bs : ∀ m : Nat, m < 256 → bcI (nI m) = bsI (nI m) 9 := by decide +kernel
theorem m_bitsLoop (a : Int32) (t : Sg) : ∀ (d i n : Nat), i + d = 9 → d < n → fX11_bits_4 a n (bsI a i) (nI i) t = some (bsI a 9, t) := by
  intro d
  induction d with
  | zero =>
    intro i n hi hn
    match n, hn with
    | n + 1, _ =>
      rw [fX11_bits_4, show (9 : Int32) = nI 9 from rfl, if_pos ((nI_leN (by omega) (by omega)).mpr (by omega)), show i = 9 by omega]
  | succ d ih =>
    intro i n hi hn
    match n, hn with
    | n + 1, hn =>
      rw [fX11_bits_4, show (9 : Int32) = nI 9 from rfl, if_neg (by rw [nI_leN (by omega) (by omega)]; omega)]
      simp only [gLet, nI_1]
      exact ih (i + 1) n (by omega) (by omega)
theorem m_bits (t : Sg) (a : Int32) : fX11_bits t a = some (bsI a 9, t) := by
  unfold fX11_bits
  have k := m_bitsLoop a t 9 0 gN (by omega) (by unfold gN; omega)
  rw [show bsI a 0 = 0 from rfl, show nI 0 = 0 from rfl] at k
  exact k
theorem xor_b : ∀ j : Nat, j < 8 → ∀ m : Nat, m < 256 → (nI m ^^^ ((1 : Int32) <<< (nI j &&& 31))) = nI (m ^^^ 2 ^ j) ∧ m ^^^ 2 ^ j < 256 := by decide +kernel
