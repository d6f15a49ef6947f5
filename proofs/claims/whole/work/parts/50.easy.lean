/-- text and what is seen put anew; all else stays -/
theorem Rl_ts {P : Pl} {h : Int32} {S : Sd} {u : Nat} {U : Nat → Sd} {v : Nat} {V : Nat → Sd} {g g' t t' : Sg} (R : Rl P h S u U v V g t)
    (fc : ∀ k : Nat, (4 ≤ k ∧ k ≤ 13) ∨ (24 ≤ k ∧ k ≤ 71) → g' k = g k) (z1 : g' 148 0 = g 148 0) (z2 : g' 149 0 = g 149 0) (fm : ∀ k : Nat, 1 ≤ k ∧ k ≤ 5 → t' k = t k) (f0 : ∀ j : Nat, j < 8 ∨ j = 16 ∨ j = 17 → t' 0 j = t 0 j) (f10 : ∀ j : Nat, j < 308 → t' 10 j = t 10 j) (ht : txOk g' t') (hs : snOk g' t') : Rl P h S u U v V g' t' := by
  obtain ⟨a, ⟨b1, b2⟩, ⟨c1, c2⟩, d1, d2, ⟨⟨ny, e1⟩, e2, e3⟩, ⟨⟨nx, i1⟩, i2, i3⟩, j1, j2, j3, j4⟩ := R
  have hv2 : v ≤ 2 := i1.2.1
  have hu8 : u ≤ 8 := e1.2.1
  exact ⟨a, ⟨cPlan_eq (fun k h1 h2 => fc k (by omega)) b1, by rw [fc 4 (by omega)]; exact b2⟩, ⟨mPlan_eq (fun k h1 h2 => fm k (by omega)) (f0 0 (by omega)) (f0 2 (by omega)) c1, by rw [f0 1 (by omega)]; exact c2⟩, cSt_eq (fun k h1 h2 => fc k (by omega)) d1, mSt_eq (fun j h1 h2 => f10 j (by omega)) d2,
    ⟨⟨ny, cRing_eq (fun k h1 h2 => fc k (by omega)) (fc 28 (by omega)) (by omega) e1⟩, by rw [f0 16 (by omega)]; exact e2, mRing_eq (fun j h1 h2 => f10 j (by omega)) e3⟩,
    ⟨⟨nx, cRing_eq (fun k h1 h2 => fc k (by omega)) (fc 62 (by omega)) (by omega) i1⟩, by rw [f0 17 (by omega)]; exact i2, mRing_eq (fun j h1 h2 => f10 j (by omega)) i3⟩, ht, hs, by rw [z1]; exact j3, by rw [z2]; exact j4⟩
theorem byte_id {a : Int32} (h : ¬ (a < 32 ∨ 126 < a)) : vp_nar .byte (a.toInt8.toInt32) = a := by
  have h1 : 32 ≤ a.toInt ∧ a.toInt ≤ 126 := by
    simp only [lt_tI, show (32 : Int32).toInt = 32 from rfl, show (126 : Int32).toInt = 126 from rfl] at h
    omega
  have e : a.toInt8.toInt32 = a := by
    rw [eq_tI, Int8.toInt_toInt32, Int32.toInt_toInt8, Int.bmod_def]
    split <;> omega
  rw [vp_nar_byte, e, e]
theorem al_write {P : Pl} {h : Int32} {S : Sd} {u : Nat} {U : Nat → Sd} {v : Nat} {V : Nat → Sd} {g t : Sg} (R : Rl P h S u U v V g t) (a : Int32) : alike (fX10_write g a) (fX11_write t a) := by
  have R' := R
  obtain ⟨-, -, -, -, -, -, -, ⟨L, l1, l2, l3, l4⟩, hsn, -⟩ := R
  unfold fX10_write fX11_write
  rw [show (32 : Int64) = (32 : Int32).toInt64 from rfl, show (126 : Int64) = (126 : Int32).toInt64 from rfl]
  rcases rng_c g t a 32 126 with ⟨e1, e2, e3⟩ | ⟨e1, e2⟩
  · rw [e1, e2, gCl_s, gCl_s, if_pos rfl, if_neg one_ne, l2, l3]
    by_cases hL : L = 200
    · subst hL
      rw [if_neg (by decide), if_pos (show nI 200 = 200 from rfl)]
      exact alike_q R' rfl rfl fQ_rf mQ_rf
    · rw [if_pos (by rw [show (200 : Int32) = nI 200 from rfl, nI_ltN (by omega) (by omega)]; omega), if_neg (by rw [show (200 : Int32) = nI 200 from rfl, nI_inj (by omega) (by omega)]; exact hL)]
      unfold fX4_add
      rw [l2, if_neg (by rw [show (200 : Int32) = nI 200 from rfl, nI_leN (by omega) (by omega)]; omega)]
      simp only [gLet, nI_1]
      rw [gUp_c, gWr_n (by omega) (by decide), gCv_s, gWr_n (by omega) (by decide), byte_id e3, gUp_c]
      have c1 : setC (setC g 1 (upd (g 1) 2 (nI (L + 1)))) 2 (upd (setC g 1 (upd (g 1) 2 (nI (L + 1))) 2) L a) 1 2 = nI (L + 1) := by
        rw [setC_n (by decide), setC_s, upd_s]
      have c2 : setC t 11 (upd (t 11) L a) 0 18 = nI L := by rw [setC_n (by decide), l3]
      rw [c1, c2, nI_1, setC_s, upd_s]
      refine ⟨_, _, _, rfl, rfl, P, h, S, u, U, v, V, Rl_ts R' (fun k hk => by rw [setC_n (by omega), setC_n (by omega)]) (by rw [setC_n (by decide), setC_n (by decide)]) (by rw [setC_n (by decide), setC_n (by decide)]) (fun k hk => by rw [setC_n (by omega), setC_n (by omega)]) (fun j hj => by rw [setC_s, upd_n (by omega), setC_n (by decide)]) (fun j hj => by rw [setC_n (by decide), setC_n (by decide)]) ?_ ?_⟩
      · refine ⟨L + 1, by omega, c1, by rw [setC_s, upd_s], fun i hi => ?_⟩
        rw [setC_s, setC_n (show 11 ≠ 0 by decide), setC_s, setC_n (show 2 ≠ 1 by decide)]
        by_cases hi2 : i = L
        · subst hi2
          rw [upd_s, upd_s]
          refine ⟨rfl, ?_⟩
          simp only [lt_tI, show (32 : Int32).toInt = 32 from rfl, show (126 : Int32).toInt = 126 from rfl] at e3
          exact ⟨by omega, by omega⟩
        · rw [upd_n hi2, upd_n hi2]
          exact l4 i (by omega)
      · exact snOk_eq (by rw [setC_n (by decide), setC_n (by decide)]) (by rw [setC_n (by decide), setC_n (by decide)]) (by rw [setC_n (by decide), setC_n (by decide)]) (by rw [setC_s, upd_n (by decide), setC_n (by decide)]) (by rw [setC_n (by decide), setC_n (by decide)]) (by rw [setC_n (by decide), setC_n (by decide)]) hsn
  · rw [e1, e2, gCl_s, gCl_s, if_neg one_ne, if_pos rfl]
    exact alike_q R' rfl rfl fQ_rf mQ_rf
theorem al_wipe {P : Pl} {h : Int32} {S : Sd} {u : Nat} {U : Nat → Sd} {v : Nat} {V : Nat → Sd} {g t : Sg} (R : Rl P h S u U v V g t) : alike (fX10_wipe g) (fX11_wipe t) := by
  have R' := R
  obtain ⟨-, -, -, -, -, -, -, ⟨L, l1, l2, l3, l4⟩, hsn, -⟩ := R
  unfold fX10_wipe fX11_wipe fX4_clear
  simp only [gLet, gCv_s, l2, l3, gUp_c]
  refine ⟨_, _, _, rfl, rfl, P, h, S, u, U, v, V, Rl_ts R' (fun k hk => by rw [setC_n (by omega)]) (by rw [setC_n (by decide)]) (by rw [setC_n (by decide)]) (fun k hk => by rw [setC_n (by omega)]) (fun j hj => by rw [setC_s, upd_n (by omega)]) (fun j hj => by rw [setC_n (by decide)]) ?_ ?_⟩
  · exact ⟨0, by omega, by rw [setC_s, upd_s]; rfl, by rw [setC_s, upd_s]; rfl, fun i hi => absurd hi (by omega)⟩
  · exact snOk_eq (by rw [setC_n (by decide)]) (by rw [setC_n (by decide)]) (by rw [setC_n (by decide)]) (by rw [setC_s, upd_n (by decide)]) (by rw [setC_n (by decide)]) (by rw [setC_n (by decide)]) hsn
theorem al_forget {P : Pl} {h : Int32} {S : Sd} {u : Nat} {U : Nat → Sd} {v : Nat} {V : Nat → Sd} {g t : Sg} (R : Rl P h S u U v V g t) : alike (fX10_forget g) (fX11_forget t) := by
  have R' := R
  obtain ⟨-, -, -, -, -, -, -, htx, ⟨n, l1, l2, l3, l4⟩, -⟩ := R
  unfold fX10_forget fX11_forget fX5_clear
  simp only [gLet, gCv_s, l2, l3, gUp_c]
  refine ⟨_, _, _, rfl, rfl, P, h, S, u, U, v, V, Rl_ts R' (fun k hk => by rw [setC_n (by omega)]) (by rw [setC_n (by decide)]) (by rw [setC_n (by decide)]) (fun k hk => by rw [setC_n (by omega)]) (fun j hj => by rw [setC_s, upd_n (by omega)]) (fun j hj => by rw [setC_n (by decide)]) ?_ ?_⟩
  · exact txOk_eq (by rw [setC_n (by decide)]) (by rw [setC_n (by decide)]) (by rw [setC_s, upd_n (by decide)]) (by rw [setC_n (by decide)]) htx
  · exact ⟨0, by omega, by rw [setC_s, upd_s]; rfl, by rw [setC_s, upd_s]; rfl, fun i hi => absurd hi (by omega)⟩
theorem al_see {P : Pl} {h : Int32} {S : Sd} {u : Nat} {U : Nat → Sd} {v : Nat} {V : Nat → Sd} {g t : Sg} (R : Rl P h S u U v V g t) (a b : Int32) : alike (fX10_see g a b) (fX11_see t a b) := by
  have R' := R
  obtain ⟨⟨hp, -⟩, ⟨hP, -⟩, ⟨hM, -⟩, -, -, -, -, htx, ⟨n, l1, l2, l3, l4⟩, -⟩ := R
  unfold fX10_see fX11_see
  rw [show (0 : Int64) = (0 : Int32).toInt64 from rfl, show (40 : Int64) = (40 : Int32).toInt64 from rfl]
  rcases f_noStep hp hP a with ⟨j, hj, ea, e⟩ | ⟨hn, e⟩
  · rw [e, (m_isStep hp hM a).1 ⟨j, hj, ea⟩, gCl_s, gCl_s, if_pos rfl, if_neg one_ne]
    rcases rng_c g t b 0 40 with ⟨e1, e2, e3⟩ | ⟨e1, e2⟩
    · rw [e1, e2, gCl_s, gCl_s, if_pos rfl, if_neg one_ne, l2, l3]
      by_cases hL : n = 6
      · subst hL
        rw [if_neg (by decide), if_pos (show nI 6 = 6 from rfl)]
        exact alike_q R' rfl rfl fQ_rf mQ_rf
      · rw [if_pos (by rw [show (6 : Int32) = nI 6 from rfl, nI_ltN (by omega) (by omega)]; omega), if_neg (by rw [show (6 : Int32) = nI 6 from rfl, nI_inj (by omega) (by omega)]; exact hL)]
        unfold fX5_add
        rw [l2, if_neg (by rw [show (6 : Int32) = nI 6 from rfl, nI_leN (by omega) (by omega)]; omega)]
        rw [gWr_n (by omega) (by decide), gWr_n (show n < 6 by omega) (by decide)]
        have c0 : setC g 75 (upd (g 75) n a) 74 2 = nI n := by rw [setC_n (by decide), l2]
        have c1 : setC t 12 (upd (t 12) n a) 0 23 = nI n := by rw [setC_n (by decide), l3]
        rw [c0, c1, gWr_n (by omega) (by decide), gWr_n (by omega) (by decide)]
        have c2 : setC (setC g 75 (upd (g 75) n a)) 76 (upd (setC g 75 (upd (g 75) n a) 76) n b) 74 2 = nI n := by rw [setC_n (by decide), c0]
        have c3 : setC (setC t 12 (upd (t 12) n a)) 13 (upd (setC t 12 (upd (t 12) n a) 13) n b) 0 23 = nI n := by rw [setC_n (by decide), c1]
        rw [c2, c3]
        simp only [gLet, nI_1, gUp_c, gCv_s]
        rw [setC_s, setC_s, upd_s, upd_s]
        refine ⟨_, _, _, rfl, rfl, P, h, S, u, U, v, V, Rl_ts R' (fun k hk => by rw [setC_n (by omega), setC_n (by omega), setC_n (by omega)]) (by rw [setC_n (by decide), setC_n (by decide), setC_n (by decide)]) (by rw [setC_n (by decide), setC_n (by decide), setC_n (by decide)]) (fun k hk => by rw [setC_n (by omega), setC_n (by omega), setC_n (by omega)]) (fun j hj => by rw [setC_s, upd_n (by omega), setC_n (by decide), setC_n (by decide)]) (fun j hj => by rw [setC_n (by decide), setC_n (by decide), setC_n (by decide)]) ?_ ?_⟩
        · exact txOk_eq (by rw [setC_n (by decide), setC_n (by decide), setC_n (by decide)]) (by rw [setC_n (by decide), setC_n (by decide), setC_n (by decide)]) (by rw [setC_s, upd_n (by decide), setC_n (by decide), setC_n (by decide)]) (by rw [setC_n (by decide), setC_n (by decide), setC_n (by decide)]) htx
        · refine ⟨n + 1, by omega, by rw [setC_s, upd_s], by rw [setC_s, upd_s], fun i hi => ?_⟩
          rw [setC_n (show 75 ≠ 74 by decide), setC_n (show 75 ≠ 76 by decide), setC_s, setC_n (show 12 ≠ 0 by decide), setC_n (show 12 ≠ 13 by decide), setC_s, setC_n (show 76 ≠ 74 by decide), setC_s, setC_n (show 13 ≠ 0 by decide), setC_s, setC_n (show 76 ≠ 75 by decide), setC_n (show 13 ≠ 12 by decide)]
          by_cases hi2 : i = n
          · subst hi2
            rw [upd_s, upd_s, upd_s, upd_s]
            exact ⟨rfl, rfl⟩
          · rw [upd_n hi2, upd_n hi2, upd_n hi2, upd_n hi2]
            exact l4 i (by omega)
    · rw [e1, e2, gCl_s, gCl_s, if_neg one_ne, if_pos rfl]
      exact alike_q R' rfl rfl fQ_rf mQ_rf
  · rw [e, (m_isStep hp hM a).2 hn, gCl_s, gCl_s, if_neg one_ne, if_pos rfl]
    exact alike_q R' rfl rfl fQ_rf mQ_rf
