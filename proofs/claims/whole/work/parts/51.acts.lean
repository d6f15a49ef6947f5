/-! ===== reading ===== -/
/-- wells as the reference has them, as the class has them -/
theorem thr_same {P : Pl} (hp : pOk P) {g t : Sg} {S : Sd} (hc : cSt g 24 S) (hm : mSt t 0 S) (x : Nat) (b : Int32) : thrL (g (24 + 3)) (tl P x) b = thrL (fun y => t 10 (0 + y)) (tl P x) b := by
  refine thrL_congr _ _ (fun y hy => ?_)
  have := ((tl_mem hp).mp hy).1
  have := hp.2.1
  rw [hc.1 y (by omega), hm y (by omega)]
theorem day_same {P : Pl} (hp : pOk P) {g t : Sg} {S : Sd} (hc : cSt g 24 S) (hm : mSt t 0 S) {x : Nat} (hx : x < 9) : (dayA P x (g (24 + 3)) (g 24 3) (g (24 + 1) x) (g (24 + 2) x) (g 73)).1 = (dayA P x (fun y => t 10 (0 + y)) (t 10 (0 + 8)) (t 10 (0 + 9 + x)) (t 10 (0 + 18 + x)) (t 14)).1 ∧ ∀ y ∈ tl P x, (dayA P x (g (24 + 3)) (g 24 3) (g (24 + 1) x) (g (24 + 2) x) (g 73)).2 y = (dayA P x (fun y => t 10 (0 + y)) (t 10 (0 + 8)) (t 10 (0 + 9 + x)) (t 10 (0 + 18 + x)) (t 14)).2 y := by
  have e8 : t 10 (0 + 8) = S 8 := hm 8 (by omega)
  have e9 : t 10 (0 + 9 + x) = S (9 + x) := by have z := hm (9 + x) (by omega); rwa [show 0 + (9 + x) = 0 + 9 + x by omega] at z
  have e18 : t 10 (0 + 18 + x) = S (18 + x) := by have z := hm (18 + x) (by omega); rwa [show 0 + (18 + x) = 0 + 18 + x by omega] at z
  rw [hc.2.1, hc.2.2.1 x hx, hc.2.2.2.1 x hx, e8, e9, e18]
  refine dayA_congr (fun y hy => ?_)
  have := ((tl_mem hp).mp hy).1
  have := hp.2.1
  rw [hc.1 y (by omega), hm y (by omega)]
theorem al_step {P : Pl} {h : Int32} {S : Sd} {u : Nat} {U : Nat → Sd} {v : Nat} {V : Nat → Sd} {g t : Sg} (R : Rl P h S u U v V g t) (a b : Int32) : alike (fX10_step g a b) (fX11_step t a b) := by
  have R' := R
  obtain ⟨⟨hp, -⟩, ⟨hP, -⟩, ⟨hM, -⟩, hc, hm, -⟩ := R
  have h9 := hp.2.2.2.1
  unfold fX10_step fX11_step
  rw [show (0 : Int64) = (0 : Int32).toInt64 from rfl, show (3 : Int64) = (3 : Int32).toInt64 from rfl]
  rcases f_noStep hp hP a with ⟨j, hj, rfl, e⟩ | ⟨hn, e⟩
  · rw [e, (m_isStep hp hM _).1 ⟨j, hj, rfl⟩, gCl_s, gCl_s, if_pos rfl, if_neg one_ne]
    rcases rng_c g t b 0 3 with ⟨e1, e2, e3⟩ | ⟨e1, e2⟩
    · rw [e1, e2, gCl_s, gCl_s, if_pos rfl, if_neg one_ne, show (9 : Int32) = nI 9 from rfl, show (18 : Int32) = nI 18 from rfl]
      simp only [nI_add]
      by_cases b0 : b = 0
      · rw [if_pos b0, if_pos b0, gRd_n (by omega) (by decide), gRd_n (by omega) (by decide)]
        refine alike_q R' rfl (by rw [← show (0 : Nat) + (9 + j) = 9 + j by omega, hm (9 + j) (by omega), ← hc.2.2.1 j (by omega)]) fQ_rf mQ_rf
      · rw [if_neg b0, if_neg b0]
        by_cases b1 : b = 1
        · rw [if_pos b1, if_pos b1, gRd_n (by omega) (by decide), gRd_n (by omega) (by decide)]
          refine alike_q R' rfl (by rw [← show (0 : Nat) + (18 + j) = 18 + j by omega, hm (18 + j) (by omega), ← hc.2.2.2.1 j (by omega)]) fQ_rf mQ_rf
        · rw [if_neg b1, if_neg b1]
          by_cases b2 : b = 2
          · rw [if_pos b2, if_pos b2, f_leftOverAt hp hP (by omega), show (0 : Int32) = nI 0 from rfl, m_leftAt hp hM (by omega) (by omega), gCl_s, gCl_s]
            refine alike_q R' rfl (by rw [← (day_same hp hc hm (x := j) (by omega)).1]) (fQ_set (by unfold scC; omega) (by decide) (by decide)) (mQ_set (by omega))
          · rw [if_neg b2, if_neg b2, f_notGoneAt hp hP (by omega), show (0 : Int32) = nI 0 from rfl, m_thereAt hp hM (by omega) (by omega), gCl_s, gCl_s]
            refine alike_q R' rfl (by rw [show nI 0 = 0 from rfl, thr_same hp hc hm]) fQ_rf mQ_rf
    · rw [e1, e2, gCl_s, gCl_s, if_neg one_ne, if_pos rfl]
      exact alike_q R' rfl rfl fQ_rf mQ_rf
  · rw [e, (m_isStep hp hM a).2 hn, gCl_s, gCl_s, if_neg one_ne, if_pos rfl]
    exact alike_q R' rfl rfl fQ_rf mQ_rf
theorem bit_1 (b : Int32) (y : Nat) : (b >>> (nI y &&& 31)) &&& 1 = if bit b y = true then 1 else 0 := by
  unfold bit
  rcases and1 (b >>> (nI y &&& 31)) with e | e
  · rw [e]; rfl
  · rw [e]; rfl
theorem al_younger {P : Pl} {h : Int32} {S : Sd} {u : Nat} {U : Nat → Sd} {v : Nat} {V : Nat → Sd} {g t : Sg} (R : Rl P h S u U v V g t) (a b : Int32) : alike (fX10_younger g a b) (fX11_younger t a b) := by
  have R' := R
  obtain ⟨⟨hp, -, vS, -⟩, ⟨hP, -⟩, ⟨hM, -⟩, hc, hm, -⟩ := R
  have h9 := hp.2.2.2.1
  have h8 := hp.2.1
  unfold fX10_younger fX11_younger
  rw [show (0 : Int64) = (0 : Int32).toInt64 from rfl, show (6 : Int64) = (6 : Int32).toInt64 from rfl]
  rcases f_noYounger hp hP a with ⟨j, hj, rfl, e⟩ | ⟨hn, e⟩
  · rw [e, (m_isOne hp hM _).1 ⟨j, hj, rfl⟩, gCl_s, gCl_s, if_pos rfl, if_neg one_ne]
    rcases rng_c g t b 0 6 with ⟨e1, e2, e3⟩ | ⟨e1, e2⟩
    · obtain ⟨p1, p2, p3, p4⟩ := hP.1 j hj
      obtain ⟨q1, q2, q3, q4⟩ := hM.2.2.1 j hj
      have hA := (hp.2.2.2.2 j hj).1
      rw [e1, e2, gCl_s, gCl_s, if_pos rfl, if_neg one_ne, gRd_n (show j < 8 by omega) (by decide) (f := t 2), q2, show (0 : Int32) = nI 0 from rfl, m_leftAt hp hM (by omega) (by omega), gCl_s, show nI 0 = 0 from rfl]
      have hsame := day_same hp hc hm (x := pA P j) (by omega)
      have hx : rg (dayA P (pA P j) (fun y => t 10 (0 + y)) (t 10 (0 + 8)) (t 10 (0 + 9 + pA P j)) (t 10 (0 + 18 + pA P j)) (t 14)).1 0 40 := by
        refine (pourA_b hp ?_ ?_).1
        · rw [show 0 + 9 + pA P j = 0 + (9 + pA P j) by omega, hm _ (by omega)]
          exact vS.2.2.2.1 _ (by omega)
        · rw [show 0 + 18 + pA P j = 0 + (18 + pA P j) by omega, hm _ (by omega)]
          exact vS.2.2.2.2.2 _ (by omega)
      generalize dayA P (pA P j) (fun y => t 10 (0 + y)) (t 10 (0 + 8)) (t 10 (0 + 9 + pA P j)) (t 10 (0 + 18 + pA P j)) (t 14) = w at hsame hx
      have mq : mQ t (setC t 14 w.2) := mQ_set (by omega)
      by_cases b0 : b = 0
      · rw [if_pos b0, if_pos b0, gRd_n (by omega) (by decide), gRd_n (by omega) (by decide), setC_n (show 1 ≠ 14 by decide), p1, q1]
        exact alike_q R' rfl rfl fQ_rf mq
      · rw [if_neg b0, if_neg b0]
        by_cases b1 : b = 1
        · rw [if_pos b1, if_pos b1, gRd_n (by omega) (by decide), gRd_n (by omega) (by decide), setC_n (show 2 ≠ 14 by decide), p2, q2]
          exact alike_q R' rfl rfl fQ_rf mq
        · rw [if_neg b1, if_neg b1]
          by_cases b2 : b = 2
          · rw [if_pos b2, if_pos b2, gRd_n (by omega) (by decide), gRd_n (by omega) (by decide), setC_n (show 3 ≠ 14 by decide), p3, q3]
            exact alike_q R' rfl rfl fQ_rf mq
          · rw [if_neg b2, if_neg b2]
            by_cases b3 : b = 3
            · rw [if_pos b3, if_pos b3, gRd_n (by omega) (by decide), gRd_n (by omega) (by decide), setC_n (show 4 ≠ 14 by decide), p4, q4]
              exact alike_q R' rfl rfl fQ_rf mq
            · rw [if_neg b3, if_neg b3]
              by_cases b4 : b = 4
              · rw [if_pos b4, if_pos b4, gRd_n (by omega) (by decide), gRd_n (by omega) (by decide), setC_n (show 10 ≠ 14 by decide), show g 27 j = S j from hc.1 j (by omega), show t 10 j = S j from by rw [← hm j (by omega), Nat.zero_add]]
                exact alike_q R' rfl rfl fQ_rf mq
              · rw [if_neg b4, if_neg b4]
                by_cases b5 : b = 5
                · rw [if_pos b5, if_pos b5]
                  unfold fX9_hasQuarrelled
                  rw [f_has, gCl_s, gZ_b, gCl_s, show (8 : Int32) = nI 8 from rfl, gRd_n (by omega) (by decide), setC_n (show 10 ≠ 14 by decide), hc.2.1, show t 10 8 = S 8 from hm 8 (by omega), bit_1]
                  by_cases hb : bit (S 8) j = true
                  · rw [bI_t hb, if_neg one_ne, if_pos hb]
                    exact alike_q R' rfl rfl fQ_rf mq
                  · rw [bI_f hb, if_pos rfl, if_neg hb]
                    exact alike_q R' rfl rfl fQ_rf mq
                · rw [if_neg b5, if_neg b5, gRd_n (by omega) (by decide), p2, f_leftOverAt hp hP (by omega), gCl_s, gRd_n (by omega) (by decide), if_pos (by rw [le_tI, t0]; exact hx.1), gRd_n (by omega) (by decide), setC_s, setC_s]
                  refine alike_q R' rfl ?_ (fQ_set (by unfold scC; omega) (by decide) (by decide)) mq
                  rw [← hsame.2 j ((tl_mem hp).mpr ⟨hj, rfl⟩)]
    · rw [e1, e2, gCl_s, gCl_s, if_neg one_ne, if_pos rfl]
      exact alike_q R' rfl rfl fQ_rf mQ_rf
  · rw [e, (m_isOne hp hM a).2 hn, gCl_s, gCl_s, if_neg one_ne, if_pos rfl]
    exact alike_q R' rfl rfl fQ_rf mQ_rf
