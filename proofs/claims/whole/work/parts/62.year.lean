/-! ===== years ===== -/
def actS (P : Pl) (D : Nat) (S : Sd) : Sd := if D % 8 < 2 then upd S (9 + D / 8 % pS P) (nI (D / 64 % 41)) else if D % 8 = 2 then turnS S (D / 8 % pC P) else if D % 8 = 3 then upd S (18 + D / 8 % pS P) (nI (D / 64 % 10)) else S
theorem vSt_cats {P : Pl} {S : Sd} {x : Nat} {d : Int32} (hx9 : x < 9) (hd : rg d 0 9) (h : vSt P S) : vSt P (upd S (18 + x) d) := by
  obtain ⟨v1, v2, v3, v4, v5, v6⟩ := h
  refine ⟨fun y hy => by rw [upd_n (by omega)]; exact v1 y hy, fun y h1 h2 => by rw [upd_n (by omega)]; exact v2 y h1 h2, by rw [upd_n (by omega)]; exact v3, fun z hz => by rw [upd_n (by omega)]; exact v4 z hz, fun z h1 h2 => by rw [upd_n (by omega)]; exact v5 z h1 h2, fun z hz => ?_⟩
  by_cases e : z = x
  · rw [e, upd_s]; exact hd
  · rw [upd_n (by omega)]; exact v6 z hz
theorem cSt_cats {g : Sg} {s x : Nat} {S : Sd} {d : Int32} (hx : x < 9) (h : cSt g s S) : cSt (setC g (s + 2) (upd (g (s + 2)) x d)) s (upd S (18 + x) d) := by
  obtain ⟨c1, c2, c3, c4, c5⟩ := h
  refine ⟨fun y hy => by rw [setC_n (by omega), upd_n (by omega)]; exact c1 y hy, by rw [setC_n (by omega), upd_n (by omega)]; exact c2, fun z hz => by rw [setC_n (by omega), upd_n (by omega)]; exact c3 z hz, fun z hz => ?_, by rw [setC_n (by omega), upd_n (by omega)]; exact c5⟩
  rw [setC_s]
  by_cases e : z = x
  · rw [e, upd_s, upd_s]
  · rw [upd_n e, upd_n (by omega)]; exact c4 z hz
theorem rg_n {n : Nat} {b : Int} (h : (n : Int) ≤ b) (hn : n ≤ 1000) : rg (nI n) 0 b := ⟨by rw [tI_nI (by omega)]; omega, by rw [tI_nI (by omega)]; exact h⟩
theorem vSt_act {P : Pl} (hp : pOk P) {S : Sd} (D : Nat) (h : vSt P S) : vSt P (actS P D S) := by
  have h9 := hp.2.2.2.1
  have h8 := hp.2.1
  have m1 := Nat.mod_lt (D / 8) hp.2.2.1
  have m2 := Nat.mod_lt (D / 8) hp.1
  have m3 := Nat.mod_lt (D / 64) (show 41 > 0 by decide)
  have m4 := Nat.mod_lt (D / 64) (show 10 > 0 by decide)
  unfold actS
  split
  · exact vSt_down m1 (by omega) (rg_n (by omega) (by omega)) h
  · split
    · exact vSt_turn (by omega) h
    · split
      · exact vSt_cats (by omega) (rg_n (by omega) (by omega)) h
      · exact h
theorem f_modulo (g : Sg) {a b : Nat} (ha : a < 2147483648) (hb : b < 2147483648) (h0 : 0 < b) : fX10_modulo g (nI a) (nI b) = some (nI (a % b), g) := by
  unfold fX10_modulo gNz
  rw [if_neg (nI_nle h0 hb), if_neg (nI_ne0 h0 hb), pk_rem ha h0 hb]
theorem f_act {P : Pl} (hp : pOk P) {g : Sg} (hP : cPlan P g) {S : Sd} (hc : cSt g 78 S) {D : Nat} (hD : D < 65521) : ∃ g', fX1_act g (nI D) = some g' ∧ fT g g' ∧ cSt g' 78 (actS P D S) := by
  have h9 := hp.2.2.2.1
  have h8 := hp.2.1
  have m1 := Nat.mod_lt (D / 8) hp.2.2.1
  have m2 := Nat.mod_lt (D / 8) hp.1
  have m3 := Nat.mod_lt (D / 64) (show 41 > 0 by decide)
  have m4 := Nat.mod_lt (D / 64) (show 10 > 0 by decide)
  unfold fX1_act actS
  simp only [gLet]
  rw [show (8 : Int32) = nI 8 from rfl, show (64 : Int32) = nI 64 from rfl, show (41 : Int32) = nI 41 from rfl, show (10 : Int32) = nI 10 from rfl, pk_div (by omega) (by decide) (by decide), pk_div (by omega) (by decide) (by decide)]
  have e8 : nI D - nI (D / 8) * nI 8 = nI (D % 8) := by rw [← pk_div (a := D) (d := 8) (by omega) (by decide) (by decide)]; exact pk_rem (by omega) (by decide) (by decide)
  have e41 : nI (D / 64) - nI (D / 64) / nI 41 * nI 41 = nI (D / 64 % 41) := pk_rem (by omega) (by decide) (by decide)
  have e10 : nI (D / 64) - nI (D / 64) / nI 10 * nI 10 = nI (D / 64 % 10) := pk_rem (by omega) (by decide) (by decide)
  rw [e8, e41, e10, hP.2.1, hP.2.2.1, f_modulo g (by omega) (by omega) (by omega), f_modulo g (by omega) (by omega) (by omega)]
  simp only [gCl_s, gWr_n (show D / 8 % pS P < 9 by omega) (show 9 ≤ 1000 by decide)]
  have k1 := cSt_down (d := nI (D / 64 % 41)) (show D / 8 % pS P < 9 by omega) hc
  obtain ⟨k2a, k2⟩ := cSt_turn (j := D / 8 % pC P) hc
  have k3 := cSt_cats (d := nI (D / 64 % 10)) (show D / 8 % pS P < 9 by omega) hc
  rw [k2a, gCv_s]
  have lt8 := Nat.mod_lt D (show 8 > 0 by decide)
  have ne : ∀ a b : Nat, a < 8 → b < 8 → a ≠ b → ¬ nI a = nI b := fun a b h1 h2 h3 e => h3 ((nI_inj (by omega) (by omega)).mp e)
  have w1 : fT g (setC g (78 + 1) (upd (g (78 + 1)) (D / 8 % pS P) (nI (D / 64 % 41)))) := fun k h1 h2 => setC_n (by omega)
  have w2 : fT g (setC g 78 (upd (g 78) 3 (S 8 ^^^ ((1 : Int32) <<< (nI (D / 8 % pC P) &&& 31))))) := fun k h1 h2 => setC_n (by omega)
  have w3 : fT g (setC g (78 + 2) (upd (g (78 + 2)) (D / 8 % pS P) (nI (D / 64 % 10)))) := fun k h1 h2 => setC_n (by omega)
  rw [show (0 : Int32) = nI 0 from rfl, show (1 : Int32) = nI 1 from rfl, show (2 : Int32) = nI 2 from rfl, show (3 : Int32) = nI 3 from rfl]
  by_cases d0 : D % 8 = 0
  · rw [if_pos (by rw [d0]), if_pos (by omega)]
    exact ⟨_, rfl, w1, k1⟩
  rw [if_neg (ne _ _ lt8 (by decide) d0)]
  by_cases d1 : D % 8 = 1
  · rw [if_pos (by rw [d1]), if_pos (by omega)]
    exact ⟨_, rfl, w1, k1⟩
  rw [if_neg (ne _ _ lt8 (by decide) d1), if_neg (show ¬ D % 8 < 2 by omega)]
  by_cases d2 : D % 8 = 2
  · rw [if_pos (by rw [d2]), if_pos d2]
    exact ⟨_, rfl, w2, k2⟩
  rw [if_neg (ne _ _ lt8 (by decide) d2), if_neg d2]
  by_cases d3 : D % 8 = 3
  · rw [if_pos (by rw [d3]), if_pos d3]
    exact ⟨_, rfl, w3, k3⟩
  rw [if_neg (ne _ _ lt8 (by decide) d3), if_neg d3]
  exact ⟨g, rfl, fun _ _ _ => rfl, hc⟩
theorem gNz_n {β : Type} {n : Nat} {K : Option β} (h0 : 0 < n) (hn : n < 2147483648) : gNz (nI n) K = K := if_neg (nI_ne0 h0 hn)
theorem m_does {P : Pl} (hp : pOk P) {t : Sg} (hP : mPlan P t) {S : Sd} (hm : mSt t 308 S) {D : Nat} (hD : D < 65521) : ∃ t', fX11_does t 308 (nI D) = some t' ∧ mT t t' ∧ mSt t' 308 (actS P D S) := by
  have h9 := hp.2.2.2.1
  have h8 := hp.2.1
  have h1 := hp.1
  have h1s := hp.2.2.1
  have m1 := Nat.mod_lt (D / 8) hp.2.2.1
  have m2 := Nat.mod_lt (D / 8) hp.1
  have m3 := Nat.mod_lt (D / 64) (show 41 > 0 by decide)
  have m4 := Nat.mod_lt (D / 64) (show 10 > 0 by decide)
  unfold fX11_does actS
  simp only [gLet]
  rw [show (8 : Int32) = nI 8 from rfl, show (64 : Int32) = nI 64 from rfl, show (41 : Int32) = nI 41 from rfl, show (10 : Int32) = nI 10 from rfl, show (308 : Int32) = nI 308 from rfl, show (9 : Int32) = nI 9 from rfl, show (18 : Int32) = nI 18 from rfl, pk_div (by omega) (by decide) (by decide), pk_div (by omega) (by decide) (by decide), hP.1, hP.2.1]
  have e8 : nI D - nI (D / 8) * nI 8 = nI (D % 8) := by rw [← pk_div (a := D) (d := 8) (by omega) (by decide) (by decide)]; exact pk_rem (by omega) (by decide) (by decide)
  have e41 : nI (D / 64) - nI (D / 64) / nI 41 * nI 41 = nI (D / 64 % 41) := pk_rem (by omega) (by decide) (by decide)
  have e10 : nI (D / 64) - nI (D / 64) / nI 10 * nI 10 = nI (D / 64 % 10) := pk_rem (by omega) (by decide) (by decide)
  have ep : nI (D / 8) - nI (D / 8) / nI (pS P) * nI (pS P) = nI (D / 8 % pS P) := pk_rem (by omega) (by omega) (by omega)
  have ec : nI (D / 8) - nI (D / 8) / nI (pC P) * nI (pC P) = nI (D / 8 % pC P) := pk_rem (by omega) (by omega) (by omega)
  simp only [e8, e41, e10, ep, ec, nI_add, gNz_n (show 0 < pS P by omega) (show pS P < 2147483648 by omega), gNz_n (show 0 < pC P by omega) (show pC P < 2147483648 by omega)]
  rw [gRd_n (show 308 + 8 < 336 by decide) (by decide), gWr_n (show 308 + 8 < 336 by decide) (by decide), gWr_n (show 308 + 18 + D / 8 % pS P < 336 by omega) (by decide), gWr_n (show 308 + 9 + D / 8 % pS P < 336 by omega) (by decide), hm 8 (by decide)]
  have k1 := mSt_put (i := 9 + D / 8 % pS P) (x := nI (D / 64 % 41)) hm
  have k2 := mSt_put (i := 8) (x := S 8 ^^^ ((1 : Int32) <<< (nI (D / 8 % pC P) &&& 31))) hm
  have k3 := mSt_put (i := 18 + D / 8 % pS P) (x := nI (D / 64 % 10)) hm
  have w1 : mT t (setC t 10 (upd (t 10) (308 + (9 + D / 8 % pS P)) (nI (D / 64 % 41)))) := mT_put (by omega)
  have w2 : mT t (setC t 10 (upd (t 10) (308 + 8) (S 8 ^^^ ((1 : Int32) <<< (nI (D / 8 % pC P) &&& 31))))) := mT_put (by omega)
  have w3 : mT t (setC t 10 (upd (t 10) (308 + (18 + D / 8 % pS P)) (nI (D / 64 % 10)))) := mT_put (by omega)
  have lt8 := Nat.mod_lt D (show 8 > 0 by decide)
  rw [show 308 + 9 + D / 8 % pS P = 308 + (9 + D / 8 % pS P) by omega, show 308 + 18 + D / 8 % pS P = 308 + (18 + D / 8 % pS P) by omega, show (2 : Int32) = nI 2 from rfl, show (3 : Int32) = nI 3 from rfl]
  by_cases d0 : D % 8 < 2
  · rw [if_neg (by rw [nI_leN (by omega) (by omega)]; omega), if_pos d0]
    exact ⟨_, rfl, w1, k1⟩
  rw [if_pos (by rw [nI_leN (by omega) (by omega)]; omega), if_neg d0]
  by_cases d2 : D % 8 = 2
  · rw [if_pos (by rw [d2]), if_pos d2]
    exact ⟨_, rfl, w2, k2⟩
  rw [if_neg (by rw [nI_inj (by omega) (by omega)]; exact d2), if_neg d2]
  by_cases d3 : D % 8 = 3
  · rw [if_pos (by rw [d3]), if_pos d3]
    exact ⟨_, rfl, w3, k3⟩
  rw [if_neg (by rw [nI_inj (by omega) (by omega)]; exact d3), if_neg d3]
  exact ⟨t, rfl, mT_rf, hm⟩
/-- the draw of the k-th day of a year -/
def drawN (z k : Nat) : Nat := (7919 * z + 6151 * k + 1) * (7919 * z + 6151 * k + 1) % 65521
theorem draw_e {z k : Nat} (hz : z ≤ 9999) (hk : k ≤ 60) : (((((7919 : Int64) * ((nI z).toInt64)) + ((6151 : Int64) * ((nI k).toInt64))) + (1 : Int64)) * ((((7919 : Int64) * ((nI z).toInt64)) + ((6151 : Int64) * ((nI k).toInt64))) + (1 : Int64)) - ((((7919 : Int64) * ((nI z).toInt64)) + ((6151 : Int64) * ((nI k).toInt64))) + (1 : Int64)) * ((((7919 : Int64) * ((nI z).toInt64)) + ((6151 : Int64) * ((nI k).toInt64))) + (1 : Int64)) / (65521 : Int64) * (65521 : Int64)).toInt32 = nI (drawN z k) := by
  rw [nI_l (by omega), nI_l (by omega), show (7919 : Int64) = lN 7919 from rfl, show (6151 : Int64) = lN 6151 from rfl, show (1 : Int64) = lN 1 from rfl, show (65521 : Int64) = lN 65521 from rfl, lN_mul, lN_mul, lN_add, lN_add, lN_mul]
  have hx : 7919 * z + 6151 * k + 1 ≤ 79552142 := by omega
  have hxx : (7919 * z + 6151 * k + 1) * (7919 * z + 6151 * k + 1) ≤ 79552142 * 79552142 := Nat.mul_le_mul hx hx
  rw [pk_lRem (by omega) (by decide) (by decide), lN_i]
  rfl
def yrS (P : Pl) (z : Nat) : Nat → Nat → Sd → Sd
  | _, 0, S => S
  | k, d + 1, S => yrS P z (k + 1) d (dayS P (actS P (drawN z k) S))
def yrL (P : Pl) (z : Nat) : Nat → Nat → Int32 → Sd → Int32
  | _, 0, a, _ => a
  | k, d + 1, a, S => yrL P z (k + 1) d (a + lftS P (actS P (drawN z k) S)) (dayS P (actS P (drawN z k) S))
theorem yrS_v {P : Pl} (hp : pOk P) {z : Nat} : ∀ (d k : Nat) (S : Sd), vSt P S → vSt P (yrS P z k d S) := by
  intro d
  induction d with
  | zero => intro k S h; exact h
  | succ d ih => intro k S h; exact ih _ _ (vSt_day (vSt_act hp _ h))
theorem f_yrLp {P : Pl} (hp : pOk P) {z n0 : Nat} (hz : z ≤ 9999) (hn0 : n0 ≤ 60) : ∀ (d i n : Nat) (g : Sg) (S : Sd) (a : Int32), i + d = n0 → d < n → cPlan P g → cSt g 78 S → ∃ g', fX1_leftOverInYear_14 (nI z) (nI n0) n a (nI i) g = some (yrL P z i d a S, g') ∧ fT g g' ∧ cSt g' 78 (yrS P z i d S) := by
  intro d
  induction d with
  | zero =>
    intro i n g S a hi hn hP hc
    match n, hn with
    | n + 1, _ =>
      rw [fX1_leftOverInYear_14, if_pos ((nI_leN (by omega) (by omega)).mpr (by omega))]
      exact ⟨g, rfl, fun _ _ _ => rfl, hc⟩
  | succ d ih =>
    intro i n g S a hi hn hP hc
    match n, hn with
    | n + 1, hn =>
      rw [fX1_leftOverInYear_14, if_neg (by rw [nI_leN (by omega) (by omega)]; omega)]
      simp only [gLet, nI_1]
      rw [draw_e hz (by omega)]
      obtain ⟨g1, e1, e2, e3⟩ := f_act hp hP hc (D := drawN z i) (Nat.mod_lt _ (by decide))
      obtain ⟨g2, k1, k2, k3⟩ := f_day hp (fT_plan e2 hP) (s := 78) (by unfold oSt; omega) e3
      have a2 : fT g1 g2 := fun k h1 h2 => k3 k h1 (by omega)
      obtain ⟨g3, p1, p2, p3⟩ := ih (i + 1) n g2 (dayS P (actS P (drawN z i) S)) (a + lftS P (actS P (drawN z i) S)) (by omega) (by omega) (fT_plan (fT_tr e2 a2) hP) k2
      rw [e1, gCv_s, k1, gCl_s]
      exact ⟨g3, p1, fT_tr e2 (fT_tr a2 p2), p3⟩
theorem m_yrLp {P : Pl} (hp : pOk P) {z n0 : Nat} (hz : z ≤ 9999) (hn0 : n0 ≤ 60) (K : Int32 → Sg → Option (Int32 × Sg)) : ∀ (d i n : Nat) (t : Sg) (S : Sd) (a : Int32), i + d = n0 → d < n → mPlan P t → mSt t 308 S → vSt P S → ∃ t', fX11_year_50 (nI z) (nI n0) n a (nI i) t K = K (yrL P z i d a S) t' ∧ mT t t' ∧ mSt t' 308 (yrS P z i d S) := by
  intro d
  induction d with
  | zero =>
    intro i n t S a hi hn hP hm vS
    match n, hn with
    | n + 1, _ =>
      rw [fX11_year_50, if_pos ((nI_leN (by omega) (by omega)).mpr (by omega))]
      exact ⟨t, rfl, mT_rf, hm⟩
  | succ d ih =>
    intro i n t S a hi hn hP hm vS
    match n, hn with
    | n + 1, hn =>
      rw [fX11_year_50, if_neg (by rw [nI_leN (by omega) (by omega)]; omega)]
      simp only [gLet, nI_1]
      rw [draw_e hz (by omega)]
      obtain ⟨t1, e1, e2, e3⟩ := m_does hp hP hm (D := drawN z i) (Nat.mod_lt _ (by decide))
      have va := vSt_act hp (drawN z i) vS
      obtain ⟨t2, k1, k2, k3, k4⟩ := m_day hp (mT_plan e2 hP) (b := 308) (by omega) e3 va 0
      rw [sn0] at k1 k2
      have a2 : mT t1 t2 := ⟨k3, fun j hj => k4 j (by omega)⟩
      obtain ⟨t3, p1, p2, p3⟩ := ih (i + 1) n t2 (dayS P (actS P (drawN z i) S)) (a + lftS P (actS P (drawN z i) S)) (by omega) (by omega) (mT_plan (mT_tr e2 a2) hP) k2 (vSt_day va)
      rw [e1, gCv_s, show (308 : Int32) = nI 308 from rfl, k1, gCl_s]
      exact ⟨t3, p1, mT_tr e2 (mT_tr a2 p2), p3⟩
theorem al_year {P : Pl} {h : Int32} {S : Sd} {u : Nat} {U : Nat → Sd} {v : Nat} {V : Nat → Sd} {g t : Sg} (R : Rl P h S u U v V g t) (a b c : Int32) : alike (fX10_year g a b c) (fX11_year t a b c) := by
  have R' := R
  obtain ⟨⟨hp, -, vS, -⟩, ⟨hP, -⟩, ⟨hM, -⟩, hc, hm, -⟩ := R
  unfold fX10_year fX11_year
  rw [show (0 : Int64) = (0 : Int32).toInt64 from rfl, show (1 : Int64) = (1 : Int32).toInt64 from rfl, show (9999 : Int64) = (9999 : Int32).toInt64 from rfl, show (60 : Int64) = (60 : Int32).toInt64 from rfl]
  rcases rng_c g t a 0 9999 with ⟨d1, d2, d3⟩ | ⟨d1, d2⟩
  · rw [d1, d2, gCl_s, gCl_s, if_pos rfl, if_neg one_ne]
    rcases rng_c g t b 1 60 with ⟨e1, e2, e3⟩ | ⟨e1, e2⟩
    · rw [e1, e2, gCl_s, gCl_s, if_pos rfl, if_neg one_ne]
      rcases rng_c g t c 0 1 with ⟨f1, f2, f3⟩ | ⟨f1, f2⟩
      · rw [f1, f2, gCl_s, gCl_s, if_pos rfl, if_neg one_ne]
        have d3' : 0 ≤ a.toInt ∧ a.toInt ≤ 9999 := by
          simp only [lt_tI, t0, show (9999 : Int32).toInt = 9999 from rfl] at d3
          omega
        have e3' : 1 ≤ b.toInt ∧ b.toInt ≤ 60 := by
          simp only [lt_tI, t1, show (60 : Int32).toInt = 60 from rfl] at e3
          omega
        obtain ⟨z, rfl, hz⟩ := nI_ex (x := a) (by omega)
        obtain ⟨n, rfl, hn⟩ := nI_ex (x := b) (by omega)
        obtain ⟨g1, p1, p2, p3⟩ := f_then hc
        obtain ⟨t1, q1, q2, q3⟩ := m_then hm
        obtain ⟨g2, k1, k2, k3⟩ := f_yrLp hp (z := z) (n0 := n) (by omega) (by omega) n 0 gN g1 S 0 (by omega) (by unfold gN; omega) (fT_plan p2 hP) p3
        obtain ⟨t2, j1, j2, j3⟩ := m_yrLp hp (z := z) (n0 := n) (by omega) (by omega) (fun x32 g33 => if c = 0 then gCl (fX11_alive g33 (308 : Int32)) (fun r37 g36 => some (r37, g36)) else some (x32, g33)) n 0 gN t1 S 0 (by omega) (by unfold gN; omega) (mT_plan q2 hM) q3 vS
        rw [show nI 0 = 0 from rfl] at k1 j1
        unfold fX1_leftOverInYear
        rw [p1, gCv_s, k1, gCl_s, q1, gCv_s, j1]
        by_cases c0 : c = 0
        · rw [if_pos c0, if_pos c0, f_notGone, gCl_s, show (308 : Int32) = nI 308 from rfl, m_alive hp (by omega) (mT_plan (mT_tr q2 j2) hM) j3 (yrS_v hp _ _ _ vS), gCl_s, ngI_congr (S' := yrS P z 0 n S) 8 (fun y hy => k3.1 y hy)]
          exact alike_q R' rfl rfl (fT_q (fT_tr p2 k2)) (mT_q (mT_tr q2 j2))
        · rw [if_neg c0, if_neg c0]
          exact alike_q R' rfl rfl (fT_q (fT_tr p2 k2)) (mT_q (mT_tr q2 j2))
      · rw [f1, f2, gCl_s, gCl_s, if_neg one_ne, if_pos rfl]
        exact alike_q R' rfl rfl fQ_rf mQ_rf
    · rw [e1, e2, gCl_s, gCl_s, if_neg one_ne, if_pos rfl]
      exact alike_q R' rfl rfl fQ_rf mQ_rf
  · rw [d1, d2, gCl_s, gCl_s, if_neg one_ne, if_pos rfl]
    exact alike_q R' rfl rfl fQ_rf mQ_rf
