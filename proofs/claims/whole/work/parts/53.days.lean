/-! ===== a day of a standing ===== -/
def dayD (P : Pl) (D : Nat → Int32) (S : Sd) : Sd := fun j => if j < 8 then dayW P (S 8) D (fun x => S (18 + x)) S j else if j = 27 then S 27 + 1 else S j
def dayS (P : Pl) (S : Sd) : Sd := dayD P (fun x => S (9 + x)) S
def lftD (P : Pl) (D : Nat → Int32) (S : Sd) : Int32 := sumF P (S 8) D (fun x => S (18 + x)) S (pS P)
def lftS (P : Pl) (S : Sd) : Int32 := lftD P (fun x => S (9 + x)) S
theorem dayD_w {P : Pl} {D : Nat → Int32} {S : Sd} {y : Nat} (h : y < 8) : dayD P D S y = dayW P (S 8) D (fun x => S (18 + x)) S y := if_pos h
theorem dayD_n {P : Pl} {D : Nat → Int32} {S : Sd} {j : Nat} (h : 8 ≤ j) (h2 : j ≠ 27) : dayD P D S j = S j := by
  unfold dayD
  rw [if_neg (by omega), if_neg h2]
theorem dayD_t {P : Pl} {D : Nat → Int32} {S : Sd} : dayD P D S 27 = S 27 + 1 := rfl
theorem vSt_day {P : Pl} {S : Sd} {D : Nat → Int32} (h : vSt P S) : vSt P (dayD P D S) := by
  obtain ⟨v1, v2, v3, v4, v5, v6⟩ := h
  refine ⟨fun y hy => ?_, fun y h1 h2 => ?_, by rw [dayD_n (by decide) (by decide)]; exact v3, fun x hx => by rw [dayD_n (by omega) (by omega)]; exact v4 x hx, fun x h1 h2 => by rw [dayD_n (by omega) (by omega)]; exact v5 x h1 h2, fun x hx => by rw [dayD_n (by omega) (by omega)]; exact v6 x hx⟩
  · rw [dayD_w hy]
    exact dayW_ok (fun z hz => v1 z hz) y hy
  · rw [dayD_w h2]
    unfold dayW
    rw [if_neg (by omega)]
    exact v2 y h1 h2
theorem f_day {P : Pl} (hp : pOk P) {g : Sg} (hP : cPlan P g) {s : Nat} (hs : oSt s) {S : Sd} (hc : cSt g s S) : ∃ g', fX2_goBy g s = some (lftS P S, g') ∧ cSt g' s (dayS P S) ∧ ∀ k : Nat, k ≠ 73 → k < s ∨ s + 4 ≤ k → g' k = g k := by
  obtain ⟨s1, s2, s3⟩ := id hs
  have h9 := hp.2.2.2.1
  have h8 := hp.2.1
  obtain ⟨c1, c2, c3, c4, c5⟩ := hc
  have hD : ∀ x, x < pS P → g (s + 1) x = S (9 + x) := fun x hx => c3 x (by omega)
  have hK : ∀ x, x < pS P → g (s + 2) x = S (18 + x) := fun x hx => c4 x (by omega)
  have hW : ∀ y, y < pC P → g (s + 3) y = S y := fun y hy => c1 y (by omega)
  rw [f_goBy hp hs hP, (goN_w hp (pS P)).1, c2, sumF_congr hp hD hK hW _ (Nat.le_refl _)]
  refine ⟨_, rfl, ⟨fun y hy => ?_, ?_, fun x hx => ?_, fun x hx => ?_, ?_⟩, fun k h1 h2 => ?_⟩
  · rw [setC_n (by omega), putWD_w, goN_dayW hp, show dayS P S y = _ from dayD_w hy]
    exact dayW_congr hp hD hK hW (c1 y hy)
  · rw [setC_s, upd_n (by decide), c2]
    exact (dayD_n (by decide) (by decide)).symm
  · rw [setC_n (by omega), putWD_at (by omega) (by omega), c3 x hx]
    exact (dayD_n (by omega) (by omega)).symm
  · rw [setC_n (by omega), putWD_at (by omega) (by omega), c4 x hx]
    exact (dayD_n (by omega) (by omega)).symm
  · rw [setC_s, upd_s, c5]
    rfl
  · rw [setC_n (by omega), putWD_at h1 (by omega)]
theorem m_day {P : Pl} (hp : pOk P) {t : Sg} (hP : mPlan P t) {b : Nat} (hb : b + 28 ≤ 336) {S : Sd} (hm : mSt t b S) (vS : vSt P S) (a1 : Int32) : ∃ t', fX11_goesOn t (nI b) a1 = some (lftD P (snD a1 (fun x => S (9 + x))) S, t') ∧ mSt t' b (dayD P (snD a1 (fun x => S (9 + x))) S) ∧ (∀ k : Nat, k ≠ 10 → k ≠ 14 → t' k = t k) ∧ ∀ j : Nat, j < b ∨ b + 28 ≤ j → t' 10 j = t 10 j := by
  have h9 := hp.2.2.2.1
  have h8 := hp.2.1
  obtain ⟨v1, v2, v3, v4, v5, v6⟩ := vS
  have at9 : ∀ x, x < 9 → t 10 (b + 9 + x) = S (9 + x) := fun x hx => by have z := hm (9 + x) (by omega); rwa [show b + (9 + x) = b + 9 + x by omega] at z
  have at18 : ∀ x, x < 9 → t 10 (b + 18 + x) = S (18 + x) := fun x hx => by have z := hm (18 + x) (by omega); rwa [show b + (18 + x) = b + 18 + x by omega] at z
  have hD : ∀ x, x < pS P → snD a1 (fun x => t 10 (b + 9 + x)) x = snD a1 (fun x => S (9 + x)) x := fun x hx => by unfold snD; dsimp only; rw [at9 x (by omega)]
  have hK : ∀ x, x < pS P → t 10 (b + 18 + x) = S (18 + x) := fun x hx => at18 x (by omega)
  have hW : ∀ y, y < pC P → t 10 (b + y) = S y := fun y hy => hm y (by omega)
  have k := m_goesOn hp hb hP a1 (fun y hy => by show rg (t 10 (b + y)) 0 20; rw [hm y (by omega)]; exact v1 y hy) (fun x hx => by rw [at9 x (by omega)]; exact v4 x (by omega)) (fun x hx => by rw [at18 x (by omega)]; exact v6 x (by omega))
  rw [(goN_w hp (pS P)).1, hm 8 (by omega), sumF_congr hp (K' := fun x => S (18 + x)) (W' := S) hD hK hW _ (Nat.le_refl _)] at k
  refine ⟨_, k, fun j hj => ?_, fun k h1 h2 => by rw [setC_n h1, setC_n h2], fun j hj => by rw [setC_s, upd_n (by omega), ovl_out (by omega)]⟩
  rw [setC_s]
  by_cases h1 : j < 8
  · rw [dayD_w h1, upd_n (by omega), ovl_in h1, goN_dayW hp]
    exact dayW_congr hp hD hK hW (hm j hj)
  · by_cases h2 : j = 27
    · rw [h2, upd_s, hm 27 (by omega)]
      rfl
    · rw [dayD_n (by omega) h2, upd_n (by omega), ovl_out (by omega)]
      exact hm j hj
theorem lftD_b {P : Pl} (hp : pOk P) {S : Sd} (vS : vSt P S) {D : Nat → Int32} (hD : ∀ x, x < pS P → rg (D x) 0 40) : rg (lftD P D S) 0 360 := by
  have h9 := hp.2.2.2.1
  obtain ⟨v1, v2, v3, v4, v5, v6⟩ := vS
  have := sumF_b (q := S 8) (W := S) (K := fun x => S (18 + x)) hp hD (fun x hx => v6 x (by omega)) (pS P) (Nat.le_refl _)
  unfold lftD
  exact ⟨this.1, by have := this.2; omega⟩
def itS (P : Pl) : Nat → Sd → Sd
  | 0, S => S
  | n + 1, S => itS P n (dayS P S)
theorem itS_v {P : Pl} : ∀ (n : Nat) (S : Sd), vSt P S → vSt P (itS P n S) := by
  intro n
  induction n with
  | zero => intro S h; exact h
  | succ n ih => intro S h; exact ih _ (vSt_day h)
theorem sn0 {f : Nat → Int32} : snD 0 f = f := by
  funext x
  unfold snD
  rw [if_pos rfl]
/-! ===== pass ===== -/
theorem f_passLoop {P : Pl} (hp : pOk P) {n0 : Nat} (hn0 : n0 ≤ 1000) : ∀ (d i n : Nat) (g : Sg) (S : Sd), i + d = n0 → d < n → cPlan P g → cSt g 24 S → ∃ g', fX10_pass_25 (nI n0) n (nI i) g = some (itS P d S 27, g') ∧ cSt g' 24 (itS P d S) ∧ ∀ k : Nat, k ≠ 73 → k < 24 ∨ 28 ≤ k → g' k = g k := by
  intro d
  induction d with
  | zero =>
    intro i n g S hi hn hP hc
    match n, hn with
    | n + 1, _ =>
      rw [fX10_pass_25, if_pos ((nI_leN (by omega) (by omega)).mpr (by omega)), hc.2.2.2.2]
      exact ⟨g, rfl, hc, fun _ _ _ => rfl⟩
  | succ d ih =>
    intro i n g S hi hn hP hc
    match n, hn with
    | n + 1, hn =>
      obtain ⟨g1, e1, e2, e3⟩ := f_day hp hP (s := 24) (by unfold oSt; omega) hc
      rw [fX10_pass_25, if_neg (by rw [nI_leN (by omega) (by omega)]; omega), e1, gCl_s]
      simp only [gLet, nI_1]
      obtain ⟨g2, k1, k2, k3⟩ := ih (i + 1) n g1 (dayS P S) (by omega) (by omega) (cPlan_eq (fun k h1 h2 => e3 k (by omega) (by omega)) hP) e2
      exact ⟨g2, k1, k2, fun k h1 h2 => (k3 k h1 h2).trans (e3 k h1 (by omega))⟩
theorem m_passLoop {P : Pl} (hp : pOk P) {n0 : Nat} (hn0 : n0 ≤ 1000) (K : Int32 → Sg → Option (Int32 × Sg)) : ∀ (d i n : Nat) (t : Sg) (S : Sd) (a : Int32), i + d = n0 → d < n → mPlan P t → mSt t 0 S → vSt P S → rg a 0 (360 * i) → ∃ t' a', fX11_pass_22 (nI n0) n a (nI i) t K = K a' t' ∧ rg a' 0 (360 * n0) ∧ mSt t' 0 (itS P d S) ∧ (∀ k : Nat, k ≠ 10 → k ≠ 14 → t' k = t k) ∧ ∀ j : Nat, 28 ≤ j → t' 10 j = t 10 j := by
  intro d
  induction d with
  | zero =>
    intro i n t S a hi hn hP hm vS ha
    match n, hn with
    | n + 1, _ =>
      rw [fX11_pass_22, if_pos ((nI_leN (by omega) (by omega)).mpr (by omega))]
      exact ⟨t, a, rfl, by rw [show n0 = i by omega]; exact ha, hm, fun _ _ _ => rfl, fun _ _ => rfl⟩
  | succ d ih =>
    intro i n t S a hi hn hP hm vS ha
    match n, hn with
    | n + 1, hn =>
      obtain ⟨t1, e1, e2, e3, e4⟩ := m_day hp hP (b := 0) (by omega) hm vS 0
      rw [sn0] at e1 e2
      rw [show nI 0 = 0 from rfl] at e1
      have hl := lftD_b hp vS (D := fun x => S (9 + x)) (fun x hx => vS.2.2.2.1 x (by have := hp.2.2.2.1; omega))
      rw [fX11_pass_22, if_neg (by rw [nI_leN (by omega) (by omega)]; omega), e1, gCl_s]
      simp only [gLet, nI_1]
      obtain ⟨t2, a2, k1, k2, k3, k4, k5⟩ := ih (i + 1) n t1 (dayS P S) (a + lftD P (fun x => S (9 + x)) S) (by omega) (by omega) (mPlan_eq (fun k h1 h2 => e3 k (by omega) (by omega)) (by rw [e3 0 (by decide) (by decide)]) (by rw [e3 0 (by decide) (by decide)]) hP) e2 (vSt_day vS) (by
        obtain ⟨a1, a2⟩ := ha
        obtain ⟨b1, b2⟩ := hl
        unfold rg
        rw [tI_add (by omega) (by omega)]
        omega)
      exact ⟨t2, a2, k1, k2, k3, fun k h1 h2 => (k4 k h1 h2).trans (e3 k h1 h2), fun j hj => (k5 j hj).trans (e4 j (by omega))⟩
theorem al_pass {P : Pl} {h : Int32} {S : Sd} {u : Nat} {U : Nat → Sd} {v : Nat} {V : Nat → Sd} {g t : Sg} (R : Rl P h S u U v V g t) (a : Int32) : alike (fX10_pass g a) (fX11_pass t a) := by
  have R' := R
  obtain ⟨⟨hp, -, vS, -⟩, -⟩ := R
  unfold fX10_pass fX11_pass
  rw [show (1 : Int64) = (1 : Int32).toInt64 from rfl, show (20 : Int64) = (20 : Int32).toInt64 from rfl]
  rcases rng_c g t a 1 20 with ⟨e1, e2, e3⟩ | ⟨e1, e2⟩
  · have e3' : 1 ≤ a.toInt ∧ a.toInt ≤ 20 := by
      simp only [lt_tI, t1, t20] at e3
      omega
    obtain ⟨n0, rfl, hn0⟩ := nI_ex (x := a) (by omega)
    obtain ⟨g1, t1, k1, k2, K⟩ := known_both R'
    obtain ⟨-, ⟨hP, -⟩, ⟨hM, -⟩, hc, hm, -⟩ := id K
    rw [e1, e2, gCl_s, gCl_s, if_pos rfl, if_neg one_ne, k1, k2, gCv_s, gCv_s, show (0 : Int32) = nI 0 from rfl]
    obtain ⟨g2, a1, a2, a3⟩ := f_passLoop hp (n0 := n0) (by omega) n0 0 gN g1 S (by omega) (by unfold gN; omega) hP hc
    obtain ⟨t2, c, b1, b2, b3, b4, b5⟩ := m_passLoop hp (n0 := n0) (by omega) (fun x20 g21 => if nI 0 ≤ x20 then gRd (27 : Int32) 336 (g21 10) (fun x23 => some (x23, g21)) else some ((-4 : Int32), g21)) n0 0 gN t1 S (nI 0) (by omega) (by unfold gN; omega) hM hm vS ⟨by rw [tI_nI (by omega)]; omega, by rw [tI_nI (by omega)]; omega⟩
    rw [a1, b1, if_pos (by rw [le_tI, tI_nI (by omega)]; exact b2.1), show (27 : Int32) = nI 27 from rfl, gRd_n (by omega) (by decide), show t2 10 27 = itS P n0 S 27 from b3 27 (by omega)]
    exact ⟨_, _, _, rfl, rfl, P, h, itS P n0 S, _, _, v, V, Rl_now K (fun k h1 h2 => a3 k (by unfold scC at h2; omega) (by omega)) (by rw [a3 148 (by decide) (by decide)]) (by rw [a3 149 (by decide) (by decide)]) a2 (fun k hk => b4 k (by omega) (by omega)) (fun j hj => by rw [b4 0 (by decide) (by decide)]) (fun j h1 h2 => b5 j h1) b3 (itS_v _ _ vS)⟩
  · rw [e1, e2, gCl_s, gCl_s, if_neg one_ne, if_pos rfl]
    exact alike_q R' rfl rfl fQ_rf mQ_rf
