/-! ===== what comes: one step's days (the class), all steps' days (the reference) ===== -/
def stepS (P : Pl) (x : Nat) (S : Sd) : Sd := fun j => if j < 8 then stepW P (S 8) S x (S (9 + x)) (S (18 + x)) j else S j
theorem stepS_w {P : Pl} {x : Nat} {S : Sd} {y : Nat} (h : y < 8) : stepS P x S y = stepW P (S 8) S x (S (9 + x)) (S (18 + x)) y := if_pos h
theorem stepS_n {P : Pl} {x : Nat} {S : Sd} {j : Nat} (h : 8 ≤ j) : stepS P x S j = S j := if_neg (by omega)
def itX (P : Pl) (x : Nat) : Nat → Sd → Sd
  | 0, S => S
  | n + 1, S => itX P x n (stepS P x S)
def relX (P : Pl) (x : Nat) (S S' : Sd) : Prop := (∀ y ∈ tl P x, S y = S' y) ∧ S 8 = S' 8 ∧ S (9 + x) = S' (9 + x) ∧ S (18 + x) = S' (18 + x)
theorem relX_rf {P : Pl} {x : Nat} {S : Sd} : relX P x S S := ⟨fun _ _ => rfl, rfl, rfl, rfl⟩
theorem relX_step {P : Pl} (hp : pOk P) {x : Nat} (hx : x < 9) {S S' : Sd} (h : relX P x S S') : relX P x (stepS P x S) (dayS P S') := by
  have h8 := hp.2.1
  obtain ⟨h1, h2, h3, h4⟩ := h
  unfold dayS
  refine ⟨fun y hy => ?_, by rw [stepS_n (by decide), dayD_n (by decide) (by decide)]; exact h2, by rw [stepS_n (by omega), dayD_n (by omega) (by omega)]; exact h3, by rw [stepS_n (by omega), dayD_n (by omega) (by omega)]; exact h4⟩
  have hy' := (tl_mem hp).mp hy
  rw [stepS_w (by omega), dayD_w (by omega)]
  unfold dayW
  dsimp only
  rw [if_pos hy'.1, hy'.2, ← h2, ← h3, ← h4]
  exact stepW_congr h1 (h1 y hy)
theorem relX_it {P : Pl} (hp : pOk P) {x : Nat} (hx : x < 9) : ∀ (n : Nat) (S S' : Sd), relX P x S S' → relX P x (itX P x n S) (itS P n S') := by
  intro n
  induction n with
  | zero => intro S S' h; exact h
  | succ n ih => intro S S' h; exact ih _ _ (relX_step hp hx h)
/-- the class's trial standing -/
def fT (g g' : Sg) : Prop := ∀ k : Nat, k ≠ 73 → k < 78 ∨ 82 ≤ k → g' k = g k
theorem fT_tr {g g1 g2 : Sg} (a : fT g g1) (b : fT g1 g2) : fT g g2 := fun k h1 h2 => (b k h1 h2).trans (a k h1 h2)
theorem fT_q {g g' : Sg} (a : fT g g') : fQ g g' := ⟨fun k h => a k (fun e => h (by unfold scC; omega)) (by unfold scC at h; omega), by rw [a 148 (by decide) (by decide)], by rw [a 149 (by decide) (by decide)]⟩
theorem fT_plan {P : Pl} {g g' : Sg} (a : fT g g') (h : cPlan P g) : cPlan P g' := cPlan_eq (fun k h1 h2 => a k (by omega) (by omega)) h
theorem f_then {g : Sg} {S : Sd} (hc : cSt g 24 S) : ∃ g', fX9_become g 78 24 = some g' ∧ fT g g' ∧ cSt g' 78 S := by
  obtain ⟨g1, b1, b2, b3⟩ := f_become (s := 24) (t := 78) (by omega) g
  exact ⟨g1, b1, fun k h1 h2 => b2 k (by omega), b3 S hc⟩
theorem f_stepS {P : Pl} (hp : pOk P) {g : Sg} (hP : cPlan P g) {s x : Nat} (hs : oSt s) (hx : x < 9) {S : Sd} (hc : cSt g s S) : ∃ r g', fX2_goByAt g s (nI x) (S (9 + x)) = some (r, g') ∧ cSt g' s (stepS P x S) ∧ ∀ k : Nat, k ≠ 73 → k < s ∨ s + 4 ≤ k → g' k = g k := by
  obtain ⟨s1, s2, s3⟩ := id hs
  have h8 := hp.2.1
  obtain ⟨c1, c2, c3, c4, c5⟩ := hc
  rw [f_goByAt hp hP hs hx, c2, c4 x hx]
  refine ⟨_, _, rfl, ⟨fun y hy => ?_, ?_, fun y hy => ?_, fun y hy => ?_, ?_⟩, fun k h1 h2 => by rw [setC_n (by omega), setC_n h1]⟩
  · rw [setC_s, stepS_w hy]
    exact stepW_e (fun z hz => c1 z (by have := ((tl_mem hp).mp hz).1; omega)) (c1 y hy)
  · rw [setC_n (by omega), setC_n (by omega), stepS_n (by decide)]; exact c2
  · rw [setC_n (by omega), setC_n (by omega), stepS_n (by omega)]; exact c3 y hy
  · rw [setC_n (by omega), setC_n (by omega), stepS_n (by omega)]; exact c4 y hy
  · rw [setC_n (by omega), setC_n (by omega), stepS_n (by omega)]; exact c5
theorem f_tgLoop {P : Pl} (hp : pOk P) {x n0 : Nat} (hx : x < 9) (hn0 : n0 ≤ 1000) : ∀ (d i n : Nat) (g : Sg) (S : Sd), i + d = n0 → d < n → cPlan P g → cSt g 78 S → ∃ g', fX1_goByAt_2 (nI x) (nI n0) n (nI i) g = some g' ∧ fT g g' ∧ cSt g' 78 (itX P x d S) := by
  intro d
  induction d with
  | zero =>
    intro i n g S hi hn hP hc
    match n, hn with
    | n + 1, _ =>
      rw [fX1_goByAt_2, if_pos ((nI_leN (by omega) (by omega)).mpr (by omega))]
      exact ⟨g, rfl, fun _ _ _ => rfl, hc⟩
  | succ d ih =>
    intro i n g S hi hn hP hc
    match n, hn with
    | n + 1, hn =>
      obtain ⟨r, g1, e1, e2, e3⟩ := f_stepS hp hP (s := 78) (by unfold oSt; omega) hx hc
      rw [fX1_goByAt_2, if_neg (by rw [nI_leN (by omega) (by omega)]; omega), gRd_n hx (by decide), show g 79 x = S (9 + x) from hc.2.2.1 x hx, e1, gCl_s]
      simp only [gLet, nI_1]
      have a : fT g g1 := fun k h1 h2 => e3 k h1 (by omega)
      obtain ⟨g2, k1, k2, k3⟩ := ih (i + 1) n g1 (stepS P x S) (by omega) (by omega) (fT_plan a hP) e2
      exact ⟨g2, k1, fT_tr a k2, k3⟩
theorem f_tgoByAt {P : Pl} (hp : pOk P) {g : Sg} (hP : cPlan P g) {x n : Nat} (hx : x < 9) (hn : n ≤ 900) {S : Sd} (hc : cSt g 78 S) : ∃ g', fX1_goByAt g (nI x) (nI n) = some g' ∧ fT g g' ∧ cSt g' 78 (itX P x n S) := by
  unfold fX1_goByAt
  exact f_tgLoop hp hx (by omega) n 0 gN g S (by omega) (by unfold gN; omega) hP hc
/-- the reference's trial standing -/
def mT (t t' : Sg) : Prop := (∀ k : Nat, k ≠ 10 → k ≠ 14 → t' k = t k) ∧ ∀ j : Nat, j < 308 → t' 10 j = t 10 j
theorem mT_rf {t : Sg} : mT t t := ⟨fun _ _ _ => rfl, fun _ _ => rfl⟩
theorem mT_tr {t t1 t2 : Sg} (a : mT t t1) (b : mT t1 t2) : mT t t2 := ⟨fun k h1 h2 => (b.1 k h1 h2).trans (a.1 k h1 h2), fun j h => (b.2 j h).trans (a.2 j h)⟩
theorem mT_q {t t' : Sg} (a : mT t t') : mQ t t' := ⟨fun k h => a.1 k (by omega) (by omega), a.2, fun j _ => by rw [a.1 0 (by decide) (by decide)]⟩
theorem mT_plan {P : Pl} {t t' : Sg} (a : mT t t') (h : mPlan P t) : mPlan P t' := mPlan_eq (fun k h1 h2 => a.1 k (by omega) (by omega)) (by rw [a.1 0 (by decide) (by decide)]) (by rw [a.1 0 (by decide) (by decide)]) h
theorem m_then {t : Sg} {S : Sd} (hm : mSt t 0 S) : ∃ t', fX11_copies t 0 308 = some t' ∧ mT t t' ∧ mSt t' 308 S := by
  rw [show (0 : Int32) = nI 0 from rfl, show (308 : Int32) = nI 308 from rfl, m_copies (by omega) (by omega) (by omega)]
  refine ⟨_, rfl, ⟨fun k h1 h2 => setC_n h1, fun j hj => by rw [setC_s, cpN_out (by omega)]⟩, fun k hk => ?_⟩
  rw [setC_s, cpN_to hk]
  exact hm k hk
theorem mT_put {t : Sg} {j : Nat} {x : Int32} (h : 308 ≤ j) : mT t (setC t 10 (upd (t 10) j x)) := ⟨fun k h1 h2 => setC_n h1, fun i hi => by rw [setC_s, upd_n (by omega)]⟩
theorem m_trLoop {P : Pl} (hp : pOk P) {n0 : Nat} (hn0 : n0 ≤ 900) : ∀ (d i n : Nat) (t : Sg) (S : Sd) (a : Int32), i + d = n0 → d < n → mPlan P t → mSt t 308 S → vSt P S → rg a 0 (360 * i) → ∃ t', fX11_tries_4 (nI n0) n a (nI i) t = some t' ∧ mT t t' ∧ mSt t' 308 (itS P d S) := by
  intro d
  induction d with
  | zero =>
    intro i n t S a hi hn hP hm vS ha
    match n, hn with
    | n + 1, _ =>
      rw [fX11_tries_4, if_pos ((nI_leN (by omega) (by omega)).mpr (by omega))]
      exact ⟨t, rfl, mT_rf, hm⟩
  | succ d ih =>
    intro i n t S a hi hn hP hm vS ha
    match n, hn with
    | n + 1, hn =>
      obtain ⟨t1, e1, e2, e3, e4⟩ := m_day hp hP (b := 308) (by omega) hm vS 0
      rw [sn0] at e1 e2
      have hl := lftD_b hp vS (D := fun x => S (9 + x)) (fun x hx => vS.2.2.2.1 x (by have := hp.2.2.2.1; omega))
      rw [fX11_tries_4, if_neg (by rw [nI_leN (by omega) (by omega)]; omega), if_neg (by rw [lt_tI, t0]; have := ha.1; omega), show (308 : Int32) = nI 308 from rfl, e1, gCl_s]
      simp only [gLet, nI_1]
      have a1 : mT t t1 := ⟨e3, fun j hj => e4 j (by omega)⟩
      obtain ⟨t2, k1, k2, k3⟩ := ih (i + 1) n t1 (dayS P S) (a + lftD P (fun x => S (9 + x)) S) (by omega) (by omega) (mT_plan a1 hP) e2 (vSt_day vS) (by
        obtain ⟨a1, a2⟩ := ha
        obtain ⟨b1, b2⟩ := hl
        unfold rg
        rw [tI_add (by omega) (by omega)]
        omega)
      exact ⟨t2, k1, mT_tr a1 k2, k3⟩
theorem m_tries {P : Pl} (hp : pOk P) {t : Sg} (hP : mPlan P t) {n : Nat} (hn : n ≤ 900) {S : Sd} (hm : mSt t 308 S) (vS : vSt P S) : ∃ t', fX11_tries t (nI n) = some t' ∧ mT t t' ∧ mSt t' 308 (itS P n S) := by
  unfold fX11_tries
  exact m_trLoop hp hn n 0 gN t S 0 (by omega) (by unfold gN; omega) hP hm vS ⟨by rw [t0]; omega, by rw [t0]; omega⟩
/-- one's wells put anew -/
theorem vSt_well {P : Pl} {S : Sd} {y : Nat} {w : Int32} (hy : y < pC P) (h8 : pC P ≤ 8) (hw : rg w 0 20) (h : vSt P S) : vSt P (upd S y w) := by
  obtain ⟨v1, v2, v3, v4, v5, v6⟩ := h
  refine ⟨fun z hz => ?_, fun z h1 h2 => by rw [upd_n (by omega)]; exact v2 z h1 h2, by rw [upd_n (by omega)]; exact v3, fun x hx => by rw [upd_n (by omega)]; exact v4 x hx, fun x h1 h2 => by rw [upd_n (by omega)]; exact v5 x h1 h2, fun x hx => by rw [upd_n (by omega)]; exact v6 x hx⟩
  by_cases e : z = y
  · rw [e, upd_s]; exact hw
  · rw [upd_n e]; exact v1 z hz
theorem vSt_down {P : Pl} {S : Sd} {x : Nat} {d : Int32} (hx : x < pS P) (hx9 : x < 9) (hd : rg d 0 40) (h : vSt P S) : vSt P (upd S (9 + x) d) := by
  obtain ⟨v1, v2, v3, v4, v5, v6⟩ := h
  refine ⟨fun y hy => by rw [upd_n (by omega)]; exact v1 y hy, fun y h1 h2 => by rw [upd_n (by omega)]; exact v2 y h1 h2, by rw [upd_n (by omega)]; exact v3, fun z hz => ?_, fun z h1 h2 => by rw [upd_n (by omega)]; exact v5 z h1 h2, fun z hz => by rw [upd_n (by omega)]; exact v6 z hz⟩
  by_cases e : z = x
  · rw [e, upd_s]; exact hd
  · rw [upd_n (by omega)]; exact v4 z hz
theorem cSt_well {g : Sg} {s y : Nat} {S : Sd} {w : Int32} (hy : y < 8) (h : cSt g s S) : cSt (setC g (s + 3) (upd (g (s + 3)) y w)) s (upd S y w) := by
  obtain ⟨c1, c2, c3, c4, c5⟩ := h
  refine ⟨fun z hz => ?_, by rw [setC_n (by omega), upd_n (by omega)]; exact c2, fun x hx => by rw [setC_n (by omega), upd_n (by omega)]; exact c3 x hx, fun x hx => by rw [setC_n (by omega), upd_n (by omega)]; exact c4 x hx, by rw [setC_n (by omega), upd_n (by omega)]; exact c5⟩
  rw [setC_s]
  by_cases e : z = y
  · rw [e, upd_s, upd_s]
  · rw [upd_n e, upd_n e]; exact c1 z hz
theorem cSt_down {g : Sg} {s x : Nat} {S : Sd} {d : Int32} (hx : x < 9) (h : cSt g s S) : cSt (setC g (s + 1) (upd (g (s + 1)) x d)) s (upd S (9 + x) d) := by
  obtain ⟨c1, c2, c3, c4, c5⟩ := h
  refine ⟨fun y hy => by rw [setC_n (by omega), upd_n (by omega)]; exact c1 y hy, by rw [setC_n (by omega), upd_n (by omega)]; exact c2, fun z hz => ?_, fun z hz => by rw [setC_n (by omega), upd_n (by omega)]; exact c4 z hz, by rw [setC_n (by omega), upd_n (by omega)]; exact c5⟩
  rw [setC_s]
  by_cases e : z = x
  · rw [e, upd_s, upd_s]
  · rw [upd_n e, upd_n (by omega)]; exact c3 z hz
/-- how well one is behind n days, if it is so well now, by the class -/
theorem f_wbf {P : Pl} (hp : pOk P) {g : Sg} (hP : cPlan P g) {S : Sd} (hc : cSt g 24 S) {y n : Nat} (hy : y < pC P) (hn : n ≤ 900) (w : Int32) : ∃ g', fX1_wellBehindFrom g (nI n) (nI y) w = some (itS P n (upd S y w) y, g') ∧ fT g g' := by
  have h8 := hp.2.1
  have hA := (hp.2.2.2.2 y hy).1
  have h9 := hp.2.2.2.1
  obtain ⟨g1, e1, e2, e3⟩ := f_then hc
  have hc2 := cSt_well (w := w) (show y < 8 by omega) e3
  have a2 : fT g1 (setC g1 (78 + 3) (upd (g1 (78 + 3)) y w)) := fun k h1 h2 => setC_n (by omega)
  have hP2 := fT_plan (fT_tr e2 a2) hP
  obtain ⟨g3, k1, k2, k3⟩ := f_tgoByAt hp hP2 (x := pA P y) (by omega) hn hc2
  unfold fX1_wellBehindFrom
  rw [e1, gCv_s, gWr_n (by omega) (by decide), gRd_n (by omega) (by decide), (hP2.1 y hy).2.1, k1, gCv_s, gRd_n (by omega) (by decide), show g3 81 y = itX P (pA P y) n (upd S y w) y from k3.1 y (by omega), (relX_it hp (x := pA P y) (by omega) n _ _ relX_rf).1 y ((tl_mem hp).mpr ⟨hy, rfl⟩)]
  exact ⟨g3, rfl, fT_tr e2 (fT_tr a2 k2)⟩
theorem al_behind {P : Pl} {h : Int32} {S : Sd} {u : Nat} {U : Nat → Sd} {v : Nat} {V : Nat → Sd} {g t : Sg} (R : Rl P h S u U v V g t) (a b : Int32) : alike (fX10_behind g a b) (fX11_behind t a b) := by
  have R' := R
  obtain ⟨⟨hp, -, vS, -⟩, ⟨hP, -⟩, ⟨hM, -⟩, hc, hm, -⟩ := R
  have h8 := hp.2.1
  unfold fX10_behind fX11_behind
  rw [show (0 : Int64) = (0 : Int32).toInt64 from rfl, show (30 : Int64) = (30 : Int32).toInt64 from rfl]
  rcases rng_c g t a 0 30 with ⟨e1, e2, e3⟩ | ⟨e1, e2⟩
  · rw [e1, e2, gCl_s, gCl_s, if_pos rfl, if_neg one_ne]
    rcases f_noYounger hp hP b with ⟨j, hj, rfl, e⟩ | ⟨hn, e⟩
    · rw [e, (m_isOne hp hM _).1 ⟨j, hj, rfl⟩, gCl_s, gCl_s, if_pos rfl, if_neg one_ne]
      have e3' : 0 ≤ a.toInt ∧ a.toInt ≤ 30 := by
        simp only [lt_tI, t0, show (30 : Int32).toInt = 30 from rfl] at e3
        omega
      obtain ⟨n, rfl, hn⟩ := nI_ex (x := a) (by omega)
      obtain ⟨g2, k1, k2⟩ := f_wbf hp hP hc hj (n := n) (by omega) (S j)
      obtain ⟨t1, p1, p2, p3⟩ := m_then hm
      obtain ⟨t2, q1, q2, q3⟩ := m_tries hp (mT_plan p2 hM) (n := n) (by omega) p3 vS
      unfold fX1_wellBehind
      rw [gRd_n (by omega) (by decide), show g 27 j = S j from hc.1 j (by omega), k1, gCl_s, gCl_s, p1, gCv_s, q1, gCv_s, show (308 : Int32) = nI 308 from rfl, nI_add, gRd_n (show 308 + j < 336 by omega) (by decide), q3 j (by omega)]
      have e4 : upd S j (S j) = S := by
        funext k
        by_cases z : k = j
        · rw [z, upd_s]
        · rw [upd_n z]
      rw [e4]
      exact alike_q R' rfl rfl (fT_q k2) (mT_q (mT_tr p2 q2))
    · rw [e, (m_isOne hp hM b).2 hn, gCl_s, gCl_s, if_neg one_ne, if_pos rfl]
      exact alike_q R' rfl rfl fQ_rf mQ_rf
  · rw [e1, e2, gCl_s, gCl_s, if_neg one_ne, if_pos rfl]
    exact alike_q R' rfl rfl fQ_rf mQ_rf
