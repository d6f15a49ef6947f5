theorem al_isCats {P : Pl} {h : Int32} {S : Sd} {u : Nat} {U : Nat → Sd} {v : Nat} {V : Nat → Sd} {g t : Sg} (R : Rl P h S u U v V g t) (a : Int32) : alike (fX10_isCats g a) (fX11_isCats t a) := by
  have R' := R
  obtain ⟨⟨hp, -, vS, -⟩, ⟨hP, -⟩, ⟨hM, -⟩, hc, hm, -, -, -, ⟨n0, n1, n2, n3, n4⟩, -⟩ := R
  have h9 := hp.2.2.2.1
  have h8 := hp.2.1
  unfold fX10_isCats fX11_isCats
  rcases f_noStep hp hP a with ⟨x, hx, rfl, e⟩ | ⟨hn, e⟩
  · rw [e, (m_isStep hp hM _).1 ⟨x, hx, rfl⟩, gCl_s, gCl_s, if_pos rfl, if_neg one_ne, f_drinkersAt hp hP (by omega), gCl_s, hc.2.1]
    have lp : ∀ (d i n : Nat) (b : Int32) (g1 t1 : Sg), i + d = 10 → d < n → fQ g g1 → mQ t t1 → ∃ r g2 t2, fX10_isCats_28 (nI x) (drkI (S 8) (thrL (g (24 + 3)) (tl P x) 0)) n b (nI i) g1 = some (r, g2) ∧ fX11_isCats_14 (nI x) n b (nI i) t1 = some (r, t2) ∧ fQ g g2 ∧ mQ t t2 := by
      intro d
      induction d with
      | zero =>
        intro i n b g1 t1 hi hn q1 q2
        match n, hn with
        | n + 1, _ =>
          have c : (9 : Int32) < nI i := by rw [show (9 : Int32) = nI 9 from rfl, nI_ltN (by omega) (by omega)]; omega
          rw [fX10_isCats_28, fX11_isCats_14, if_pos c, if_pos c]
          exact ⟨b, g1, t1, rfl, rfl, q1, q2⟩
      | succ d ih =>
        intro i n b g1 t1 hi hn q1 q2
        match n, hn with
        | n + 1, hn =>
          have c : ¬ (9 : Int32) < nI i := by rw [show (9 : Int32) = nI 9 from rfl, nI_ltN (by omega) (by omega)]; omega
          have hP1 := fQ_plan q1 hP
          have hc1 := fQ_now q1 hc
          have hM1 := mQ_plan q2 hM
          have hm1 := mQ_now q2 hm
          rw [fX10_isCats_28, fX11_isCats_14, if_neg c, if_neg c, gRd_n (show x < 9 by omega) (by decide), show g1 25 x = S (9 + x) from hc1.2.2.1 x (by omega), f_leftOver hp hP1 (by omega), gCl_s, f_fits n1 (by rw [setC_n (by decide), q1.1 74 (by unfold scC; omega)]; exact n2), gCl_s, setC_n (show 75 ≠ 73 by decide), setC_n (show 76 ≠ 73 by decide), q1.1 75 (by unfold scC; omega), q1.1 76 (by unfold scC; omega)]
          rw [show (9 : Int32) = nI 9 from rfl, nI_add, gRd_n (show 9 + x < 336 by omega) (by decide), show t1 10 (9 + x) = S (9 + x) from by rw [← hm1 (9 + x) (by omega), Nat.zero_add], show fX11_thereAt t1 (0 : Int32) (nI x) = some (thrL (g (24 + 3)) (tl P x) 0, t1) from by rw [show (0 : Int32) = nI 0 from rfl, m_thereAt hp hM1 (by omega) (by omega), ← thr_same hp hc1 hm1, q1.1 (24 + 3) (by unfold scC; omega)]; rfl, gCl_s, show (8 : Int32) = nI 8 from rfl, gRd_n (show 8 < 336 by decide) (by decide), show t1 10 8 = S 8 from hm1 8 (by omega), m_pours hp hM1 (by omega), gCl_s, m_isSo n1 (by rw [setC_n (by decide), q2.2.2 23 (by omega)]; exact n3), gCl_s, setC_n (show 12 ≠ 14 by decide), setC_n (show 13 ≠ 14 by decide), q2.1 12 (by omega), q2.1 13 (by omega)]
          rw [soF_congr (f := g 75) (f' := t 12) (h := g 76) (h' := t 13) n0 0 (fun i hi => n4 i (by omega))]
          rw [show (pourA P x (S (9 + x)) (nI i) (drkI (S 8) (thrL (g (24 + 3)) (tl P x) 0)) (g1 73)).1 = (pourA P x (S (9 + x)) (nI i) (thrL (g (24 + 3)) (tl P x) 0 &&& (S 8 ^^^ (-1))) (t1 14)).1 from pour_1 _ _ _ _]
          simp only [gLet, nI_1]
          have Q1 := fQ_tr q1 (fQ_set (g := g1) (k := 73) (f := (pourA P x (S (9 + x)) (nI i) (drkI (S 8) (thrL (g (24 + 3)) (tl P x) 0)) (g1 73)).2) (by unfold scC; omega) (by decide) (by decide))
          have Q2 := mQ_tr q2 (mQ_set (t := t1) (k := 14) (f := (pourA P x (S (9 + x)) (nI i) (thrL (g (24 + 3)) (tl P x) 0 &&& (S 8 ^^^ (-1))) (t1 14)).2) (by omega))
          cases soF (t 12) (t 13) (nI x) (pourA P x (S (9 + x)) (nI i) (thrL (g (24 + 3)) (tl P x) 0 &&& (S 8 ^^^ (-1))) (t1 14)).1 0 n0
          · rw [show bB false = 0 from rfl, if_pos rfl, if_pos rfl, or_0]
            exact ih (i + 1) n b _ _ (by omega) (by omega) Q1 Q2
          · rw [show bB true = 1 from rfl, if_neg one_ne, if_neg one_ne]
            exact ih (i + 1) n _ _ _ (by omega) (by omega) Q1 Q2
    obtain ⟨r, g2, t2, k1, k2, k3, k4⟩ := lp 10 0 gN 0 g t (by omega) (by unfold gN; omega) fQ_rf mQ_rf
    rw [show nI 0 = 0 from rfl] at k1 k2
    rw [k1, k2]
    exact alike_q R' rfl rfl k3 k4
  · rw [e, (m_isStep hp hM a).2 hn, gCl_s, gCl_s, if_neg one_ne, if_pos rfl]
    exact alike_q R' rfl rfl fQ_rf mQ_rf
/-! ===== help ===== -/
theorem f_okLp {P : Pl} (hp : pOk P) {S : Sd} (K : Sg → Option (Int32 × Sg)) : ∀ (d i n : Nat) (g : Sg) (S : Sd), i + d = 10 → d < n → cPlan P g → cSt g 78 S → ∃ g', fX1_othersKeptBy_18 n (nI i) g K = K g' ∧ fT g g' ∧ cSt g' 78 (itS P d S) := by
  intro d
  induction d with
  | zero =>
    intro i n g S hi hn hP hc
    match n, hn with
    | n + 1, _ =>
      rw [fX1_othersKeptBy_18, show (10 : Int32) = nI 10 from rfl, if_pos ((nI_leN (by omega) (by omega)).mpr (by omega))]
      exact ⟨g, rfl, fun _ _ _ => rfl, hc⟩
  | succ d ih =>
    intro i n g S hi hn hP hc
    match n, hn with
    | n + 1, hn =>
      obtain ⟨g1, e1, e2, e3⟩ := f_day hp hP (s := 78) (by unfold oSt; omega) hc
      have a : fT g g1 := fun k h1 h2 => e3 k h1 (by omega)
      rw [fX1_othersKeptBy_18, show (10 : Int32) = nI 10 from rfl, if_neg (by rw [nI_leN (by omega) (by omega)]; omega), e1, gCl_s]
      simp only [gLet, nI_1]
      obtain ⟨g2, k1, k2, k3⟩ := ih (i + 1) n g1 (dayS P S) (by omega) (by omega) (fT_plan a hP) e2
      exact ⟨g2, k1, fT_tr a k2, k3⟩
/-- how many others have not gone behind ten days, if this one quarrels now -/
def othK (P : Pl) (S : Sd) (y : Nat) : Int32 := ngI (itS P 10 (turnS S y)) 8 - (if itS P 10 (turnS S y) y ≤ 0 then 0 else 1)
theorem f_others {P : Pl} (hp : pOk P) {g : Sg} (hP : cPlan P g) {S : Sd} (hc : cSt g 24 S) {y : Nat} (hy : y < pC P) : ∃ g', fX1_othersKeptBy g (nI y) = some (othK P S y, g') ∧ fT g g' := by
  have h8 := hp.2.1
  obtain ⟨g1, e1, e2, e3⟩ := f_then hc
  obtain ⟨x1, x2⟩ := cSt_turn (j := y) e3
  have a2 : fT g1 (setC g1 78 (upd (g1 78) 3 (S 8 ^^^ ((1 : Int32) <<< (nI y &&& 31))))) := fun k h1 h2 => setC_n (by omega)
  have hP2 := fT_plan (fT_tr e2 a2) hP
  obtain ⟨g3, k1, k2, k3⟩ := f_okLp hp (S := S) (fun g15 => gCl (fX9_notGone g15 78) (fun r18 g17 => gRd (nI y) 8 (g17 81) (fun x19 => if x19 ≤ 0 then some ((r18 - (0 : Int32)), g17) else some ((r18 - (1 : Int32)), g17)))) 10 0 gN _ _ (by omega) (by unfold gN; omega) hP2 x2
  unfold fX1_othersKeptBy
  rw [show nI 0 = 0 from rfl] at k1
  rw [e1, gCv_s, x1, gCv_s, k1, f_notGone, gCl_s, gRd_n (by omega) (by decide), show g3 81 y = itS P 10 (turnS S y) y from k3.1 y (by omega), ngI_congr (S' := itS P 10 (turnS S y)) 8 (fun z hz => k3.1 z hz)]
  refine ⟨g3, ?_, fT_tr e2 (fT_tr a2 k2)⟩
  unfold othK
  split <;> rfl
theorem or_turn : ∀ j : Nat, j < 8 → ∀ m : Nat, m < 256 → bit (nI m) j = false → (nI m ||| ((1 : Int32) <<< (nI j &&& 31))) = (nI m ^^^ ((1 : Int32) <<< (nI j &&& 31))) := by decide +kernel
/-- the best so far among the first so many: which, how many -/
def helpF (P : Pl) (S : Sd) : Nat → Int32 × Int32
  | 0 => (-4, -1)
  | y + 1 => if S y ≤ 0 then helpF P S y else if bit (S 8) y = true then helpF P S y else if othK P S y ≤ (helpF P S y).2 then helpF P S y else (nI y, othK P S y)
theorem helpF_c (P : Pl) (S : Sd) : ∀ y, (helpF P S y).1 = -4 ∨ ∃ j, j < y ∧ (helpF P S y).1 = nI j ∧ (helpF P S y).2 = othK P S j := by
  intro y
  induction y with
  | zero => exact Or.inl rfl
  | succ y ih =>
    have up : ((helpF P S y).1 = -4 ∨ ∃ j, j < y ∧ (helpF P S y).1 = nI j ∧ (helpF P S y).2 = othK P S j) → ((helpF P S y).1 = -4 ∨ ∃ j, j < y + 1 ∧ (helpF P S y).1 = nI j ∧ (helpF P S y).2 = othK P S j) := fun h => h.elim Or.inl (fun ⟨j, a, b⟩ => Or.inr ⟨j, by omega, b⟩)
    rw [helpF]
    split
    · exact up ih
    · split
      · exact up ih
      · split
        · exact up ih
        · exact Or.inr ⟨y, by omega, rfl, rfl⟩
theorem f_heLp {P : Pl} (hp : pOk P) {S : Sd} (vS : vSt P S) : ∀ (d i n : Nat) (g : Sg), i + d = pC P → d < n → cPlan P g → cSt g 24 S → ∃ g', fX1_helper_8 n (helpF P S i).1 (helpF P S i).2 (nI i) g = some ((helpF P S (pC P)).1, g') ∧ fT g g' := by
  have h8 := hp.2.1
  intro d
  induction d with
  | zero =>
    intro i n g hi hn hP hc
    match n, hn with
    | n + 1, _ =>
      rw [fX1_helper_8, hP.2.2.1, if_pos ((nI_leN (by omega) (by omega)).mpr (by omega)), show i = pC P by omega]
      exact ⟨g, rfl, fun _ _ _ => rfl⟩
  | succ d ih =>
    intro i n g hi hn hP hc
    match n, hn with
    | n + 1, hn =>
      rw [fX1_helper_8, hP.2.2.1, if_neg (by rw [nI_leN (by omega) (by omega)]; omega), gRd_n (by omega) (by decide), show g 27 i = S i from hc.1 i (by omega)]
      simp only [gLet, nI_1, f_hasQ, gCl_s, hc.2.1]
      have z0 : (S i = 0) ↔ (S i ≤ 0) := by
        have := (vS.1 i (by omega)).1
        rw [eq_tI, le_tI, t0]
        omega
      by_cases hz : S i ≤ 0
      · rw [if_pos (z0.mpr hz)]
        have k := ih (i + 1) n g (by omega) (by omega) hP hc
        rw [helpF, if_pos hz] at k
        exact k
      · rw [if_neg (fun z => hz (z0.mp z))]
        by_cases hb : bit (S 8) i = true
        · rw [bI_t hb, if_neg one_ne]
          have k := ih (i + 1) n g (by omega) (by omega) hP hc
          rw [helpF, if_neg hz, if_pos hb] at k
          exact k
        · rw [bI_f hb, if_pos rfl]
          obtain ⟨g1, e1, e2⟩ := f_others hp hP hc (y := i) (by omega)
          rw [e1, gCl_s]
          obtain ⟨g2, k1, k2⟩ := ih (i + 1) n g1 (by omega) (by omega) (fT_plan e2 hP) (cSt_eq (fun k h1 h2 => e2 k (by omega) (by omega)) hc)
          rw [helpF, if_neg hz, if_neg hb] at k1
          by_cases hr : othK P S i ≤ (helpF P S i).2
          · rw [if_pos hr]
            rw [if_pos hr] at k1
            exact ⟨g2, k1, fT_tr e2 k2⟩
          · rw [if_neg hr]
            rw [if_neg hr] at k1
            exact ⟨g2, k1, fT_tr e2 k2⟩
theorem m_heLp {P : Pl} (hp : pOk P) {S : Sd} (vS : vSt P S) (K : Int32 → Int32 → Sg → Option (Int32 × Sg)) : ∀ (d i n : Nat) (t : Sg), i + d = pC P → d < n → mPlan P t → mSt t 0 S → ∃ t', fX11_help_20 n (helpF P S i).1 (helpF P S i).2 (nI i) t K = K (helpF P S (pC P)).1 (helpF P S (pC P)).2 t' ∧ mT t t' := by
  have h8 := hp.2.1
  intro d
  induction d with
  | zero =>
    intro i n t hi hn hP hm
    match n, hn with
    | n + 1, _ =>
      rw [fX11_help_20, hP.2.1, if_pos ((nI_leN (by omega) (by omega)).mpr (by omega)), show i = pC P by omega]
      exact ⟨t, rfl, mT_rf⟩
  | succ d ih =>
    intro i n t hi hn hP hm
    match n, hn with
    | n + 1, hn =>
      rw [fX11_help_20, hP.2.1, if_neg (by rw [nI_leN (by omega) (by omega)]; omega), gRd_n (show i < 336 by omega) (by decide), show t 10 i = S i from by rw [← hm i (by omega), Nat.zero_add], show (8 : Int32) = nI 8 from rfl]
      simp only [gLet, nI_1, gRd_n (show 8 < 336 by decide) (show 336 ≤ 1000 by decide), show t 10 8 = S 8 from hm 8 (by omega), m_has, gCl_s]
      by_cases hz : S i ≤ 0
      · rw [if_pos hz]
        have k := ih (i + 1) n t (by omega) (by omega) hP hm
        rw [helpF, if_pos hz] at k
        exact k
      · rw [if_neg hz]
        by_cases hb : bit (S 8) i = true
        · rw [bI_t hb, if_neg one_ne]
          have k := ih (i + 1) n t (by omega) (by omega) hP hm
          rw [helpF, if_neg hz, if_pos hb] at k
          exact k
        · rw [bI_f hb, if_pos rfl]
          obtain ⟨t1, p1, p2, p3⟩ := m_then hm
          obtain ⟨m, m1, m2⟩ := vS.2.2.1
          have eor : (S 8 ||| ((1 : Int32) <<< (nI i &&& 31))) = (S 8 ^^^ ((1 : Int32) <<< (nI i &&& 31))) := by
            rw [m2]
            refine or_turn i (by omega) m m1 ?_
            rw [m2] at hb
            simpa using hb
          have p4 := mSt_put (i := 8) (x := S 8 ^^^ ((1 : Int32) <<< (nI i &&& 31))) p3
          have a2 : mT t1 (setC t1 10 (upd (t1 10) (308 + 8) (S 8 ^^^ ((1 : Int32) <<< (nI i &&& 31))))) := mT_put (by omega)
          obtain ⟨t3, q1, q2, q3⟩ := m_tries hp (mT_plan (mT_tr p2 a2) hP) (n := 10) (by omega) p4 (vSt_turn (j := i) (by omega) vS)
          have fr := mT_tr p2 (mT_tr a2 q2)
          have vv : vSt P (itS P 10 (upd S 8 (S 8 ^^^ ((1 : Int32) <<< (nI i &&& 31))))) := itS_v _ _ (vSt_turn (j := i) (by omega) vS)
          rw [p1, gCv_s, show (316 : Int32) = nI (308 + 8) from rfl, gRd_n (show 308 + 8 < 336 by decide) (by decide), gWr_n (show 308 + 8 < 336 by decide) (by decide), p3 8 (by omega), eor, show (10 : Int32) = nI 10 from rfl, q1, gCv_s, show (308 : Int32) = nI 308 from rfl, m_alive hp (by omega) (mT_plan fr hP) q3 vv, gCl_s, nI_add, gRd_n (show 308 + i < 336 by omega) (by decide), q3 i (by omega)]
          obtain ⟨t4, k1, k2⟩ := ih (i + 1) n t3 (by omega) (by omega) (mT_plan fr hP) (mSt_eq (fun j h1 h2 => fr.2 j (by omega)) hm)
          rw [helpF, if_neg hz, if_neg hb] at k1
          refine ⟨t4, ?_, mT_tr fr k2⟩
          have eo : ∀ z : Int32, z = (if itS P 10 (upd S 8 (S 8 ^^^ ((1 : Int32) <<< (nI i &&& 31)))) i ≤ 0 then (0 : Int32) else 1) → ngI (itS P 10 (upd S 8 (S 8 ^^^ ((1 : Int32) <<< (nI i &&& 31))))) 8 - z = othK P S i := fun z e => by rw [e]; rfl
          have tail : ∀ r : Int32, r = othK P S i → (if r ≤ (helpF P S i).2 then gCl (fX11_larger t3 (helpF P S i).2 r) (fun r47 g46 => fX11_help_20 n (helpF P S i).1 r47 (nI (i + 1)) g46 K) else gCl (fX11_larger t3 (helpF P S i).2 r) (fun r47 g46 => fX11_help_20 n (nI i) r47 (nI (i + 1)) g46 K)) = K (helpF P S (pC P)).1 (helpF P S (pC P)).2 t4 := by
            intro r hr
            rw [m_larger, gCl_s, hr]
            by_cases hr2 : othK P S i ≤ (helpF P S i).2
            · rw [if_pos hr2, if_neg (by rw [lt_tI]; rw [le_tI] at hr2; omega)]
              rw [if_pos hr2] at k1
              exact k1
            · rw [if_neg hr2, if_pos (by rw [lt_tI]; rw [le_tI] at hr2; omega), gCl_s]
              rw [if_neg hr2] at k1
              exact k1
          split
          · rename_i hw
            exact tail _ (eo 0 (by rw [if_pos hw]))
          · rename_i hw
            exact tail _ (eo 1 (by rw [if_neg hw]))
theorem al_help {P : Pl} {h : Int32} {S : Sd} {u : Nat} {U : Nat → Sd} {v : Nat} {V : Nat → Sd} {g t : Sg} (R : Rl P h S u U v V g t) (a : Int32) : alike (fX10_help g a) (fX11_help t a) := by
  have R' := R
  obtain ⟨⟨hp, -, vS, -⟩, ⟨hP, -⟩, ⟨hM, -⟩, hc, hm, -⟩ := R
  have h8 := hp.2.1
  unfold fX10_help fX11_help
  rw [show (0 : Int64) = (0 : Int32).toInt64 from rfl, show (1 : Int64) = (1 : Int32).toInt64 from rfl]
  rcases rng_c g t a 0 1 with ⟨e1, e2, e3⟩ | ⟨e1, e2⟩
  · rw [e1, e2, gCl_s, gCl_s, if_pos rfl, if_neg one_ne]
    obtain ⟨g1, k1, k2⟩ := f_heLp hp vS (pC P) 0 gN g (by omega) (by unfold gN; omega) hP hc
    obtain ⟨t1, q1, q2⟩ := m_heLp hp vS (fun x54 x55 g56 => gLet (fun g58 => some (x54, g58)) (fun (K57 : Sg → Option (Int32 × Sg)) => if x54 < 0 then K57 g56 else if a = 0 then K57 g56 else some (x55, g56))) (pC P) 0 gN t (by omega) (by unfold gN; omega) hM hm
    rw [show (helpF P S 0).1 = -4 from rfl, show (helpF P S 0).2 = -1 from rfl, show nI 0 = 0 from rfl] at k1 q1
    unfold fX1_helper
    rw [k1, q1, gCl_s]
    simp only [gLet]
    rcases helpF_c P S (pC P) with e | ⟨j, j1, j2, j3⟩
    · rw [e, if_pos rfl, if_pos (by decide)]
      exact alike_q R' rfl rfl (fT_q k2) (mT_q q2)
    · rw [j2, j3, if_neg (by rw [show (-4 : Int32) = Int32.ofInt (-4) from rfl, eq_tI, tI_nI (by omega), show (Int32.ofInt (-4)).toInt = -4 from rfl]; omega), if_neg (nI_pos (by omega))]
      by_cases a0 : a = 0
      · rw [if_pos a0, if_pos a0]
        exact alike_q R' rfl rfl (fT_q k2) (mT_q q2)
      · rw [if_neg a0, if_neg a0]
        obtain ⟨g2, x1, x2⟩ := f_others hp (fT_plan k2 hP) (cSt_eq (fun k h1 h2 => k2 k (by omega) (by omega)) hc) (y := j) j1
        rw [x1, gCl_s]
        exact alike_q R' rfl rfl (fT_q (fT_tr k2 x2)) (mT_q q2)
  · rw [e1, e2, gCl_s, gCl_s, if_neg one_ne, if_pos rfl]
    exact alike_q R' rfl rfl fQ_rf mQ_rf
