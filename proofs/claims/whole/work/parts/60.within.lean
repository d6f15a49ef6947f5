theorem fQ_plan {P : Pl} {g g' : Sg} (a : fQ g g') (h : cPlan P g) : cPlan P g' := cPlan_eq (fun k h1 h2 => a.1 k (by unfold scC; omega)) h
theorem fQ_now {S : Sd} {g g' : Sg} (a : fQ g g') (h : cSt g 24 S) : cSt g' 24 S := cSt_eq (fun k h1 h2 => a.1 k (by unfold scC; omega)) h
theorem f_wiA {P : Pl} (hp : pOk P) {S : Sd} {x n0 : Nat} (hx : x < 9) (hn0 : n0 ≤ 6) {thr : Int32} {f h : Nat → Int32} (K : Int32 → Sg → Option (Int32 × Sg)) : ∀ (d i n : Nat) (g : Sg), i + d = 256 → d < n → cPlan P g → cSt g 24 S → g 74 2 = nI n0 → g 75 = f → g 76 = h → ∃ g', fX10_within_38 (nI x) 0 thr n (nI (cF (withP P S x thr f h n0) 0 i)) (nI i) g K = K (nI (cF (withP P S x thr f h n0) 0 256)) g' ∧ fQ g g' := by
  intro d
  induction d with
  | zero =>
    intro i n g hi hn hP hc h2 h5 h6
    match n, hn with
    | n + 1, _ =>
      rw [fX10_within_38, show (256 : Int32) = nI 256 from rfl, if_pos ((nI_leN (by omega) (by omega)).mpr (by omega)), show i = 256 by omega]
      exact ⟨g, rfl, fQ_rf⟩
  | succ d ih =>
    intro i n g hi hn hP hc h2 h5 h6
    match n, hn with
    | n + 1, hn =>
      have hcf := cF_le (withP P S x thr f h n0) i 0
      obtain ⟨g1, k1, k2⟩ := f_wiStep hp hx hn0 (thr := thr) hP hc h2 h5 h6 i (fun g33 => if (0 : Int32) = 1 then some (nI i, g33) else fX10_within_38 (nI x) 0 thr n (nI (cF (withP P S x thr f h n0) 0 i) + 1) (nI i + 1) g33 K) (fun g33 => fX10_within_38 (nI x) 0 thr n (nI (cF (withP P S x thr f h n0) 0 i)) (nI i + 1) g33 K)
      obtain ⟨g2, e1, e2⟩ := ih (i + 1) n g1 (by omega) (by omega) (fQ_plan k1 hP) (fQ_now k1 hc) (by rw [k1.1 74 (by unfold scC; omega)]; exact h2) (by rw [k1.1 75 (by unfold scC; omega)]; exact h5) (by rw [k1.1 76 (by unfold scC; omega)]; exact h6)
      rw [fX10_within_38, show (256 : Int32) = nI 256 from rfl, if_neg (by rw [nI_leN (by omega) (by omega)]; omega)]
      refine ⟨g2, k2.trans (Eq.trans ?_ e1), fQ_tr k1 e2⟩
      rw [cF_s, Nat.zero_add, nI_1, nI_1, if_neg (show ¬ (0 : Int32) = 1 by decide)]
      split
      · rfl
      · rfl
theorem f_wiB {P : Pl} (hp : pOk P) {S : Sd} {x n0 : Nat} (hx : x < 9) (hn0 : n0 ≤ 6) {thr : Int32} {f h : Nat → Int32} (K : Int32 → Sg → Option (Int32 × Sg)) (hK : ∀ x g, K x g = some (-4, g)) : ∀ (d i n : Nat) (g : Sg) (z : Int32), i + d = 256 → d < n → cPlan P g → cSt g 24 S → g 74 2 = nI n0 → g 75 = f → g 76 = h → ∃ g', fX10_within_38 (nI x) 1 thr n z (nI i) g K = some (fF (withP P S x thr f h n0) i d, g') ∧ fQ g g' := by
  intro d
  induction d with
  | zero =>
    intro i n g z hi hn hP hc h2 h5 h6
    match n, hn with
    | n + 1, _ =>
      rw [fX10_within_38, show (256 : Int32) = nI 256 from rfl, if_pos ((nI_leN (by omega) (by omega)).mpr (by omega)), hK]
      exact ⟨g, rfl, fQ_rf⟩
  | succ d ih =>
    intro i n g z hi hn hP hc h2 h5 h6
    match n, hn with
    | n + 1, hn =>
      obtain ⟨g1, k1, k2⟩ := f_wiStep hp hx hn0 (thr := thr) hP hc h2 h5 h6 i (fun g33 => if (1 : Int32) = 1 then some (nI i, g33) else fX10_within_38 (nI x) 1 thr n (z + 1) (nI i + 1) g33 K) (fun g33 => fX10_within_38 (nI x) 1 thr n z (nI i + 1) g33 K)
      obtain ⟨g2, e1, e2⟩ := ih (i + 1) n g1 z (by omega) (by omega) (fQ_plan k1 hP) (fQ_now k1 hc) (by rw [k1.1 74 (by unfold scC; omega)]; exact h2) (by rw [k1.1 75 (by unfold scC; omega)]; exact h5) (by rw [k1.1 76 (by unfold scC; omega)]; exact h6)
      rw [fX10_within_38, show (256 : Int32) = nI 256 from rfl, if_neg (by rw [nI_leN (by omega) (by omega)]; omega)]
      rw [fF]
      by_cases hz : withP P S x thr f h n0 i = true
      · rw [if_pos hz, if_pos (show (1 : Int32) = 1 from rfl)] at k2
        rw [if_pos hz]
        exact ⟨g1, k2, k1⟩
      · rw [if_neg hz] at k2
        rw [if_neg hz]
        exact ⟨g2, k2.trans (by rw [nI_1]; exact e1), fQ_tr k1 e2⟩
theorem mQ_plan {P : Pl} {t t' : Sg} (a : mQ t t') (h : mPlan P t) : mPlan P t' := mPlan_eq (fun k h1 h2 => a.1 k (by omega)) (a.2.2 0 (by omega)) (a.2.2 2 (by omega)) h
theorem mQ_now {S : Sd} {t t' : Sg} (a : mQ t t') (h : mSt t 0 S) : mSt t' 0 S := mSt_eq (fun j h1 h2 => a.2.1 j (by omega)) h
theorem m_wiLp {P : Pl} (hp : pOk P) {S : Sd} {x n0 : Nat} (hx : x < 9) (hn0 : n0 ≤ 6) {thr : Int32} {f h : Nat → Int32} {N : Nat} (hN : N ≤ 256) (K : Int32 → Int32 → Sg → Option (Int32 × Sg)) : ∀ (i n : Nat) (t : Sg), i ≤ N → i < n → mPlan P t → mSt t 0 S → t 0 23 = nI n0 → t 12 = f → t 13 = h → ∃ t', fX11_within_44 (nI x) thr n (nI (cF (withP P S x thr f h n0) i (N - i))) (fF (withP P S x thr f h n0) i (N - i)) (nI i + (-1)) t K = K (nI (cF (withP P S x thr f h n0) 0 N)) (fF (withP P S x thr f h n0) 0 N) t' ∧ mQ t t' := by
  intro i
  induction i with
  | zero =>
    intro n t hi hn hP hm h2 h5 h6
    match n, hn with
    | n + 1, _ =>
      rw [neg1, fX11_within_44, if_pos (by decide)]
      exact ⟨t, rfl, mQ_rf⟩
  | succ i ih =>
    intro n t hi hn hP hm h2 h5 h6
    match n, hn with
    | n + 1, hn =>
      have e9 : t 10 (9 + x) = S (9 + x) := by rw [← hm (9 + x) (by omega), Nat.zero_add]
      have e18 : t 10 (18 + x) = S (18 + x) := by rw [← hm (18 + x) (by omega), Nat.zero_add]
      rw [pk_m1, fX11_within_44, if_neg (nI_pos (by omega)), show (9 : Int32) = nI 9 from rfl, show (18 : Int32) = nI 18 from rfl]
      simp only [gLet, nI_add, gRd_n (show 9 + x < 336 by omega) (show 336 ≤ 1000 by decide), gRd_n (show 18 + x < 336 by omega) (show 336 ≤ 1000 by decide), m_pours hp hP hx, gCl_s, e9, e18]
      have fin : ∀ t1, mQ t t1 → ∀ b : Bool, withP P S x thr f h n0 i = b → ∃ t', fX11_within_44 (nI x) thr n (nI (cF (withP P S x thr f h n0) (i + 1) (N - (i + 1))) + bB b) (if b = true then nI i else fF (withP P S x thr f h n0) (i + 1) (N - (i + 1))) (nI i + (-1)) t1 K = K (nI (cF (withP P S x thr f h n0) 0 N)) (fF (withP P S x thr f h n0) 0 N) t' ∧ mQ t t' := by
        intro t1 q b hb
        obtain ⟨t2, e1, e2⟩ := ih n t1 (by omega) (by omega) (mQ_plan q hP) (mQ_now q hm) (by rw [q.2.2 23 (by omega)]; exact h2) (by rw [q.1 12 (by omega)]; exact h5) (by rw [q.1 13 (by omega)]; exact h6)
        rw [show N - i = (N - (i + 1)) + 1 by omega, cF, fF, hb] at e1
        refine ⟨t2, ?_, mQ_tr q e2⟩
        rw [← e1]
        cases b
        · rw [show bB false = 0 from rfl, add_0, if_neg Bool.false_ne_true, if_neg Bool.false_ne_true, Nat.zero_add]
        · rw [show bB true = 1 from rfl, nI_1, if_pos rfl, if_pos rfl, Nat.add_comm 1]
      have q14 := mQ_set (t := t) (k := 14) (f := (pourA P x (S (9 + x)) (S (18 + x)) (nI i) (t 14)).2) (by omega)
      by_cases a : nI i &&& (thr ^^^ (-1)) = 0
      · rw [if_pos a, m_isSo hn0 (by rw [setC_n (by decide)]; exact h2), gCl_s, setC_n (show 12 ≠ 14 by decide), setC_n (show 13 ≠ 14 by decide), h5, h6, show (pourA P x (S (9 + x)) (S (18 + x)) (nI i) (t 14)).1 = (pourA P x (S (9 + x)) (S (18 + x)) (nI i) (fun _ => 0)).1 from pour_1 _ _ _ _]
        cases b : soF f h (nI x) (pourA P x (S (9 + x)) (S (18 + x)) (nI i) (fun _ => 0)).1 0 n0
        · have := fin _ q14 false (by unfold withP; rw [b, Bool.and_false])
          rw [show bB false = 0 from rfl] at this ⊢
          rw [if_pos rfl]
          simpa using this
        · have := fin _ q14 true (by unfold withP; rw [b, decide_eq_true a]; rfl)
          rw [show bB true = 1 from rfl] at this ⊢
          rw [if_neg one_ne]
          simpa using this
      · rw [if_neg a]
        have := fin t mQ_rf false (by unfold withP; rw [decide_eq_false a]; rfl)
        rw [show bB false = 0 from rfl] at this
        simpa using this
theorem al_within {P : Pl} {h : Int32} {S : Sd} {u : Nat} {U : Nat → Sd} {v : Nat} {V : Nat → Sd} {g t : Sg} (R : Rl P h S u U v V g t) (a b : Int32) : alike (fX10_within g a b) (fX11_within t a b) := by
  have R' := R
  obtain ⟨⟨hp, -, vS, -⟩, ⟨hP, -⟩, ⟨hM, -⟩, hc, hm, -, -, -, ⟨n0, n1, n2, n3, n4⟩, -⟩ := R
  have h9 := hp.2.2.2.1
  have h8 := hp.2.1
  unfold fX10_within fX11_within
  rw [show (0 : Int64) = (0 : Int32).toInt64 from rfl, show (1 : Int64) = (1 : Int32).toInt64 from rfl]
  rcases f_noStep hp hP a with ⟨x, hx, rfl, e⟩ | ⟨hn, e⟩
  · rw [e, (m_isStep hp hM _).1 ⟨x, hx, rfl⟩, gCl_s, gCl_s, if_pos rfl, if_neg one_ne]
    rcases rng_c g t b 0 1 with ⟨e1, e2, e3⟩ | ⟨e1, e2⟩
    · have hb01 : b = 0 ∨ b = 1 := by
        simp only [lt_tI, t0, t1] at e3
        rcases (by omega : b.toInt = 0 ∨ b.toInt = 1) with z | z
        · exact Or.inl (by rw [eq_tI, t0, z])
        · exact Or.inr (by rw [eq_tI, t1, z])
      obtain ⟨m, hm1, hm2⟩ := thrL_n (W := g (24 + 3)) h8 (tl P x) 0 (fun y hy => ((tl_mem hp).mp hy).1) (Nat.two_pow_pos _)
      rw [show nI 0 = 0 from rfl] at hm2
      have em : thrL (fun y => t 10 (0 + y)) (tl P x) 0 = nI m := by rw [← thr_same hp hc hm, hm2]
      rw [e1, e2, gCl_s, gCl_s, if_pos rfl, if_neg one_ne, f_notGoneAt hp hP (by omega), gCl_s, hm2]
      rw [show fX11_thereAt t (0 : Int32) (nI x) = some (nI m, t) from by rw [show (0 : Int32) = nI 0 from rfl, m_thereAt hp hM (by omega) (by omega), em], gCl_s, hM.2.1]
      simp only [gLet]
      rw [shl_n (pC P) (by omega)]
      have c256 : 2 ^ pC P ≤ 256 := by
        rw [show 256 = 2 ^ 8 from rfl]
        exact Nat.pow_le_pow_right (by decide) h8
      have pw : ∀ j, j < 0 + 256 → withP P S x (nI m) (g 75) (g 76) n0 j = withP P S x (nI m) (t 12) (t 13) n0 j := by
        intro j hj
        unfold withP
        rw [soF_congr (f := g 75) (f' := t 12) (h := g 76) (h' := t 13) n0 0 (fun i hi => n4 i (by omega))]
      have out : ∀ j, 0 + 2 ^ pC P ≤ j → j < 0 + 2 ^ pC P + (256 - 2 ^ pC P) → withP P S x (nI m) (t 12) (t 13) n0 j = false := by
        intro j h1 h2
        unfold withP
        rw [decide_eq_false (fun z => by have := sub_le (by omega) (by omega) z; omega)]
        rfl
      have cc := cF_congr (p := withP P S x (nI m) (g 75) (g 76) n0) (q := withP P S x (nI m) (t 12) (t 13) n0) 256 0 pw
      have ca := cF_add (withP P S x (nI m) (t 12) (t 13) n0) (2 ^ pC P) (256 - 2 ^ pC P) 0 out
      rw [show 2 ^ pC P + (256 - 2 ^ pC P) = 256 by omega] at ca
      obtain ⟨t2, q1, q2⟩ := m_wiLp hp (S := S) (x := x) (by omega) n1 (thr := nI m) (f := t 12) (h := t 13) c256 (fun x50 x51 g52 => if b = 0 then some (x50, g52) else some (x51, g52)) (2 ^ pC P) gN t (Nat.le_refl _) (by unfold gN; omega) hM hm n3 rfl rfl
      rw [Nat.sub_self] at q1
      rw [show cF (withP P S x (nI m) (t 12) (t 13) n0) (2 ^ pC P) 0 = 0 from rfl, show fF (withP P S x (nI m) (t 12) (t 13) n0) (2 ^ pC P) 0 = -4 from rfl, show nI 0 = 0 from rfl] at q1
      have em1 : nI (2 ^ pC P) - 1 = nI (2 ^ pC P) + (-1) := by
        have : 0 < 2 ^ pC P := Nat.two_pow_pos _
        rw [show 2 ^ pC P = (2 ^ pC P - 1) + 1 by omega, pk_m1]
        exact nI_pred _
      rw [em1, q1]
      rcases hb01 with rfl | rfl
      · obtain ⟨g2, k1, k2⟩ := f_wiA hp (S := S) (x := x) (by omega) n1 (thr := nI m) (f := g 75) (h := g 76) (fun x42 g43 => if (0 : Int32) = 1 then some ((-4 : Int32), g43) else some (x42, g43)) 256 0 gN g (by omega) (by unfold gN; omega) hP hc n2 rfl rfl
        rw [show cF (withP P S x (nI m) (g 75) (g 76) n0) 0 0 = 0 from rfl, show nI 0 = 0 from rfl] at k1
        rw [k1, if_neg (show ¬ (0 : Int32) = 1 by decide), if_pos rfl, cc.1, ca.1]
        exact alike_q R' rfl rfl k2 q2
      · obtain ⟨g2, k1, k2⟩ := f_wiB hp (S := S) (x := x) (by omega) n1 (thr := nI m) (f := g 75) (h := g 76) (fun x42 g43 => if (1 : Int32) = 1 then some ((-4 : Int32), g43) else some (x42, g43)) (fun x g => if_pos rfl) 256 0 gN g 0 (by omega) (by unfold gN; omega) hP hc n2 rfl rfl
        rw [show nI 0 = 0 from rfl] at k1
        rw [k1, if_neg one_ne, cc.2, ca.2]
        exact alike_q R' rfl rfl k2 q2
    · rw [e1, e2, gCl_s, gCl_s, if_neg one_ne, if_pos rfl]
      exact alike_q R' rfl rfl fQ_rf mQ_rf
  · rw [e, (m_isStep hp hM a).2 hn, gCl_s, gCl_s, if_neg one_ne, if_pos rfl]
    exact alike_q R' rfl rfl fQ_rf mQ_rf
