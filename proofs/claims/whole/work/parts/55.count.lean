/-! ===== count ===== -/
def ngI (S : Nat → Int32) : Nat → Int32
  | 0 => 0
  | k + 1 => ngI S k + (if S k ≤ 0 then 0 else 1)
theorem ngI_congr {S S' : Nat → Int32} : ∀ k, (∀ y, y < k → S y = S' y) → ngI S k = ngI S' k := by
  intro k
  induction k with
  | zero => intro _; rfl
  | succ k ih => intro h; rw [ngI, ngI, ih (fun y hy => h y (by omega)), h k (by omega)]
theorem add_0 (a : Int32) : a + 0 = a := Int32.add_zero a
theorem ngI_c {S : Nat → Int32} {c : Nat} (h : ∀ y, c ≤ y → y < 8 → S y = 0) : ∀ d, c + d ≤ 8 → ngI S (c + d) = ngI S c := by
  intro d
  induction d with
  | zero => intro _; rfl
  | succ d ih =>
    intro hd
    rw [← Nat.add_assoc, ngI, ih (by omega), h (c + d) (by omega) (by omega), if_pos (by decide), add_0]
theorem f_ngLp {s : Nat} (g : Sg) : ∀ (d i n : Nat), i + d = 8 → d < n → fX9_notGone_4 s n (ngI (g (s + 3)) i) (nI i) g = some (ngI (g (s + 3)) 8, g) := by
  intro d
  induction d with
  | zero =>
    intro i n hi hn
    match n, hn with
    | n + 1, _ =>
      rw [fX9_notGone_4, show (8 : Int32) = nI 8 from rfl, if_pos ((nI_leN (by omega) (by omega)).mpr (by omega)), show i = 8 by omega]
  | succ d ih =>
    intro i n hi hn
    match n, hn with
    | n + 1, hn =>
      have k := ih (i + 1) n (by omega) (by omega)
      rw [fX9_notGone_4, show (8 : Int32) = nI 8 from rfl, if_neg (by rw [nI_leN (by omega) (by omega)]; omega), gRd_n (by omega) (by decide)]
      simp only [gLet, nI_1]
      rw [ngI] at k
      split
      · rename_i hw; rw [if_pos hw] at k; exact k
      · rename_i hw; rw [if_neg hw] at k; exact k
theorem f_notGone (g : Sg) (s : Nat) : fX9_notGone g s = some (ngI (g (s + 3)) 8, g) := by
  unfold fX9_notGone
  have k := f_ngLp g (s := s) 8 0 gN (by omega) (by unfold gN; omega)
  rw [show ngI (g (s + 3)) 0 = 0 from rfl, show nI 0 = 0 from rfl] at k
  exact k
theorem m_alLp {P : Pl} (hp : pOk P) {b : Nat} (hb : b + 28 ≤ 336) {t : Sg} (hP : mPlan P t) : ∀ (d i n : Nat), i + d = pC P → d < n → fX11_alive_4 (nI b) n (ngI (fun y => t 10 (b + y)) i) (nI i) t = some (ngI (fun y => t 10 (b + y)) (pC P), t) := by
  have h8 := hp.2.1
  intro d
  induction d with
  | zero =>
    intro i n hi hn
    match n, hn with
    | n + 1, _ =>
      rw [fX11_alive_4, hP.2.1, if_pos ((nI_leN (by omega) (by omega)).mpr (by omega)), show i = pC P by omega]
  | succ d ih =>
    intro i n hi hn
    match n, hn with
    | n + 1, hn =>
      have k := ih (i + 1) n (by omega) (by omega)
      rw [fX11_alive_4, hP.2.1, if_neg (by rw [nI_leN (by omega) (by omega)]; omega)]
      simp only [gLet, nI_1, nI_add]
      rw [gRd_n (show b + i < 336 by omega) (by decide)]
      rw [ngI] at k
      split
      · rename_i hw; rw [if_pos hw] at k; exact k
      · rename_i hw; rw [if_neg hw] at k; exact k
theorem m_alive {P : Pl} (hp : pOk P) {b : Nat} (hb : b + 28 ≤ 336) {t : Sg} (hP : mPlan P t) {S : Sd} (hm : mSt t b S) (vS : vSt P S) : fX11_alive t (nI b) = some (ngI S 8, t) := by
  have h8 := hp.2.1
  unfold fX11_alive
  have k := m_alLp hp hb hP (pC P) 0 gN (by omega) (by unfold gN; omega)
  rw [show ngI (fun y => t 10 (b + y)) 0 = 0 from rfl, show nI 0 = 0 from rfl, ngI_congr (S' := S) (pC P) (fun y hy => hm y (by omega))] at k
  have e := ngI_c (S := S) (c := pC P) vS.2.1 (8 - pC P) (by omega)
  rw [show pC P + (8 - pC P) = 8 by omega] at e
  rw [e]
  exact k
def sdI (S : Nat → Int32) : Nat → Int32
  | 0 => 0
  | x + 1 => sdI S x + S (9 + x)
theorem f_diLp {P : Pl} (hp : pOk P) {g : Sg} (hP : cPlan P g) {S : Sd} (hc : cSt g 24 S) : ∀ (d i n : Nat), i + d = pS P → d < n → fX10_downInAll_4 n (sdI S i) (nI i) g = some (sdI S (pS P), g) := by
  have h9 := hp.2.2.2.1
  intro d
  induction d with
  | zero =>
    intro i n hi hn
    match n, hn with
    | n + 1, _ =>
      rw [fX10_downInAll_4, hP.2.1, if_pos ((nI_leN (by omega) (by omega)).mpr (by omega)), show i = pS P by omega]
  | succ d ih =>
    intro i n hi hn
    match n, hn with
    | n + 1, hn =>
      have k := ih (i + 1) n (by omega) (by omega)
      rw [fX10_downInAll_4, hP.2.1, if_neg (by rw [nI_leN (by omega) (by omega)]; omega), gRd_n (by omega) (by decide), show g 25 i = S (9 + i) from hc.2.2.1 i (by omega)]
      simp only [gLet, nI_1]
      exact k
theorem m_diLp {P : Pl} (hp : pOk P) {t : Sg} (hP : mPlan P t) {S : Sd} (hm : mSt t 0 S) : ∀ (d i n : Nat), i + d = pS P → d < n → fX11_sumOf_4 0 n (sdI S i) (nI i) t = some (sdI S (pS P), t) := by
  have h9 := hp.2.2.2.1
  intro d
  induction d with
  | zero =>
    intro i n hi hn
    match n, hn with
    | n + 1, _ =>
      rw [fX11_sumOf_4, hP.1, if_pos ((nI_leN (by omega) (by omega)).mpr (by omega)), show i = pS P by omega]
  | succ d ih =>
    intro i n hi hn
    match n, hn with
    | n + 1, hn =>
      have k := ih (i + 1) n (by omega) (by omega)
      rw [fX11_sumOf_4, hP.1, if_neg (by rw [nI_leN (by omega) (by omega)]; omega), show (9 : Int32) = nI 9 from rfl]
      simp only [gLet, nI_1, nI_add]
      rw [if_pos trivial, gRd_n (show 9 + i < 336 by omega) (by decide), show t 10 (9 + i) = S (9 + i) from by rw [← hm (9 + i) (by omega), Nat.zero_add]]
      exact k
theorem f_liLp {P : Pl} (hp : pOk P) {S : Sd} : ∀ (d i n : Nat) (g : Sg), i + d = pS P → d < n → cPlan P g → cSt g 24 S → ∃ g', fX10_leftOverInAll_4 n (sumF P (S 8) (fun x => S (9 + x)) (fun x => S (18 + x)) S i) (nI i) g = some (lftS P S, g') ∧ fQ g g' := by
  have h9 := hp.2.2.2.1
  have h8 := hp.2.1
  intro d
  induction d with
  | zero =>
    intro i n g hi hn hP hc
    match n, hn with
    | n + 1, _ =>
      rw [fX10_leftOverInAll_4, hP.2.1, if_pos ((nI_leN (by omega) (by omega)).mpr (by omega)), show i = pS P by omega]
      exact ⟨g, rfl, fQ_rf⟩
  | succ d ih =>
    intro i n g hi hn hP hc
    match n, hn with
    | n + 1, hn =>
      rw [fX10_leftOverInAll_4, hP.2.1, if_neg (by rw [nI_leN (by omega) (by omega)]; omega), f_leftOverAt hp hP (by omega), gCl_s]
      simp only [gLet, nI_1]
      obtain ⟨g2, k1, k2⟩ := ih (i + 1) n (setC g 73 (dayA P i (g (24 + 3)) (g 24 3) (g (24 + 1) i) (g (24 + 2) i) (g 73)).2) (by omega) (by omega) (cPlan_set (Or.inr (by decide)) hP) (cSt_eq (fun k h1 h2 => setC_n (by omega)) hc)
      rw [sumF] at k1
      rw [hc.2.1, hc.2.2.1 i (by omega), hc.2.2.2.1 i (by omega)] at k1 k2
      rw [leftF_e (W' := S) (fun y hy => hc.1 y (by have := ((tl_mem hp).mp hy).1; omega)), hc.2.1, hc.2.2.1 i (by omega), hc.2.2.2.1 i (by omega)]
      exact ⟨g2, k1, fQ_tr (fQ_set (by unfold scC; omega) (by decide) (by decide)) k2⟩
theorem m_liLp {P : Pl} (hp : pOk P) {S : Sd} : ∀ (d i n : Nat) (t : Sg), i + d = pS P → d < n → mPlan P t → mSt t 0 S → ∃ t', fX11_sumOf_4 1 n (sumF P (S 8) (fun x => S (9 + x)) (fun x => S (18 + x)) S i) (nI i) t = some (lftS P S, t') ∧ mQ t t' := by
  have h9 := hp.2.2.2.1
  have h8 := hp.2.1
  intro d
  induction d with
  | zero =>
    intro i n t hi hn hP hm
    match n, hn with
    | n + 1, _ =>
      rw [fX11_sumOf_4, hP.1, if_pos ((nI_leN (by omega) (by omega)).mpr (by omega)), show i = pS P by omega]
      exact ⟨t, rfl, mQ_rf⟩
  | succ d ih =>
    intro i n t hi hn hP hm
    match n, hn with
    | n + 1, hn =>
      rw [fX11_sumOf_4, hP.1, if_neg (by rw [nI_leN (by omega) (by omega)]; omega)]
      simp only [gLet, nI_1]
      rw [if_neg one_ne, show (0 : Int32) = nI 0 from rfl, m_leftAt hp hP (by omega) (by omega), gCl_s]
      obtain ⟨t2, k1, k2⟩ := ih (i + 1) n (setC t 14 (dayA P i (fun y => t 10 (0 + y)) (t 10 (0 + 8)) (t 10 (0 + 9 + i)) (t 10 (0 + 18 + i)) (t 14)).2) (by omega) (by omega) (mPlan_set (by decide) hP) (mSt_eq (fun j h1 h2 => by rw [setC_n (by decide)]) hm)
      rw [sumF] at k1
      have e9 : t 10 (0 + 9 + i) = S (9 + i) := by have z := hm (9 + i) (by omega); rwa [show 0 + (9 + i) = 0 + 9 + i by omega] at z
      have e18 : t 10 (0 + 18 + i) = S (18 + i) := by have z := hm (18 + i) (by omega); rwa [show 0 + (18 + i) = 0 + 18 + i by omega] at z
      rw [hm 8 (by omega), e9, e18] at k1 k2
      rw [leftF_e (W' := S) (fun y hy => hm y (by have := ((tl_mem hp).mp hy).1; omega)), hm 8 (by omega), e9, e18]
      exact ⟨t2, k1, mQ_tr (mQ_set (by omega)) k2⟩
theorem al_count {P : Pl} {h : Int32} {S : Sd} {u : Nat} {U : Nat → Sd} {v : Nat} {V : Nat → Sd} {g t : Sg} (R : Rl P h S u U v V g t) (a : Int32) : alike (fX10_count g a) (fX11_count t a) := by
  have R' := R
  obtain ⟨⟨hp, -, vS, -⟩, ⟨hP, hh⟩, ⟨hM, hh2⟩, hc, hm, ⟨⟨nx, e1⟩, e2, -⟩, ⟨⟨ny, i1⟩, i2, -⟩, ⟨L, l1, l2, l3, -⟩, ⟨n, n1, n2, n3, -⟩, -⟩ := R
  unfold fX10_count fX11_count
  by_cases a0 : a = 0
  · rw [if_pos a0, if_pos a0, hP.2.1, hM.1]
    exact alike_q R' rfl rfl fQ_rf mQ_rf
  rw [if_neg a0, if_neg a0]
  by_cases a0 : a = 1
  · rw [if_pos a0, if_pos a0, hP.2.2.1, hM.2.1]
    exact alike_q R' rfl rfl fQ_rf mQ_rf
  rw [if_neg a0, if_neg a0]
  by_cases a0 : a = 2
  · rw [if_pos a0, if_pos a0, hh, hh2]
    exact alike_q R' rfl rfl fQ_rf mQ_rf
  rw [if_neg a0, if_neg a0]
  by_cases a0 : a = 3
  · rw [if_pos a0, if_pos a0, show (27 : Int32) = nI 27 from rfl, gRd_n (by omega) (by decide), hc.2.2.2.2, show t 10 27 = S 27 from hm 27 (by omega)]
    exact alike_q R' rfl rfl fQ_rf mQ_rf
  rw [if_neg a0, if_neg a0]
  by_cases a0 : a = 4
  · rw [if_pos a0, if_pos a0, f_notGone, show (0 : Int32) = nI 0 from rfl, m_alive hp (by omega) hM hm vS, gCl_s, gCl_s, hP.2.2.1, hM.2.1, ngI_congr (S' := S) 8 (fun y hy => hc.1 y hy)]
    exact alike_q R' rfl rfl fQ_rf mQ_rf
  rw [if_neg a0, if_neg a0]
  by_cases a0 : a = 5
  · obtain ⟨m, m1, m2⟩ := vS.2.2.1
    rw [if_pos a0, if_pos a0, f_bitCount, gCl_s, show (8 : Int32) = nI 8 from rfl, gRd_n (by omega) (by decide), m_bits, gCl_s, hc.2.1, show t 10 8 = S 8 from hm 8 (by omega), m2, bc_bs m m1]
    exact alike_q R' rfl rfl fQ_rf mQ_rf
  rw [if_neg a0, if_neg a0]
  by_cases a0 : a = 6
  · have k1 := f_diLp hp hP hc (pS P) 0 gN (by omega) (by have := hp.2.2.2.1; unfold gN; omega)
    have k2 := m_diLp hp hM hm (pS P) 0 gN (by omega) (by have := hp.2.2.2.1; unfold gN; omega)
    rw [show sdI S 0 = 0 from rfl, show nI 0 = 0 from rfl] at k1 k2
    rw [if_pos a0, if_pos a0]
    unfold fX10_downInAll fX11_sumOf
    rw [k1, k2, gCl_s, gCl_s]
    exact alike_q R' rfl rfl fQ_rf mQ_rf
  rw [if_neg a0, if_neg a0]
  by_cases a0 : a = 7
  · obtain ⟨g', k1, q1⟩ := f_liLp hp (S := S) (pS P) 0 gN g (by omega) (by have := hp.2.2.2.1; unfold gN; omega) hP hc
    obtain ⟨t', k2, q2⟩ := m_liLp hp (S := S) (pS P) 0 gN t (by omega) (by have := hp.2.2.2.1; unfold gN; omega) hM hm
    rw [show sumF P (S 8) (fun x => S (9 + x)) (fun x => S (18 + x)) S 0 = 0 from rfl, show nI 0 = 0 from rfl] at k1 k2
    rw [if_pos a0, if_pos a0]
    unfold fX10_leftOverInAll fX11_sumOf
    rw [k1, k2, gCl_s, gCl_s]
    exact alike_q R' rfl rfl q1 q2
  rw [if_neg a0, if_neg a0]
  by_cases a0 : a = 8
  · rw [if_pos a0, if_pos a0, n2, n3]
    exact alike_q R' rfl rfl fQ_rf mQ_rf
  rw [if_neg a0, if_neg a0]
  by_cases a0 : a = 9
  · rw [if_pos a0, if_pos a0, e1.2.2.2.1, e2]
    exact alike_q R' rfl rfl fQ_rf mQ_rf
  rw [if_neg a0, if_neg a0]
  by_cases a0 : a = 10
  · rw [if_pos a0, if_pos a0, i1.2.2.2.1, i2]
    exact alike_q R' rfl rfl fQ_rf mQ_rf
  rw [if_neg a0, if_neg a0]
  by_cases a0 : a = 11
  · rw [if_pos a0, if_pos a0, l2, l3]
    exact alike_q R' rfl rfl fQ_rf mQ_rf
  rw [if_neg a0, if_neg a0]
  exact alike_q R' rfl rfl fQ_rf mQ_rf
