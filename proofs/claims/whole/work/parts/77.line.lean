/-! ===== the line in which they drink ===== -/
def kF (A G : Nat → Nat) (y : Nat) : Nat := 21 * A y + G y
def fl (A G : Nat → Nat) (c k : Nat) : List Nat := (List.range c).filter (fun y => decide (kF A G y = k))
def rs (A G : Nat → Nat) (c a : Nat) : Nat → List Nat
  | 0 => []
  | n + 1 => rs A G c a n ++ fl A G c (a + n)
theorem fl_s {A G : Nat → Nat} {c k : Nat} : fl A G (c + 1) k = fl A G c k ++ (if kF A G c = k then [c] else []) := by
  unfold fl
  rw [List.range_succ, List.filter_append]
  by_cases h : kF A G c = k
  · rw [if_pos h, List.filter_cons_of_pos (by simpa using h), List.filter_nil]
  · rw [if_neg h, List.filter_cons_of_neg (by simpa using h), List.filter_nil]
theorem rs_add {A G : Nat → Nat} {c a m : Nat} : ∀ n, rs A G c a (m + n) = rs A G c a m ++ rs A G c (a + m) n
  | 0 => by rw [rs, List.append_nil]; rfl
  | n + 1 => by rw [show m + (n + 1) = m + n + 1 by omega, rs, rs_add n, rs, List.append_assoc, Nat.add_assoc]
theorem rs_no {A G : Nat → Nat} {c a : Nat} : ∀ n, (kF A G c < a ∨ a + n ≤ kF A G c) → rs A G (c + 1) a n = rs A G c a n
  | 0, _ => rfl
  | n + 1, h => by rw [rs, rs, rs_no n (by omega), fl_s, if_neg (by omega), List.append_nil]
theorem rs_mem {A G : Nat → Nat} {c a y : Nat} : ∀ n, y ∈ rs A G c a n → y < c ∧ a ≤ kF A G y ∧ kF A G y < a + n
  | 0, h => by rw [rs] at h; exact absurd h (by simp)
  | n + 1, h => by
    rw [rs, List.mem_append] at h
    rcases h with h | h
    · have := rs_mem n h; omega
    · unfold fl at h
      rw [List.mem_filter, List.mem_range] at h
      have : kF A G y = a + n := by simpa using h.2
      omega
/-- one more: it stands behind all that do not drink behind it -/
theorem rs_ins {A G : Nat → Nat} {c N : Nat} (h : kF A G c < N) : rs A G (c + 1) 0 N = rs A G c 0 (kF A G c + 1) ++ (c :: rs A G c (kF A G c + 1) (N - (kF A G c + 1))) := by
  have e := rs_add (A := A) (G := G) (c := c + 1) (a := 0) (m := kF A G c + 1) (N - (kF A G c + 1))
  rw [show kF A G c + 1 + (N - (kF A G c + 1)) = N by omega] at e
  rw [e, rs_no (N - (kF A G c + 1)) (Or.inl (by omega)), rs, rs_no (kF A G c) (by omega), rs, fl_s, if_pos (by omega), List.append_assoc, List.append_assoc, List.append_assoc, show 0 + (kF A G c + 1) = kF A G c + 1 by omega]
  rfl
theorem rs_sp {A G : Nat → Nat} {c N m : Nat} (h : m ≤ N) : rs A G c 0 N = rs A G c 0 m ++ rs A G c m (N - m) := by
  have e := rs_add (A := A) (G := G) (c := c) (a := 0) (m := m) (N - m)
  rw [show m + (N - m) = N by omega, Nat.zero_add] at e
  exact e
theorem rs_len {A G : Nat → Nat} {N : Nat} : ∀ c, (∀ y, y < c → kF A G y < N) → (rs A G c 0 N).length = c
  | 0, _ => by
    have : ∀ n, rs A G 0 0 n = [] := fun n => by
      induction n with
      | zero => rfl
      | succ n ih => rw [rs, ih]; rfl
    rw [this]; rfl
  | c + 1, h => by
    have ih := rs_len c (fun y hy => h y (by omega))
    rw [rs_sp (m := kF A G c + 1) (by have := h c (by omega); omega), List.length_append] at ih
    rw [rs_ins (h c (by omega)), List.length_append, List.length_cons]
    omega
theorem rs_len_le {A G : Nat → Nat} {c N n : Nat} (h : ∀ y, y < c → kF A G y < N) (hn : n ≤ N) : (rs A G c 0 n).length ≤ c := by
  have e := rs_len (A := A) (G := G) (N := N) c h
  rw [rs_sp hn, List.length_append] at e
  omega
theorem seg_app {f : Nat → Int32} : ∀ (l l' : List Nat) (i : Nat), seg f i (l ++ l') ↔ seg f i l ∧ seg f (i + l.length) l'
  | [], l', i => by simp [seg]
  | y :: l, l', i => by
    rw [List.cons_append, seg, seg, seg_app l l' (i + 1), List.length_cons, show i + 1 + l.length = i + (l.length + 1) by omega]
    exact ⟨fun ⟨a, b, c⟩ => ⟨⟨a, b⟩, c⟩, fun ⟨⟨a, b⟩, c⟩ => ⟨a, b, c⟩⟩
theorem seg_upd {f : Nat → Int32} {j : Nat} {v : Int32} : ∀ (l : List Nat) (i : Nat), (j < i ∨ i + l.length ≤ j) → seg f i l → seg (upd f j v) i l
  | [], _, _, _ => trivial
  | y :: l, i, h, hs => by
    rw [List.length_cons] at h
    exact ⟨by rw [upd_n (by omega)]; exact hs.1, seg_upd l (i + 1) (by omega) hs.2⟩
theorem snoc_ex {l : List Nat} {n : Nat} (h : l.length = n + 1) : ∃ l' z, l = l' ++ [z] ∧ l'.length = n := by
  have hne : l ≠ [] := by intro e; rw [e] at h; exact absurd h (by simp)
  refine ⟨l.dropLast, l.getLast hne, (List.dropLast_concat_getLast hne).symm, ?_⟩
  rw [List.length_dropLast, h]
  rfl
/-- cells 2 and 3 of a plan: step, age -/
def agI (t : Nat) (c : Nat) (A G : Nat → Nat) (g : Sg) : Prop := ∀ y, y < c → g (t + 2) y = nI (A y) ∧ g (t + 3) y = nI (G y) ∧ A y ≤ 8 ∧ G y ≤ 20
theorem f_db {t c : Nat} {A G : Nat → Nat} {g : Sg} (hc : c ≤ 8) (hI : agI t c A G g) {z y : Nat} (hz : z < c) (hy : y < c) : fX3_drinksBehind g t (nI z) (nI y) = some (bI (kF A G y < kF A G z), g) := by
  obtain ⟨z1, z2, z3, z4⟩ := hI z hz
  obtain ⟨y1, y2, y3, y4⟩ := hI y hy
  unfold fX3_drinksBehind
  rw [gRd_n (by omega) (by decide), z1, gRd_n (by omega) (by decide), y1]
  simp only [gLet]
  by_cases a : A y < A z
  · rw [if_pos ((nI_ltN (by omega) (by omega)).mpr a), bI_t (by unfold kF; omega)]
  · rw [if_neg (by rw [nI_ltN (by omega) (by omega)]; exact a), gRd_n (by omega) (by decide), z1, gRd_n (by omega) (by decide), y1]
    by_cases b : A z = A y
    · rw [if_pos (by rw [b]), gRd_n (by omega) (by decide), z2, gRd_n (by omega) (by decide), y2]
      by_cases d : G z ≤ G y
      · rw [if_pos ((nI_leN (by omega) (by omega)).mpr d), bI_f (by unfold kF; omega)]
      · rw [if_neg (by rw [nI_leN (by omega) (by omega)]; exact d), bI_t (by unfold kF; omega)]
    · rw [if_neg (by rw [nI_inj (by omega) (by omega)]; exact b), bI_f (by unfold kF; omega)]
theorem agI_eq {t c : Nat} {A G : Nat → Nat} {g g' : Sg} (h2 : g' (t + 2) = g (t + 2)) (h3 : g' (t + 3) = g (t + 3)) (h : agI t c A G g) : agI t c A G g' := fun y hy => by rw [h2, h3]; exact h y hy
theorem f_insLp {t c : Nat} {A G : Nat → Nat} (hc : c ≤ 8) {y : Nat} (hy : y < c) {pre : List Nat} (hpre : ∀ z ∈ pre, z < c ∧ ¬ kF A G y < kF A G z) (K : Int32 → Sg → Option Sg) : ∀ (m : Nat) (B C : List Nat) (n : Nat) (g : Sg), B.length = m → m < n → (∀ z ∈ B, z < c ∧ kF A G y < kF A G z) → agI t c A G g → seg (g (t + 8)) 0 (pre ++ B) → seg (g (t + 8)) (pre.length + B.length + 1) C → pre.length + B.length < 8 →
    ∃ g', fX3_lineUp_12 t (nI y) n (nI (pre.length + B.length)) g K = K (nI pre.length) g' ∧ (∀ k, k ≠ t + 8 → g' k = g k) ∧ seg (g' (t + 8)) 0 pre ∧ seg (g' (t + 8)) (pre.length + 1) (B ++ C) := by
  intro m
  induction m with
  | zero =>
    intro B C n g hB hn hz hI h1 h2 hl
    have : B = [] := List.length_eq_zero_iff.mp hB
    subst this
    rw [List.append_nil] at h1
    match n, hn with
    | n + 1, _ =>
      refine ⟨g, ?_, fun _ _ => rfl, h1, by rw [List.nil_append]; exact h2⟩
      have hl : pre.length < 8 := by rw [List.length_nil] at hl; omega
      have e0 : pre.length + ([] : List Nat).length = pre.length := by simp
      rw [e0, fX3_lineUp_12]
      by_cases p0 : pre.length = 0
      · rw [if_pos (by rw [p0]; rfl)]
      · obtain ⟨l', z, e1, e2⟩ := snoc_ex (l := pre) (n := pre.length - 1) (by omega)
        have hzz := hpre z (by rw [e1]; simp)
        have hs := h1
        rw [e1, seg_app] at hs
        have hlz : g (t + 8) (pre.length - 1) = nI z := by
          have := hs.2.1
          rw [e2, Nat.zero_add] at this
          exact this
        rw [if_neg (nI_nle (by omega) (by omega)), sub1 (by omega), gRd_n (by omega) (by decide), hlz, f_db hc hI hzz.1 hy, bI_f hzz.2, gCl_s, if_pos rfl]
  | succ m ih =>
    intro B C n g hB hn hz hI h1 h2 hl
    match n, hn with
    | n + 1, hn =>
      obtain ⟨B', z, e1, e2⟩ := snoc_ex (l := B) (n := m) hB
      subst e1
      have hzz := hz z (by simp)
      rw [List.length_append, List.length_singleton] at hB hl h2 ⊢
      rw [← List.append_assoc, seg_app] at h1
      have hlz : g (t + 8) (pre.length + B'.length) = nI z := by
        have := h1.2.1
        rw [List.length_append, Nat.zero_add] at this
        exact this
      rw [fX3_lineUp_12, if_neg (nI_nle (by omega) (by omega)), sub1 (by omega), show pre.length + (B'.length + 1) - 1 = pre.length + B'.length by omega, gRd_n (by omega) (by decide), hlz, f_db hc hI hzz.1 hy, bI_t hzz.2, gCl_s, if_neg one_ne, gRd_n (by omega) (by decide), hlz, gWr_n (by omega) (by decide)]
      simp only [gLet]
      rw [show nI (pre.length + (B'.length + 1)) + (-1) = nI (pre.length + B'.length) from pk_m1 _]
      obtain ⟨g2, k1, k2, k3, k4⟩ := ih B' (z :: C) n (setC g (t + 8) (upd (g (t + 8)) (pre.length + (B'.length + 1)) (nI z))) e2 (by omega) (fun w hw => hz w (by simp [hw])) (agI_eq (setC_n (by omega)) (setC_n (by omega)) hI) (by rw [setC_s]; exact seg_upd _ _ (by rw [List.length_append]; omega) h1.1) (by
        rw [setC_s]
        refine ⟨upd_s, seg_upd _ _ (by omega) ?_⟩
        rw [show pre.length + B'.length + 1 + 1 = pre.length + (B'.length + 1) + 1 by omega]
        exact h2) (by omega)
      exact ⟨g2, k1, fun k hk => by rw [k2 k hk, setC_n hk], k3, by rw [List.append_assoc]; exact k4⟩
theorem f_firLp {t a : Nat} (ha : a ≤ 8) {F : Nat → Nat} (hF : ∀ x, x < 10 → F x ≤ 100) (K : Sg → Option Sg) : ∀ (d x n : Nat) (g : Sg), x + d = 10 → d < n → a + 1 ≤ x → (∀ j, j < 10 → g (t + 9) j = nI (if a < j ∧ j < x then F j + 1 else F j)) →
    ∃ g', fX3_lineUp_68 t n (nI x) g K = K g' ∧ (∀ k, k ≠ t + 9 → g' k = g k) ∧ ∀ j, j < 10 → g' (t + 9) j = nI (if a < j then F j + 1 else F j) := by
  intro d
  induction d with
  | zero =>
    intro x n g hx hn hax hg
    match n, hn with
    | n + 1, _ =>
      rw [fX3_lineUp_68, if_pos (by rw [show (9 : Int32) = nI 9 from rfl, nI_ltN (by omega) (by omega)]; omega)]
      refine ⟨g, rfl, fun _ _ => rfl, fun j hj => ?_⟩
      rw [hg j hj]
      by_cases z : a < j
      · rw [if_pos z, if_pos ⟨z, by omega⟩]
      · rw [if_neg z, if_neg (by omega)]
  | succ d ih =>
    intro x n g hx hn hax hg
    match n, hn with
    | n + 1, hn =>
      rw [fX3_lineUp_68, if_neg (by rw [show (9 : Int32) = nI 9 from rfl, nI_ltN (by omega) (by omega)]; omega), gRd_n (by omega) (by decide), gWr_n (by omega) (by decide), hg x (by omega), if_neg (by omega)]
      simp only [gLet, nI_1]
      obtain ⟨g2, k1, k2, k3⟩ := ih (x + 1) n (setC g (t + 9) (upd (g (t + 9)) x (nI (F x + 1)))) (by omega) (by omega) (by omega) (fun j hj => by
        rw [setC_s]
        by_cases z : j = x
        · rw [z, upd_s, if_pos (by omega)]
        · rw [upd_n z, hg j hj]
          by_cases w : a < j ∧ j < x
          · rw [if_pos w, if_pos (by omega)]
          · rw [if_neg w, if_neg (by omega)])
      exact ⟨g2, k1, fun k hk => by rw [k2 k hk, setC_n hk], k3⟩
theorem fir_e {A G : Nat → Nat} {y x : Nat} (hG : G y ≤ 20) : (rs A G (y + 1) 0 (21 * x)).length = if A y < x then (rs A G y 0 (21 * x)).length + 1 else (rs A G y 0 (21 * x)).length := by
  by_cases z : A y < x
  · have hk : kF A G y < 21 * x := by unfold kF; omega
    rw [if_pos z, rs_ins hk, rs_sp (c := y) (N := 21 * x) (m := kF A G y + 1) (by omega), List.length_append, List.length_append, List.length_cons]
    omega
  · rw [if_neg z, rs_no (21 * x) (Or.inr (by unfold kF; omega))]
theorem f_lineLp {t c N : Nat} (hN : N = 189) {A G : Nat → Nat} (hc : c ≤ 8) : ∀ (d y n : Nat) (g : Sg), y + d = c → d < n → g t 11 = nI c → agI t c A G g → seg (g (t + 8)) 0 (rs A G y 0 N) → (∀ x, x < 10 → g (t + 9) x = nI (rs A G y 0 (21 * x)).length) →
    ∃ g', fX3_lineUp_2 t n (nI y) g = some g' ∧ (∀ k, k ≠ t + 8 → k ≠ t + 9 → g' k = g k) ∧ seg (g' (t + 8)) 0 (rs A G c 0 N) ∧ ∀ x, x < 10 → g' (t + 9) x = nI (rs A G c 0 (21 * x)).length := by
  intro d
  induction d with
  | zero =>
    intro y n g hy hn h11 hI hs hf
    match n, hn with
    | n + 1, _ =>
      have e : y = c := by omega
      subst e
      rw [fX3_lineUp_2, h11, if_pos ((nI_leN (by omega) (by omega)).mpr (by omega))]
      exact ⟨g, rfl, fun _ _ _ => rfl, hs, hf⟩
  | succ d ih =>
    intro y n g hy hn h11 hI hs hf
    match n, hn with
    | n + 1, hn =>
      obtain ⟨y1, y2, y3, y4⟩ := hI y (by omega)
      have hk : kF A G y < N := by rw [hN]; unfold kF; omega
      have hks : ∀ z, z < c → kF A G z < N := fun z hz => by have := hI z hz; rw [hN]; unfold kF; omega
      have len := rs_len (A := A) (G := G) (N := N) y (fun z hz => hks z (by omega))
      have sp := rs_sp (A := A) (G := G) (c := y) (N := N) (m := kF A G y + 1) (by omega)
      rw [sp, List.length_append] at len
      rw [sp] at hs
      have lp := fun K => f_insLp (t := t) hc (show y < c by omega) (pre := rs A G y 0 (kF A G y + 1)) (fun z hz => by have := rs_mem _ hz; omega) K (rs A G y (kF A G y + 1) (N - (kF A G y + 1))).length (rs A G y (kF A G y + 1) (N - (kF A G y + 1))) [] gN g rfl (by unfold gN; omega) (fun z hz => by have := rs_mem _ hz; omega) hI hs trivial (by omega)
      rw [len] at lp
      obtain ⟨g1, a1, a2, a3, a4⟩ := lp _
      rw [List.append_nil] at a4
      rw [fX3_lineUp_2, h11, if_neg (by rw [nI_leN (by omega) (by omega)]; omega), a1, gWr_n (by omega) (by decide), gRd_n (by omega) (by decide), setC_n (show t + 2 ≠ t + 8 by omega), a2 (t + 2) (by omega), y1]
      simp only [gLet, nI_1]
      have lf := fun K => f_firLp (t := t) y3 (F := fun x => (rs A G y 0 (21 * x)).length) (fun x hx => by have := rs_len_le (A := A) (G := G) (c := y) (N := N) (n := 21 * x) (fun z hz => hks z (by omega)) (by omega); omega) K (10 - (A y + 1)) (A y + 1) gN (setC g1 (t + 8) (upd (g1 (t + 8)) (rs A G y 0 (kF A G y + 1)).length (nI y))) (by omega) (by unfold gN; omega) (by omega) (fun j hj => by rw [setC_n (by omega), a2 (t + 9) (by omega), hf j hj, if_neg (by omega)])
      obtain ⟨g2, b1, b2, b3⟩ := lf _
      rw [b1]
      obtain ⟨g3, k1, k2, k3, k4⟩ := ih (y + 1) n g2 (by omega) (by omega) (by rw [b2 t (by omega), setC_n (by omega), a2 t (by omega)]; exact h11) (agI_eq (by rw [b2 _ (by omega), setC_n (by omega), a2 _ (by omega)]) (by rw [b2 _ (by omega), setC_n (by omega), a2 _ (by omega)]) hI) (by
        rw [b2 _ (by omega), setC_s, rs_ins hk, seg_app]
        refine ⟨seg_upd _ _ (by omega) a3, ?_, seg_upd _ _ (by omega) ?_⟩
        · rw [Nat.zero_add, upd_s]
        · rw [Nat.zero_add]; exact a4) (fun x hx => by rw [b3 x hx, fir_e y4])
      exact ⟨g3, k1, fun k h1 h2 => by rw [k2 k h1 h2, b2 k h2, setC_n h1, a2 k h1], k3, k4⟩
theorem f_lineUp {t c N : Nat} (hN : N = 189) {A G : Nat → Nat} (hc : c ≤ 8) {g : Sg} (h11 : g t 11 = nI c) (hI : agI t c A G g) (h9 : ∀ x, x < 10 → g (t + 9) x = 0) : ∃ g', fX3_lineUp g t = some g' ∧ (∀ k, k ≠ t + 8 → k ≠ t + 9 → g' k = g k) ∧ seg (g' (t + 8)) 0 (rs A G c 0 N) ∧ ∀ x, x < 10 → g' (t + 9) x = nI (rs A G c 0 (21 * x)).length := by
  have e0 : ∀ n, rs A G 0 0 n = [] := fun n => by
    induction n with
    | zero => rfl
    | succ n ih => rw [rs, ih]; rfl
  unfold fX3_lineUp
  rw [show (0 : Int32) = nI 0 from rfl]
  exact f_lineLp hN hc c 0 gN g (by omega) (by unfold gN; omega) h11 hI (by rw [e0]; trivial) (fun x hx => by rw [e0, h9 x hx]; rfl)
theorem rs_tl {P : Pl} (hp : pOk P) (x : Nat) : ∀ n, n ≤ 21 → rs (pA P) (pG P) (pC P) (21 * x) n = (List.range n).flatMap (fun a => (List.range (pC P)).filter (fun y => decide (pA P y = x ∧ pG P y = a)))
  | 0, _ => rfl
  | n + 1, h => by
    rw [rs, rs_tl hp x n (by omega), List.range_succ, List.flatMap_append, List.flatMap_singleton]
    congr 1
    unfold fl
    refine List.filter_congr (fun y hy => ?_)
    have hy := (hp.2.2.2.2 y (List.mem_range.mp hy)).2.1
    unfold kF
    refine decide_eq_decide.mpr ?_
    omega
theorem rs_tl2 {P : Pl} (hp : pOk P) (x : Nat) : rs (pA P) (pG P) (pC P) 0 (21 * (x + 1)) = rs (pA P) (pG P) (pC P) 0 (21 * x) ++ tl P x := by
  rw [rs_sp (m := 21 * x) (by omega), show 21 * (x + 1) - 21 * x = 21 by omega, rs_tl hp x 21 (by omega)]
  rfl
