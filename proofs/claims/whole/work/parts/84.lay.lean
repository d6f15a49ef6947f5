/-! ===== a street is laid ===== -/
theorem f_stA {t : Nat} (ht : 13 < t) {g : Sg} (K : Sg → Option Sg) : ∀ (d i n : Nat), i + d = 9 → d < n →
    fX9_startAs_2 t n (nI i) (setC (setC g (t + 1) (cpy i (g 10) (g (t + 1)))) (t + 2) (cpy i (g 11) (g (t + 2)))) K = K (setC (setC g (t + 1) (cpy 9 (g 10) (g (t + 1)))) (t + 2) (cpy 9 (g 11) (g (t + 2)))) := by
  intro d
  induction d with
  | zero =>
    intro i n hi hn
    match n, hn with
    | n + 1, _ =>
      rw [fX9_startAs_2, show (9 : Int32) = nI 9 from rfl, if_pos ((nI_leN (by omega) (by omega)).mpr (by omega)), show i = 9 by omega]
  | succ d ih =>
    intro i n hi hn
    match n, hn with
    | n + 1, hn =>
      rw [fX9_startAs_2, show (9 : Int32) = nI 9 from rfl, if_neg (by rw [nI_leN (by omega) (by omega)]; omega), gRd_n (by omega) (by decide), gWr_n (by omega) (by decide), gRd_n (by omega) (by decide), gWr_n (by omega) (by decide)]
      simp only [gLet, nI_1]
      rw [← ih (i + 1) n (by omega) (by omega)]
      congr 1
      rw [setC_n (show 10 ≠ t + 2 by omega), setC_n (show 10 ≠ t + 1 by omega), setC_n (show t + 1 ≠ t + 2 by omega), setC_s]
      rw [setC_n (show 11 ≠ t + 1 by omega), setC_n (show 11 ≠ t + 2 by omega), setC_n (show 11 ≠ t + 1 by omega), setC_n (show t + 2 ≠ t + 1 by omega), setC_s]
      rw [cpy_s, cpy_s, setC_c (g := setC g (t + 1) _) (a := t + 2) (b := t + 1) (by omega), setC_2, setC_2]
theorem f_stB {t c : Nat} (ht : 13 < t) (hc : c ≤ 8) {g : Sg} (h11 : g 4 11 = nI c) (K : Sg → Option Sg) : ∀ (d i n : Nat), i + d = 8 → d < n →
    fX9_startAs_40 t n (nI i) (setC g (t + 3) (cpy i (fun y => if y < c then g 9 y else 0) (g (t + 3)))) K = K (setC g (t + 3) (cpy 8 (fun y => if y < c then g 9 y else 0) (g (t + 3)))) := by
  intro d
  induction d with
  | zero =>
    intro i n hi hn
    match n, hn with
    | n + 1, _ =>
      rw [fX9_startAs_40, show (8 : Int32) = nI 8 from rfl, if_pos ((nI_leN (by omega) (by omega)).mpr (by omega)), show i = 8 by omega]
  | succ d ih =>
    intro i n hi hn
    match n, hn with
    | n + 1, hn =>
      rw [fX9_startAs_40, show (8 : Int32) = nI 8 from rfl, if_neg (by rw [nI_leN (by omega) (by omega)]; omega)]
      simp only [gLet, nI_1]
      rw [setC_n (show 4 ≠ t + 3 by omega), h11]
      have stp : ∀ v : Int32, v = (if i < c then g 9 i else 0) → gWr (nI i) 8 (setC g (t + 3) (cpy i (fun y => if y < c then g 9 y else 0) (g (t + 3)))) (t + 3) v (fun g25 => fX9_startAs_40 t n (nI (i + 1)) g25 K) = K (setC g (t + 3) (cpy 8 (fun y => if y < c then g 9 y else 0) (g (t + 3)))) := by
        intro v hv
        rw [gWr_n (by omega) (by decide), ← ih (i + 1) n (by omega) (by omega), setC_2, setC_s, hv]
        congr 2
        exact cpy_s (f := fun y => if y < c then g 9 y else 0)
      by_cases z : i < c
      · rw [if_neg (by rw [nI_leN (by omega) (by omega)]; omega), gRd_n (by omega) (by decide), setC_n (show 9 ≠ t + 3 by omega)]
        exact stp _ (by rw [if_pos z])
      · rw [if_pos ((nI_leN (by omega) (by omega)).mpr (by omega))]
        exact stp _ (by rw [if_neg z])
/-- what starting a street leaves as it is -/
theorem f_start {N : Nat} {Q : Ql} (hQ : qOk Q) {g : Sg} (h : plJ 4 N Q g) : ∃ g', fX10_start g = some g' ∧ (∀ k, ¬ (24 ≤ k ∧ k ≤ 27) → k ≠ 28 → k ≠ 62 → k ≠ 74 → g' k = g k) ∧ (∀ j, j ≠ 2 → g' 28 j = g 28 j ∧ g' 62 j = g 62 j) ∧ g' 28 2 = 0 ∧ g' 62 2 = 0 ∧ g' 74 2 = 0 ∧ cSt g' 24 (S0 Q) := by
  obtain ⟨a1, a2, a3, a4, a5, a6, a7⟩ := h
  have h8 := hQ.2.2.2.2.1
  unfold fX10_start fX9_startAs fX5_clear fX7_clear
  have hq : 40 ≤ gN := by unfold gN; omega
  generalize gN = qN at hq ⊢
  have la := fun K => f_stA (t := 24) (by omega) (g := g) K 9 0 qN (by omega) (by omega)
  simp only [cpy_0, setC_id] at la
  have lb := fun (g1 : Sg) (h1 : g1 4 11 = nI (Q 0 2)) K => f_stB (t := 24) (c := Q 0 2) (by omega) h8 (g := g1) h1 K 8 0 qN (by omega) (by omega)
  simp only [cpy_0, setC_id] at lb
  rw [show (0 : Int32) = nI 0 from rfl, la]
  rw [lb _ (by rw [setC_n (by decide), setC_n (by decide)]; exact a3)]
  simp only [gLet, gCv_s, gUp_c]
  refine ⟨_, rfl, fun k h1 h2 h3 h4 => ?_, fun j hj => ⟨?_, ?_⟩, ?_, ?_, ?_, ⟨fun y hy => ?_, ?_, fun x hx => ?_, fun x hx => ?_, ?_⟩⟩
  · rw [setC_n h3, setC_n h2, setC_n h4, setC_n (by omega), setC_n (by omega), setC_n (by omega), setC_n (by omega), setC_n (by omega)]
  · rw [setC_n (by decide), setC_s, upd_n hj, setC_n (by decide), setC_n (by decide), setC_n (by decide), setC_n (by decide), setC_n (by decide), setC_n (by decide)]
  · rw [setC_s, upd_n hj, setC_n (by decide), setC_n (by decide), setC_n (by decide), setC_n (by decide), setC_n (by decide), setC_n (by decide), setC_n (by decide)]
  · rw [setC_n (by decide), setC_s, upd_s]
  · rw [setC_s, upd_s]
  · rw [setC_n (by decide), setC_n (by decide), setC_s, upd_s]
  · rw [setC_n (by decide), setC_n (by decide), setC_n (by decide), setC_n (by decide), setC_n (by decide), setC_s, cpy_in hy]
    have e : S0 Q y = nI (Q 5 y) := if_pos hy
    rw [e]
    by_cases z : y < Q 0 2
    · rw [if_pos z, setC_n (by decide), setC_n (by decide)]
      exact a4 5 (by omega) (by omega) y z
    · rw [if_neg z, hQ.2.2.2.2.2.2.2.2.1 y (by omega) hy]; rfl
  · rw [setC_n (by decide), setC_n (by decide), setC_n (by decide), setC_s, upd_n (by decide), setC_s, upd_s]; rfl
  · rw [setC_n (by decide), setC_n (by decide), setC_n (by decide), setC_n (by decide), setC_n (by decide), setC_n (by decide), setC_n (by decide), setC_s, cpy_in hx]
    have e : S0 Q (9 + x) = nI (Q 6 x) := by
      unfold S0
      rw [if_neg (by omega), if_neg (by omega), if_pos (by omega), show 9 + x - 9 = x by omega]
    rw [e]
    exact (a5 x hx).1
  · rw [setC_n (by decide), setC_n (by decide), setC_n (by decide), setC_n (by decide), setC_n (by decide), setC_n (by decide), setC_s, cpy_in hx]
    have e : S0 Q (18 + x) = nI (Q 7 x) := by
      unfold S0
      rw [if_neg (by omega), if_neg (by omega), if_neg (by omega), if_pos (by omega), show 18 + x - 18 = x by omega]
    rw [e]
    exact (a5 x hx).2
  · rw [setC_n (by decide), setC_n (by decide), setC_n (by decide), setC_s, upd_s]; rfl
/-! the reference settles -/
abbrev Zf : Nat → Nat := fun _ => 0
theorem kF_Z {G : Nat → Nat} {y : Nat} : kF Zf G y = G y := by
  unfold kF
  show 21 * 0 + G y = G y
  omega
theorem m_seA {t : Sg} (K : Sg → Option Sg) : ∀ (d i n : Nat), i + d = 8 → d < n →
    fX11_settles_26 n (nI i) (setC (setC (setC (setC t 1 (cpy i (t 6) (t 1))) 2 (cpy i (t 7) (t 2))) 3 (cpy i (t 8) (t 3))) 4 (cpy i (t 9) (t 4))) K = K (setC (setC (setC (setC t 1 (cpy 8 (t 6) (t 1))) 2 (cpy 8 (t 7) (t 2))) 3 (cpy 8 (t 8) (t 3))) 4 (cpy 8 (t 9) (t 4))) := by
  intro d
  induction d with
  | zero =>
    intro i n hi hn
    match n, hn with
    | n + 1, _ =>
      rw [fX11_settles_26, show (8 : Int32) = nI 8 from rfl, if_pos ((nI_leN (by omega) (by omega)).mpr (by omega)), show i = 8 by omega]
  | succ d ih =>
    intro i n hi hn
    match n, hn with
    | n + 1, hn =>
      rw [fX11_settles_26, show (8 : Int32) = nI 8 from rfl, if_neg (by rw [nI_leN (by omega) (by omega)]; omega), gRd_n (by omega) (by decide), gWr_n (by omega) (by decide), gRd_n (by omega) (by decide), gWr_n (by omega) (by decide), gRd_n (by omega) (by decide), gWr_n (by omega) (by decide), gRd_n (by omega) (by decide), gWr_n (by omega) (by decide)]
      simp only [gLet, nI_1]
      rw [← ih (i + 1) n (by omega) (by omega)]
      congr 1
      funext k
      by_cases k4 : k = 4
      · subst k4
        simp only [setC_s, setC_n (show 4 ≠ 1 by decide), setC_n (show 4 ≠ 2 by decide), setC_n (show 4 ≠ 3 by decide), setC_n (show 9 ≠ 1 by decide), setC_n (show 9 ≠ 2 by decide), setC_n (show 9 ≠ 3 by decide), setC_n (show 9 ≠ 4 by decide)]
        exact cpy_s
      by_cases k3 : k = 3
      · subst k3
        simp only [setC_s, setC_n (show 3 ≠ 1 by decide), setC_n (show 3 ≠ 2 by decide), setC_n (show 3 ≠ 4 by decide), setC_n (show 8 ≠ 1 by decide), setC_n (show 8 ≠ 2 by decide), setC_n (show 8 ≠ 3 by decide), setC_n (show 8 ≠ 4 by decide)]
        exact cpy_s
      by_cases k2 : k = 2
      · subst k2
        simp only [setC_s, setC_n (show 2 ≠ 1 by decide), setC_n (show 2 ≠ 3 by decide), setC_n (show 2 ≠ 4 by decide), setC_n (show 7 ≠ 1 by decide), setC_n (show 7 ≠ 2 by decide), setC_n (show 7 ≠ 3 by decide), setC_n (show 7 ≠ 4 by decide)]
        exact cpy_s
      by_cases k1 : k = 1
      · subst k1
        simp only [setC_s, setC_n (show 1 ≠ 2 by decide), setC_n (show 1 ≠ 3 by decide), setC_n (show 1 ≠ 4 by decide), setC_n (show 6 ≠ 1 by decide), setC_n (show 6 ≠ 2 by decide), setC_n (show 6 ≠ 3 by decide), setC_n (show 6 ≠ 4 by decide)]
        exact cpy_s
      rw [setC_n k4, setC_n k3, setC_n k2, setC_n k1, setC_n k4, setC_n k3, setC_n k2, setC_n k1, setC_n k4, setC_n k3, setC_n k2, setC_n k1]
theorem fl_len {A G : Nat → Nat} {c k : Nat} : (fl A G c k).length ≤ c := by
  unfold fl
  have := List.length_filter_le (fun y => decide (kF A G y = k)) (List.range c)
  rw [List.length_range] at this
  exact this
theorem rs_fl_len {G : Nat → Nat} {c a y : Nat} (hG : ∀ z, z < c → G z ≤ 20) (ha : a ≤ 20) (hy : y < c) : (rs Zf G c 0 a ++ fl Zf G y a).length + (if G y = a then 1 else 0) ≤ c := by
  have h1 : (rs Zf G c 0 (a + 1)).length ≤ c := rs_len_le (N := 21) (fun z hz => by rw [kF_Z]; have := hG z hz; omega) (by omega)
  rw [rs, List.length_append, Nat.zero_add] at h1
  have h2 : (fl Zf G y a).length + (if G y = a then 1 else 0) ≤ (fl Zf G c a).length := by
    have e : (fl Zf G (y + 1) a).length = (fl Zf G y a).length + (if G y = a then 1 else 0) := by
      rw [fl_s, List.length_append, kF_Z]
      split <;> rfl
    rw [← e]
    have mono : ∀ d, (fl Zf G (y + 1) a).length ≤ (fl Zf G (y + 1 + d) a).length := fun d => by
      induction d with
      | zero => exact Nat.le_refl _
      | succ d ih =>
        rw [show y + 1 + (d + 1) = y + 1 + d + 1 by omega, fl_s (c := y + 1 + d), List.length_append]
        omega
    have := mono (c - (y + 1))
    rw [show y + 1 + (c - (y + 1)) = c by omega] at this
    exact this
  rw [List.length_append]
  omega
theorem m_seY {c a : Nat} {G : Nat → Nat} (hc : c ≤ 8) (hG : ∀ z, z < c → G z ≤ 20) (ha : a ≤ 20) (K : Int32 → Sg → Option Sg) : ∀ (d y n : Nat) (t : Sg), y + d = c → d < n → t 0 2 = nI c → (∀ z, z < c → t 3 z = nI (G z)) → seg (t 5) 0 (rs Zf G c 0 a ++ fl Zf G y a) →
    ∃ t', fX11_settles_98 (nI a) n (nI (rs Zf G c 0 a ++ fl Zf G y a).length) (nI y) t K = K (nI (rs Zf G c 0 (a + 1)).length) t' ∧ (∀ k, k ≠ 5 → t' k = t k) ∧ seg (t' 5) 0 (rs Zf G c 0 (a + 1)) := by
  intro d
  induction d with
  | zero =>
    intro y n t hy hn h2 h3 hs
    match n, hn with
    | n + 1, _ =>
      have e : y = c := by omega
      subst e
      rw [fX11_settles_98, h2, if_pos ((nI_leN (by omega) (by omega)).mpr (by omega))]
      have er : rs Zf G y 0 (a + 1) = rs Zf G y 0 a ++ fl Zf G y a := by rw [rs, Nat.zero_add]
      rw [er]
      exact ⟨t, rfl, fun _ _ => rfl, hs⟩
  | succ d ih =>
    intro y n t hy hn h2 h3 hs
    match n, hn with
    | n + 1, hn =>
      have hGy := hG y (by omega)
      have len := rs_fl_len hG ha (show y < c by omega)
      rw [fX11_settles_98, h2, if_neg (by rw [nI_leN (by omega) (by omega)]; omega), gRd_n (by omega) (by decide), h3 y (by omega)]
      simp only [gLet, nI_1]
      by_cases z : G y = a
      · rw [if_pos z] at len
        have e : fl Zf G (y + 1) a = fl Zf G y a ++ [y] := by rw [fl_s, kF_Z, if_pos z]
        rw [if_pos (by rw [z]), gWr_n (by omega) (by decide)]
        have el : (rs Zf G c 0 a ++ fl Zf G (y + 1) a).length = (rs Zf G c 0 a ++ fl Zf G y a).length + 1 := by
          rw [e, ← List.append_assoc, List.length_append (bs := [y])]; rfl
        obtain ⟨t', k1, k2, k3⟩ := ih (y + 1) n (setC t 5 (upd (t 5) (rs Zf G c 0 a ++ fl Zf G y a).length (nI y))) (by omega) (by omega) (by rw [setC_n (by decide)]; exact h2) (fun w hw => by rw [setC_n (by decide)]; exact h3 w hw) (by
          rw [e, ← List.append_assoc, setC_s, seg_app]
          refine ⟨seg_upd _ _ (by omega) hs, ?_, trivial⟩
          rw [Nat.zero_add, upd_s])
        rw [el] at k1
        exact ⟨t', k1, fun k hk => by rw [k2 k hk, setC_n hk], k3⟩
      · have e : fl Zf G (y + 1) a = fl Zf G y a := by rw [fl_s, kF_Z, if_neg z, List.append_nil]
        rw [if_neg (by rw [nI_inj (by omega) (by omega)]; exact z)]
        obtain ⟨t', k1, k2, k3⟩ := ih (y + 1) n t (by omega) (by omega) h2 h3 (by rw [e]; exact hs)
        rw [e] at k1
        exact ⟨t', k1, k2, k3⟩
theorem m_seO {c N : Nat} (hN : N = 21) {G : Nat → Nat} (hc : c ≤ 8) (hG : ∀ z, z < c → G z ≤ 20) (K : Sg → Option Sg) : ∀ (d a n : Nat) (t : Sg), a + d = N → d < n → t 0 2 = nI c → (∀ z, z < c → t 3 z = nI (G z)) → seg (t 5) 0 (rs Zf G c 0 a) →
    ∃ t', fX11_settles_90 n (nI (rs Zf G c 0 a).length) (nI a) t K = K t' ∧ (∀ k, k ≠ 5 → t' k = t k) ∧ seg (t' 5) 0 (rs Zf G c 0 N) := by
  intro d
  induction d with
  | zero =>
    intro a n t ha hn h2 h3 hs
    match n, hn with
    | n + 1, _ =>
      have e : a = N := by omega
      subst e
      rw [fX11_settles_90, if_pos (by rw [show (20 : Int32) = nI 20 from rfl, nI_ltN (by omega) (by omega)]; omega)]
      exact ⟨t, rfl, fun _ _ => rfl, hs⟩
  | succ d ih =>
    intro a n t ha hn h2 h3 hs
    match n, hn with
    | n + 1, hn =>
      have f0 : fl Zf G 0 a = [] := rfl
      have lp := fun K => m_seY hc hG (show a ≤ 20 by omega) K c 0 gN t (by omega) (by unfold gN; omega) h2 h3 (by rw [f0, List.append_nil]; exact hs)
      simp only [f0, List.append_nil] at lp
      rw [fX11_settles_90, if_neg (by rw [show (20 : Int32) = nI 20 from rfl, nI_ltN (by omega) (by omega)]; omega), show (0 : Int32) = nI 0 from rfl]
      obtain ⟨t1, k1, k2, k3⟩ := lp (fun (x51 : Int32) (g52 : Sg) => (gLet (nI a + (1 : Int32)) (fun x53 => fX11_settles_90 n x51 x53 g52 K)))
      rw [k1]
      simp only [gLet, nI_1]
      obtain ⟨t2, j1, j2, j3⟩ := ih (a + 1) n t1 (by omega) (by omega) (by rw [k2 0 (by decide)]; exact h2) (fun z hz => by rw [k2 3 (by decide)]; exact h3 z hz) k3
      exact ⟨t2, j1, fun k hk => by rw [j2 k hk, k2 k hk], j3⟩
theorem rs_fil {A G : Nat → Nat} {c x : Nat} : ∀ n, (rs Zf G c 0 n).filter (fun y => decide (A y = x)) = (List.range n).flatMap (fun a => (List.range c).filter (fun y => decide (A y = x ∧ G y = a)))
  | 0 => rfl
  | n + 1 => by
    rw [rs, List.filter_append, rs_fil n, List.range_succ, List.flatMap_append, List.flatMap_singleton, Nat.zero_add]
    congr 1
    unfold fl
    rw [List.filter_filter]
    refine List.filter_congr (fun y _ => ?_)
    rw [kF_Z]
    simp
theorem m_settles {Q : Ql} {t : Sg} {N : Nat} (hN : N = 21) (hQ : qOk Q) (h1 : 1 ≤ Q 0 2) (hI : mPI Q t) : ∃ t', fX11_settles t = some t' ∧ mPlan (PQ Q) t' ∧ t' 0 1 = nI (Q 0 1) ∧ mSt t' 0 (S0 Q) ∧ (∀ k, 11 ≤ k → t' k = t k) ∧ ∀ j, 3 ≤ j → t' 0 j = t 0 j := by
  obtain ⟨b1, b2, b3, b4, b5, b6, b7, b8⟩ := hI
  have h8 := hQ.2.2.2.2.1
  have hG : ∀ z, z < Q 0 2 → Q 3 z ≤ 20 := fun z hz => (hQ.2.2.2.2.2.2.2.1 z hz).2.2.1
  unfold fX11_settles
  have hq : 40 ≤ gN := by unfold gN; omega
  generalize gN = qN at hq ⊢
  have e1 : gUp t 0 0 (t 0 8) = setC t 0 (upd (t 0) 0 (nI (Q 0 0))) := by rw [b1, gUp_c]
  have e2 : gUp (setC t 0 (upd (t 0) 0 (nI (Q 0 0)))) 0 1 (setC t 0 (upd (t 0) 0 (nI (Q 0 0))) 0 9) = setC t 0 (upd (upd (t 0) 0 (nI (Q 0 0))) 1 (nI (Q 0 1))) := by rw [gUp_c, setC_2, setC_s, upd_n (show 9 ≠ 0 by decide), b2]
  have e3 : gUp (setC t 0 (upd (upd (t 0) 0 (nI (Q 0 0))) 1 (nI (Q 0 1)))) 0 2 (setC t 0 (upd (upd (t 0) 0 (nI (Q 0 0))) 1 (nI (Q 0 1))) 0 10) = setC t 0 (upd (upd (upd (t 0) 0 (nI (Q 0 0))) 1 (nI (Q 0 1))) 2 (nI (Q 0 2))) := by rw [gUp_c, setC_2, setC_s, upd_n (show 10 ≠ 1 by decide), upd_n (show 10 ≠ 0 by decide), b3]
  rw [gLet_s, e1, gLet_s, e2, gLet_s, e3]
  have c0 : setC t 0 (upd (upd (upd (t 0) 0 (nI (Q 0 0))) 1 (nI (Q 0 1))) 2 (nI (Q 0 2))) 0 = upd (upd (upd (t 0) 0 (nI (Q 0 0))) 1 (nI (Q 0 1))) 2 (nI (Q 0 2)) := setC_s
  have cn : ∀ k, k ≠ 0 → setC t 0 (upd (upd (upd (t 0) 0 (nI (Q 0 0))) 1 (nI (Q 0 1))) 2 (nI (Q 0 2))) k = t k := fun k hk => setC_n hk
  generalize setC t 0 (upd (upd (upd (t 0) 0 (nI (Q 0 0))) 1 (nI (Q 0 1))) 2 (nI (Q 0 2))) = t1 at c0 cn ⊢
  have la := fun K => m_seA (t := t1) K 8 0 qN (by omega) (by omega)
  simp only [cpy_0, setC_id] at la
  rw [show (0 : Int32) = nI 0 from rfl, la]
  have d3 : ∀ k, k ≠ 1 → k ≠ 2 → k ≠ 3 → k ≠ 4 → setC (setC (setC (setC t1 1 (cpy 8 (t1 6) (t1 1))) 2 (cpy 8 (t1 7) (t1 2))) 3 (cpy 8 (t1 8) (t1 3))) 4 (cpy 8 (t1 9) (t1 4)) k = t1 k := fun k k1 k2 k3 k4 => by rw [setC_n k4, setC_n k3, setC_n k2, setC_n k1]
  have e4 : ∀ y, y < 8 → setC (setC (setC (setC t1 1 (cpy 8 (t1 6) (t1 1))) 2 (cpy 8 (t1 7) (t1 2))) 3 (cpy 8 (t1 8) (t1 3))) 4 (cpy 8 (t1 9) (t1 4)) 4 y = t 9 y := fun y hy => by rw [setC_s, cpy_in hy, cn 9 (by decide)]
  have e3 : ∀ y, y < 8 → setC (setC (setC (setC t1 1 (cpy 8 (t1 6) (t1 1))) 2 (cpy 8 (t1 7) (t1 2))) 3 (cpy 8 (t1 8) (t1 3))) 4 (cpy 8 (t1 9) (t1 4)) 3 y = t 8 y := fun y hy => by rw [setC_n (by decide), setC_s, cpy_in hy, cn 8 (by decide)]
  have e2 : ∀ y, y < 8 → setC (setC (setC (setC t1 1 (cpy 8 (t1 6) (t1 1))) 2 (cpy 8 (t1 7) (t1 2))) 3 (cpy 8 (t1 8) (t1 3))) 4 (cpy 8 (t1 9) (t1 4)) 2 y = t 7 y := fun y hy => by rw [setC_n (by decide), setC_n (by decide), setC_s, cpy_in hy, cn 7 (by decide)]
  have e1 : ∀ y, y < 8 → setC (setC (setC (setC t1 1 (cpy 8 (t1 6) (t1 1))) 2 (cpy 8 (t1 7) (t1 2))) 3 (cpy 8 (t1 8) (t1 3))) 4 (cpy 8 (t1 9) (t1 4)) 1 y = t 6 y := fun y hy => by rw [setC_n (by decide), setC_n (by decide), setC_n (by decide), setC_s, cpy_in hy, cn 6 (by decide)]
  generalize setC (setC (setC (setC t1 1 (cpy 8 (t1 6) (t1 1))) 2 (cpy 8 (t1 7) (t1 2))) 3 (cpy 8 (t1 8) (t1 3))) 4 (cpy 8 (t1 9) (t1 4)) = t2 at d3 e1 e2 e3 e4 ⊢
  have z0 : t2 0 = upd (upd (upd (t 0) 0 (nI (Q 0 0))) 1 (nI (Q 0 1))) 2 (nI (Q 0 2)) := by rw [d3 0 (by decide) (by decide) (by decide) (by decide), c0]
  have lo := fun K => m_seO (c := Q 0 2) (N := N) hN (G := Q 3) h8 hG K N 0 qN t2 (by omega) (by omega) (by rw [z0, upd_s]) (fun z hz => by rw [e3 z (by omega)]; exact (b4 z hz).2.2.1) trivial
  obtain ⟨t3, k1, k2, k3⟩ := lo (fun (g56 : Sg) => (gCv (fX11_copies g56 (308 : Int32) (nI 0)) (fun g58 => some g58)))
  have k1' : fX11_settles_90 qN (nI 0) (nI 0) t2 (fun (g56 : Sg) => (gCv (fX11_copies g56 (308 : Int32) (nI 0)) (fun g58 => some g58))) = gCv (fX11_copies t3 (308 : Int32) (nI 0)) (fun g58 => some g58) := k1
  rw [k1', show (308 : Int32) = nI 308 from rfl, m_copies (by omega) (by omega) (by omega), gCv_s]
  have w0 : t3 0 = upd (upd (upd (t 0) 0 (nI (Q 0 0))) 1 (nI (Q 0 1))) 2 (nI (Q 0 2)) := by rw [k2 0 (by decide)]; exact z0
  have w10 : t3 10 = t 10 := by rw [k2 10 (by decide), d3 10 (by decide) (by decide) (by decide) (by decide), cn 10 (by decide)]
  have hp := pOk_Q hQ h1
  refine ⟨_, rfl, ⟨?_, ?_, fun y hy => ?_, rs Zf (Q 3) (Q 0 2) 0 N, ?_, ?_, ?_, fun x => ?_⟩, ?_, fun j hj => ?_, fun k hk => ?_, fun j hj => ?_⟩
  · rw [setC_n (by decide), w0, upd_n (by decide), upd_n (by decide), upd_s]; rfl
  · rw [setC_n (by decide), w0, upd_s]; rfl
  · have hy : y < Q 0 2 := hy
    have q := b4 y hy
    rw [setC_n (by decide), setC_n (by decide), setC_n (by decide), setC_n (by decide), k2 1 (by decide), k2 2 (by decide), k2 3 (by decide), k2 4 (by decide), e1 y (by omega), e2 y (by omega), e3 y (by omega), e4 y (by omega)]
    exact q
  · exact rs_len (N := N) (Q 0 2) (fun z hz => by rw [kF_Z]; have := hG z hz; omega)
  · rw [setC_n (by decide)]
    exact k3
  · intro y hy
    exact (rs_mem _ hy).1
  · refine Eq.trans (rs_fil (A := Q 2) (x := x) N) ?_
    rw [hN]
    rfl
  · rw [setC_n (by decide), w0, upd_n (by decide), upd_s]
  · rw [setC_s, Nat.zero_add]
    have e := cpN_to (f := t3 10) (a := 308) (b := 0) hj
    rw [Nat.zero_add] at e
    rw [e, w10]
    unfold S0
    by_cases j1 : j < 8
    · rw [if_pos j1]; exact b5 j j1
    rw [if_neg j1]
    by_cases j2 : j = 8
    · rw [if_pos j2, j2]; exact b6
    rw [if_neg j2]
    by_cases j3 : j < 18
    · rw [if_pos j3, ← (b7 (j - 9) (by omega)).1, show 317 + (j - 9) = 308 + j by omega]
    rw [if_neg j3]
    by_cases j4 : j < 27
    · rw [if_pos j4, ← (b7 (j - 18) (by omega)).2, show 326 + (j - 18) = 308 + j by omega]
    rw [if_neg j4, show j = 27 by omega]
    exact b8
  · rw [setC_n (by omega), k2 k (by omega), d3 k (by omega) (by omega) (by omega) (by omega), cn k (by omega)]
  · rw [setC_n (by decide), w0, upd_n (by omega), upd_n (by omega), upd_n (by omega)]
/-- laid alike -/
theorem laid_both {Q : Ql} (hQ : qOk Q) (h1 : 1 ≤ Q 0 2) {g t g' t' : Sg} {ny nx : Nat} (hJ : plJ 4 189 Q g) (hg : ∀ k, ¬ (24 ≤ k ∧ k ≤ 27) → k ≠ 28 → k ≠ 62 → k ≠ 74 → g' k = g k) (hg2 : ∀ j, j ≠ 2 → g' 28 j = g 28 j ∧ g' 62 j = g 62 j) (h28 : g' 28 2 = 0) (h62 : g' 62 2 = 0) (h74 : g' 74 2 = 0) (hc : cSt g' 24 (S0 Q)) (n1 : g 28 1 = nI ny) (n2 : ny < 8) (n3 : g 62 1 = nI nx) (n4 : nx < 2)
    (hM : mPlan (PQ Q) t') (hM1 : t' 0 1 = nI (Q 0 1)) (hm : mSt t' 0 (S0 Q)) (h16 : t' 0 16 = 0) (h17 : t' 0 17 = 0) (h23 : t' 0 23 = 0) (htx : txOk g' t') (z1 : g' 148 0 = 0) (z2 : g' 149 0 = 0) : Rl (PQ Q) (nI (Q 0 1)) (S0 Q) 0 (fun _ => S0 Q) 0 (fun _ => S0 Q) g' t' := by
  refine ⟨⟨pOk_Q hQ h1, (by have a := hQ.2.2.1; have b := hQ.2.2.2.1; exact ⟨by rw [tI_nI (by omega)]; omega, by rw [tI_nI (by omega)]; omega⟩), vSt_0 hQ, fun j hj => absurd hj (by omega), fun j hj => absurd hj (by omega)⟩, ⟨cPlan_eq (fun k k1 k2 => hg k (by omega) (by omega) (by omega) (by omega)) (cPlan_J rfl hQ h1 hJ), by rw [hg 4 (by omega) (by decide) (by decide) (by decide)]; exact hJ.2.1⟩, ⟨hM, hM1⟩, hc, hm, ⟨⟨ny, n2, by omega, by rw [(hg2 1 (by decide)).1]; exact n1, h28, fun j hj => absurd hj (by omega)⟩, h16, fun j hj => absurd hj (by omega)⟩, ⟨⟨nx, n4, by omega, by rw [(hg2 1 (by decide)).2]; exact n3, h62, fun j hj => absurd hj (by omega)⟩, h17, fun j hj => absurd hj (by omega)⟩, htx, ⟨0, by omega, h74, h23, fun i hi => absurd hi (by omega)⟩, z1, z2⟩
theorem al_lay {P : Pl} {h : Int32} {S : Sd} {u : Nat} {U : Nat → Sd} {v : Nat} {V : Nat → Sd} {g t : Sg} (R : Rl P h S u U v V g t) : alike (fX10_lay g) (fX11_lay t) := by
  have R' := R
  obtain ⟨-, -, -, -, -, ⟨⟨ny, e1⟩, -⟩, ⟨⟨nx, i1⟩, -⟩, htx, -, j3, j4⟩ := R
  obtain ⟨T, L, h1, h2⟩ := tx_T htx
  unfold fX10_lay fX11_lay
  rcases m_reads h2 with ⟨e, t', a1, a2, a3, a4⟩ | ⟨Q', t', a1, a2, a3, a4, a5⟩
  · rcases f_readInto (p0 := 14) rfl (by omega) h1 with ⟨e', b0, b1, g', b2, b3⟩ | ⟨Q2, g', b1, b2, b3, b4, b5⟩
    · have hne : ¬ nI e' = (-4 : Int32) := by
        have := h1.1
        rw [eq_tI, tI_nI (by omega), show (-4 : Int32).toInt = -4 from rfl]
        omega
      rw [a2, b2, gCl_s, gCl_s, if_pos rfl, if_neg hne]
      exact alike_q R' rfl rfl (frP_14 b3) a3
    · rw [a1] at b1
      exact absurd b1 (by simp)
  · rcases f_readInto (p0 := 14) rfl (by omega) h1 with ⟨e', b0, b1, g', b2, b3⟩ | ⟨Q2, g', b1, b2, b3, b4, b5⟩
    · rw [a1] at b1
      exact absurd b1 (by simp)
    · rw [a1] at b1
      simp only [Option.some.injEq, Sum.inr.injEq] at b1
      subst b1
      have h8 := a2.2.2.2.2.1
      rw [a3, b3, gCl_s, gCl_s, if_neg one_ne, if_pos rfl, b4.2.2.1, a5.2.2.1]
      by_cases z : Q' 0 2 = 0
      · rw [if_pos (by rw [z]; rfl), if_pos (by rw [z]; rfl)]
        exact alike_q R' rfl rfl (frP_14 b5) a4
      · rw [if_neg (nI_ne0 (by omega) (by omega)), if_neg (nI_ne0 (by omega) (by omega))]
        have ht2 := frP_txt (by omega) b5 h1
        rcases f_readInto (p0 := 4) rfl (by omega) ht2 with ⟨e', c0, c1, g2, c2, c3⟩ | ⟨Q2, g2, c1, c2, c3, c4, c5⟩
        · rw [a1] at c1
          exact absurd c1 (by simp)
        · rw [a1] at c1
          simp only [Option.some.injEq, Sum.inr.injEq] at c1
          subst c1
          obtain ⟨g3, d1, d2, d3, d4, d5, d6, d7⟩ := f_start a2 c4
          obtain ⟨t3, f1, f2, f3, f4, f5, f6⟩ := m_settles rfl a2 (by omega) a5
          rw [c3, gCl_s, d1, gCv_s, f1, gCv_s]
          simp only [gLet, gUp_c, setC_s, setC_2]
          have fg : ∀ k, k ≠ 3 → ¬ (4 ≤ k ∧ k ≤ 23) → ¬ (24 ≤ k ∧ k ≤ 27) → k ≠ 28 → k ≠ 62 → k ≠ 74 → g3 k = g k := fun k k1 k2 k3 k4 k5 k6 => by rw [d2 k k3 k4 k5 k6, c5 k k1 (by omega), b5 k k1 (by omega)]
          have hRl := laid_both (g := g2) (t := t3) (g' := g3) (t' := setC t3 0 (upd (upd (upd (t3 0) 16 0) 17 0) 23 0)) (ny := ny) (nx := nx) a2 (by omega) c4 d2 d3 d4 d5 d6 d7 (by rw [c5 28 (by decide) (by omega), b5 28 (by decide) (by omega)]; exact e1.2.2.1) e1.1 (by rw [c5 62 (by decide) (by omega), b5 62 (by decide) (by omega)]; exact i1.2.2.1) i1.1 (mPlan_eq (fun k k1 k2 => setC_n (by omega)) (by rw [setC_s, upd_n (by decide), upd_n (by decide), upd_n (by decide)]) (by rw [setC_s, upd_n (by decide), upd_n (by decide), upd_n (by decide)]) f2) (by rw [setC_s, upd_n (by decide), upd_n (by decide), upd_n (by decide)]; exact f3) (mSt_eq (fun j _ _ => by rw [setC_n (by decide)]) f4) (by rw [setC_s, upd_n (by decide), upd_n (by decide), upd_s]) (by rw [setC_s, upd_n (by decide), upd_s]) (by rw [setC_s, upd_s]) (txOk_eq (fg 1 (by decide) (by omega) (by omega) (by decide) (by decide) (by decide)) (fg 2 (by decide) (by omega) (by omega) (by decide) (by decide) (by decide)) (by rw [setC_s, upd_n (by decide), upd_n (by decide), upd_n (by decide), f6 18 (by omega), a4.2.2 18 (by omega)]) (by rw [setC_n (by decide), f5 11 (by omega), a4.1 11 (by omega)]) htx) (by rw [fg 148 (by decide) (by omega) (by omega) (by decide) (by decide) (by decide)]; exact j3) (by rw [fg 149 (by decide) (by omega) (by omega) (by decide) (by decide) (by decide)]; exact j4)
          have r1 : g3 4 11 = nI (Q' 0 2) := by rw [d2 4 (by omega) (by decide) (by decide) (by decide)]; exact c4.2.2.1
          have r2 : upd (upd (upd (t3 0) 16 0) 17 0) 23 0 2 = nI (Q' 0 2) := by rw [upd_n (by decide), upd_n (by decide), upd_n (by decide)]; exact f2.2.1
          rw [r1, r2]
          exact ⟨_, _, _, rfl, rfl, _, _, _, _, _, _, _, hRl⟩
