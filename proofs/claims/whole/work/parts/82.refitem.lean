/-! ===== the reference reads a text: items ===== -/
def mPI (Q : Ql) (t : Sg) : Prop := t 0 8 = nI (Q 0 0) ∧ t 0 9 = nI (Q 0 1) ∧ t 0 10 = nI (Q 0 2) ∧ (∀ y, y < Q 0 2 → t 6 y = nI (Q 1 y) ∧ t 7 y = nI (Q 2 y) ∧ t 8 y = nI (Q 3 y) ∧ t 9 y = nI (Q 4 y)) ∧ (∀ y, y < 8 → t 10 (308 + y) = nI (Q 5 y)) ∧ t 10 316 = 0 ∧ (∀ x, x < 9 → t 10 (317 + x) = nI (Q 6 x) ∧ t 10 (326 + x) = nI (Q 7 x)) ∧ t 10 335 = 0
theorem frR_I {Q : Ql} {t t' : Sg} (h : frR t t') (hI : mPI Q t) : mPI Q t' := by
  unfold mPI
  rw [h.2 8 (by decide) (by decide), h.2 9 (by decide) (by decide), h.2 10 (by decide) (by decide), h.1 6 (by decide), h.1 7 (by decide), h.1 8 (by decide), h.1 9 (by decide), h.1 10 (by decide)]
  exact hI
/-- what reading an item leaves as it is -/
def frM (t t' : Sg) : Prop := (∀ k, (1 ≤ k ∧ k ≤ 5) ∨ 11 ≤ k → t' k = t k) ∧ (∀ j, j < 308 → t' 10 j = t 10 j) ∧ ∀ j, j < 8 ∨ (16 ≤ j ∧ j ≤ 19) ∨ j = 21 ∨ j = 23 → t' 0 j = t 0 j
theorem frM_R {t t' : Sg} (h : frR t t') : frM t t' := ⟨fun k hk => h.1 k (by omega), fun j _ => by rw [h.1 10 (by decide)], fun j hj => h.2 j (by omega) (by omega)⟩
theorem frM_tr {t t1 t2 : Sg} (a : frM t t1) (b : frM t1 t2) : frM t t2 := ⟨fun k h => (b.1 k h).trans (a.1 k h), fun j h => (b.2.1 j h).trans (a.2.1 j h), fun j h => (b.2.2 j h).trans (a.2.2 j h)⟩
theorem frM_mtx {t t' : Sg} {T : Nat → Nat} {L : Nat} (h : frM t t') (ht : mtx t T L) : mtx t' T L := by
  unfold mtx
  rw [h.2.2 18 (by decide), h.1 11 (by decide)]
  exact ht
theorem frM_0 {t : Sg} {j : Nat} {v : Int32} (h : j = 8 ∨ j = 9 ∨ j = 10 ∨ j = 20 ∨ j = 22) : frM t (setC t 0 (upd (t 0) j v)) := ⟨fun k hk => setC_n (by omega), fun i _ => by rw [setC_n (by decide)], fun i hi => by rw [setC_s, upd_n (by omega)]⟩
theorem frM_10 {t : Sg} {j : Nat} {v : Int32} (h : 308 ≤ j) : frM t (setC t 10 (upd (t 10) j v)) := ⟨fun k hk => setC_n (by omega), fun i hi => by rw [setC_s, upd_n (by omega)], fun i hi => by rw [setC_n (by decide)]⟩
theorem frM_k {t : Sg} {k : Nat} {f : Nat → Int32} (h : 6 ≤ k ∧ k ≤ 9) : frM t (setC t k f) := ⟨fun i hi => setC_n (by omega), fun i hi => by rw [setC_n (by omega)], fun i hi => by rw [setC_n (by omega)]⟩
theorem tlQ_c {Q : Ql} {c : Nat} (h : ¬ cnd Q c) (u : Option (Nat × (Nat → Nat) × Nat)) : tlQ Q c u = none := by
  match u with
  | none => rfl
  | some (k, f, e) => exact tlQ_no (fun z => h z.1)
theorem itm_z {T : Nat → Nat} {L b : Nat} {Q : Ql} (h : rn (T b) = 0) : itm T L Q b = none := by
  unfold itm
  cases hs : sc T L 5 0 (b + 1) (fun _ => 0) with
  | none => rfl
  | some u =>
    obtain ⟨k, f, e⟩ := u
    have h1 := sc_pre _ _ _ _ _ _ _ hs
    exact tlQ_no (fun z => by have := z.2.1; omega)
theorem itm_s {T : Nat → Nat} {L b b' : Nat} {Q Q' : Ql} (hQ : qOk Q) (h : itm T L Q b = some (Q', b')) : qOk Q' ∧ b + 1 < b' ∧ b' ≤ L := by
  unfold itm at h
  cases hs : sc T L 5 0 (b + 1) (fun _ => 0) with
  | none => rw [hs] at h; exact absurd h (by simp [tlQ])
  | some u =>
    obtain ⟨k, f, e⟩ := u
    rw [hs] at h
    have h1 := sc_pre _ _ _ _ _ _ _ hs
    by_cases o : tkOk Q (T b) k f
    · rw [tlQ_yes o] at h
      simp only [Option.some.injEq, Prod.mk.injEq] at h
      obtain ⟨h2, h3⟩ := h
      subst h2 h3
      exact ⟨qOk_ap hQ (by omega) o, by omega, by omega⟩
    · rw [tlQ_no o] at h
      exact absurd h (by simp)
/-- how the reference stands behind an item, the ';' not yet looked at -/
def itmE (T : Nat → Nat) (L : Nat) (Q : Ql) (b : Nat) (r : Int32) (t' : Sg) : Prop :=
  (∃ e Q', e ≤ L ∧ t' 0 20 = nI e ∧ t' 0 22 = 0 ∧ mPI Q' t' ∧ (if r = 0 then (0 : Nat) else Q 0 3) = Q' 0 3 ∧ ((e < L ∧ T e = 59) → itm T L Q b = some (Q', e + 1)) ∧ (¬ (e < L ∧ T e = 59) → itm T L Q b = none)) ∨ (t' 0 22 = 1 ∧ itm T L Q b = none)
theorem itmE_ok {T : Nat → Nat} {L : Nat} {Q : Ql} {b q i e : Nat} {F : Nat → Nat} {r : Int32} {t' : Sg} (hc : chn T L Q (T b) (itm T L Q b) q i F e) (hi : i + 1 = rn (T b)) (ho : tkOk Q (T b) (i + 1) F) (h20 : t' 0 20 = nI e) (h22 : t' 0 22 = 0) (hI : mPI (apQ Q (T b) F) t') (h3 : (if r = 0 then (0 : Nat) else Q 0 3) = apQ Q (T b) F 0 3) : itmE T L Q b r t' :=
  Or.inl ⟨e, _, chn_r hc, h20, h22, hI, h3, fun h => by rw [chn_end hc h, tlQ_yes ho], fun h => chn_bad hc h hi⟩
theorem m_itS {T : Nat → Nat} {L b : Nat} {Q : Ql} {t : Sg} (hQ : qOk Q) (ht : mtx t T L) (hb : b < L) (hc : T b = 115) (h20 : t 0 20 = nI (b + 1)) (h22 : t 0 22 = 0) (hI : mPI Q t) : ∃ r t', fX11_item t (nI (T b)) (nI (Q 0 3)) = some (r, t') ∧ frM t t' ∧ itmE T L Q b r t' := by
  have h200 := ht.1
  have h31 := hQ.2.2.2.2.2.1
  unfold fX11_item
  rw [hc, if_pos (show nI 115 = (115 : Int32) from rfl)]
  simp only [gLet]
  by_cases z : Q 0 3 = 0
  · rw [if_pos (by rw [z]; rfl), gZ_1]
    simp only [gUp_c, setC_s, setC_2]
    rw [if_neg (by rw [upd_s]; exact one_ne), if_neg (by rw [upd_s]; exact one_ne)]
    refine ⟨_, _, rfl, ⟨fun k hk => setC_n (by omega), fun i _ => by rw [setC_n (by decide)], fun i hi => by rw [setC_s, upd_n (by omega), upd_n (by omega)]⟩, Or.inr ⟨by rw [setC_s, upd_n (by decide), upd_s], ?_⟩⟩
    exact tlQ_c (fun h => by have := h.1 hc; omega) _
  · have z1 : Q 0 3 = 1 := by omega
    rw [if_neg (by rw [z1]; exact one_ne), gZ_0]
    simp only [gUp_c, setC_s]
    rw [if_pos (by rw [upd_s])]
    have fr0 : frR t (setC t 0 (upd (t 0) 22 0)) := frR_22
    obtain ⟨v, r, t1, a1, a2, a3, a4⟩ := m_numG (Q := Q) (c := 115) (A := itm T L Q b) (q := 4) (p := b + 1) (lo := 1) (hi := 9) (f := fun _ => 0) (frR_mtx fr0 ht) (by rw [setC_s, upd_n (by decide)]; exact h20) (by omega) (by rw [setC_s, upd_s]) (show itm T L Q b = tlQ Q 115 (sc T L 5 0 (b + 1) (fun _ => 0)) by unfold itm; rw [hc]) rfl rfl (by omega) (by omega)
    rw [show (1 : Int32) = nI 1 from rfl, show (9 : Int32) = nI 9 from rfl, a1, gCl_s]
    have hI1 := frR_I (frR_tr fr0 a2) hI
    rcases a4 with ⟨r1, c1, c2, c3⟩ | ⟨r1, c3⟩
    · rw [if_pos c3]
      refine ⟨_, _, rfl, frM_tr (frM_R (frR_tr fr0 a2)) (frM_0 (by omega)), itmE_ok (q := 4) (i := 0) (e := r) (F := updN (fun _ => 0) 0 v) (by rw [hc]; exact c1) (by rw [hc]; rfl) ⟨⟨fun _ => z1, fun h => by omega⟩, by rw [hc]; rfl, fun i hi => ?_⟩ (by rw [setC_s, upd_n (by decide)]; exact c2) (by rw [setC_s, upd_n (by decide)]; exact c3) ?_ ?_⟩
      · have : i = 0 := by omega
        subst this
        rw [updN_s, hc]
        exact r1
      · rw [hc]
        obtain ⟨b1, b2, b3, b4, b5, b6, b7, b8⟩ := hI1
        show mPI (setQ Q 0 0 (updN (fun _ => 0) 0 v 0)) _
        rw [updN_s]
        refine ⟨by rw [setC_s, upd_s, setQ_s], by rw [setC_s, upd_n (by decide), setQ_n (by omega)]; exact b2, by rw [setC_s, upd_n (by decide), setQ_n (by omega)]; exact b3, fun y hy => ?_, fun y hy => ?_, by rw [setC_n (by decide)]; exact b6, fun x hx => ?_, by rw [setC_n (by decide)]; exact b8⟩
        · rw [setQ_n (by omega)] at hy
          rw [setC_n (by decide), setC_n (by decide), setC_n (by decide), setC_n (by decide), setQ_n (by omega), setQ_n (by omega), setQ_n (by omega), setQ_n (by omega)]
          exact b4 y hy
        · rw [setC_n (by decide), setQ_n (by omega)]
          exact b5 y hy
        · rw [setC_n (by decide), setQ_n (by omega), setQ_n (by omega)]
          exact b7 x hx
      · rw [hc, if_neg (by decide)]
        show Q 0 3 = setQ Q 0 0 (updN (fun _ => 0) 0 v 0) 0 3
        rw [setQ_n (by omega)]
    · rw [if_neg (by rw [c3]; exact one_ne)]
      exact ⟨_, _, rfl, frM_tr (frM_R (frR_tr fr0 a2)) (frM_0 (by omega)), Or.inr ⟨by rw [setC_s, upd_n (by decide)]; exact c3, r1⟩⟩
theorem m_itH {T : Nat → Nat} {L b : Nat} {Q : Ql} {t : Sg} (hQ : qOk Q) (ht : mtx t T L) (hb : b < L) (hc : T b = 104) (h20 : t 0 20 = nI (b + 1)) (h22 : t 0 22 = 0) (hI : mPI Q t) : ∃ r t', fX11_item t (nI (T b)) (nI (Q 0 3)) = some (r, t') ∧ frM t t' ∧ itmE T L Q b r t' := by
  have h200 := ht.1
  unfold fX11_item
  rw [hc, if_neg (show ¬ nI 104 = (115 : Int32) by decide), if_neg (show ¬ nI 104 = (121 : Int32) by decide)]
  simp only [gLet]
  rw [if_neg (show ¬ nI 104 = (107 : Int32) by decide), if_neg (show ¬ nI 104 = (99 : Int32) by decide), if_pos (show nI 104 = (104 : Int32) from rfl)]
  obtain ⟨v, r, t1, a1, a2, a3, a4⟩ := m_numG (Q := Q) (c := 104) (A := itm T L Q b) (q := 4) (p := b + 1) (lo := 1) (hi := 99) (f := fun _ => 0) ht h20 (by omega) h22 (show itm T L Q b = tlQ Q 104 (sc T L 5 0 (b + 1) (fun _ => 0)) by unfold itm; rw [hc]) rfl rfl (by omega) (by omega)
  rw [show (1 : Int32) = nI 1 from rfl, show (99 : Int32) = nI 99 from rfl, a1, gCl_s]
  have hI1 := frR_I a2 hI
  rcases a4 with ⟨r1, c1, c2, c3⟩ | ⟨r1, c3⟩
  · rw [if_pos c3, gUp_c]
    refine ⟨_, _, rfl, frM_tr (frM_R a2) (frM_0 (by omega)), itmE_ok (q := 4) (i := 0) (e := r) (F := updN (fun _ => 0) 0 v) (by rw [hc]; exact c1) (by rw [hc]; rfl) ⟨⟨fun h => by omega, fun h => by omega⟩, by rw [hc]; rfl, fun i hi => ?_⟩ (by rw [setC_s, upd_n (by decide)]; exact c2) (by rw [setC_s, upd_n (by decide)]; exact c3) ?_ ?_⟩
    · have : i = 0 := by omega
      subst this
      rw [updN_s, hc]
      exact r1
    · rw [hc]
      obtain ⟨b1, b2, b3, b4, b5, b6, b7, b8⟩ := hI1
      show mPI (setQ (setQ Q 0 3 0) 0 1 (updN (fun _ => 0) 0 v 0)) _
      rw [updN_s]
      refine ⟨by rw [setC_s, upd_n (by decide), setQ_n (by omega), setQ_n (by omega)]; exact b1, by rw [setC_s, upd_s, setQ_s], by rw [setC_s, upd_n (by decide), setQ_n (by omega), setQ_n (by omega)]; exact b3, fun y hy => ?_, fun y hy => ?_, by rw [setC_n (by decide)]; exact b6, fun x hx => ?_, by rw [setC_n (by decide)]; exact b8⟩
      · rw [setQ_n (by omega), setQ_n (by omega)] at hy
        rw [setC_n (by decide), setC_n (by decide), setC_n (by decide), setC_n (by decide), setQ_n (by omega), setQ_n (by omega), setQ_n (by omega), setQ_n (by omega), setQ_n (by omega), setQ_n (by omega), setQ_n (by omega), setQ_n (by omega)]
        exact b4 y hy
      · rw [setC_n (by decide), setQ_n (by omega), setQ_n (by omega)]
        exact b5 y hy
      · rw [setC_n (by decide), setQ_n (by omega), setQ_n (by omega), setQ_n (by omega), setQ_n (by omega)]
        exact b7 x hx
    · rw [hc, if_pos rfl]
      show 0 = setQ (setQ Q 0 3 0) 0 1 (updN (fun _ => 0) 0 v 0) 0 3
      rw [setQ_n (by omega), setQ_s]
  · rw [if_neg (by rw [c3]; exact one_ne), gUp_c]
    exact ⟨_, _, rfl, frM_tr (frM_R a2) (frM_0 (by omega)), Or.inr ⟨by rw [setC_s, upd_n (by decide)]; exact c3, r1⟩⟩
theorem m_itO {T : Nat → Nat} {L b : Nat} {Q : Ql} {t : Sg} (ht : mtx t T L) (hb : b < L) (h1 : T b ≠ 115) (h2 : T b ≠ 121) (h3 : T b ≠ 107) (h4 : T b ≠ 99) (h5 : T b ≠ 104) : ∃ r t', fX11_item t (nI (T b)) (nI (Q 0 3)) = some (r, t') ∧ frM t t' ∧ itmE T L Q b r t' := by
  have hl := (ht.2.2 b hb).2
  have ne : ∀ k : Nat, k < 1000 → T b ≠ k → ¬ nI (T b) = nI k := fun k hk h => by rw [nI_inj (by omega) (by omega)]; exact h
  unfold fX11_item
  rw [if_neg (show ¬ nI (T b) = (115 : Int32) from ne 115 (by omega) h1), if_neg (show ¬ nI (T b) = (121 : Int32) from ne 121 (by omega) h2)]
  simp only [gLet]
  rw [if_neg (show ¬ nI (T b) = (107 : Int32) from ne 107 (by omega) h3), if_neg (show ¬ nI (T b) = (99 : Int32) from ne 99 (by omega) h4), if_neg (show ¬ nI (T b) = (104 : Int32) from ne 104 (by omega) h5), gUp_c]
  refine ⟨_, _, rfl, frM_0 (by omega), Or.inr ⟨by rw [setC_s, upd_s], itm_z ?_⟩⟩
  unfold rn
  rw [if_neg h1, if_neg h2, if_neg h3, if_neg h4, if_neg h5]
theorem m_itK {T : Nat → Nat} {L b : Nat} {Q : Ql} {t : Sg} (hQ : qOk Q) (ht : mtx t T L) (hb : b < L) (hc : T b = 107) (h20 : t 0 20 = nI (b + 1)) (h22 : t 0 22 = 0) (hI : mPI Q t) : ∃ r t', fX11_item t (nI (T b)) (nI (Q 0 3)) = some (r, t') ∧ frM t t' ∧ itmE T L Q b r t' := by
  have h200 := ht.1
  have hQ1 := hQ.1
  have hQ9 := hQ.2.1
  unfold fX11_item
  rw [hc, if_neg (show ¬ nI 107 = (115 : Int32) by decide), if_neg (show ¬ nI 107 = (121 : Int32) by decide)]
  simp only [gLet]
  rw [if_pos (show nI 107 = (107 : Int32) from rfl)]
  obtain ⟨v, r, t1, a1, a2, a3, a4⟩ := m_numG (Q := Q) (c := 107) (A := itm T L Q b) (q := 4) (p := b + 1) (lo := 0) (hi := Q 0 0 - 1) (f := fun _ => 0) ht h20 (by omega) h22 (show itm T L Q b = tlQ Q 107 (sc T L 5 0 (b + 1) (fun _ => 0)) by unfold itm; rw [hc]) rfl rfl (by omega) (by omega)
  rw [hI.1, sub1 hQ1, show (0 : Int32) = nI 0 from rfl, a1, gCl_s, if_pos (show nI 107 = (107 : Int32) from rfl)]
  obtain ⟨v2, r2, t2, b1, b2, b3, b4⟩ := m_moreG (i := 0) (lo := 0) (hi := 9) (frR_mtx a2 ht) a4 (by decide) rfl rfl (by omega) (by omega)
  rw [show (9 : Int32) = nI 9 from rfl, b1, gCl_s, if_pos (show nI 107 = (107 : Int32) from rfl)]
  have hI2 := frR_I (frR_tr a2 b2) hI
  rcases b4 with ⟨⟨r1, r3⟩, c1, c2, c3⟩ | ⟨r1, c3⟩
  · rw [if_pos (show t2 0 22 = nI 0 from c3), show (308 : Int32) = nI 308 from rfl, show (18 : Int32) = nI 18 from rfl, nI_add, nI_add, gWr_n (by omega) (by decide)]
    refine ⟨_, _, rfl, frM_tr (frM_R (frR_tr a2 b2)) (frM_10 (by omega)), itmE_ok (q := 3) (i := 1) (e := r2) (F := updN (updN (fun _ => 0) 0 v) 1 v2) (by rw [hc]; exact c1) (by rw [hc]; rfl) ⟨⟨fun h => by omega, fun h => by omega⟩, by rw [hc]; rfl, fun i hi => ?_⟩ (by rw [setC_n (by decide)]; exact c2) (by rw [setC_n (by decide)]; exact c3) ?_ ?_⟩
    · rcases (show i = 0 ∨ i = 1 by omega) with h | h
      · subst h
        rw [updN_n (by decide), updN_s, hc]
        exact r1
      · subst h
        rw [updN_s, hc]
        exact r3
    · rw [hc]
      obtain ⟨b1, b2, b3, b4, b5, b6, b7, b8⟩ := hI2
      show mPI (setQ (setQ Q 0 3 0) 7 (updN (updN (fun _ => 0) 0 v) 1 v2 0) (updN (updN (fun _ => 0) 0 v) 1 v2 1)) _
      rw [updN_s, updN_n (show 0 ≠ 1 by decide), updN_s]
      refine ⟨by rw [setC_n (by decide), setQ_n (by omega), setQ_n (by omega)]; exact b1, by rw [setC_n (by decide), setQ_n (by omega), setQ_n (by omega)]; exact b2, by rw [setC_n (by decide), setQ_n (by omega), setQ_n (by omega)]; exact b3, fun y hy => ?_, fun y hy => ?_, by rw [setC_s, upd_n (by omega)]; exact b6, fun x hx => ?_, by rw [setC_s, upd_n (by omega)]; exact b8⟩
      · rw [setQ_n (by omega), setQ_n (by omega)] at hy
        rw [setC_n (by decide), setC_n (by decide), setC_n (by decide), setC_n (by decide), setQ_n (by omega), setQ_n (by omega), setQ_n (by omega), setQ_n (by omega), setQ_n (by omega), setQ_n (by omega), setQ_n (by omega), setQ_n (by omega)]
        exact b4 y hy
      · rw [setC_s, upd_n (by omega), setQ_n (by omega), setQ_n (by omega)]
        exact b5 y hy
      · rw [setC_s]
        by_cases z : x = v
        · subst z
          refine ⟨?_, by rw [upd_s, setQ_s]⟩
          rw [upd_n (by omega), setQ_n (by omega), setQ_n (by omega)]
          exact (b7 x hx).1
        · rw [upd_n (by omega), upd_n (by omega), setQ_n (by omega), setQ_n (by omega), setQ_n (by omega), setQ_n (by omega)]
          exact b7 x hx
    · rw [hc, if_pos (show nI 0 = (0 : Int32) from rfl)]
      show 0 = setQ (setQ Q 0 3 0) 7 (updN (updN (fun _ => 0) 0 v) 1 v2 0) (updN (updN (fun _ => 0) 0 v) 1 v2 1) 0 3
      rw [setQ_n (by omega), setQ_s]
  · rw [if_neg (show ¬ t2 0 22 = nI 0 by rw [c3]; exact one_ne), show (308 : Int32) = nI 308 from rfl, show (18 : Int32) = nI 18 from rfl, nI_add, nI_add, gWr_n (by omega) (by decide)]
    exact ⟨_, _, rfl, frM_tr (frM_R (frR_tr a2 b2)) (frM_10 (by omega)), Or.inr ⟨by rw [setC_n (by decide)]; exact c3, r1⟩⟩
theorem m_itC {T : Nat → Nat} {L b : Nat} {Q : Ql} {t : Sg} (hQ : qOk Q) (ht : mtx t T L) (hb : b < L) (hc : T b = 99) (h20 : t 0 20 = nI (b + 1)) (h22 : t 0 22 = 0) (hI : mPI Q t) : ∃ r t', fX11_item t (nI (T b)) (nI (Q 0 3)) = some (r, t') ∧ frM t t' ∧ itmE T L Q b r t' := by
  have h200 := ht.1
  have hQ1 := hQ.1
  have hQ9 := hQ.2.1
  unfold fX11_item
  rw [hc, if_neg (show ¬ nI 99 = (115 : Int32) by decide), if_neg (show ¬ nI 99 = (121 : Int32) by decide)]
  simp only [gLet]
  rw [if_neg (show ¬ nI 99 = (107 : Int32) by decide), if_pos (show nI 99 = (99 : Int32) from rfl)]
  obtain ⟨v, r, t1, a1, a2, a3, a4⟩ := m_numG (Q := Q) (c := 99) (A := itm T L Q b) (q := 4) (p := b + 1) (lo := 0) (hi := Q 0 0 - 1) (f := fun _ => 0) ht h20 (by omega) h22 (show itm T L Q b = tlQ Q 99 (sc T L 5 0 (b + 1) (fun _ => 0)) by unfold itm; rw [hc]) rfl rfl (by omega) (by omega)
  rw [hI.1, sub1 hQ1, show (0 : Int32) = nI 0 from rfl, a1, gCl_s, if_neg (show ¬ nI 99 = (107 : Int32) by decide)]
  obtain ⟨v2, r2, t2, b1, b2, b3, b4⟩ := m_moreG (i := 0) (lo := 0) (hi := 40) (frR_mtx a2 ht) a4 (by decide) rfl rfl (by omega) (by omega)
  rw [show (40 : Int32) = nI 40 from rfl, b1, gCl_s, if_neg (show ¬ nI 99 = (107 : Int32) by decide)]
  have hI2 := frR_I (frR_tr a2 b2) hI
  rcases b4 with ⟨⟨r1, r3⟩, c1, c2, c3⟩ | ⟨r1, c3⟩
  · rw [if_pos (show t2 0 22 = nI 0 from c3), show (308 : Int32) = nI 308 from rfl, show (9 : Int32) = nI 9 from rfl, nI_add, nI_add, gWr_n (by omega) (by decide)]
    refine ⟨_, _, rfl, frM_tr (frM_R (frR_tr a2 b2)) (frM_10 (by omega)), itmE_ok (q := 3) (i := 1) (e := r2) (F := updN (updN (fun _ => 0) 0 v) 1 v2) (by rw [hc]; exact c1) (by rw [hc]; rfl) ⟨⟨fun h => by omega, fun h => by omega⟩, by rw [hc]; rfl, fun i hi => ?_⟩ (by rw [setC_n (by decide)]; exact c2) (by rw [setC_n (by decide)]; exact c3) ?_ ?_⟩
    · rcases (show i = 0 ∨ i = 1 by omega) with h | h
      · subst h
        rw [updN_n (by decide), updN_s, hc]
        exact r1
      · subst h
        rw [updN_s, hc]
        exact r3
    · rw [hc]
      obtain ⟨b1, b2, b3, b4, b5, b6, b7, b8⟩ := hI2
      show mPI (setQ (setQ Q 0 3 0) 6 (updN (updN (fun _ => 0) 0 v) 1 v2 0) (updN (updN (fun _ => 0) 0 v) 1 v2 1)) _
      rw [updN_s, updN_n (show 0 ≠ 1 by decide), updN_s]
      refine ⟨by rw [setC_n (by decide), setQ_n (by omega), setQ_n (by omega)]; exact b1, by rw [setC_n (by decide), setQ_n (by omega), setQ_n (by omega)]; exact b2, by rw [setC_n (by decide), setQ_n (by omega), setQ_n (by omega)]; exact b3, fun y hy => ?_, fun y hy => ?_, by rw [setC_s, upd_n (by omega)]; exact b6, fun x hx => ?_, by rw [setC_s, upd_n (by omega)]; exact b8⟩
      · rw [setQ_n (by omega), setQ_n (by omega)] at hy
        rw [setC_n (by decide), setC_n (by decide), setC_n (by decide), setC_n (by decide), setQ_n (by omega), setQ_n (by omega), setQ_n (by omega), setQ_n (by omega), setQ_n (by omega), setQ_n (by omega), setQ_n (by omega), setQ_n (by omega)]
        exact b4 y hy
      · rw [setC_s, upd_n (by omega), setQ_n (by omega), setQ_n (by omega)]
        exact b5 y hy
      · rw [setC_s]
        by_cases z : x = v
        · subst z
          refine ⟨by rw [upd_s, setQ_s], ?_⟩
          rw [upd_n (by omega), setQ_n (by omega), setQ_n (by omega)]
          exact (b7 x hx).2
        · rw [upd_n (by omega), upd_n (by omega), setQ_n (by omega), setQ_n (by omega), setQ_n (by omega), setQ_n (by omega)]
          exact b7 x hx
    · rw [hc, if_pos (show nI 0 = (0 : Int32) from rfl)]
      show 0 = setQ (setQ Q 0 3 0) 6 (updN (updN (fun _ => 0) 0 v) 1 v2 0) (updN (updN (fun _ => 0) 0 v) 1 v2 1) 0 3
      rw [setQ_n (by omega), setQ_s]
  · rw [if_neg (show ¬ t2 0 22 = nI 0 by rw [c3]; exact one_ne), show (308 : Int32) = nI 308 from rfl, show (9 : Int32) = nI 9 from rfl, nI_add, nI_add, gWr_n (by omega) (by decide)]
    exact ⟨_, _, rfl, frM_tr (frM_R (frR_tr a2 b2)) (frM_10 (by omega)), Or.inr ⟨by rw [setC_n (by decide)]; exact c3, r1⟩⟩
theorem m_comes {Q : Ql} {t : Sg} {v1 v2 v3 v4 v5 : Nat} (h8 : Q 0 2 < 8) (hI : mPI Q t) {F : Nat → Nat} (e0 : F 0 = v1) (e1 : F 1 = v2) (e2 : F 2 = v3) (e3 : F 3 = v4) (e4 : F 4 = v5) : ∃ t', fX11_comes t (nI v1) (nI v2) (nI v3) (nI v4) (nI v5) = some t' ∧ frM t t' ∧ mPI (addY Q F) t' ∧ t' 0 20 = t 0 20 ∧ t' 0 22 = t 0 22 := by
  obtain ⟨b1, b2, b3, b4, b5, b6, b7, b8⟩ := hI
  unfold fX11_comes
  rw [b3, gWr_n h8 (by decide), setC_n (show 0 ≠ 6 by decide), b3, gWr_n h8 (by decide), setC_n (show 0 ≠ 7 by decide), setC_n (show 0 ≠ 6 by decide), b3, gWr_n h8 (by decide), setC_n (show 0 ≠ 8 by decide), setC_n (show 0 ≠ 7 by decide), setC_n (show 0 ≠ 6 by decide), b3, gWr_n h8 (by decide), setC_n (show 0 ≠ 9 by decide), setC_n (show 0 ≠ 8 by decide), setC_n (show 0 ≠ 7 by decide), setC_n (show 0 ≠ 6 by decide), b3, show (308 : Int32) = nI 308 from rfl, nI_add, gWr_n (by omega) (by decide)]
  simp only [gLet, gUp_c]
  refine ⟨_, rfl, frM_tr (frM_tr (frM_tr (frM_tr (frM_tr (frM_k (by omega)) (frM_k (by omega))) (frM_k (by omega))) (frM_k (by omega))) (frM_10 (by omega))) (frM_0 (by omega)), ?_, by rw [setC_s, upd_n (by decide), setC_n (by decide), setC_n (by decide), setC_n (by decide), setC_n (by decide), setC_n (by decide)], by rw [setC_s, upd_n (by decide), setC_n (by decide), setC_n (by decide), setC_n (by decide), setC_n (by decide), setC_n (by decide)]⟩
  have y0 : ∀ b, b ≠ 2 → b ≠ 3 → addY Q F 0 b = Q 0 b := fun b h1 h2 => by
    show (if (0 : Nat) = 0 then (if b = 2 then Q 0 2 + 1 else if b = 3 then 0 else Q 0 b) else _) = _
    rw [if_pos rfl, if_neg h1, if_neg h2]
  have y2 : addY Q F 0 2 = Q 0 2 + 1 := rfl
  have yn : ∀ a : Nat, 1 ≤ a → a ≤ 5 → addY Q F a (Q 0 2) = F (a - 1) := fun a h1 h2 => by
    unfold addY
    rw [if_neg (by omega), if_pos ⟨rfl, h2⟩]
  have yo : ∀ a y : Nat, 1 ≤ a → (y ≠ Q 0 2 ∨ 5 < a) → addY Q F a y = Q a y := fun a y h1 h2 => by
    unfold addY
    rw [if_neg (by omega), if_neg (by omega)]
  refine ⟨by rw [setC_s, upd_n (by decide), setC_n (by decide), setC_n (by decide), setC_n (by decide), setC_n (by decide), setC_n (by decide), y0 0 (by decide) (by decide)]; exact b1, by rw [setC_s, upd_n (by decide), setC_n (by decide), setC_n (by decide), setC_n (by decide), setC_n (by decide), setC_n (by decide), y0 1 (by decide) (by decide)]; exact b2, by rw [setC_s, upd_s, setC_n (by decide), setC_n (by decide), setC_n (by decide), setC_n (by decide), setC_n (by decide), b3, nI_1, y2], fun y hy => ?_, fun y hy => ?_, by rw [setC_n (by decide), setC_s, upd_n (by omega), setC_n (by decide), setC_n (by decide), setC_n (by decide), setC_n (by decide)]; exact b6, fun x hx => ?_, by rw [setC_n (by decide), setC_s, upd_n (by omega), setC_n (by decide), setC_n (by decide), setC_n (by decide), setC_n (by decide)]; exact b8⟩
  · rw [y2] at hy
    rw [setC_n (show 6 ≠ 0 by decide), setC_n (show 6 ≠ 10 by decide), setC_n (show 6 ≠ 9 by decide), setC_n (show 6 ≠ 8 by decide), setC_n (show 6 ≠ 7 by decide), setC_s, setC_n (show 7 ≠ 0 by decide), setC_n (show 7 ≠ 10 by decide), setC_n (show 7 ≠ 9 by decide), setC_n (show 7 ≠ 8 by decide), setC_s, setC_n (show 7 ≠ 6 by decide), setC_n (show 8 ≠ 0 by decide), setC_n (show 8 ≠ 10 by decide), setC_n (show 8 ≠ 9 by decide), setC_s, setC_n (show 8 ≠ 7 by decide), setC_n (show 8 ≠ 6 by decide), setC_n (show 9 ≠ 0 by decide), setC_n (show 9 ≠ 10 by decide), setC_s, setC_n (show 9 ≠ 8 by decide), setC_n (show 9 ≠ 7 by decide), setC_n (show 9 ≠ 6 by decide)]
    by_cases z : y = Q 0 2
    · subst z
      rw [upd_s, upd_s, upd_s, upd_s, yn 1 (by omega) (by omega), yn 2 (by omega) (by omega), yn 3 (by omega) (by omega), yn 4 (by omega) (by omega), show 1 - 1 = 0 from rfl, show 2 - 1 = 1 from rfl, show 3 - 1 = 2 from rfl, show 4 - 1 = 3 from rfl, e0, e1, e2, e3]
      exact ⟨rfl, rfl, rfl, rfl⟩
    · rw [upd_n z, upd_n z, upd_n z, upd_n z, yo 1 y (by omega) (Or.inl z), yo 2 y (by omega) (Or.inl z), yo 3 y (by omega) (Or.inl z), yo 4 y (by omega) (Or.inl z)]
      exact b4 y (by omega)
  · rw [setC_n (show 10 ≠ 0 by decide), setC_s, setC_n (show 10 ≠ 9 by decide), setC_n (show 10 ≠ 8 by decide), setC_n (show 10 ≠ 7 by decide), setC_n (show 10 ≠ 6 by decide)]
    by_cases z : y = Q 0 2
    · subst z
      rw [upd_s, yn 5 (by omega) (by omega), show 5 - 1 = 4 from rfl, e4]
    · rw [upd_n (by omega), yo 5 y (by omega) (Or.inl z)]
      exact b5 y hy
  · rw [setC_n (show 10 ≠ 0 by decide), setC_s, setC_n (show 10 ≠ 9 by decide), setC_n (show 10 ≠ 8 by decide), setC_n (show 10 ≠ 7 by decide), setC_n (show 10 ≠ 6 by decide), upd_n (by omega), upd_n (by omega), yo 6 x (by omega) (Or.inr (by omega)), yo 7 x (by omega) (Or.inr (by omega))]
    exact b7 x hx
def yRs (x7 : Int32) (g8 : Sg) : Option Sg := (
  gCl (fX11_more g8 (0 : Int32) ((g8 0 8) - (1 : Int32))) (fun r11 g10 =>
  gCl (fX11_more g10 (0 : Int32) (20 : Int32)) (fun r14 g13 =>
  gCl (fX11_more g13 (1 : Int32) (9 : Int32)) (fun r17 g16 =>
  gCl (fX11_more g16 (1 : Int32) (20 : Int32)) (fun r20 g19 =>
  if (g19 0 22) = 0 then (
  gCv (fX11_comes g19 x7 r11 r14 r17 r20) (fun g23 =>
  some g23))
  else (
  some g19))))))
theorem m_yRs {T : Nat → Nat} {L b : Nat} {Q : Ql} {t0 t : Sg} (hQ : qOk Q) (ht : mtx t T L) (hc : T b = 121) (h8 : cnd Q 121 ∨ itm T L Q b = none) (hI : mPI Q t) (fr : frR t0 t) {v r : Nat} (st : sT T L Q 121 (cnd Q 121 ∧ 0 ≤ v ∧ v ≤ 3) (itm T L Q b) 4 0 (updN (fun _ => 0) 0 v) r t) : ∃ t', yRs (nI v) t = some t' ∧ frM t0 t' ∧ itmE T L Q b 0 t' := by
  have hQ1 := hQ.1
  have hQ9 := hQ.2.1
  unfold yRs
  obtain ⟨v2, r2, t2, b1, b2, b3, b4⟩ := m_moreG (i := 0) (lo := 0) (hi := Q 0 0 - 1) ht st (by decide) rfl rfl (by omega) (by omega)
  rw [hI.1, sub1 hQ1, show (0 : Int32) = nI 0 from rfl, b1, gCl_s]
  have ht2 := frR_mtx b2 ht
  obtain ⟨v3, r3, t3, c1, c2, c3, c4⟩ := m_moreG (i := 1) (lo := 0) (hi := 20) ht2 b4 (by decide) rfl rfl (by omega) (by omega)
  rw [show (20 : Int32) = nI 20 from rfl, c1, gCl_s]
  have ht3 := frR_mtx c2 ht2
  obtain ⟨v4, r4, t4, d1, d2, d3, d4⟩ := m_moreG (i := 2) (lo := 1) (hi := 9) ht3 c4 (by decide) rfl rfl (by omega) (by omega)
  rw [show (1 : Int32) = nI 1 from rfl, show (9 : Int32) = nI 9 from rfl, d1, gCl_s]
  have ht4 := frR_mtx d2 ht3
  obtain ⟨v5, r5, t5, e1, e2, e3, e4⟩ := m_moreG (i := 3) (lo := 1) (hi := 20) ht4 d4 (by decide) rfl rfl (by omega) (by omega)
  rw [e1, gCl_s]
  have fr5 : frR t t5 := frR_tr b2 (frR_tr c2 (frR_tr d2 e2))
  have hI5 := frR_I fr5 hI
  rcases e4 with ⟨⟨⟨⟨⟨⟨k1, k2⟩, k3⟩, k4⟩, k5⟩, k6⟩, n1, n2, n3⟩ | ⟨n1, n3⟩
  · rw [if_pos (show t5 0 22 = nI 0 from n3)]
    obtain ⟨t6, z1, z2, z3, z4, z5⟩ := m_comes (Q := Q) (t := t5) (F := updN (updN (updN (updN (updN (fun _ => 0) 0 v) (0 + 1) v2) (1 + 1) v3) (2 + 1) v4) (3 + 1) v5) (v1 := v) (v2 := v2) (v3 := v3) (v4 := v4) (v5 := v5) (k1.2 rfl) hI5 (by rw [updN_n (by decide), updN_n (by decide), updN_n (by decide), updN_n (by decide), updN_s]) (by rw [updN_n (by decide), updN_n (by decide), updN_n (by decide), updN_s]) (by rw [updN_n (by decide), updN_n (by decide), updN_s]) (by rw [updN_n (by decide), updN_s]) (by rw [updN_s])
    rw [z1, gCv_s]
    refine ⟨t6, rfl, frM_tr (frM_R (frR_tr fr fr5)) z2, itmE_ok (q := 0) (i := 4) (e := r5) (by rw [hc]; exact n1) (by rw [hc]; rfl) ⟨by rw [hc]; exact k1, by rw [hc]; rfl, fun i hi => ?_⟩ (by rw [z4]; exact n2) (by rw [z5]; exact n3) (by rw [hc]; exact z3) (by rw [hc, if_pos (show nI 0 = (0 : Int32) from rfl)]; rfl)⟩
    rw [hc]
    rcases (show i = 0 ∨ i = 1 ∨ i = 2 ∨ i = 3 ∨ i = 4 by omega) with h | h | h | h | h
    · subst h
      rw [updN_n (by decide), updN_n (by decide), updN_n (by decide), updN_n (by decide), updN_s]
      exact k2
    · subst h
      rw [updN_n (by decide), updN_n (by decide), updN_n (by decide), updN_s]
      exact k3
    · subst h
      rw [updN_n (by decide), updN_n (by decide), updN_s]
      exact k4
    · subst h
      rw [updN_n (by decide), updN_s]
      exact k5
    · subst h
      rw [updN_s]
      exact k6
  · rw [if_neg (show ¬ t5 0 22 = nI 0 by rw [n3]; exact one_ne)]
    exact ⟨t5, rfl, frM_R (frR_tr fr fr5), Or.inr ⟨n3, n1⟩⟩
theorem m_itY {T : Nat → Nat} {L b : Nat} {Q : Ql} {t : Sg} (hQ : qOk Q) (ht : mtx t T L) (hb : b < L) (hc : T b = 121) (h20 : t 0 20 = nI (b + 1)) (h22 : t 0 22 = 0) (hI : mPI Q t) : ∃ r t', fX11_item t (nI (T b)) (nI (Q 0 3)) = some (r, t') ∧ frM t t' ∧ itmE T L Q b r t' := by
  have h200 := ht.1
  have h8 := hQ.2.2.2.2.1
  have key : ∃ t', fX11_youngerItem t = some t' ∧ frM t t' ∧ itmE T L Q b 0 t' := by
    unfold fX11_youngerItem
    simp only [gLet]
    rw [hI.2.2.1]
    by_cases z : Q 0 2 = 8
    · rw [if_pos (by rw [z]; rfl), gZ_1]
      simp only [gUp_c, setC_s]
      rw [if_neg (by rw [upd_s]; exact one_ne)]
      have hA : itm T L Q b = none := tlQ_c (fun h => by have := h.2 hc; omega) _
      exact m_yRs (v := 0) (r := 0) hQ (frR_mtx frR_22 ht) hc (Or.inr hA) (frR_I frR_22 hI) frR_22 (Or.inr ⟨hA, by rw [setC_s, upd_s]⟩)
    · rw [if_neg (by rw [show (8 : Int32) = nI 8 from rfl, nI_inj (by omega) (by omega)]; exact z), gZ_0]
      simp only [gUp_c, setC_s]
      rw [if_pos (by rw [upd_s])]
      have hcn : cnd Q 121 := ⟨fun h => absurd h (by decide), fun _ => by omega⟩
      have fr0 : frR t (setC t 0 (upd (t 0) 22 0)) := frR_22
      obtain ⟨v, r, t1, a1, a2, a3, a4⟩ := m_numG (Q := Q) (c := 121) (A := itm T L Q b) (q := 4) (p := b + 1) (lo := 0) (hi := 3) (f := fun _ => 0) (frR_mtx fr0 ht) (by rw [setC_s, upd_n (by decide)]; exact h20) (by omega) (by rw [setC_s, upd_s]) (show itm T L Q b = tlQ Q 121 (sc T L 5 0 (b + 1) (fun _ => 0)) by unfold itm; rw [hc]) rfl rfl (by omega) (by omega)
      have e1 : fX11_number (setC t 0 (upd (t 0) 22 0)) (0 : Int32) (3 : Int32) = some (nI v, t1) := a1
      rw [e1, gCl_s]
      refine m_yRs (v := v) (r := r) hQ (frR_mtx (frR_tr fr0 a2) ht) hc (Or.inl hcn) (frR_I (frR_tr fr0 a2) hI) (frR_tr fr0 a2) ?_
      rcases a4 with ⟨w1, w2⟩ | w
      · exact Or.inl ⟨⟨hcn, w1⟩, w2⟩
      · exact Or.inr w
  obtain ⟨t', k1, k2, k3⟩ := key
  unfold fX11_item
  rw [hc, if_neg (show ¬ nI 121 = (115 : Int32) by decide), if_pos (show nI 121 = (121 : Int32) from rfl), k1, gCv_s]
  exact ⟨_, _, rfl, k2, k3⟩
theorem m_item {T : Nat → Nat} {L b : Nat} {Q : Ql} {t : Sg} (hQ : qOk Q) (ht : mtx t T L) (hb : b < L) (h20 : t 0 20 = nI (b + 1)) (h22 : t 0 22 = 0) (hI : mPI Q t) : ∃ r t', fX11_item t (nI (T b)) (nI (Q 0 3)) = some (r, t') ∧ frM t t' ∧ itmE T L Q b r t' := by
  by_cases c1 : T b = 115
  · exact m_itS hQ ht hb c1 h20 h22 hI
  by_cases c2 : T b = 121
  · exact m_itY hQ ht hb c2 h20 h22 hI
  by_cases c3 : T b = 107
  · exact m_itK hQ ht hb c3 h20 h22 hI
  by_cases c4 : T b = 99
  · exact m_itC hQ ht hb c4 h20 h22 hI
  by_cases c5 : T b = 104
  · exact m_itH hQ ht hb c5 h20 h22 hI
  exact m_itO ht hb c1 c2 c3 c4 c5
