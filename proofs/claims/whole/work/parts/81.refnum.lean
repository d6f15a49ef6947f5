/-! ===== the reference reads a text: numbers ===== -/
def mtx (t : Sg) (T : Nat → Nat) (L : Nat) : Prop := L ≤ 200 ∧ t 0 18 = nI L ∧ ∀ i, i < L → t 11 i = nI (T i) ∧ T i ≤ 126
/-- reading a number moves the place and the fault alone -/
def frR (t t' : Sg) : Prop := (∀ k, k ≠ 0 → t' k = t k) ∧ ∀ j, j ≠ 20 → j ≠ 22 → t' 0 j = t 0 j
theorem frR_rf {t : Sg} : frR t t := ⟨fun _ _ => rfl, fun _ _ _ => rfl⟩
theorem frR_tr {t t1 t2 : Sg} (a : frR t t1) (b : frR t1 t2) : frR t t2 := ⟨fun k h => (b.1 k h).trans (a.1 k h), fun j h1 h2 => (b.2 j h1 h2).trans (a.2 j h1 h2)⟩
theorem frR_mtx {t t' : Sg} {T : Nat → Nat} {L : Nat} (h : frR t t') (ht : mtx t T L) : mtx t' T L := by
  unfold mtx
  rw [h.2 18 (by decide) (by decide), h.1 11 (by decide)]
  exact ht
theorem frR_20 {t : Sg} {v : Int32} : frR t (setC t 0 (upd (t 0) 20 v)) := ⟨fun k hk => setC_n hk, fun j h1 h2 => by rw [setC_s, upd_n h1]⟩
theorem frR_22 {t : Sg} {v : Int32} : frR t (setC t 0 (upd (t 0) 22 v)) := ⟨fun k hk => setC_n hk, fun j h1 h2 => by rw [setC_s, upd_n h2]⟩
theorem m_next {t : Sg} {T : Nat → Nat} {L p : Nat} (ht : mtx t T L) (hp : t 0 20 = nI p) (hb : p < 1000000) : fX11_next t = some (if p < L then nI (T p) else -1, t) := by
  have h200 := ht.1
  unfold fX11_next
  rw [ht.2.1, hp]
  by_cases h : p < L
  · rw [if_neg (by rw [nI_leN (by omega) (by omega)]; omega), gRd_n (by omega) (by decide), if_pos h, (ht.2.2 p h).1]
  · rw [if_pos ((nI_leN (by omega) (by omega)).mpr (by omega)), if_neg h]
theorem m_dig (t t' : Sg) {T : Nat → Nat} {L p : Nat} (ht : mtx t T L) : fX11_in t' ((if p < L then nI (T p) else (-1 : Int32)).toInt64) (48 : Int64) (57 : Int64) = some (bI (p < L ∧ 48 ≤ T p ∧ T p ≤ 57), t') := by
  rw [show (48 : Int64) = (48 : Int32).toInt64 from rfl, show (57 : Int64) = (57 : Int32).toInt64 from rfl, m_inI]
  by_cases h : p < L
  · have hl := (ht.2.2 p h).2
    rw [if_pos h, show (48 : Int32) = nI 48 from rfl, show (57 : Int32) = nI 57 from rfl]
    by_cases h1 : 48 ≤ T p ∧ T p ≤ 57
    · rw [bI_t ⟨(nI_leN (by omega) (by omega)).mpr h1.1, (nI_leN (by omega) (by omega)).mpr h1.2⟩, bI_t ⟨h, h1⟩]
    · rw [bI_f (by rw [nI_leN (by omega) (by omega), nI_leN (by omega) (by omega)]; exact h1), bI_f (fun z => h1 z.2)]
  · rw [if_neg h, bI_f (by decide), bI_f (fun z => h z.1)]
theorem m_nuStop {t : Sg} {T : Nat → Nat} {L p w fg n : Nat} (ht : mtx t T L) (hp : t 0 20 = nI p) (hb : p < 1000000) (hf : fg ≤ 3) (h : ¬ ((p < L ∧ 48 ≤ T p ∧ T p ≤ 57) ∧ fg < 3)) (K : Int32 → Int32 → Sg → Option (Int32 × Sg)) : fX11_number_5 (n + 1) (nI w) (nI fg) t K = K (nI w) (nI fg) t := by
  rw [fX11_number_5, m_next ht hp hb, gCl_s, m_dig t t ht, gCl_s]
  by_cases h1 : p < L ∧ 48 ≤ T p ∧ T p ≤ 57
  · rw [bI_t h1, if_neg one_ne, if_pos (by rw [show (3 : Int32) = nI 3 from rfl, nI_leN (by omega) (by omega)]; omega)]
  · rw [bI_f h1, if_pos rfl]
theorem m_nuGo {t : Sg} {T : Nat → Nat} {L p w fg n : Nat} (ht : mtx t T L) (hp : t 0 20 = nI p) (hb : p < 1000000) (h1 : p < L ∧ 48 ≤ T p ∧ T p ≤ 57) (h2 : fg < 3) (K : Int32 → Int32 → Sg → Option (Int32 × Sg)) : fX11_number_5 (n + 1) (nI w) (nI fg) t K = fX11_number_5 n (nI (10 * w + (T p - 48))) (nI (fg + 1)) (setC t 0 (upd (t 0) 20 (nI (p + 1)))) K := by
  rw [fX11_number_5, m_next ht hp hb, gCl_s, m_dig t t ht, gCl_s, bI_t h1, if_neg one_ne, if_neg (by rw [show (3 : Int32) = nI 3 from rfl, nI_leN (by omega) (by omega)]; omega), m_next ht hp hb, gCl_s, if_pos h1.1]
  simp only [gLet, gUp_c, nI_1]
  rw [hp, nI_1, show (10 : Int32) = nI 10 from rfl, pk_mul, nI_add, show (48 : Int32) = nI 48 from rfl, pk_sub (by omega), show 10 * w + T p - 48 = 10 * w + (T p - 48) by omega]
/-- behind the figures -/
def nuK (a0 a1 : Int32) : Int32 → Int32 → Sg → Option (Int32 × Sg) := fun (x23 : Int32) (x24 : Int32) (g25 : Sg) => (
  gLet (fun (x27 : Int32) (g28 : Sg) => (
  gZ x27 (
  gLet (gUp g28 0 22 x27) (fun g29 =>
  if (g29 0 22) = 0 then (
  some (x23, g29))
  else (
  some ((0 : Int32), g29))))))
  (fun (K26 : Int32 → Sg → Option (Int32 × Sg)) =>
  gLet (fun  (g33 : Sg) => (
  K26 (1 : Int32) g33))
  (fun (K32 : Sg → Option (Int32 × Sg)) =>
  if (g25 0 22) = 0 then (
  if x24 = 0 then (
  K32  g25)
  else (
  if (2 : Int32) < x24 then (
  K32  g25)
  else (
  gCl (fX11_in g25 (x23.toInt64) (a0.toInt64) (a1.toInt64)) (fun r39 g38 =>
  if r39 = 0 then (
  K32  g38)
  else (
  K26 (0 : Int32) g38)))))
  else (
  K32  g25))))
theorem nuK_e (t : Sg) (a0 a1 : Int32) : fX11_number t a0 a1 = fX11_number_5 gN (0 : Int32) (0 : Int32) t (nuK a0 a1) := rfl
theorem nuK_ok {t : Sg} {lo hi w fg : Nat} (h22 : t 0 22 = 0) (hlo : lo < 1000) (hhi : hi < 1000) (hw : w < 100000) (h1 : 0 < fg) (h2 : fg ≤ 2) (h3 : lo ≤ w ∧ w ≤ hi) : nuK (nI lo) (nI hi) (nI w) (nI fg) t = some (nI w, setC t 0 (upd (t 0) 22 0)) := by
  unfold nuK
  simp only [gLet]
  rw [if_pos h22, if_neg (nI_ne0 h1 (by omega)), if_neg (by rw [show (2 : Int32) = nI 2 from rfl, nI_ltN (by omega) (by omega)]; omega), m_inI, gCl_s, bI_t ⟨(nI_leN (by omega) (by omega)).mpr h3.1, (nI_leN (by omega) (by omega)).mpr h3.2⟩, if_neg one_ne, gZ_0, gUp_c, setC_s, upd_s, if_pos rfl]
theorem nuK_no {t : Sg} {lo hi w fg : Nat} (h22 : t 0 22 = 0) (hlo : lo < 1000) (hhi : hi < 1000) (hw : w < 100000) (hf : fg ≤ 3) (h3 : ¬ (0 < fg ∧ fg ≤ 2 ∧ lo ≤ w ∧ w ≤ hi)) : nuK (nI lo) (nI hi) (nI w) (nI fg) t = some (0, setC t 0 (upd (t 0) 22 1)) := by
  have fin : gZ (1 : Int32) (if (gUp t 0 22 1) 0 22 = 0 then some (nI w, gUp t 0 22 1) else some ((0 : Int32), gUp t 0 22 1)) = some (0, setC t 0 (upd (t 0) 22 1)) := by
    rw [gZ_1, gUp_c, setC_s, upd_s, if_neg one_ne]
  unfold nuK
  simp only [gLet]
  rw [if_pos h22]
  by_cases z1 : fg = 0
  · rw [if_pos (by rw [z1]; rfl)]
    exact fin
  rw [if_neg (nI_ne0 (by omega) (by omega))]
  by_cases z2 : 2 < fg
  · rw [if_pos (by rw [show (2 : Int32) = nI 2 from rfl, nI_ltN (by omega) (by omega)]; omega)]
    exact fin
  rw [if_neg (by rw [show (2 : Int32) = nI 2 from rfl, nI_ltN (by omega) (by omega)]; omega), m_inI, gCl_s, bI_f (by rw [nI_leN (by omega) (by omega), nI_leN (by omega) (by omega)]; omega), if_pos rfl]
  exact fin
theorem m_number {t : Sg} {T : Nat → Nat} {L p lo hi : Nat} (ht : mtx t T L) (hp : t 0 20 = nI p) (hb : p < 1000) (h22 : t 0 22 = 0) (hlo : lo < 1000) (hhi : hi < 1000) :
    (∃ v q t', num T L p = some (v, q) ∧ lo ≤ v ∧ v ≤ hi ∧ fX11_number t (nI lo) (nI hi) = some (nI v, t') ∧ frR t t' ∧ t' 0 20 = nI q ∧ t' 0 22 = 0) ∨
    (∃ t', (∀ v q, num T L p = some (v, q) → ¬ (lo ≤ v ∧ v ≤ hi)) ∧ fX11_number t (nI lo) (nI hi) = some (0, t') ∧ frR t t' ∧ t' 0 22 = 1) := by
  have h200 := ht.1
  have hq : 8 ≤ gN := by unfold gN; omega
  rw [nuK_e]
  generalize gN = qN at hq ⊢
  rw [show (0 : Int32) = nI 0 from rfl]
  have fin : ∀ (w fg r : Nat) (t1 : Sg), w < 100000 → 0 < fg → fg ≤ 2 → frR t t1 → t1 0 22 = 0 → t1 0 20 = nI r → num T L p = some (w, r) → 
      (∃ v q t', num T L p = some (v, q) ∧ lo ≤ v ∧ v ≤ hi ∧ nuK (nI lo) (nI hi) (nI w) (nI fg) t1 = some (nI v, t') ∧ frR t t' ∧ t' 0 20 = nI q ∧ t' 0 22 = nI 0) ∨
      (∃ t', (∀ v q, num T L p = some (v, q) → ¬ (lo ≤ v ∧ v ≤ hi)) ∧ nuK (nI lo) (nI hi) (nI w) (nI fg) t1 = some (nI 0, t') ∧ frR t t' ∧ t' 0 22 = 1) := by
    intro w fg r t1 hw hf1 hf2 hfr h1 h2 hn
    by_cases z : lo ≤ w ∧ w ≤ hi
    · exact Or.inl ⟨w, r, _, hn, z.1, z.2, nuK_ok h1 hlo hhi hw hf1 hf2 z, frR_tr hfr frR_22, by rw [setC_s, upd_n (by decide)]; exact h2, by rw [setC_s, upd_s]; rfl⟩
    · refine Or.inr ⟨_, fun v q hv => ?_, nuK_no h1 hlo hhi hw (by omega) (by omega), frR_tr hfr frR_22, by rw [setC_s, upd_s]⟩
      rw [hn] at hv
      simp only [Option.some.injEq, Prod.mk.injEq] at hv
      rw [← hv.1]
      exact z
  match qN, hq with
  | n + 8, _ =>
    by_cases d1 : p < L ∧ 48 ≤ T p ∧ T p ≤ 57
    · have hl1 := (ht.2.2 p d1.1).2
      rw [show n + 8 = (n + 7) + 1 by omega, m_nuGo ht hp (by omega) d1 (by omega)]
      have ht1 : mtx (setC t 0 (upd (t 0) 20 (nI (p + 1)))) T L := frR_mtx frR_20 ht
      have hp1 : setC t 0 (upd (t 0) 20 (nI (p + 1))) 0 20 = nI (p + 1) := by rw [setC_s, upd_s]
      have hz1 : setC t 0 (upd (t 0) 20 (nI (p + 1))) 0 22 = 0 := by rw [setC_s, upd_n (by decide)]; exact h22
      have fr1 : frR t (setC t 0 (upd (t 0) 20 (nI (p + 1)))) := frR_20
      generalize setC t 0 (upd (t 0) 20 (nI (p + 1))) = t1 at ht1 hp1 hz1 fr1 ⊢
      by_cases d2 : p + 1 < L ∧ 48 ≤ T (p + 1) ∧ T (p + 1) ≤ 57
      · have hl2 := (ht.2.2 (p + 1) d2.1).2
        rw [show n + 7 = (n + 6) + 1 by omega, m_nuGo ht1 hp1 (by omega) d2 (by omega)]
        have ht2 : mtx (setC t1 0 (upd (t1 0) 20 (nI (p + 1 + 1)))) T L := frR_mtx frR_20 ht1
        have hp2 : setC t1 0 (upd (t1 0) 20 (nI (p + 1 + 1))) 0 20 = nI (p + 2) := by rw [setC_s, upd_s]
        have hz2 : setC t1 0 (upd (t1 0) 20 (nI (p + 1 + 1))) 0 22 = 0 := by rw [setC_s, upd_n (by decide)]; exact hz1
        have fr2 : frR t (setC t1 0 (upd (t1 0) 20 (nI (p + 1 + 1)))) := frR_tr fr1 frR_20
        generalize setC t1 0 (upd (t1 0) 20 (nI (p + 1 + 1))) = t2 at ht2 hp2 hz2 fr2 ⊢
        by_cases d3 : p + 2 < L ∧ 48 ≤ T (p + 2) ∧ T (p + 2) ≤ 57
        · have hl3 := (ht.2.2 (p + 2) d3.1).2
          rw [show n + 6 = (n + 5) + 1 by omega, m_nuGo ht2 hp2 (by omega) d3 (by omega)]
          have ht3 : mtx (setC t2 0 (upd (t2 0) 20 (nI (p + 2 + 1)))) T L := frR_mtx frR_20 ht2
          have hp3 : setC t2 0 (upd (t2 0) 20 (nI (p + 2 + 1))) 0 20 = nI (p + 3) := by rw [setC_s, upd_s]
          have hz3 : setC t2 0 (upd (t2 0) 20 (nI (p + 2 + 1))) 0 22 = 0 := by rw [setC_s, upd_n (by decide)]; exact hz2
          have fr3 : frR t (setC t2 0 (upd (t2 0) 20 (nI (p + 2 + 1)))) := frR_tr fr2 frR_20
          generalize setC t2 0 (upd (t2 0) 20 (nI (p + 2 + 1))) = t3 at ht3 hp3 hz3 fr3 ⊢
          rw [show n + 5 = (n + 4) + 1 by omega, m_nuStop ht3 hp3 (by omega) (by omega) (by omega)]
          refine Or.inr ⟨_, fun v q hv => ?_, nuK_no hz3 hlo hhi (by omega) (by omega) (by omega), frR_tr fr3 frR_22, by rw [setC_s, upd_s]⟩
          exfalso
          unfold num at hv
          rw [if_pos d1, if_pos d2, if_pos d3] at hv
          exact absurd hv (by simp)
        · rw [show n + 6 = (n + 5) + 1 by omega, m_nuStop ht2 hp2 (by omega) (by omega) (fun h => d3 h.1)]
          refine fin _ _ (p + 2) t2 (by omega) (by omega) (by omega) fr2 hz2 hp2 ?_
          unfold num
          rw [if_pos d1, if_pos d2, if_neg d3, show 10 * (10 * 0 + (T p - 48)) + (T (p + 1) - 48) = 10 * (T p - 48) + (T (p + 1) - 48) by omega]
      · rw [show n + 7 = (n + 6) + 1 by omega, m_nuStop ht1 hp1 (by omega) (by omega) (fun h => d2 h.1)]
        refine fin _ _ (p + 1) t1 (by omega) (by omega) (by omega) fr1 hz1 hp1 ?_
        unfold num
        rw [if_pos d1, if_neg d2, show 10 * 0 + (T p - 48) = T p - 48 by omega]
    · rw [show n + 8 = (n + 7) + 1 by omega, m_nuStop ht hp (by omega) (by omega) (fun h => d1 h.1)]
      refine Or.inr ⟨_, fun v q hv => ?_, nuK_no h22 hlo hhi (by omega) (by omega) (by omega), frR_22, by rw [setC_s, upd_s]⟩
      exfalso
      unfold num at hv
      rw [if_neg d1] at hv
      exact absurd hv (by simp)
/-- the numbers of an item, as far as they are read: the last one is the i-th, it ends ahead of r -/
def chn (T : Nat → Nat) (L : Nat) (Q : Ql) (c : Nat) (A : Option (Ql × Nat)) (q i : Nat) (F : Nat → Nat) (r : Nat) : Prop := ∃ p v f, num T L p = some (v, r) ∧ F = updN f i v ∧ A = tlQ Q c (sc T L (q + 1) i p f)
theorem chn_r {T : Nat → Nat} {L : Nat} {Q : Ql} {c : Nat} {A : Option (Ql × Nat)} {q i : Nat} {F : Nat → Nat} {r : Nat} (h : chn T L Q c A q i F r) : r ≤ L := by
  obtain ⟨p, v, f, h1, -⟩ := h
  exact (num_lt h1).2.1
theorem chn_end {T : Nat → Nat} {L : Nat} {Q : Ql} {c : Nat} {A : Option (Ql × Nat)} {q i : Nat} {F : Nat → Nat} {r : Nat} (h : chn T L Q c A q i F r) (h59 : r < L ∧ T r = 59) : A = tlQ Q c (some (i + 1, F, r)) := by
  obtain ⟨p, v, f, h1, rfl, rfl⟩ := h
  exact ch_end q h1 h59
theorem chn_bad {T : Nat → Nat} {L : Nat} {Q : Ql} {c : Nat} {A : Option (Ql × Nat)} {q i : Nat} {F : Nat → Nat} {r : Nat} (h : chn T L Q c A q i F r) (h59 : ¬ (r < L ∧ T r = 59)) (hi : i + 1 = rn c) : A = none := by
  obtain ⟨p, v, f, h1, rfl, rfl⟩ := h
  exact ch_bad q h1 h59 hi
theorem ch_nb {T : Nat → Nat} {L : Nat} {Q : Ql} {c i p : Nat} {f : Nat → Nat} (q : Nat) (h : ∀ v r, num T L p = some (v, r) → ¬ (rlo c i ≤ v ∧ v ≤ rhi Q c i)) : tlQ Q c (sc T L (q + 1) i p f) = none := by
  cases hn : num T L p with
  | none => exact ch_none q hn
  | some u => exact ch_out q hn (h u.1 u.2 hn)
/-- how the reference stands within an item: all as it should be, or a fault found -/
def sT (T : Nat → Nat) (L : Nat) (Q : Ql) (c : Nat) (R : Prop) (A : Option (Ql × Nat)) (q i : Nat) (F : Nat → Nat) (r : Nat) (t : Sg) : Prop := (R ∧ chn T L Q c A q i F r ∧ t 0 20 = nI r ∧ t 0 22 = 0) ∨ (A = none ∧ t 0 22 = 1)
theorem m_numG {T : Nat → Nat} {L : Nat} {Q : Ql} {c : Nat} {A : Option (Ql × Nat)} {q p lo hi : Nat} {f : Nat → Nat} {t : Sg} (ht : mtx t T L) (hp : t 0 20 = nI p) (hb : p < 1000) (h22 : t 0 22 = 0) (hA : A = tlQ Q c (sc T L (q + 1) 0 p f)) (hlo : lo = rlo c 0) (hhi : hi = rhi Q c 0) (l1 : lo < 1000) (l2 : hi < 1000) :
    ∃ v r t', fX11_number t (nI lo) (nI hi) = some (nI v, t') ∧ frR t t' ∧ v ≤ hi ∧ sT T L Q c (lo ≤ v ∧ v ≤ hi) A q 0 (updN f 0 v) r t' := by
  rcases m_number ht hp hb h22 l1 l2 with ⟨v, r, t', a1, a2, a3, a4, a5, a6, a7⟩ | ⟨t', a1, a2, a3, a4⟩
  · exact ⟨v, r, t', a4, a5, a3, Or.inl ⟨⟨a2, a3⟩, ⟨p, v, f, a1, rfl, hA⟩, a6, a7⟩⟩
  · refine ⟨0, 0, t', a2, a3, Nat.zero_le _, Or.inr ⟨?_, a4⟩⟩
    rw [hA]
    exact ch_nb q (fun v r hv => by rw [← hlo, ← hhi]; exact a1 v r hv)
/-- 'more', where a fault was found -/
theorem m_moreW {t : Sg} (h : t 0 22 = 1) (a b : Int32) : ∃ t', fX11_more t a b = some (0, t') ∧ frR t t' ∧ t' 0 22 = 1 := by
  unfold fX11_more
  simp only [gLet]
  rw [if_neg (by rw [h]; exact one_ne), gZ_1]
  simp only [gUp_c, setC_s, setC_2]
  rw [if_neg (by rw [upd_n (by decide), upd_s]; exact one_ne)]
  exact ⟨_, rfl, ⟨fun k hk => setC_n hk, fun j h1 h2 => by rw [setC_s, upd_n h1, upd_n h2]⟩, by rw [setC_s, upd_n (by decide), upd_s]⟩
theorem m_moreG {T : Nat → Nat} {L : Nat} {Q : Ql} {c : Nat} {R : Prop} {A : Option (Ql × Nat)} {q i lo hi r : Nat} {F : Nat → Nat} {t : Sg} (ht : mtx t T L) (st : sT T L Q c R A (q + 1) i F r t) (hi1 : i + 1 ≠ rn c) (hlo : lo = rlo c (i + 1)) (hhi : hi = rhi Q c (i + 1)) (l1 : lo < 1000) (l2 : hi < 1000) :
    ∃ v r' t', fX11_more t (nI lo) (nI hi) = some (nI v, t') ∧ frR t t' ∧ v ≤ hi ∧ sT T L Q c (R ∧ lo ≤ v ∧ v ≤ hi) A q (i + 1) (updN F (i + 1) v) r' t' := by
  have h200 := ht.1
  rcases st with ⟨hR, hc, h20, h22⟩ | ⟨hA, h22⟩
  · have hr := chn_r hc
    obtain ⟨p, v, f, c1, c2, c3⟩ := hc
    unfold fX11_more
    simp only [gLet]
    rw [if_pos h22, m_next ht h20 (by omega), gCl_s]
    by_cases h44 : r < L ∧ T r = 44
    · rw [if_pos h44.1, if_pos (by rw [h44.2]; rfl), gZ_0]
      simp only [gUp_c, setC_s, setC_2]
      rw [if_pos (by rw [upd_n (by decide), upd_s]), upd_n (show 20 ≠ 22 by decide), h20, nI_1]
      have fr : frR t (setC t 0 (upd (upd (t 0) 22 0) 20 (nI (r + 1)))) := ⟨fun k hk => setC_n hk, fun j h1 h2 => by rw [setC_s, upd_n h1, upd_n h2]⟩
      rcases m_number (frR_mtx fr ht) (p := r + 1) (by rw [setC_s, upd_s]) (by omega) (by rw [setC_s, upd_n (by decide), upd_s]) l1 l2 with ⟨v', r', t', a1, a2, a3, a4, a5, a6, a7⟩ | ⟨t', a1, a2, a3, a4⟩
      · rw [a4, gCl_s]
        refine ⟨v', r', t', rfl, frR_tr fr a5, a3, Or.inl ⟨⟨hR, a2, a3⟩, ⟨r + 1, v', F, a1, rfl, ?_⟩, a6, a7⟩⟩
        rw [c3, ch_on (q + 1) c1 h44, c2]
      · rw [a2, gCl_s]
        refine ⟨0, 0, t', rfl, frR_tr fr a3, Nat.zero_le _, Or.inr ⟨?_, a4⟩⟩
        rw [c3, ch_on (q + 1) c1 h44]
        exact ch_nb q (fun v r hv => by rw [← hlo, ← hhi]; exact a1 v r hv)
    · have hne : ¬ ((if r < L then nI (T r) else (-1 : Int32)) = 44) := by
        by_cases z : r < L
        · have := (ht.2.2 r z).2
          rw [if_pos z, show (44 : Int32) = nI 44 from rfl, nI_inj (by omega) (by omega)]
          exact fun e => h44 ⟨z, e⟩
        · rw [if_neg z]
          decide
      rw [if_neg hne, gZ_1]
      simp only [gUp_c, setC_s, setC_2]
      rw [if_neg (by rw [upd_n (by decide), upd_s]; exact one_ne)]
      refine ⟨0, 0, _, rfl, ⟨fun k hk => setC_n hk, fun j h1 h2 => by rw [setC_s, upd_n h1, upd_n h2]⟩, Nat.zero_le _, Or.inr ⟨?_, by rw [setC_s, upd_n (by decide), upd_s]⟩⟩
      rw [c3]
      exact ch_off (q + 1) c1 h44 hi1
  · obtain ⟨t', a1, a2, a3⟩ := m_moreW h22 (nI lo) (nI hi)
    exact ⟨0, 0, t', a1, a2, Nat.zero_le _, Or.inr ⟨hA, a3⟩⟩
