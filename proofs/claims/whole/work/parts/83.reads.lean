/-! ===== the reference reads a text: from its first item to its fault ===== -/
def zN (f : Nat → Int32) (n : Nat) : Nat → Int32 := fun j => if 308 ≤ j ∧ j < 308 + n then 0 else f j
theorem m_clLp : ∀ (d i n : Nat) (t : Sg), i + d = 28 → d < n → fX11_clears_18 n (nI i) (setC t 10 (zN (t 10) i)) = some (setC t 10 (zN (t 10) 28)) := by
  intro d
  induction d with
  | zero =>
    intro i n t hi hn
    match n, hn with
    | n + 1, _ =>
      rw [fX11_clears_18, show (28 : Int32) = nI 28 from rfl, if_pos ((nI_leN (by omega) (by omega)).mpr (by omega)), show i = 28 by omega]
  | succ d ih =>
    intro i n t hi hn
    match n, hn with
    | n + 1, hn =>
      rw [fX11_clears_18, show (28 : Int32) = nI 28 from rfl, if_neg (by rw [nI_leN (by omega) (by omega)]; omega), show (308 : Int32) = nI 308 from rfl, nI_add, gWr_n (by omega) (by decide), setC_2, setC_s]
      simp only [gLet, nI_1]
      have e : upd (zN (t 10) i) (308 + i) 0 = zN (t 10) (i + 1) := by
        funext j
        unfold upd zN
        by_cases h : j = 308 + i
        · rw [if_pos h, if_pos (by omega)]
        · rw [if_neg h]
          by_cases h2 : 308 ≤ j ∧ j < 308 + i
          · rw [if_pos h2, if_pos (by omega)]
          · rw [if_neg h2, if_neg (by omega)]
      rw [e]
      exact ih (i + 1) n t (by omega) (by omega)
theorem m_clears {T : Nat → Nat} {L : Nat} {t : Sg} (ht : mtx t T L) : ∃ t', fX11_clears t = some t' ∧ frM t t' ∧ mPI Q0 t' ∧ mtx t' T L := by
  unfold fX11_clears
  have hq : 40 ≤ gN := by unfold gN; omega
  generalize gN = qN at hq ⊢
  have e0 : gUp (gUp (gUp t 0 8 5) 0 9 20) 0 10 0 = setC t 0 (upd (upd (upd (t 0) 8 5) 9 20) 10 0) := by
    rw [gUp_c, gUp_c, gUp_c, setC_2, setC_2, setC_s, setC_s]
  rw [gLet_s, gLet_s, gLet_s, e0]
  have lp := m_clLp 28 0 qN (setC t 0 (upd (upd (upd (t 0) 8 5) 9 20) 10 0)) (by omega) (by omega)
  have z0 : ∀ f : Nat → Int32, zN f 0 = f := fun f => by
    funext j
    unfold zN
    rw [if_neg (by omega)]
  rw [z0, setC_id] at lp
  rw [show (0 : Int32) = nI 0 from rfl] at lp ⊢
  rw [lp]
  have fr : frM t (setC (setC t 0 (upd (upd (upd (t 0) 8 5) 9 20) 10 (nI 0))) 10 (zN (setC t 0 (upd (upd (upd (t 0) 8 5) 9 20) 10 (nI 0)) 10) 28)) := by
    refine ⟨fun k hk => by rw [setC_n (by omega), setC_n (by omega)], fun j hj => ?_, fun j hj => by rw [setC_n (by decide), setC_s, upd_n (by omega), upd_n (by omega), upd_n (by omega)]⟩
    rw [setC_s]
    unfold zN
    rw [if_neg (by omega), setC_n (by decide)]
  have zz : ∀ (f : Nat → Int32) j, 308 ≤ j → j < 336 → zN f 28 j = 0 := fun f j h1 h2 => by
    unfold zN
    rw [if_pos (by omega)]
  have q00 : Q0 0 0 = 5 := rfl
  have q01 : Q0 0 1 = 20 := rfl
  have q02 : Q0 0 2 = 0 := rfl
  have q5 : ∀ y, Q0 5 y = 0 := fun _ => rfl
  have q6 : ∀ y, Q0 6 y = 0 := fun _ => rfl
  have q7 : ∀ y, Q0 7 y = 0 := fun _ => rfl
  refine ⟨_, rfl, fr, ⟨?_, ?_, ?_, fun y hy => absurd hy (by rw [q02]; omega), fun y hy => ?_, ?_, fun x hx => ?_, ?_⟩, frM_mtx fr ht⟩
  · rw [setC_n (by decide), setC_s, upd_n (by decide), upd_n (by decide), upd_s, q00, show (5 : Int32) = nI 5 from rfl]
  · rw [setC_n (by decide), setC_s, upd_n (by decide), upd_s, q01, show (20 : Int32) = nI 20 from rfl]
  · rw [setC_n (by decide), setC_s, upd_s, q02]
  · rw [setC_s, zz _ _ (by omega) (by omega), q5, show (0 : Int32) = nI 0 from rfl]
  · rw [setC_s, zz _ _ (by omega) (by omega)]
  · rw [setC_s, zz _ _ (by omega) (by omega), zz _ _ (by omega) (by omega), q6, q7, show (0 : Int32) = nI 0 from rfl]
    exact ⟨rfl, rfl⟩
  · rw [setC_s, zz _ _ (by omega) (by omega)]
theorem frM_q {t t' : Sg} (h : frM t t') : mQ t t' := ⟨fun k hk => h.1 k (by omega), h.2.1, fun j hj => h.2.2 j (by omega)⟩
theorem mQ_0 {t : Sg} {j : Nat} {v : Int32} (h : 19 ≤ j ∧ j ≤ 22) : mQ t (setC t 0 (upd (t 0) j v)) := ⟨fun k hk => setC_n (by omega), fun i _ => by rw [setC_n (by decide)], fun i hi => by rw [setC_s, upd_n (by omega)]⟩
theorem mQ_mtx {t t' : Sg} {T : Nat → Nat} {L : Nat} (h : mQ t t') (ht : mtx t T L) : mtx t' T L := by
  unfold mtx
  rw [h.2.2 18 (by decide), h.1 11 (by decide)]
  exact ht
theorem mPI_0 {Q : Ql} {t : Sg} {j : Nat} {v : Int32} (h : 19 ≤ j) (hI : mPI Q t) : mPI Q (setC t 0 (upd (t 0) j v)) := by
  unfold mPI
  rw [setC_s, upd_n (show 8 ≠ j by omega), upd_n (show 9 ≠ j by omega), upd_n (show 10 ≠ j by omega), setC_n (show 6 ≠ 0 by decide), setC_n (show 7 ≠ 0 by decide), setC_n (show 8 ≠ 0 by decide), setC_n (show 9 ≠ 0 by decide), setC_n (show 10 ≠ 0 by decide)]
  exact hI
/-- the loop stops where a fault was found -/
theorem m_rdW {n : Nat} {x : Int32} {t : Sg} (h : t 0 22 = 1) (K : Sg → Option (Int32 × Sg)) : fX11_reads_16 (n + 1) x t K = K t := by
  rw [fX11_reads_16]
  by_cases z : t 0 18 ≤ t 0 20
  · rw [if_pos z]
  · rw [if_neg z, if_neg (by rw [h]; exact one_ne)]
theorem m_rdsLp {T : Nat → Nat} {L : Nat} (K : Sg → Option (Int32 × Sg)) : ∀ (m : Nat) (Q : Ql) (b n : Nat) (t : Sg), L - b < m → b ≤ L → L - b < n → mtx t T L → t 0 20 = nI b → t 0 22 = 0 → mPI Q t → qOk Q →
    (∃ e t', prs T L m Q b = some (.inl e) ∧ fX11_reads_16 n (nI (Q 0 3)) t K = K t' ∧ mQ t t' ∧ t' 0 22 = 1 ∧ t' 0 21 = nI e) ∨ ∃ Q' t', prs T L m Q b = some (.inr Q') ∧ qOk Q' ∧ fX11_reads_16 n (nI (Q 0 3)) t K = K t' ∧ mQ t t' ∧ t' 0 22 = 0 ∧ mPI Q' t' := by
  intro m
  induction m with
  | zero => intro Q b n t h; omega
  | succ m ih =>
    intro Q b n t hm hb hn ht h20 h22 hI hQ
    have h200 := ht.1
    have h31 := hQ.2.2.2.2.2.1
    rw [prs]
    match n, hn with
    | n + 1, hn =>
      by_cases e : L ≤ b
      · right
        rw [if_pos e, fX11_reads_16, ht.2.1, h20, if_pos ((nI_leN (by omega) (by omega)).mpr e)]
        exact ⟨Q, t, rfl, hQ, rfl, mQ_rf, h22, hI⟩
      · rw [if_neg e, fX11_reads_16, ht.2.1, h20, if_neg (by rw [nI_leN (by omega) (by omega)]; omega), if_pos h22]
        simp only [gLet, gUp_c]
        have ht1 : mtx (setC t 0 (upd (t 0) 21 (nI b))) T L := mQ_mtx (mQ_0 (by omega)) ht
        have h1 : setC t 0 (upd (t 0) 21 (nI b)) 0 20 = nI b := by rw [setC_s, upd_n (by decide)]; exact h20
        have h2 : setC t 0 (upd (t 0) 21 (nI b)) 0 22 = 0 := by rw [setC_s, upd_n (by decide)]; exact h22
        have h3 : setC t 0 (upd (t 0) 21 (nI b)) 0 21 = nI b := by rw [setC_s, upd_s]
        have hI1 : mPI Q (setC t 0 (upd (t 0) 21 (nI b))) := mPI_0 (by omega) hI
        have q1 : mQ t (setC t 0 (upd (t 0) 21 (nI b))) := mQ_0 (by omega)
        generalize setC t 0 (upd (t 0) 21 (nI b)) = t1 at ht1 h1 h2 h3 hI1 q1 ⊢
        rw [m_next ht1 h1 (by omega), gCl_s, if_pos (show b < L by omega), h1, nI_1]
        have ht2 : mtx (setC t1 0 (upd (t1 0) 20 (nI (b + 1)))) T L := mQ_mtx (mQ_0 (by omega)) ht1
        have g1 : setC t1 0 (upd (t1 0) 20 (nI (b + 1))) 0 20 = nI (b + 1) := by rw [setC_s, upd_s]
        have g2 : setC t1 0 (upd (t1 0) 20 (nI (b + 1))) 0 22 = 0 := by rw [setC_s, upd_n (by decide)]; exact h2
        have g3 : setC t1 0 (upd (t1 0) 20 (nI (b + 1))) 0 21 = nI b := by rw [setC_s, upd_n (by decide)]; exact h3
        have hI2 : mPI Q (setC t1 0 (upd (t1 0) 20 (nI (b + 1)))) := mPI_0 (by omega) hI1
        have q2 : mQ t (setC t1 0 (upd (t1 0) 20 (nI (b + 1)))) := mQ_tr q1 (mQ_0 (by omega))
        generalize setC t1 0 (upd (t1 0) 20 (nI (b + 1))) = t2 at ht2 g1 g2 g3 hI2 q2 ⊢
        obtain ⟨r, t3, a1, a2, a3⟩ := m_item (b := b) hQ ht2 (by omega) g1 g2 hI2
        rw [a1, gCl_s]
        have q3 := mQ_tr q2 (frM_q a2)
        have ht3 := frM_mtx a2 ht2
        have k21 : t3 0 21 = nI b := by rw [a2.2.2 21 (by decide)]; exact g3
        have fin : ∀ x : Int32, x = nI (if r = 0 then (0 : Nat) else Q 0 3) →
            (∃ e t', (match itm T L Q b with | none => some (.inl b) | some (Q', b') => prs T L m Q' b') = some (.inl e) ∧ (if t3 0 22 = 0 then gCl (fX11_next t3) (fun r32 g31 => if r32 = (59 : Int32) then gZ (0 : Int32) (fX11_reads_16 n x (setC (setC g31 0 (upd (g31 0) 22 0)) 0 (upd (setC g31 0 (upd (g31 0) 22 0) 0) 20 (setC g31 0 (upd (g31 0) 22 0) 0 20 + 1))) K) else gZ (1 : Int32) (fX11_reads_16 n x (setC (setC g31 0 (upd (g31 0) 22 1)) 0 (upd (setC g31 0 (upd (g31 0) 22 1) 0) 20 (setC g31 0 (upd (g31 0) 22 1) 0 20 + 1))) K)) else gZ (1 : Int32) (fX11_reads_16 n x (setC (setC t3 0 (upd (t3 0) 22 1)) 0 (upd (setC t3 0 (upd (t3 0) 22 1) 0) 20 (setC t3 0 (upd (t3 0) 22 1) 0 20 + 1))) K)) = K t' ∧ mQ t t' ∧ t' 0 22 = 1 ∧ t' 0 21 = nI e) ∨ ∃ Q' t', (match itm T L Q b with | none => some (.inl b) | some (Q', b') => prs T L m Q' b') = some (.inr Q') ∧ qOk Q' ∧ (if t3 0 22 = 0 then gCl (fX11_next t3) (fun r32 g31 => if r32 = (59 : Int32) then gZ (0 : Int32) (fX11_reads_16 n x (setC (setC g31 0 (upd (g31 0) 22 0)) 0 (upd (setC g31 0 (upd (g31 0) 22 0) 0) 20 (setC g31 0 (upd (g31 0) 22 0) 0 20 + 1))) K) else gZ (1 : Int32) (fX11_reads_16 n x (setC (setC g31 0 (upd (g31 0) 22 1)) 0 (upd (setC g31 0 (upd (g31 0) 22 1) 0) 20 (setC g31 0 (upd (g31 0) 22 1) 0 20 + 1))) K)) else gZ (1 : Int32) (fX11_reads_16 n x (setC (setC t3 0 (upd (t3 0) 22 1)) 0 (upd (setC t3 0 (upd (t3 0) 22 1) 0) 20 (setC t3 0 (upd (t3 0) 22 1) 0 20 + 1))) K)) = K t' ∧ mQ t t' ∧ t' 0 22 = 0 ∧ mPI Q' t' := by
          intro x hx
          match n, hn with
          | n + 1, hn =>
            have bad : ∀ v : Int32, itm T L Q b = none → ∃ t', gZ (1 : Int32) (fX11_reads_16 (n + 1) x (setC (setC t3 0 (upd (t3 0) 22 1)) 0 (upd (setC t3 0 (upd (t3 0) 22 1) 0) 20 v)) K) = K t' ∧ mQ t t' ∧ t' 0 22 = 1 ∧ t' 0 21 = nI b := by
              intro v _
              rw [gZ_1, m_rdW (by rw [setC_s, upd_n (by decide), setC_s, upd_s])]
              exact ⟨_, rfl, mQ_tr q3 (mQ_tr (mQ_0 (by omega)) (mQ_0 (by omega))), by rw [setC_s, upd_n (by decide), setC_s, upd_s], by rw [setC_s, upd_n (by decide), setC_s, upd_n (by decide)]; exact k21⟩
            rcases a3 with ⟨e', Q', i1, i2, i3, i4, i5, i6, i7⟩ | ⟨i1, i2⟩
            · rw [if_pos i3, m_next ht3 i2 (by omega), gCl_s]
              by_cases z : e' < L ∧ T e' = 59
              · obtain ⟨y1, y2, y3⟩ := itm_s hQ (i6 z)
                rw [i6 z]
                dsimp only
                rw [if_pos z.1, if_pos (by rw [z.2]; rfl), gZ_0]
                have j1 : setC (setC t3 0 (upd (t3 0) 22 0)) 0 (upd (setC t3 0 (upd (t3 0) 22 0) 0) 20 (setC t3 0 (upd (t3 0) 22 0) 0 20 + 1)) 0 20 = nI (e' + 1) := by rw [setC_s, upd_s, setC_s, upd_n (by decide), i2, nI_1]
                have j2 : setC (setC t3 0 (upd (t3 0) 22 0)) 0 (upd (setC t3 0 (upd (t3 0) 22 0) 0) 20 (setC t3 0 (upd (t3 0) 22 0) 0 20 + 1)) 0 22 = 0 := by rw [setC_s, upd_n (by decide), setC_s, upd_s]
                have j3 : mPI Q' (setC (setC t3 0 (upd (t3 0) 22 0)) 0 (upd (setC t3 0 (upd (t3 0) 22 0) 0) 20 (setC t3 0 (upd (t3 0) 22 0) 0 20 + 1))) := mPI_0 (by omega) (mPI_0 (by omega) i4)
                have j4 : mQ t (setC (setC t3 0 (upd (t3 0) 22 0)) 0 (upd (setC t3 0 (upd (t3 0) 22 0) 0) 20 (setC t3 0 (upd (t3 0) 22 0) 0 20 + 1))) := mQ_tr q3 (mQ_tr (mQ_0 (by omega)) (mQ_0 (by omega)))
                generalize setC (setC t3 0 (upd (t3 0) 22 0)) 0 (upd (setC t3 0 (upd (t3 0) 22 0) 0) 20 (setC t3 0 (upd (t3 0) 22 0) 0 20 + 1)) = t4 at j1 j2 j3 j4 ⊢
                have ht4 := mQ_mtx j4 ht
                rw [hx, i5]
                rcases ih Q' (e' + 1) (n + 1) t4 (by omega) (by omega) (by omega) ht4 j1 j2 j3 y1 with ⟨e2, t5, o1, o2, o3, o4, o5⟩ | ⟨Q2, t5, o1, o2, o3, o4, o5, o6⟩
                · exact Or.inl ⟨e2, t5, o1, o2, mQ_tr j4 o3, o4, o5⟩
                · exact Or.inr ⟨Q2, t5, o1, o2, o3, mQ_tr j4 o4, o5, o6⟩
              · left
                have hne : ¬ ((if e' < L then nI (T e') else (-1 : Int32)) = 59) := by
                  by_cases y : e' < L
                  · have := (ht.2.2 e' y).2
                    rw [if_pos y, show (59 : Int32) = nI 59 from rfl, nI_inj (by omega) (by omega)]
                    exact fun h => z ⟨y, h⟩
                  · rw [if_neg y]
                    decide
                obtain ⟨t', o1, o2, o3, o4⟩ := bad (setC t3 0 (upd (t3 0) 22 1) 0 20 + 1) (i7 z)
                rw [i7 z, if_neg hne]
                exact ⟨b, t', rfl, o1, o2, o3, o4⟩
            · left
              obtain ⟨t', o1, o2, o3, o4⟩ := bad (setC t3 0 (upd (t3 0) 22 1) 0 20 + 1) i2
              rw [if_neg (by rw [i1]; exact one_ne), i2]
              exact ⟨b, t', rfl, o1, o2, o3, o4⟩
          | 0, hn => omega
        by_cases zr : r = 0
        · rw [if_pos zr]
          exact fin _ (by rw [if_pos zr]; rfl)
        · rw [if_neg zr]
          by_cases z3 : Q 0 3 = 0
          · rw [if_pos (by rw [z3]; rfl)]
            exact fin _ (by rw [if_neg zr, z3]; rfl)
          · rw [if_neg (nI_ne0 (by omega) (by omega))]
            exact fin _ (by rw [if_neg zr, show Q 0 3 = 1 by omega]; rfl)
theorem m_reads {T : Nat → Nat} {L : Nat} {t : Sg} (ht : mtx t T L) : (∃ e t', prs T L (L + 1) Q0 0 = some (.inl e) ∧ fX11_reads t = some (0, t') ∧ mQ t t' ∧ t' 0 21 = nI e) ∨ ∃ Q' t', prs T L (L + 1) Q0 0 = some (.inr Q') ∧ qOk Q' ∧ fX11_reads t = some (1, t') ∧ mQ t t' ∧ mPI Q' t' := by
  have h200 := ht.1
  obtain ⟨t1, a1, a2, a3, a4⟩ := m_clears ht
  unfold fX11_reads
  rw [a1, gCv_s]
  simp only [gLet, gUp_c]
  have q1 : mQ t (setC (setC t1 0 (upd (t1 0) 20 0)) 0 (upd (setC t1 0 (upd (t1 0) 20 0) 0) 22 0)) := mQ_tr (frM_q a2) (mQ_tr (mQ_0 (by omega)) (mQ_0 (by omega)))
  have h1 : setC (setC t1 0 (upd (t1 0) 20 0)) 0 (upd (setC t1 0 (upd (t1 0) 20 0) 0) 22 0) 0 20 = nI 0 := by rw [setC_s, upd_n (by decide), setC_s, upd_s]; rfl
  have h2 : setC (setC t1 0 (upd (t1 0) 20 0)) 0 (upd (setC t1 0 (upd (t1 0) 20 0) 0) 22 0) 0 22 = 0 := by rw [setC_s, upd_s]
  have h3 : mPI Q0 (setC (setC t1 0 (upd (t1 0) 20 0)) 0 (upd (setC t1 0 (upd (t1 0) 20 0) 0) 22 0)) := mPI_0 (by omega) (mPI_0 (by omega) a3)
  generalize setC (setC t1 0 (upd (t1 0) 20 0)) 0 (upd (setC t1 0 (upd (t1 0) 20 0) 0) 22 0) = t2 at q1 h1 h2 h3 ⊢
  have lp := fun K => m_rdsLp (T := T) (L := L) K (L + 1) Q0 0 gN t2 (by omega) (by omega) (by unfold gN; omega) (mQ_mtx q1 ht) h1 h2 h3 qOk_0
  rcases lp (fun (g40 : Sg) => if (g40 0 22) = 0 then some ((1 : Int32), g40) else some ((0 : Int32), g40)) with ⟨e, t', o1, o2, o3, o4, o5⟩ | ⟨Q', t', o1, o2, o3, o4, o5, o6⟩
  · refine Or.inl ⟨e, t', o1, ?_, mQ_tr q1 o3, o5⟩
    have o2' : fX11_reads_16 gN (1 : Int32) t2 (fun (g40 : Sg) => if (g40 0 22) = 0 then some ((1 : Int32), g40) else some ((0 : Int32), g40)) = _ := o2
    rw [o2']
    rw [if_neg (by rw [o4]; exact one_ne)]
  · refine Or.inr ⟨Q', t', o1, o2, ?_, mQ_tr q1 o4, o6⟩
    have o3' : fX11_reads_16 gN (1 : Int32) t2 (fun (g40 : Sg) => if (g40 0 22) = 0 then some ((1 : Int32), g40) else some ((0 : Int32), g40)) = _ := o3
    rw [o3']
    rw [if_pos o5]
/-! ===== fault ===== -/
theorem frP_14 {g g' : Sg} (h : frP 14 g g') : fQ g g' := ⟨fun k hk => h k (fun e => hk (by unfold scC; omega)) (by unfold scC at hk; omega), by rw [h 148 (by decide) (by omega)], by rw [h 149 (by decide) (by omega)]⟩
theorem tx_T {g t : Sg} (h : txOk g t) : ∃ (T : Nat → Nat) (L : Nat), txt g T L ∧ mtx t T L := by
  obtain ⟨L, h1, h2, h3, h4⟩ := h
  have e : ∀ i, i < L → g 2 i = nI (g 2 i).toInt.toNat := fun i hi => by
    have := (h4 i hi).2
    unfold rg at this
    exact nI_tI (by omega)
  refine ⟨fun i => (g 2 i).toInt.toNat, L, ⟨h1, h2, fun i hi => ⟨e i hi, ?_⟩⟩, ⟨h1, h3, fun i hi => ⟨by rw [← (h4 i hi).1]; exact e i hi, ?_⟩⟩⟩
  · have := (h4 i hi).2
    unfold rg at this
    dsimp only
    omega
  · have := (h4 i hi).2
    unfold rg at this
    dsimp only
    omega
theorem al_fault {P : Pl} {h : Int32} {S : Sd} {u : Nat} {U : Nat → Sd} {v : Nat} {V : Nat → Sd} {g t : Sg} (R : Rl P h S u U v V g t) : alike (fX10_fault g) (fX11_fault t) := by
  have R' := R
  obtain ⟨-, -, -, -, -, -, -, htx, -⟩ := R
  obtain ⟨T, L, h1, h2⟩ := tx_T htx
  unfold fX10_fault fX11_fault
  rcases m_reads h2 with ⟨e, t', a1, a2, a3, a4⟩ | ⟨Q', t', a1, a2, a3, a4, a5⟩
  · rcases f_readInto (p0 := 14) rfl (by omega) h1 with ⟨e', b0, b1, g', b2, b3⟩ | ⟨Q2, g', b1, b2, b3, b4, b5⟩
    · rw [a1] at b1
      simp only [Option.some.injEq, Sum.inl.injEq] at b1
      rw [a2, b2, gCl_s, gCl_s, if_pos rfl, a4, b1]
      exact alike_q R' rfl rfl (frP_14 b3) a3
    · rw [a1] at b1
      exact absurd b1 (by simp)
  · rcases f_readInto (p0 := 14) rfl (by omega) h1 with ⟨e', b0, b1, g', b2, b3⟩ | ⟨Q2, g', b1, b2, b3, b4, b5⟩
    · rw [a1] at b1
      exact absurd b1 (by simp)
    · rw [a3, b3, gCl_s, gCl_s, if_neg one_ne]
      exact alike_q R' rfl rfl (frP_14 b5) a4
