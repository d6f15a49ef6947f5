/-! ===== the class reads a text: items ===== -/
theorem txt_3 {g g' : Sg} {T : Nat → Nat} {L : Nat} (h : ∀ j, j ≠ 3 → g' j = g j) (ht : txt g T L) : txt g' T L := txt_eq (h 1 (by decide)) (h 2 (by decide)) ht
/-- a number read -/
theorem f_num {p0 b k p v r L : Nat} {T : Nat → Nat} {g : Sg} (ht : txt g T L) (hb : b < p) (hp : p ≤ L) (hk : k < 5) (hn : num T L p = some (v, r)) {n : Nat} (hf : L - p < n) (K : Int32 → Sg → Option (Int32 × Sg)) :
    ∃ n' g1 fg, L - r < n' ∧ fX4_readInto_14 p0 n (nI b) (nI k) (nI 0) (nI p) g K = fX4_readInto_14 p0 n' (nI b) (nI k) (nI fg) (nI r) g1 K ∧ 0 < fg ∧ fg ≤ 2 ∧ (∀ j, j ≠ 3 → g1 j = g j) ∧ g1 3 k = nI v ∧ (∀ i, i ≠ k → g1 3 i = g 3 i) ∧ (dg T L r → fg = 2) := by
  unfold num at hn
  split at hn
  · rename_i d1
    match n, hf with
    | n + 1, hf =>
      rw [rd_dig ht (by omega) (by omega) d1 hk (by omega) (w := 0) (Or.inl rfl) K, if_pos rfl]
      simp only [Nat.zero_add]
      have ht1 : txt (setC g 3 (upd (g 3) k (nI (T p - 48)))) T L := txt_3 (fun j hj => setC_n hj) ht
      split at hn
      · rename_i d2
        split at hn
        · exact absurd hn (by simp)
        · rename_i d3
          simp only [Option.some.injEq, Prod.mk.injEq] at hn
          obtain ⟨hv, hr⟩ := hn
          match n, hf with
          | n + 1, hf =>
            rw [rd_dig ht1 (by omega) (by omega) d2 hk (by omega) (w := T p - 48) (Or.inr (by rw [setC_s, upd_s])) K, if_neg (by omega), hv, show p + 1 + 1 = r by omega]
            refine ⟨n, _, 2, by omega, rfl, by omega, by omega, fun j hj => by rw [setC_n hj, setC_n hj], by rw [setC_s, upd_s], fun i hi => by rw [setC_s, upd_n hi, setC_s, upd_n hi], fun _ => rfl⟩
          | 0, hf => omega
      · rename_i d2
        simp only [Option.some.injEq, Prod.mk.injEq] at hn
        obtain ⟨hv, hr⟩ := hn
        subst hr
        rw [hv]
        exact ⟨n, _, 1, by omega, rfl, by omega, by omega, fun j hj => setC_n hj, by rw [setC_s, upd_s], fun i hi => by rw [setC_s, upd_n hi], fun h => absurd h d2⟩
  · exact absurd hn (by simp)
/-- what ends a text too early -/
def endK (p0 b : Nat) (g : Sg) (K : Int32 → Sg → Option (Int32 × Sg)) : Prop := ∀ g', (∀ j, j ≠ 3 → g' j = g j) → ∃ g'', K (nI b) g' = some (nI b, g'') ∧ frP p0 g' g''
theorem frP_3 {p0 : Nat} {g g' : Sg} (h : ∀ j, j ≠ 3 → g' j = g j) : frP p0 g g' := fun j h1 _ => h j h1
theorem f_noNum {p0 b k p L : Nat} {T : Nat → Nat} {g : Sg} (ht : txt g T L) (hb : b < p) (hp : p ≤ L) (hk : k ≤ 5) (hn : num T L p = none ∨ k = 5) {n : Nat} (hf : L - p < n) (K : Int32 → Sg → Option (Int32 × Sg)) (hK : endK p0 b g K) : ∃ g', fX4_readInto_14 p0 n (nI b) (nI k) (nI 0) (nI p) g K = some (nI b, g') ∧ frP p0 g g' := by
  match n, hf with
  | n + 1, hf =>
    by_cases e : p = L
    · rw [rd_end ht e K]
      exact hK g (fun _ _ => rfl)
    · by_cases d1 : dg T L p ∧ k < 5
      · have hn := hn.resolve_right (by omega)
        unfold num at hn
        rw [if_pos (show p < L ∧ 48 ≤ T p ∧ T p ≤ 57 from d1.1)] at hn
        split at hn
        · rename_i d2
          split at hn
          · rename_i d3
            rw [rd_dig ht (by omega) (by omega) d1.1 d1.2 (by omega) (w := 0) (Or.inl rfl) K]
            have ht1 : ∀ v, txt (setC g 3 (upd (g 3) k v)) T L := fun v => txt_3 (fun j hj => setC_n hj) ht
            match n, hf with
            | n + 1, hf =>
              rw [rd_dig (ht1 _) (by omega) (by omega) d2 d1.2 (by omega) (w := (if (0 : Nat) = 0 then 0 else 10 * 0) + (T p - 48)) (Or.inr (by rw [setC_s, upd_s])) K]
              match n, hf with
              | n + 1, hf =>
                rw [rd_bad (txt_3 (fun j hj => by rw [setC_n hj, setC_n hj]) ht) (by omega) (by omega) (by omega) hk (by omega) (by omega) (Or.inr (by have := d3; rw [show p + 1 + 1 = p + 2 by omega]; omega)) K]
                exact ⟨_, rfl, frP_3 (fun j hj => by rw [setC_n hj, setC_n hj])⟩
              | 0, hf => omega
            | 0, hf => omega
          · exact absurd hn (by simp)
        · exact absurd hn (by simp)
      · rw [rd_bad ht (by omega) (by omega) (by omega) hk (by omega) (fun h => d1 ⟨h.1, h.2.1⟩) (Or.inl rfl) K]
        exact ⟨g, rfl, frP_rf⟩
theorem f_scan {p0 b L : Nat} {T : Nat → Nat} (K : Int32 → Sg → Option (Int32 × Sg)) : ∀ (q k p : Nat) (f : Nat → Nat) (n : Nat) (g : Sg), k + q = 5 → b < p → p ≤ L → L - p < n → txt g T L → (∀ i, i < k → g 3 i = nI (f i) ∧ f i ≤ 99) → endK p0 b g K →
    (sc T L q k p f = none → ∃ g', fX4_readInto_14 p0 n (nI b) (nI k) (nI 0) (nI p) g K = some (nI b, g') ∧ frP p0 g g') ∧
    (∀ k' f' e, sc T L q k p f = some (k', f', e) → ∃ n' g1, L - (e + 1) < n' ∧ fX4_readInto_14 p0 n (nI b) (nI k) (nI 0) (nI p) g K = gCl (fX3_take g1 p0 (nI (T b)) (nI k')) (fun r30 g29 => if r30 = 0 then some (nI b, g29) else fX4_readInto_14 p0 n' (nI (e + 1)) (nI 0) (nI 0) (nI (e + 1)) g29 K) ∧ (∀ j, j ≠ 3 → g1 j = g j) ∧ ∀ i, i < k' → g1 3 i = nI (f' i) ∧ f' i ≤ 99) := by
  intro q
  induction q with
  | zero =>
    intro k p f n g hkq hb hp hn ht hf hK
    refine ⟨fun _ => f_noNum ht hb hp (by omega) (Or.inr (by omega)) hn K hK, fun k' f' e h => ?_⟩
    rw [sc] at h
    exact absurd h (by simp)
  | succ q ih =>
    intro k p f n g hkq hb hp hn ht hf hK
    rw [sc]
    cases hnum : num T L p with
    | none =>
      dsimp only
      refine ⟨fun _ => f_noNum ht hb hp (by omega) (Or.inl hnum) hn K hK, fun k' f' e h => ?_⟩
      exact absurd h (by simp)
    | some u =>
      obtain ⟨v, r⟩ := u
      dsimp only
      have hr := num_lt hnum
      obtain ⟨n1, g1, fg, a1, a2, a3, a4, a5, a6, a7, a8⟩ := f_num (p0 := p0) ht hb hp (show k < 5 by omega) hnum hn K
      have ht1 := txt_3 a5 ht
      rw [a2]
      have fr1 : frP p0 g g1 := frP_3 a5
      match n1, a1 with
      | n1 + 1, a1 =>
        by_cases h44 : r < L ∧ T r = 44
        · rw [if_pos h44, rd_com ht1 (by omega) (by omega) h44.1 a3 a4 h44.2 K]
          obtain ⟨b1, b2⟩ := ih (k + 1) (r + 1) (updN f k v) n1 g1 (by omega) (by omega) (by omega) (by omega) ht1 (fun i hi => by
            by_cases z : i = k
            · rw [z, a6, updN_s]; exact ⟨rfl, hr.2.2⟩
            · rw [a7 i z, updN_n z]; exact hf i (by omega)) (fun g' hg' => hK g' (fun j hj => by rw [hg' j hj, a5 j hj]))
          refine ⟨fun h => ?_, fun k' f' e h => ?_⟩
          · obtain ⟨g', c1, c2⟩ := b1 h
            exact ⟨g', c1, frP_tr fr1 c2⟩
          · obtain ⟨n', g2, c1, c2, c3, c4⟩ := b2 k' f' e h
            exact ⟨n', g2, c1, c2, fun j hj => by rw [c3 j hj, a5 j hj], c4⟩
        · rw [if_neg h44]
          by_cases h59 : r < L ∧ T r = 59
          · rw [if_pos h59, rd_semi ht1 (by omega) (by omega) h59.1 a3 a4 h59.2 K]
            refine ⟨fun h => absurd h (by simp), fun k' f' e h => ?_⟩
            simp only [Option.some.injEq, Prod.mk.injEq] at h
            obtain ⟨h1, h2, h3⟩ := h
            subst h1 h2 h3
            exact ⟨n1, g1, by omega, rfl, a5, fun i hi => by
              by_cases z : i = k
              · rw [z, a6, updN_s]; exact ⟨rfl, hr.2.2⟩
              · rw [a7 i z, updN_n z]; exact hf i (by omega)⟩
          · rw [if_neg h59]
            refine ⟨fun _ => ?_, fun k' f' e h => absurd h (by simp)⟩
            by_cases e : r = L
            · rw [rd_end ht1 e K]
              obtain ⟨g'', c1, c2⟩ := hK g1 a5
              exact ⟨g'', c1, frP_tr fr1 c2⟩
            · rw [rd_bad ht1 (by omega) (by omega) (by omega) (by omega) a4 (fun h => by have := a8 h.1; omega) (Or.inr (by omega)) K]
              exact ⟨g1, rfl, fr1⟩
/-- an item, by the class -/
theorem f_itm {p0 b L : Nat} (h4 : 4 ≤ p0) {T : Nat → Nat} {Q : Ql} {n : Nat} {g : Sg} (ht : txt g T L) (hb : b < L) (hn : L - b < n) (hI : plI p0 Q g) (hQ : qOk Q) (K : Int32 → Sg → Option (Int32 × Sg)) (hK : endK p0 b g K) :
    (itm T L Q b = none → ∃ g', fX4_readInto_14 p0 n (nI b) (nI 0) (nI 0) (nI b) g K = some (nI b, g') ∧ frP p0 g g') ∧
    (∀ Q' b', itm T L Q b = some (Q', b') → ∃ n' g', L - b' < n' ∧ b < b' ∧ b' ≤ L ∧ fX4_readInto_14 p0 n (nI b) (nI 0) (nI 0) (nI b) g K = fX4_readInto_14 p0 n' (nI b') (nI 0) (nI 0) (nI b') g' K ∧ plI p0 Q' g' ∧ qOk Q' ∧ frP p0 g g') := by
  match n, hn with
  | n + 1, hn =>
    rw [rd_first ht hb K]
    obtain ⟨a1, a2⟩ := f_scan (p0 := p0) (b := b) (L := L) (T := T) K 5 0 (b + 1) (fun _ => 0) n g (by omega) (by omega) (by omega) (by omega) ht (fun i hi => absurd hi (by omega)) hK
    unfold itm
    cases hs : sc T L 5 0 (b + 1) (fun _ => 0) with
    | none =>
      refine ⟨fun _ => a1 hs, fun Q' b' h => absurd h (by simp [tlQ])⟩
    | some u =>
      obtain ⟨k, f, e⟩ := u
      have hpre := sc_pre _ _ _ _ _ _ _ hs
      obtain ⟨n', g1, b1, b2, b3, b4⟩ := a2 k f e hs
      rw [b2]
      have hI1 : plI p0 Q g1 := plI_eq (fun j h1 h2 => b3 j (by omega)) hI
      obtain ⟨c1, c2⟩ := f_take h4 hI1 hQ (ht.2.2 b hb).2 (by omega) (by omega) b4
      by_cases o : tkOk Q (T b) k f
      · rw [tlQ_yes o]
        refine ⟨fun h => absurd h (by simp), fun Q' b' h => ?_⟩
        simp only [Option.some.injEq, Prod.mk.injEq] at h
        obtain ⟨h1, h2⟩ := h
        subst h1 h2
        obtain ⟨g', d1, d2, d3⟩ := c1 o
        rw [d1, gCl_s, if_neg one_ne]
        exact ⟨n', g', b1, by omega, by omega, rfl, d2, qOk_ap hQ (by omega) o, frP_tr (frP_3 b3) d3⟩
      · rw [tlQ_no o]
        refine ⟨fun _ => ?_, fun Q' b' h => absurd h (by simp)⟩
        obtain ⟨g', d1, d2⟩ := c2 o
        rw [d1, gCl_s, if_pos rfl]
        exact ⟨g', rfl, frP_tr (frP_3 b3) d2⟩
theorem frP_txt {p0 : Nat} (h4 : 4 ≤ p0) {g g' : Sg} {T : Nat → Nat} {L : Nat} (h : frP p0 g g') (ht : txt g T L) : txt g' T L := txt_eq (h 1 (by decide) (by omega)) (h 2 (by decide) (by omega)) ht
theorem f_prs {p0 L : Nat} (h4 : 4 ≤ p0) {T : Nat → Nat} (K : Int32 → Sg → Option (Int32 × Sg)) (hK : ∀ b Q g, b < L → plI p0 Q g → qOk Q → txt g T L → endK p0 b g K) : ∀ (m : Nat) (Q : Ql) (b n : Nat) (g : Sg), L - b < m → b ≤ L → L - b < n → txt g T L → plI p0 Q g → qOk Q →
    (∃ e, e < L ∧ prs T L m Q b = some (.inl e) ∧ ∃ g', fX4_readInto_14 p0 n (nI b) (nI 0) (nI 0) (nI b) g K = some (nI e, g') ∧ frP p0 g g') ∨ ∃ Q' g', prs T L m Q b = some (.inr Q') ∧ qOk Q' ∧ fX4_readInto_14 p0 n (nI b) (nI 0) (nI 0) (nI b) g K = K (nI L) g' ∧ plI p0 Q' g' ∧ frP p0 g g' := by
  intro m
  induction m with
  | zero => intro Q b n g h; omega
  | succ m ih =>
    intro Q b n g hm hb hn ht hI hQ
    rw [prs]
    by_cases e : L ≤ b
    · have e : b = L := by omega
      subst e
      right
      match n, hn with
      | n + 1, hn =>
        rw [if_pos (Nat.le_refl _), rd_end ht rfl K]
        exact ⟨Q, g, rfl, hQ, rfl, hI, frP_rf⟩
    · rw [if_neg e]
      obtain ⟨a1, a2⟩ := f_itm h4 ht (show b < L by omega) hn hI hQ K (hK b Q g (by omega) hI hQ ht)
      cases hi : itm T L Q b with
      | none =>
        left
        exact ⟨b, by omega, rfl, a1 hi⟩
      | some u =>
        obtain ⟨Q', b'⟩ := u
        obtain ⟨n', g1, b1, b2, b3, b4, b5, b6, b7⟩ := a2 Q' b' hi
        dsimp only
        rw [b4]
        rcases ih Q' b' n' g1 (by omega) b3 b1 (frP_txt h4 b7 ht) b5 b6 with ⟨e', c0, c1, g', c2, c3⟩ | ⟨Q'', g', c1, c2, c3, c4, c5⟩
        · exact Or.inl ⟨e', c0, c1, g', c2, frP_tr b7 c3⟩
        · exact Or.inr ⟨Q'', g', c1, c2, c3, c4, frP_tr b7 c5⟩
