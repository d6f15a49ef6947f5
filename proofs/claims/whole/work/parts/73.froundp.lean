/-! ===== the least way of the cart, by the class ===== -/
/-- the steps below one at which something stands -/
def DU (D : Nat → Nat) : Nat → Nat
  | 0 => 0
  | x + 1 => if D x = 0 then DU D x else wi (DU D x) x
theorem DU_lt (D : Nat → Nat) : ∀ x, DU D x < 2 ^ x
  | 0 => Nat.one_pos
  | x + 1 => by
    rw [DU]
    split
    · exact Nat.lt_trans (DU_lt D x) (Nat.pow_lt_pow_right (by decide) (by omega))
    · exact wi_lt (DU_lt D x)
def ldI (D : Nat → Nat) (h : Nat) (x : Nat) : Nat := if h < D x then h else D x
theorem ldI_h {D : Nat → Nat} {h x : Nat} : ldI D h x ≤ h := by unfold ldI; split <;> omega
theorem ldI_b {D : Nat → Nat} {h x : Nat} (hD : D x ≤ 40) : ldI D h x ≤ 40 := by unfold ldI; split <;> omega
def caI (l : Nat → Nat) (h due : Nat) (g : Sg) : Prop := ∀ S, sb S due → g 148 S = nI (LD l S 9) ∧ g 149 S = nI (WW l h 9 S)
theorem f_btLp {l : Nat → Nat} {h x near : Nat} (hh : h ≤ 99) (hl : ∀ i, l i ≤ 40) (hn : near < 2 ^ x) (hx : x < 9) {g : Sg} (hI : caI l h near g) (K : Int32 → Sg → Option Sg) : ∀ (n a least : Nat), a < n → sb a near → least ≤ 1000 →
    fX0_bringTo_21 (nI near) (nI (l x)) (nI h) (nI (2 * (x + 1))) n (nI least) (nI a) g K = K (nI (mlp (fun b => decide (LD l b 9 + l x ≤ h)) (fun b => 2 * (x + 1) + WW l h x (dif near b)) near n a least)) g := by
  have h512 := pow_512 hn (by omega)
  intro n
  induction n with
  | zero => intro a least h; omega
  | succ n ih =>
    intro a least ha hs hle
    have han := sb_le hs
    rw [fX0_bringTo_21, mlp]
    by_cases z : a = 0
    · rw [if_pos (by rw [z]; rfl), if_pos z]
    · rw [if_neg (nI_nle (by omega) (by omega)), if_neg z, gRd_n (by omega) (by decide), (hI a hs).1]
      have hL := LD_b hl (S := a) 9
      have hlx := hl x
      have hW := WW_b (l := l) (h := h) x (dif near a) (by omega)
      simp only [gLet]
      rw [nI_add, sub1 (by omega), nI_and, nI_xor, xor_dif hs]
      have hap := and_pred (n := near) z
      by_cases o : LD l a 9 + l x ≤ h
      · rw [if_neg (by rw [nI_ltN (by omega) (by omega)]; omega), gRd_n (Nat.lt_of_le_of_lt (sb_le sb_dif) h512) (by decide), (hI _ sb_dif).2, if_pos (show decide (LD l a 9 + l x ≤ h) = true by simpa using o), nI_add, WW_9 (dif_near hn) (by omega)]
        by_cases w : 2 * (x + 1) + WW l h x (dif near a) < least
        · rw [if_pos ((nI_ltN (by omega) (by omega)).mpr w), if_pos w]
          exact ih _ _ (by omega) sb_and (by omega)
        · rw [if_neg (by rw [nI_ltN (by omega) (by omega)]; exact w), if_neg w]
          exact ih _ _ (by omega) sb_and (by omega)
      · rw [if_pos (by rw [nI_ltN (by omega) (by omega)]; omega), if_neg (show ¬ decide (LD l a 9 + l x ≤ h) = true by simpa using o)]
        exact ih _ _ (by omega) sb_and (by omega)
theorem f_bringTo {l : Nat → Nat} {h x near : Nat} (hh : h ≤ 99) (hl : ∀ i, l i ≤ 40) (hn : near < 2 ^ x) (hx : x < 9) {g : Sg} (hI : caI l h near g) : fX0_bringTo g (nI x) (nI near) (nI (l x)) (nI h) = some (setC (setC g 148 (upd (g 148) (wi near x) (nI (LD l (wi near x) 9)))) 149 (upd (g 149) (wi near x) (nI (WW l h 9 (wi near x))))) := by
  have h512 := pow_512 hn (by omega)
  have hw := pow_512 (wi_lt hn) (by omega)
  have hW := WW_b (l := l) (h := h) 9 near (by omega)
  unfold fX0_bringTo
  simp only [gLet]
  rw [nI_1, show (2 : Int32) = nI 2 from rfl, pk_mul, gRd_n h512 (by decide), (hI near sb_rf).2, nI_add, shl_n x hx, nI_or, show near ||| 2 ^ x = wi near x from rfl]
  have lp := fun K => f_btLp hh hl hn hx hI K gN near (2 * (x + 1) + WW l h 9 near) (by unfold gN; omega) sb_rf (by omega)
  rw [lp, gRd_n h512 (by decide), (hI near sb_rf).1, gWr_n hw (by decide), gWr_n hw (by decide), setC_n (by decide), nI_add, LD_wi hn hx, WW_wi hn hx, WW_9 hn (by omega)]
  rfl
theorem dif_e {a n : Nat} : dif a n = 0 ↔ sb a n := by
  constructor
  · intro h
    refine sb_t.mpr (fun i hi => ?_)
    have := congrArg (fun z => z.testBit i) h
    simp only [tb_dif, hi, Nat.zero_testBit] at this
    simpa using this
  · intro h
    apply Nat.eq_of_testBit_eq
    intro i
    rw [tb_dif, Nat.zero_testBit]
    cases e : a.testBit i
    · rfl
    · rw [sb_t.mp h i e]; rfl
theorem f_lwLp {l : Nat → Nat} {h x due : Nat} (hh : h ≤ 99) (hl : ∀ i, l i ≤ 40) (hd : due < 2 ^ x) (hx : x < 9) {D : Nat → Nat} (hD : D x ≤ 40) (el : l x = ldI D h x) (K : Sg → Option (Int32 × Sg)) : ∀ (d i n : Nat) (g : Sg), i + d = 2 ^ x → d < n → g 25 x = nI (D x) → caI l h due g → (∀ S, S < i → sb S due → g 148 (wi S x) = nI (LD l (wi S x) 9) ∧ g 149 (wi S x) = nI (WW l h 9 (wi S x))) →
    ∃ g', fX0_leastWay_32 (nI h) (nI due) (nI x) n (nI i) g K = K g' ∧ (∀ k, k ≠ 148 → k ≠ 149 → g' k = g k) ∧ g' 148 0 = g 148 0 ∧ g' 149 0 = g 149 0 ∧ caI l h (wi due x) g' := by
  have h512 := pow_512 hd (by omega)
  have p512 : 2 ^ x ≤ 512 := Nat.le_of_lt (Nat.lt_of_le_of_lt (show 2 ^ x ≤ 2 ^ 8 from Nat.pow_le_pow_right (by decide) (by omega)) (by decide))
  intro d
  induction d with
  | zero =>
    intro i n g hi hn h25 hI hJ
    match n, hn with
    | n + 1, _ =>
      rw [fX0_leastWay_32, shl_n x hx, if_pos ((nI_leN (by omega) (by omega)).mpr (by omega))]
      refine ⟨g, rfl, fun _ _ _ => rfl, rfl, rfl, fun S hS => ?_⟩
      by_cases z : S.testBit x = true
      · have hS2 : S < 2 ^ (x + 1) := Nat.lt_of_le_of_lt (sb_le hS) (wi_lt hd)
        have e := wi_dif z
        have h1 := sb_dif2 (x := x) hS
        rw [dif_wi hd] at h1
        have := hJ (dif S (2 ^ x)) (by have := dif_top hS2; omega) h1
        rw [e] at this
        exact this
      · have h1 := sb_near hS (eq_false_of_ne_true z)
        rw [dif_wi hd] at h1
        exact hI S h1
  | succ d ih =>
    intro i n g hi hn h25 hI hJ
    match n, hn with
    | n + 1, hn =>
      rw [fX0_leastWay_32, shl_n x hx, if_neg (by rw [nI_leN (by omega) (by omega)]; omega), nI_dif (by omega)]
      simp only [gLet, nI_1]
      by_cases z : sb i due
      · rw [dif_e.mpr z, if_pos (by rfl), gRd_n (by omega) (by decide), h25, show (if nI h < nI (D x) then nI h else nI (D x)) = nI (l x) by
          rw [el]
          unfold ldI
          by_cases w : h < D x
          · rw [if_pos ((nI_ltN (by omega) (by omega)).mpr w), if_pos w]
          · rw [if_neg (by rw [nI_ltN (by omega) (by omega)]; exact w), if_neg w], f_bringTo hh hl (by omega) hx (fun S hS => hI S (sb_tr hS z)), gCv_s]
        have hge := wi_ge (n := i) (x := x)
        have h2p := Nat.two_pow_pos x
        obtain ⟨g2, k1, k2, k3, k4, k5⟩ := ih (i + 1) n (setC (setC g 148 (upd (g 148) (wi i x) (nI (LD l (wi i x) 9)))) 149 (upd (g 149) (wi i x) (nI (WW l h 9 (wi i x))))) (by omega) (by omega) (by rw [setC_n (by decide), setC_n (by decide)]; exact h25) (fun S hS => by
          have := sb_le hS
          rw [setC_n (by decide), setC_s, setC_s, upd_n (by omega), upd_n (by omega)]
          exact hI S hS) (fun S hSi hS => by
          rw [setC_n (by decide), setC_s, setC_s]
          by_cases e : S = i
          · rw [e, upd_s, upd_s]; exact ⟨rfl, rfl⟩
          · have ne : wi S x ≠ wi i x := fun h => e (by
              have h1 := congrArg (fun z => dif z (2 ^ x)) h
              simp only [dif_wi (show S < 2 ^ x by omega), dif_wi (show i < 2 ^ x by omega)] at h1
              exact h1)
            rw [upd_n ne, upd_n ne]
            exact hJ S (by omega) hS)
        exact ⟨g2, k1, fun k h1 h2 => by rw [k2 k h1 h2, setC_n h2, setC_n h1], by rw [k3, setC_n (by decide), setC_s, upd_n (by omega)], by rw [k4, setC_s, upd_n (by omega)], k5⟩
      · have z2 : dif i due ≠ 0 := fun h => z (dif_e.mp h)
        have z3 := sb_le (sb_dif (n := i) (a := due))
        rw [if_neg (nI_ne0 (by omega) (by omega))]
        obtain ⟨g2, k1, k2, k3, k4, k5⟩ := ih (i + 1) n g (by omega) (by omega) h25 hI (fun S hSi hS => by
          by_cases e : S = i
          · rw [e] at hS; exact absurd hS z
          · exact hJ S (by omega) hS)
        exact ⟨g2, k1, k2, k3, k4, k5⟩
theorem f_lwAll {l : Nat → Nat} {h : Nat} (hh : h ≤ 99) (hl : ∀ i, l i ≤ 40) {D : Nat → Nat} (hD : ∀ x, x < 9 → D x ≤ 40) (el : ∀ x, x < 9 → l x = ldI D h x) : ∀ (d x n : Nat) (g : Sg), x + d = 9 → d < n → (∀ y, y < 9 → g 25 y = nI (D y)) → caI l h (DU D x) g →
    ∃ g', fX0_leastWay_5 (nI h) n (nI (DU D x)) (nI x) g = some (nI (WW l h 9 (DU D 9)), g') ∧ (∀ k, k ≠ 148 → k ≠ 149 → g' k = g k) ∧ g' 148 0 = g 148 0 ∧ g' 149 0 = g 149 0 := by
  intro d
  induction d with
  | zero =>
    intro x n g hx hn h25 hI
    match n, hn with
    | n + 1, _ =>
      have x9 : x = 9 := by omega
      subst x9
      have := DU_lt D 9
      rw [fX0_leastWay_5, if_pos (by decide), gRd_n (by omega) (by decide), (hI _ sb_rf).2]
      exact ⟨g, rfl, fun _ _ _ => rfl, rfl, rfl⟩
  | succ d ih =>
    intro x n g hx hn h25 hI
    match n, hn with
    | n + 1, hn =>
      have hlt := DU_lt D x
      have p512 : 2 ^ x ≤ 512 := Nat.le_of_lt (Nat.lt_of_le_of_lt (show 2 ^ x ≤ 2 ^ 8 from Nat.pow_le_pow_right (by decide) (by omega)) (by decide))
      have nx := ih (x + 1) n
      rw [DU] at nx
      rw [fX0_leastWay_5, if_neg (by rw [show (9 : Int32) = nI 9 from rfl, nI_leN (by omega) (by omega)]; omega), if_neg (by rw [show (9 : Int32) = nI 9 from rfl, nI_leN (by omega) (by omega)]; omega), gRd_n (by omega) (by decide), h25 x (by omega)]
      simp only [gLet, nI_1]
      have hDx := hD x (by omega)
      by_cases z : D x = 0
      · rw [if_pos z] at nx
        rw [z, if_pos (by rfl)]
        exact nx g (by omega) (by omega) h25 hI
      · rw [if_neg z] at nx
        rw [if_neg (nI_ne0 (by omega) (by omega)), shl_n x (by omega), nI_or, show DU D x ||| 2 ^ x = wi (DU D x) x from rfl, show (0 : Int32) = nI 0 from rfl]
        have lp := fun K => f_lwLp hh hl hlt (by omega : x < 9) hDx (el x (by omega)) K (2 ^ x) 0 gN g (by omega) (by unfold gN; omega) (h25 x (by omega)) hI (fun S hS => absurd hS (by omega))
        obtain ⟨g1, a1, a2, a3, a4, a5⟩ := lp _
        rw [a1]
        obtain ⟨g2, k1, k2, k3, k4⟩ := nx g1 (by omega) (by omega) (fun y hy => by rw [a2 25 (by decide) (by decide)]; exact h25 y hy) a5
        exact ⟨g2, k1, fun k h1 h2 => (k2 k h1 h2).trans (a2 k h1 h2), k3.trans a3, k4.trans a4⟩
