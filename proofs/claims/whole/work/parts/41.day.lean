/-! ===== the street: what a plan says, who stands at a step in the order of drinking ===== -/
/-- younger ones, steps, step, age, kind, need of each -/
abbrev Pl : Type := Nat × Nat × (Nat → Nat) × (Nat → Nat) × (Nat → Int32) × (Nat → Int32)
def pC (P : Pl) : Nat := P.1
def pS (P : Pl) : Nat := P.2.1
def pA (P : Pl) : Nat → Nat := P.2.2.1
def pG (P : Pl) : Nat → Nat := P.2.2.2.1
def pK (P : Pl) : Nat → Int32 := P.2.2.2.2.1
def pN (P : Pl) : Nat → Int32 := P.2.2.2.2.2
def pOk (P : Pl) : Prop := 1 ≤ pC P ∧ pC P ≤ 8 ∧ 1 ≤ pS P ∧ pS P ≤ 9 ∧ ∀ y : Nat, y < pC P → pA P y < pS P ∧ pG P y ≤ 20 ∧ 1 ≤ (pN P y).toInt ∧ (pN P y).toInt ≤ 9
/-- those of a step, by age, then by number -/
def tl (P : Pl) (x : Nat) : List Nat := (List.range 21).flatMap (fun a => (List.range (pC P)).filter (fun y => decide (pA P y = x ∧ pG P y = a)))
theorem tl_mem {P : Pl} (hP : pOk P) {x y : Nat} : y ∈ tl P x ↔ y < pC P ∧ pA P y = x := by
  unfold tl
  simp only [List.mem_flatMap, List.mem_range, List.mem_filter, decide_eq_true_eq]
  constructor
  · rintro ⟨a, _, h1, h2, _⟩
    exact ⟨h1, h2⟩
  · rintro ⟨h1, h2⟩
    exact ⟨pG P y, by have := (hP.2.2.2.2 y h1).2.1; omega, h1, h2, rfl⟩
/-- a row of numbers from a place on -/
def seg (f : Nat → Int32) : Nat → List Nat → Prop
  | _, [] => True
  | i, y :: l => f i = nI y ∧ seg f (i + 1) l
def cPlan (P : Pl) (g : Sg) : Prop := (∀ y : Nat, y < pC P → g 5 y = pK P y ∧ g 6 y = nI (pA P y) ∧ g 7 y = nI (pG P y) ∧ g 8 y = pN P y) ∧ g 4 9 = nI (pS P) ∧ g 4 11 = nI (pC P) ∧
  ∃ F : Nat → Nat, (∀ x : Nat, x ≤ 9 → g 13 x = nI (F x) ∧ F x ≤ 8) ∧ ∀ x : Nat, x < 9 → F (x + 1) = F x + (tl P x).length ∧ seg (g 12) (F x) (tl P x)
theorem cPlan_eq {P : Pl} {g g' : Sg} (h : ∀ k : Nat, 4 ≤ k → k ≤ 13 → g' k = g k) (hP : cPlan P g) : cPlan P g' := by
  unfold cPlan
  rw [h 5 (by decide) (by decide), h 6 (by decide) (by decide), h 7 (by decide) (by decide), h 8 (by decide) (by decide), h 4 (by decide) (by decide), h 13 (by decide) (by decide), h 12 (by decide) (by decide)]
  exact hP
theorem cPlan_set {P : Pl} {g : Sg} {k : Nat} {f : Nat → Int32} (hk : k < 4 ∨ 13 < k) (hP : cPlan P g) : cPlan P (setC g k f) := cPlan_eq (fun j h1 h2 => setC_n (by omega)) hP
/-! ===== what one drinks ===== -/
def wantI (k n : Int32) (cd : Bool) : Int32 := if k = 1 then n / 2 + 1 else if k = 2 then 2 * n else if k = 3 then (if cd then 0 else n) else n
def gainI (k n d : Int32) : Int32 := if d < (if k = 1 then n / 2 + 1 else n) then (if k = 1 then -1 else d - n) else 1
def clampI (z : Int32) : Int32 := if 0 < (if z < 20 then z else 20) then (if z < 20 then z else 20) else 0
def nwI (k n d w : Int32) (q : Bool) : Int32 := clampI (w + if q then -1 else gainI k n d)
theorem f_wants {P : Pl} {g : Sg} (hP : cPlan P g) (hc : pC P ≤ 8) {y : Nat} (hy : y < pC P) (cd : Int32) : fX3_wants g 4 (nI y) cd = some (wantI (pK P y) (pN P y) (!decide (cd = 0)), g) := by
  obtain ⟨h1, h2, h3, h4⟩ := hP.1 y hy
  unfold fX3_wants wantI
  simp only [gRd_n (show y < 8 by omega) (show 8 ≤ 1000 by decide), h1, h4]
  by_cases a : pK P y = 1
  · simp [a]
  · by_cases b : pK P y = 2
    · simp [b]
    · by_cases c : pK P y = 3
      · by_cases e : cd = 0 <;> simp [c, e]
      · simp [a, b, c]
theorem f_gains {P : Pl} {g : Sg} (hP : cPlan P g) (hc : pC P ≤ 8) {y : Nat} (hy : y < pC P) (d : Int32) : fX3_gains g 4 (nI y) d = some (gainI (pK P y) (pN P y) d, g) := by
  obtain ⟨h1, h2, h3, h4⟩ := hP.1 y hy
  unfold fX3_gains gainI
  simp only [gRd_n (show y < 8 by omega) (show 8 ≤ 1000 by decide), h1, h4, gLet, f_wants hP hc hy, gCl]
  by_cases a : pK P y = 1
  · by_cases b : d < pN P y / 2 + 1 <;> simp [a, b, wantI]
  · by_cases b : d < pN P y <;> simp [a, b]
/-! ===== who has not gone ===== -/
def thrL (W : Nat → Int32) : List Nat → Int32 → Int32
  | [], b => b
  | y :: l, b => thrL W l (b ||| (if W y ≤ 0 then (0 : Int32) else (1 : Int32) <<< (nI y &&& 31)))
theorem f_ngLoop {s x : Nat} (hx : x < 9) : ∀ (l : List Nat) (n i : Nat) (b : Int32) (g : Sg), l.length < n → i + l.length ≤ 8 → g 13 (x + 1) = nI (i + l.length) → seg (g 12) i l → (∀ y ∈ l, y < 8) →
    fX2_notGoneAt_13 (nI x) s n b (nI i) g = some (thrL (g (s + 3)) l b, g) := by
  intro l
  induction l with
  | nil =>
    intro n i b g hn hi h13 hs hy
    match n, hn with
    | n + 1, _ =>
      rw [fX2_notGoneAt_13, nI_1, gRd_n (by omega) (by decide), h13, if_pos ((nI_leN (by simp at hi ⊢; omega) (by simp at hi; omega)).mpr (by simp))]
      rfl
  | cons y l ih =>
    intro n i b g hn hi h13 hs hy
    match n, hn with
    | n + 1, hn =>
      simp only [List.length_cons] at hn hi h13
      have hy8 := hy y List.mem_cons_self
      rw [fX2_notGoneAt_13, nI_1, gRd_n (by omega) (by decide), h13, if_neg (by rw [nI_leN (by omega) (by omega)]; omega), gRd_n (by omega) (by decide), hs.1, gRd_n hy8 (by decide)]
      have k := fun b' => ih n (i + 1) b' g (by omega) (by omega) (by rw [h13]; congr 1; omega) hs.2 (fun z hz => hy z (List.mem_cons_of_mem _ hz))
      simp only [gLet, nI_1, k]
      by_cases hw : g (s + 3) y ≤ 0
      · simp [hw, thrL]
      · simp [hw, thrL]
theorem f_notGoneAt {P : Pl} (hp : pOk P) {g : Sg} (hP : cPlan P g) {s x : Nat} (hx : x < 9) : fX2_notGoneAt g s (nI x) = some (thrL (g (s + 3)) (tl P x) 0, g) := by
  obtain ⟨F, hF, hT⟩ := hP.2.2.2
  obtain ⟨t1, t2⟩ := hT x hx
  have f1 := hF x (by omega)
  have f2 := hF (x + 1) (by omega)
  unfold fX2_notGoneAt
  rw [gRd_n (by omega) (by decide), f1.1]
  exact f_ngLoop hx (tl P x) gN (F x) 0 g (by unfold gN; omega) (by omega) (by rw [f2.1, t1]) t2 (fun y hy => by have := (tl_mem hp).mp hy; have := hp.2.1; omega)
/-! ===== a step's drinking ===== -/
def pour (wt : Nat → Int32) (dr : Nat → Bool) : List Nat → Int32 → (Nat → Int32) → Int32 × (Nat → Int32)
  | [], r, d => (r, d)
  | y :: l, r, d => pour wt dr l (r - (if dr y then (if r < wt y then r else wt y) else 0)) (upd d y (if dr y then (if r < wt y then r else wt y) else 0))
theorem f_loLoop {P : Pl} (hp : pOk P) {x : Nat} (hx : x < 9) (set lap : Int32) : ∀ (l : List Nat) (n i : Nat) (r : Int32) (g : Sg), cPlan P g → l.length < n → i + l.length ≤ 8 → g 13 (x + 1) = nI (i + l.length) → seg (g 12) i l → (∀ y ∈ l, y < pC P) →
    fX2_leftOver_24 (nI x) set lap n r (nI i) g = some ((pour (fun y => wantI (pK P y) (pN P y) (decide (0 < lap))) (bit set) l r (g 73)).1, setC g 73 (pour (fun y => wantI (pK P y) (pN P y) (decide (0 < lap))) (bit set) l r (g 73)).2) := by
  have hc := hp.2.1
  intro l
  induction l with
  | nil =>
    intro n i r g hP hn hi h13 hs hy
    match n, hn with
    | n + 1, _ =>
      rw [fX2_leftOver_24, nI_1, gRd_n (by omega) (by decide), h13, if_pos ((nI_leN (by simp at hi ⊢; omega) (by simp at hi; omega)).mpr (by simp))]
      simp only [pour]
      rw [setC_id]
  | cons y l ih =>
    intro n i r g hP hn hi h13 hs hy
    match n, hn with
    | n + 1, hn =>
      simp only [List.length_cons] at hn hi h13
      have hyc := hy y List.mem_cons_self
      have hy8 : y < 8 := by omega
      rw [fX2_leftOver_24, nI_1, gRd_n (by omega) (by decide), h13, if_neg (by rw [nI_leN (by omega) (by omega)]; omega), gRd_n (by omega) (by decide), hs.1, f_has, gCl_s]
      have k := fun (r' : Int32) (d : Nat → Int32) => ih n (i + 1) r' (setC g 73 d) (cPlan_set (Or.inr (by decide)) hP) (by omega) (by omega) (by rw [setC_n (by decide), h13]; congr 1; omega) (by rw [setC_n (by decide)]; exact hs.2) (fun z hz => hy z (List.mem_cons_of_mem _ hz))
      simp only [setC_s, setC_2] at k
      simp only [gLet, gWr_n hy8 (show 8 ≤ 1000 by decide), gRd_n hy8 (show 8 ≤ 1000 by decide), setC_s, upd_s, nI_1, k, f_wants hP hc hyc, gCl_s, pour]
      by_cases hb : bit set y = true
      · rw [bI_t hb, if_neg one_ne]
        by_cases hl : lap ≤ 0
        · have hl2 : ¬ 0 < lap := by rw [lt_tI]; rw [le_tI] at hl; omega
          simp [hl, hl2, hb]
        · have hl2 : 0 < lap := by rw [lt_tI]; rw [le_tI] at hl; omega
          simp [hl, hl2, hb]
      · rw [bI_f hb]
        simp [hb]
def lapI (d c : Int32) : Int32 := if d < c then d else c
/-- what is left over at a step, and who drank how much, the others' as before -/
def pourA (P : Pl) (x : Nat) (d c set : Int32) (dk : Nat → Int32) : Int32 × (Nat → Int32) := pour (fun y => wantI (pK P y) (pN P y) (decide (0 < lapI d c))) (bit set) (tl P x) (d - lapI d c) dk
theorem f_leftOver {P : Pl} (hp : pOk P) {g : Sg} (hP : cPlan P g) {x : Nat} (hx : x < 9) (d c set : Int32) : fX2_leftOver g (nI x) d c set = some ((pourA P x d c set (g 73)).1, setC g 73 (pourA P x d c set (g 73)).2) := by
  obtain ⟨F, hF, hT⟩ := hP.2.2.2
  obtain ⟨t1, t2⟩ := hT x hx
  have f1 := hF x (by omega)
  have f2 := hF (x + 1) (by omega)
  unfold fX2_leftOver
  simp only [gLet]
  rw [gRd_n (by omega) (by decide), f1.1]
  exact f_loLoop hp hx set (lapI d c) (tl P x) gN (F x) (d - lapI d c) g hP (by unfold gN; omega) (by omega) (by rw [f2.1, t1]) t2 (fun y hy => ((tl_mem hp).mp hy).1)
def drkI (q : Int32) (thr : Int32) : Int32 := thr &&& (q ^^^ (-1))
theorem f_drinkersAt {P : Pl} (hp : pOk P) {g : Sg} (hP : cPlan P g) {s x : Nat} (hx : x < 9) : fX2_drinkersAt g s (nI x) = some (drkI (g s 3) (thrL (g (s + 3)) (tl P x) 0), g) := by
  unfold fX2_drinkersAt
  rw [f_notGoneAt hp hP hx]
  rfl
/-- a step's day, with so much set down, of wells W, quarrels q, cats c -/
def dayA (P : Pl) (x : Nat) (W : Nat → Int32) (q d c : Int32) (dk : Nat → Int32) : Int32 × (Nat → Int32) := pourA P x d c (drkI q (thrL W (tl P x) 0)) dk
theorem f_leftOverAt {P : Pl} (hp : pOk P) {g : Sg} (hP : cPlan P g) {s x : Nat} (hx : x < 9) : fX2_leftOverAt g s (nI x) = some ((dayA P x (g (s + 3)) (g s 3) (g (s + 1) x) (g (s + 2) x) (g 73)).1, setC g 73 (dayA P x (g (s + 3)) (g s 3) (g (s + 1) x) (g (s + 2) x) (g 73)).2) := by
  unfold fX2_leftOverAt
  simp only [gRd_n hx (show 9 ≤ 1000 by decide), f_drinkersAt hp hP hx, gCl_s, f_leftOver hp hP hx]
  rfl
