/-! ===== what a day depends on ===== -/
theorem pour_1 {wt : Nat → Int32} {dr : Nat → Bool} : ∀ (l : List Nat) (r : Int32) (d d' : Nat → Int32), (pour wt dr l r d).1 = (pour wt dr l r d').1 := by
  intro l
  induction l with
  | nil => intro r d d'; rfl
  | cons z l ih => intro r d d'; exact ih _ _ _
theorem pour_out {wt : Nat → Int32} {dr : Nat → Bool} : ∀ (l : List Nat) (r : Int32) (d : Nat → Int32) (y : Nat), y ∉ l → (pour wt dr l r d).2 y = d y := by
  intro l
  induction l with
  | nil => intro r d y _; rfl
  | cons z l ih =>
    intro r d y hy
    simp only [List.mem_cons, not_or] at hy
    rw [pour, ih _ _ y hy.2, upd_n hy.1]
theorem pour_2 {wt : Nat → Int32} {dr : Nat → Bool} : ∀ (l : List Nat) (r : Int32) (d d' : Nat → Int32) (y : Nat), y ∈ l → (pour wt dr l r d).2 y = (pour wt dr l r d').2 y := by
  intro l
  induction l with
  | nil => intro r d d' y h; cases h
  | cons z l ih =>
    intro r d d' y hy
    rw [pour, pour]
    by_cases h : y ∈ l
    · exact ih _ _ _ y h
    · rw [pour_out _ _ _ _ h, pour_out _ _ _ _ h]
      have : y = z := by simpa [h] using hy
      rw [this, upd_s, upd_s]
theorem thrL_congr {W W' : Nat → Int32} : ∀ (l : List Nat) (b : Int32), (∀ y ∈ l, W y = W' y) → thrL W l b = thrL W' l b := by
  intro l
  induction l with
  | nil => intro b _; rfl
  | cons z l ih =>
    intro b h
    rw [thrL, thrL, h z List.mem_cons_self]
    exact ih _ (fun y hy => h y (List.mem_cons_of_mem _ hy))
theorem dayA_congr {P : Pl} {x : Nat} {W W' : Nat → Int32} {q d c : Int32} {dk dk' : Nat → Int32} (h : ∀ y ∈ tl P x, W y = W' y) : (dayA P x W q d c dk).1 = (dayA P x W' q d c dk').1 ∧ ∀ y ∈ tl P x, (dayA P x W q d c dk).2 y = (dayA P x W' q d c dk').2 y := by
  unfold dayA pourA
  rw [thrL_congr _ _ h]
  exact ⟨pour_1 _ _ _ _, fun y hy => pour_2 _ _ _ _ y hy⟩
theorem wellL_congr {P : Pl} {q : Int32} {dk dk' : Nat → Int32} : ∀ (l : List Nat) (W W' : Nat → Int32), (∀ y ∈ l, dk y = dk' y) → (∀ y ∈ l, W y = W' y) → ∀ y, W y = W' y → wellL P q dk l W y = wellL P q dk' l W' y := by
  intro l
  induction l with
  | nil => intro W W' _ _ y h; exact h
  | cons z l ih =>
    intro W W' hd hW y hy
    rw [wellL, wellL, hd z List.mem_cons_self, hW z List.mem_cons_self]
    have key : ∀ v, W v = W' v → (if W' z ≤ 0 then W else upd W z (nwI (pK P z) (pN P z) (dk' z) (W' z) (bit q z))) v = (if W' z ≤ 0 then W' else upd W' z (nwI (pK P z) (pN P z) (dk' z) (W' z) (bit q z))) v := by
      intro v hv
      split
      · exact hv
      · by_cases e : v = z
        · rw [e, upd_s, upd_s]
        · rw [upd_n e, upd_n e, hv]
    exact ih _ _ (fun v hv => hd v (List.mem_cons_of_mem _ hv)) (fun v hv => key v (hW v (List.mem_cons_of_mem _ hv))) y (key y hy)
/-- what is left over at a step; who drank what; how well they are behind it -/
def leftF (P : Pl) (q : Int32) (W : Nat → Int32) (x : Nat) (d c : Int32) : Int32 := (dayA P x W q d c (fun _ => 0)).1
def drunkF (P : Pl) (q : Int32) (W : Nat → Int32) (x : Nat) (d c : Int32) : Nat → Int32 := (dayA P x W q d c (fun _ => 0)).2
def stepW (P : Pl) (q : Int32) (W : Nat → Int32) (x : Nat) (d c : Int32) : Nat → Int32 := wellL P q (drunkF P q W x d c) (tl P x) W
theorem leftF_e {P : Pl} {x : Nat} {W W' : Nat → Int32} {q d c : Int32} {dk : Nat → Int32} (h : ∀ y ∈ tl P x, W y = W' y) : (dayA P x W q d c dk).1 = leftF P q W' x d c := (dayA_congr h).1
theorem drunkF_e {P : Pl} {x : Nat} {W W' : Nat → Int32} {q d c : Int32} {dk : Nat → Int32} (h : ∀ y ∈ tl P x, W y = W' y) {y : Nat} (hy : y ∈ tl P x) : (dayA P x W q d c dk).2 y = drunkF P q W' x d c y := (dayA_congr h).2 y hy
theorem stepW_e {P : Pl} {x : Nat} {W W' : Nat → Int32} {q d c : Int32} {dk : Nat → Int32} (h : ∀ y ∈ tl P x, W y = W' y) {y : Nat} (hy : W y = W' y) : wellL P q (dayA P x W q d c dk).2 (tl P x) W y = stepW P q W' x d c y := wellL_congr _ _ _ (fun _ hv => drunkF_e h hv) h y hy
theorem stepW_congr {P : Pl} {x : Nat} {W W' : Nat → Int32} {q d c : Int32} (h : ∀ y ∈ tl P x, W y = W' y) {y : Nat} (hy : W y = W' y) : stepW P q W x d c y = stepW P q W' x d c y := stepW_e h hy
theorem stepW_out {P : Pl} {x : Nat} {W : Nat → Int32} {q d c : Int32} {y : Nat} (h : y ∉ tl P x) : stepW P q W x d c y = W y := wellL_out _ _ _ h
theorem stepW_ok {P : Pl} {x : Nat} {W : Nat → Int32} {q d c : Int32} (h : wOk W) : wOk (stepW P q W x d c) := wellL_ok _ _ h
/-- a day of all steps: wells -/
def dayW (P : Pl) (q : Int32) (D K : Nat → Int32) (W : Nat → Int32) : Nat → Int32 := fun y => if y < pC P then stepW P q W (pA P y) (D (pA P y)) (K (pA P y)) y else W y
/-- what is left over at the first so many steps -/
def sumF (P : Pl) (q : Int32) (D K : Nat → Int32) (W : Nat → Int32) : Nat → Int32
  | 0 => 0
  | x + 1 => sumF P q D K W x + leftF P q W x (D x) (K x)
theorem goN_w {P : Pl} (hp : pOk P) {q : Int32} {D K : Nat → Int32} {W dk : Nat → Int32} : ∀ (x : Nat), (goN P q D K x (0, W, dk)).1 = sumF P q D K W x ∧ ∀ y, (goN P q D K x (0, W, dk)).2.1 y = if y < pC P ∧ pA P y < x then stepW P q W (pA P y) (D (pA P y)) (K (pA P y)) y else W y := by
  intro x
  induction x with
  | zero => exact ⟨rfl, fun y => by rw [if_neg (by omega)]; rfl⟩
  | succ x ih =>
    obtain ⟨i1, i2⟩ := ih
    have same : ∀ y ∈ tl P x, (goN P q D K x (0, W, dk)).2.1 y = W y := fun y hy => by
      have := (tl_mem hp).mp hy
      rw [i2 y, if_neg (by omega)]
    refine ⟨?_, fun y => ?_⟩
    · rw [goN, i1, leftF_e same]
      rfl
    · rw [goN]
      dsimp only
      by_cases hy : y ∈ tl P x
      · have h' := (tl_mem hp).mp hy
        rw [stepW_e same (same y hy), if_pos ⟨h'.1, by omega⟩, h'.2]
      · rw [wellL_out _ _ _ hy, i2 y]
        have : ¬ (y < pC P ∧ pA P y = x) := fun z => hy ((tl_mem hp).mpr z)
        by_cases h2 : y < pC P ∧ pA P y < x
        · rw [if_pos h2, if_pos ⟨h2.1, by omega⟩]
        · rw [if_neg h2, if_neg (fun z => h2 ⟨z.1, by have z2 := z.2; have hne : ¬ pA P y = x := fun e => this ⟨z.1, e⟩; omega⟩)]
theorem goN_dayW {P : Pl} (hp : pOk P) {q : Int32} {D K : Nat → Int32} {W dk : Nat → Int32} : (goN P q D K (pS P) (0, W, dk)).2.1 = dayW P q D K W := by
  funext y
  rw [(goN_w hp (pS P)).2 y]
  unfold dayW
  by_cases h : y < pC P
  · rw [if_pos ⟨h, (hp.2.2.2.2 y h).1⟩, if_pos h]
  · rw [if_neg (fun z => h z.1), if_neg h]
theorem dayW_ok {P : Pl} {q : Int32} {D K : Nat → Int32} {W : Nat → Int32} (h : wOk W) : wOk (dayW P q D K W) := by
  intro y hy
  unfold dayW
  split
  · exact stepW_ok h y hy
  · exact h y hy
/-- only what is at the steps, and of the younger ones there, matters -/
theorem dayW_congr {P : Pl} (hp : pOk P) {q : Int32} {D D' K K' : Nat → Int32} {W W' : Nat → Int32} (hD : ∀ x, x < pS P → D x = D' x) (hK : ∀ x, x < pS P → K x = K' x) (hW : ∀ y, y < pC P → W y = W' y) {y : Nat} (hy : W y = W' y) : dayW P q D K W y = dayW P q D' K' W' y := by
  unfold dayW
  split
  · rename_i h
    have hA := (hp.2.2.2.2 y h).1
    rw [hD _ hA, hK _ hA]
    exact stepW_congr (fun z hz => hW z ((tl_mem hp).mp hz).1) hy
  · exact hy
theorem sumF_congr {P : Pl} (hp : pOk P) {q : Int32} {D D' K K' : Nat → Int32} {W W' : Nat → Int32} (hD : ∀ x, x < pS P → D x = D' x) (hK : ∀ x, x < pS P → K x = K' x) (hW : ∀ y, y < pC P → W y = W' y) : ∀ x, x ≤ pS P → sumF P q D K W x = sumF P q D' K' W' x := by
  intro x
  induction x with
  | zero => intro _; rfl
  | succ x ih =>
    intro hx
    rw [sumF, sumF, ih (by omega), hD x (by omega), hK x (by omega)]
    congr 1
    exact (dayA_congr (fun y hy => hW y ((tl_mem hp).mp hy).1)).1
theorem leftF_b {P : Pl} (hp : pOk P) {x : Nat} {W : Nat → Int32} {q d c : Int32} (hd : rg d 0 40) (hc : rg c 0 9) : rg (leftF P q W x d c) 0 40 := (pourA_b hp hd hc).1
theorem sumF_b {P : Pl} (hp : pOk P) {q : Int32} {D K : Nat → Int32} {W : Nat → Int32} (hD : ∀ x, x < pS P → rg (D x) 0 40) (hK : ∀ x, x < pS P → rg (K x) 0 9) : ∀ x, x ≤ pS P → rg (sumF P q D K W x) 0 (40 * x) := by
  have h9 := hp.2.2.2.1
  intro x
  induction x with
  | zero => intro _; exact ⟨by rw [sumF, t0]; omega, by rw [sumF, t0]; omega⟩
  | succ x ih =>
    intro hx
    have a := ih (by omega)
    have b := leftF_b (x := x) (W := W) (q := q) hp (hD x (by omega)) (hK x (by omega))
    unfold rg at *
    rw [sumF, tI_add (by omega) (by omega)]
    omega
