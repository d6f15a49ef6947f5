/-- a standing's cells lie apart from the plan's and the day's -/
def oSt (s : Nat) : Prop := 24 ≤ s ∧ (s ≤ 68 ∨ 78 ≤ s) ∧ s ≤ 142
theorem tl_nodup (P : Pl) (x : Nat) : (tl P x).Nodup := by
  unfold tl List.Nodup
  rw [List.pairwise_flatMap]
  refine ⟨fun a _ => List.Pairwise.filter _ List.nodup_range, ?_⟩
  refine List.Pairwise.imp (R := fun a b => a ≠ b) ?_ List.nodup_range
  intro a b hab y hy z hz e
  simp only [List.mem_filter, List.mem_range, decide_eq_true_eq] at hy hz
  subst e
  exact hab (hy.2.2.symm.trans hz.2.2)
/-- how well they are behind a day at a step -/
def wellL (P : Pl) (q : Int32) (dk : Nat → Int32) : List Nat → (Nat → Int32) → (Nat → Int32)
  | [], W => W
  | y :: l, W => wellL P q dk l (if W y ≤ 0 then W else upd W y (nwI (pK P y) (pN P y) (dk y) (W y) (bit q y)))
theorem wellL_out {P : Pl} {q : Int32} {dk : Nat → Int32} : ∀ (l : List Nat) (W : Nat → Int32) (y : Nat), y ∉ l → wellL P q dk l W y = W y := by
  intro l
  induction l with
  | nil => intro W y _; rfl
  | cons z l ih =>
    intro W y hy
    simp only [List.mem_cons, not_or] at hy
    rw [wellL, ih _ y hy.2]
    split
    · rfl
    · rw [upd_n hy.1]
theorem wellL_in {P : Pl} {q : Int32} {dk : Nat → Int32} : ∀ (l : List Nat) (W : Nat → Int32) (y : Nat), l.Nodup → y ∈ l → wellL P q dk l W y = if W y ≤ 0 then W y else nwI (pK P y) (pN P y) (dk y) (W y) (bit q y) := by
  intro l
  induction l with
  | nil => intro W y _ h; cases h
  | cons z l ih =>
    intro W y hn hy
    rw [wellL]
    have hn' := List.nodup_cons.mp hn
    by_cases hyz : y = z
    · subst hyz
      rw [wellL_out _ _ _ hn'.1]
      split
      · rfl
      · rw [upd_s]
    · have hy' : y ∈ l := by simpa [hyz] using hy
      rw [ih _ y hn'.2 hy']
      have e : (if W z ≤ 0 then W else upd W z (nwI (pK P z) (pN P z) (dk z) (W z) (bit q z))) y = W y := by
        split
        · rfl
        · rw [upd_n hyz]
      rw [e]
theorem f_gbLoop {P : Pl} (hp : pOk P) {s x : Nat} (hs : oSt s) (hx : x < 9) (r8 : Int32) : ∀ (l : List Nat) (n i : Nat) (g : Sg), cPlan P g → l.length < n → i + l.length ≤ 8 → g 13 (x + 1) = nI (i + l.length) → seg (g 12) i l → (∀ y ∈ l, y < pC P) →
    fX2_goByAt_31 (nI x) r8 s n (nI i) g = some (r8, setC g (s + 3) (wellL P (g s 3) (g 73) l (g (s + 3)))) := by
  have hc := hp.2.1
  obtain ⟨s1, s2, s3⟩ := hs
  intro l
  induction l with
  | nil =>
    intro n i g hP hn hi h13 hs hy
    match n, hn with
    | n + 1, _ =>
      rw [fX2_goByAt_31, nI_1, gRd_n (by omega) (by decide), h13, if_pos ((nI_leN (by simp at hi ⊢; omega) (by simp at hi; omega)).mpr (by simp))]
      simp only [wellL]
      rw [setC_id]
  | cons y l ih =>
    intro n i g hP hn hi h13 hs hy
    match n, hn with
    | n + 1, hn =>
      simp only [List.length_cons] at hn hi h13
      have hyc := hy y List.mem_cons_self
      have hy8 : y < 8 := by omega
      rw [fX2_goByAt_31, nI_1, gRd_n (by omega) (by decide), h13, if_neg (by rw [nI_leN (by omega) (by omega)]; omega), gRd_n (by omega) (by decide), hs.1, gRd_n hy8 (by decide)]
      have k0 := ih n (i + 1) g hP (by omega) (by omega) (by rw [h13]; congr 1; omega) hs.2 (fun z hz => hy z (List.mem_cons_of_mem _ hz))
      have k := fun (d : Nat → Int32) => ih n (i + 1) (setC g (s + 3) d) (cPlan_set (Or.inr (by omega)) hP) (by omega) (by omega) (by rw [setC_n (by omega), h13]; congr 1; omega) (by rw [setC_n (by omega)]; exact hs.2) (fun z hz => hy z (List.mem_cons_of_mem _ hz))
      simp only [setC_s, setC_2, setC_n (show s ≠ s + 3 by omega), setC_n (show 73 ≠ s + 3 by omega)] at k
      simp only [gLet, nI_1, k, k0, wellL]
      by_cases hw : g (s + 3) y ≤ 0
      · simp [hw]
      · simp only [hw, if_false]
        unfold fX9_hasQuarrelled
        simp only [f_has, gCl_s, gZ_b]
        by_cases hb : bit (g s 3) y = true
        · rw [bI_t hb, if_neg one_ne]
          simp only [gRd_n hy8 (show 8 ≤ 1000 by decide), gWr_n hy8 (show 8 ≤ 1000 by decide), k, hb]
          rfl
        · rw [bI_f hb, if_pos rfl]
          simp only [gRd_n hy8 (show 8 ≤ 1000 by decide), gWr_n hy8 (show 8 ≤ 1000 by decide), k, f_gains hP hc hyc, gCl_s]
          rw [show bit (g s 3) y = false by simpa using hb]
          rfl
/-- a step's day by the class -/
theorem f_goByAt {P : Pl} (hp : pOk P) {g : Sg} (hP : cPlan P g) {s x : Nat} (hs : oSt s) (hx : x < 9) (d : Int32) : fX2_goByAt g s (nI x) d = some ((dayA P x (g (s + 3)) (g s 3) d (g (s + 2) x) (g 73)).1, setC (setC g 73 (dayA P x (g (s + 3)) (g s 3) d (g (s + 2) x) (g 73)).2) (s + 3) (wellL P (g s 3) (dayA P x (g (s + 3)) (g s 3) d (g (s + 2) x) (g 73)).2 (tl P x) (g (s + 3)))) := by
  obtain ⟨s1, s2, s3⟩ := id hs
  unfold fX2_goByAt
  rw [gRd_n hx (by decide), f_drinkersAt hp hP hx, gCl_s, f_leftOver hp hP hx, gCl_s]
  rw [show pourA P x d (g (s + 2) x) (drkI (g s 3) (thrL (g (s + 3)) (tl P x) 0)) (g 73) = dayA P x (g (s + 3)) (g s 3) d (g (s + 2) x) (g 73) from rfl]
  generalize dayA P x (g (s + 3)) (g s 3) d (g (s + 2) x) (g 73) = u
  have hP' : cPlan P (setC g 73 u.2) := cPlan_set (Or.inr (by decide)) hP
  obtain ⟨F, hF, hT⟩ := hP'.2.2.2
  obtain ⟨t1, t2⟩ := hT x hx
  have f1 := hF x (by omega)
  have f2 := hF (x + 1) (by omega)
  rw [gRd_n (by omega) (by decide), f1.1, f_gbLoop hp hs hx u.1 (tl P x) gN (F x) (setC g 73 u.2) hP' (by unfold gN; omega) (by omega) (by rw [f2.1, t1]) t2 (fun y hy => ((tl_mem hp).mp hy).1)]
  rw [setC_n (show s ≠ 73 by omega), setC_n (show s + 3 ≠ 73 by omega), setC_s]
/-- so many steps' day: the sum left over, wells, who drank what -/
def goN (P : Pl) (q : Int32) (D K : Nat → Int32) : Nat → Int32 × (Nat → Int32) × (Nat → Int32) → Int32 × (Nat → Int32) × (Nat → Int32)
  | 0, u => u
  | x + 1, u =>
    ((goN P q D K x u).1 + (dayA P x (goN P q D K x u).2.1 q (D x) (K x) (goN P q D K x u).2.2).1,
      wellL P q (dayA P x (goN P q D K x u).2.1 q (D x) (K x) (goN P q D K x u).2.2).2 (tl P x) (goN P q D K x u).2.1,
      (dayA P x (goN P q D K x u).2.1 q (D x) (K x) (goN P q D K x u).2.2).2)
def putWD (g : Sg) (s : Nat) (u : (Nat → Int32) × (Nat → Int32)) : Sg := setC (setC g 73 u.2) (s + 3) u.1
theorem putWD_at {g : Sg} {s : Nat} {u : (Nat → Int32) × (Nat → Int32)} {k : Nat} (h1 : k ≠ 73) (h2 : k ≠ s + 3) : putWD g s u k = g k := by
  unfold putWD
  rw [setC_n h2, setC_n h1]
theorem putWD_w {g : Sg} {s : Nat} {u : (Nat → Int32) × (Nat → Int32)} : putWD g s u (s + 3) = u.1 := by unfold putWD; rw [setC_s]
theorem putWD_d {g : Sg} {s : Nat} {u : (Nat → Int32) × (Nat → Int32)} (h : 73 ≠ s + 3) : putWD g s u 73 = u.2 := by unfold putWD; rw [setC_n h, setC_s]
theorem setC_c {g : Sg} {a b : Nat} {f h : Nat → Int32} (hab : a ≠ b) : setC (setC g a f) b h = setC (setC g b h) a f := by
  funext j
  unfold setC
  by_cases h1 : j = a
  · have : j ≠ b := by omega
    simp [h1, hab]
  · by_cases h2 : j = b
    · simp [h2, Ne.symm hab]
    · simp [h1, h2]
theorem putWD_2 {g : Sg} {s : Nat} {u v : (Nat → Int32) × (Nat → Int32)} (h : 73 ≠ s + 3) : putWD (putWD g s u) s v = putWD g s v := by
  unfold putWD
  rw [setC_c (g := setC g 73 u.2) (a := s + 3) (b := 73) (by omega), setC_2, setC_2]
theorem f_goByLoop {P : Pl} (hp : pOk P) {s : Nat} (hs : oSt s) {g : Sg} (hP : cPlan P g) (K : Int32 → Sg → Option (Int32 × Sg)) : ∀ (d x n : Nat), d + x = pS P → d < n →
    fX2_goBy_4 s n (goN P (g s 3) (g (s + 1)) (g (s + 2)) x (0, g (s + 3), g 73)).1 (nI x) (putWD g s (goN P (g s 3) (g (s + 1)) (g (s + 2)) x (0, g (s + 3), g 73)).2) K = K (goN P (g s 3) (g (s + 1)) (g (s + 2)) (pS P) (0, g (s + 3), g 73)).1 (putWD g s (goN P (g s 3) (g (s + 1)) (g (s + 2)) (pS P) (0, g (s + 3), g 73)).2) := by
  obtain ⟨s1, s2, s3⟩ := id hs
  have h9 := hp.2.2.2.1
  intro d
  induction d with
  | zero =>
    intro x n hx hn
    match n, hn with
    | n + 1, _ =>
      rw [fX2_goBy_4, putWD_at (by decide) (by omega), hP.2.1, if_pos ((nI_leN (by omega) (by omega)).mpr (by omega))]
      rw [show x = pS P by omega]
  | succ d ih =>
    intro x n hx hn
    match n, hn with
    | n + 1, hn =>
      have hP' : ∀ u, cPlan P (putWD g s u) := fun u => cPlan_eq (fun k h1 h2 => putWD_at (by omega) (by omega)) hP
      rw [fX2_goBy_4, putWD_at (by decide) (by omega), hP.2.1, if_neg (by rw [nI_leN (by omega) (by omega)]; omega), putWD_at (by omega) (by omega), gRd_n (by omega) (by decide), f_goByAt hp (hP' _) hs (by omega), gCl_s]
      simp only [gLet, nI_1]
      rw [putWD_w, putWD_at (k := s) (by omega) (by omega), putWD_at (k := s + 2) (by omega) (by omega), putWD_d (by omega)]
      have k := ih (x + 1) n (by omega) (by omega)
      rw [← k]
      congr 1
      exact putWD_2 (g := g) (s := s) (u := (goN P (g s 3) (g (s + 1)) (g (s + 2)) x (0, g (s + 3), g 73)).2) (v := (goN P (g s 3) (g (s + 1)) (g (s + 2)) (x + 1) (0, g (s + 3), g 73)).2) (show 73 ≠ s + 3 by omega)
theorem f_goBy {P : Pl} (hp : pOk P) {s : Nat} (hs : oSt s) {g : Sg} (hP : cPlan P g) : fX2_goBy g s = some ((goN P (g s 3) (g (s + 1)) (g (s + 2)) (pS P) (0, g (s + 3), g 73)).1, setC (putWD g s (goN P (g s 3) (g (s + 1)) (g (s + 2)) (pS P) (0, g (s + 3), g 73)).2) s (upd (g s) 4 (g s 4 + 1))) := by
  obtain ⟨s1, s2, s3⟩ := id hs
  have h9 := hp.2.2.2.1
  unfold fX2_goBy
  have k := fun K => f_goByLoop hp hs hP K (pS P) 0 gN (by omega) (by unfold gN; omega)
  simp only [goN] at k
  have e : putWD g s (g (s + 3), g 73) = g := by
    unfold putWD
    rw [show setC g 73 (g 73) = g from setC_id]
    exact setC_id
  simp only [e] at k
  rw [show (0 : Int32) = nI 0 from rfl] at k ⊢
  rw [k]
  simp only [gLet]
  rw [gUp_c, putWD_at (k := s) (by omega) (by omega)]
