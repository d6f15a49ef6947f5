/-! ===== the reference's day ===== -/
def mPlan (P : Pl) (t : Sg) : Prop := t 0 0 = nI (pS P) ∧ t 0 2 = nI (pC P) ∧ (∀ y : Nat, y < pC P → t 1 y = pK P y ∧ t 2 y = nI (pA P y) ∧ t 3 y = nI (pG P y) ∧ t 4 y = pN P y) ∧
  ∃ O : List Nat, O.length = pC P ∧ seg (t 5) 0 O ∧ (∀ y ∈ O, y < pC P) ∧ ∀ x : Nat, O.filter (fun y => decide (pA P y = x)) = tl P x
theorem mPlan_eq {P : Pl} {t t' : Sg} (h : ∀ k : Nat, 1 ≤ k → k ≤ 5 → t' k = t k) (h0 : t' 0 0 = t 0 0) (h2 : t' 0 2 = t 0 2) (hP : mPlan P t) : mPlan P t' := by
  unfold mPlan
  rw [h0, h2, h 1 (by decide) (by decide), h 2 (by decide) (by decide), h 3 (by decide) (by decide), h 4 (by decide) (by decide), h 5 (by decide) (by decide)]
  exact hP
theorem mPlan_set {P : Pl} {t : Sg} {k : Nat} {f : Nat → Int32} (hk : 5 < k) (hP : mPlan P t) : mPlan P (setC t k f) := mPlan_eq (fun j h1 h2 => setC_n (by omega)) (by rw [setC_n (by omega)]) (by rw [setC_n (by omega)]) hP
theorem m_wants {P : Pl} {t : Sg} (hP : mPlan P t) (hc : pC P ≤ 8) {y : Nat} (hy : y < pC P) (cd : Int32) : fX11_wants t (nI y) cd = some (wantI (pK P y) (pN P y) (!decide (cd = 0)), t) := by
  obtain ⟨h1, h2, h3, h4⟩ := hP.2.2.1 y hy
  unfold fX11_wants wantI
  simp only [gRd_n (show y < 8 by omega) (show 8 ≤ 1000 by decide), h1, h4]
  by_cases a : pK P y = 1
  · simp [a]
  · by_cases b : pK P y = 2
    · simp [b]
    · by_cases c : pK P y = 3
      · by_cases e : cd = 0 <;> simp [c, e]
      · simp [a, b, c]
theorem m_poLoop {P : Pl} (hp : pOk P) {x : Nat} (set lap : Int32) (hx : x < 9) : ∀ (l : List Nat) (n i : Nat) (r : Int32) (t : Sg), mPlan P t → l.length < n → i + l.length = pC P → seg (t 5) i l → (∀ y ∈ l, y < pC P) →
    fX11_pours_16 (nI x) set lap n r (nI i) t = some ((pour (fun y => wantI (pK P y) (pN P y) (decide (0 < lap))) (bit set) (l.filter (fun y => decide (pA P y = x))) r (t 14)).1, setC t 14 (pour (fun y => wantI (pK P y) (pN P y) (decide (0 < lap))) (bit set) (l.filter (fun y => decide (pA P y = x))) r (t 14)).2) := by
  have hc := hp.2.1
  intro l
  induction l with
  | nil =>
    intro n i r t hP hn hi hs hy
    match n, hn with
    | n + 1, _ =>
      rw [fX11_pours_16, hP.2.1, if_pos ((nI_leN (by omega) (by simp at hi; omega)).mpr (by simp at hi; omega))]
      simp only [List.filter_nil, pour]
      rw [setC_id]
  | cons y l ih =>
    intro n i r t hP hn hi hs hy
    match n, hn with
    | n + 1, hn =>
      simp only [List.length_cons] at hn hi
      have hyc := hy y List.mem_cons_self
      have hy8 : y < 8 := by omega
      have hA := (hp.2.2.2.2 y hyc).1
      have h9 := hp.2.2.2.1
      rw [fX11_pours_16, hP.2.1, if_neg (by rw [nI_leN (by omega) (by omega)]; omega), gRd_n (by omega) (by decide), hs.1, gRd_n hy8 (by decide), (hP.2.2.1 y hyc).2.1]
      have k0 := fun r' => ih n (i + 1) r' t hP (by omega) (by omega) hs.2 (fun z hz => hy z (List.mem_cons_of_mem _ hz))
      have k := fun (r' : Int32) (d : Nat → Int32) => ih n (i + 1) r' (setC t 14 d) (mPlan_set (by decide) hP) (by omega) (by omega) (by rw [setC_n (by decide)]; exact hs.2) (fun z hz => hy z (List.mem_cons_of_mem _ hz))
      simp only [setC_s, setC_2] at k
      simp only [gLet, gWr_n hy8 (show 8 ≤ 1000 by decide), gRd_n hy8 (show 8 ≤ 1000 by decide), setC_s, upd_s, nI_1, k, k0, m_has, m_wants hP hc hyc, m_smaller, gCl_s]
      by_cases hAx : pA P y = x
      · rw [if_pos (by rw [hAx]), List.filter_cons_of_pos (by simp [hAx])]
        by_cases hb : bit set y = true
        · rw [bI_t hb, if_neg one_ne]
          by_cases hl : lap ≤ 0
          · have hl2 : ¬ 0 < lap := by rw [lt_tI]; rw [le_tI] at hl; omega
            simp [hl, hl2, hb, pour]
          · have hl2 : 0 < lap := by rw [lt_tI]; rw [le_tI] at hl; omega
            simp [hl, hl2, hb, pour]
        · rw [bI_f hb]
          simp [hb, pour]
      · rw [if_neg (by rw [nI_inj (by omega) (by omega)]; exact hAx), List.filter_cons_of_neg (by simp [hAx])]
theorem m_pours {P : Pl} (hp : pOk P) {t : Sg} (hP : mPlan P t) {x : Nat} (hx : x < 9) (d c set : Int32) : fX11_pours t (nI x) d c set = some ((pourA P x d c set (t 14)).1, setC t 14 (pourA P x d c set (t 14)).2) := by
  obtain ⟨O, o1, o2, o3, o4⟩ := hP.2.2.2
  have hc := hp.2.1
  unfold fX11_pours
  rw [m_smaller, gCl_s]
  simp only [gLet]
  rw [show (0 : Int32) = nI 0 from rfl]
  have k := m_poLoop hp set (lapI d c) hx O gN 0 (d - lapI d c) t hP (by unfold gN; omega) (by omega) o2 o3
  rw [o4 x] at k
  exact k
/-! ===== masks in any order ===== -/
theorem thrL_or (W : Nat → Int32) : ∀ (l : List Nat) (a b : Int32), thrL W l (a ||| b) = a ||| thrL W l b := by
  intro l
  induction l with
  | nil => intro a b; rfl
  | cons y l ih =>
    intro a b
    rw [thrL, thrL, Int32.or_assoc, ih]
theorem thrL_perm (W : Nat → Int32) {l l' : List Nat} (h : l.Perm l') : ∀ b, thrL W l b = thrL W l' b := by
  induction h with
  | nil => intro b; rfl
  | cons y _ ih => intro b; rw [thrL, thrL, ih]
  | swap y z l =>
    intro b
    simp only [thrL]
    rw [Int32.or_assoc, Int32.or_assoc, Int32.or_comm (if W z ≤ 0 then (0 : Int32) else _)]
  | trans _ _ ih1 ih2 => intro b; rw [ih1, ih2]
theorem tl_perm {P : Pl} (hp : pOk P) (x : Nat) : (tl P x).Perm ((List.range (pC P)).filter (fun y => decide (pA P y = x))) := by
  refine (List.perm_ext_iff_of_nodup (tl_nodup P x) (List.Pairwise.filter _ List.nodup_range)).mpr (fun y => ?_)
  rw [tl_mem hp]
  simp
theorem or_0 (a : Int32) : a ||| 0 = a := by
  apply Int32.toBitVec_inj.mp
  simp
theorem m_thLoop {P : Pl} (hp : pOk P) {b x : Nat} (hb : b + 28 ≤ 336) (hx : x < 9) {t : Sg} (hP : mPlan P t) : ∀ (d i n : Nat) (a : Int32), i + d = pC P → d < n →
    fX11_thereAt_5 (nI b) (nI x) n a (nI i) t = some (thrL (fun y => t 10 (b + y)) ((List.range' i d).filter (fun y => decide (pA P y = x))) a, t) := by
  have hc := hp.2.1
  intro d
  induction d with
  | zero =>
    intro i n a hi hn
    match n, hn with
    | n + 1, _ =>
      rw [fX11_thereAt_5, hP.2.1, if_pos ((nI_leN (by omega) (by omega)).mpr (by omega))]
      rfl
  | succ d ih =>
    intro i n a hi hn
    match n, hn with
    | n + 1, hn =>
      have hic : i < pC P := by omega
      have hA := (hp.2.2.2.2 i hic).1
      have h9 := hp.2.2.2.1
      have k := fun a' => ih (i + 1) n a' (by omega) (by omega)
      rw [fX11_thereAt_5, hP.2.1, if_neg (by rw [nI_leN (by omega) (by omega)]; omega), gRd_n (by omega) (by decide), (hP.2.2.1 i hic).2.1]
      simp only [gLet, nI_1, k, nI_add]
      rw [gRd_n (show b + i < 336 by omega) (by decide), List.range'_succ]
      by_cases hAx : pA P i = x
      · rw [if_pos (by rw [hAx]), List.filter_cons_of_pos (by simp [hAx])]
        by_cases hw : t 10 (b + i) ≤ 0
        · rw [if_pos hw, thrL, if_pos hw]
        · rw [if_neg hw, thrL, if_neg hw]
      · rw [if_neg (by rw [nI_inj (by omega) (by omega)]; exact hAx), List.filter_cons_of_neg (by simp [hAx]), or_0]
theorem m_thereAt {P : Pl} (hp : pOk P) {t : Sg} (hP : mPlan P t) {b x : Nat} (hb : b + 28 ≤ 336) (hx : x < 9) : fX11_thereAt t (nI b) (nI x) = some (thrL (fun y => t 10 (b + y)) (tl P x) 0, t) := by
  have hc := hp.2.1
  unfold fX11_thereAt
  have k := m_thLoop hp hb hx hP (pC P) 0 gN 0 (by omega) (by unfold gN; omega)
  rw [← List.range_eq_range'] at k
  rw [thrL_perm _ (tl_perm hp x)]
  exact k
theorem m_leftAt {P : Pl} (hp : pOk P) {t : Sg} (hP : mPlan P t) {b x : Nat} (hb : b + 28 ≤ 336) (hx : x < 9) : fX11_leftAt t (nI b) (nI x) = some ((dayA P x (fun y => t 10 (b + y)) (t 10 (b + 8)) (t 10 (b + 9 + x)) (t 10 (b + 18 + x)) (t 14)).1, setC t 14 (dayA P x (fun y => t 10 (b + y)) (t 10 (b + 8)) (t 10 (b + 9 + x)) (t 10 (b + 18 + x)) (t 14)).2) := by
  unfold fX11_leftAt
  rw [show (9 : Int32) = nI 9 from rfl, show (18 : Int32) = nI 18 from rfl, show (8 : Int32) = nI 8 from rfl]
  simp only [nI_add]
  rw [gRd_n (show b + 9 + x < 336 by omega) (by decide), gRd_n (show b + 18 + x < 336 by omega) (by decide), m_thereAt hp hP hb hx, gCl_s, gRd_n (show b + 8 < 336 by omega) (by decide), m_pours hp hP hx, gCl_s]
  rfl
