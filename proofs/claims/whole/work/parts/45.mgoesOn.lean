def ovl (f : Nat → Int32) (b : Nat) (W : Nat → Int32) : Nat → Int32 := fun j => if b ≤ j ∧ j < b + 8 then W (j - b) else f j
theorem ovl_in {f : Nat → Int32} {b : Nat} {W : Nat → Int32} {i : Nat} (h : i < 8) : ovl f b W (b + i) = W i := by
  unfold ovl
  rw [if_pos ⟨by omega, by omega⟩]
  congr 1
  omega
theorem ovl_out {f : Nat → Int32} {b : Nat} {W : Nat → Int32} {j : Nat} (h : j < b ∨ b + 8 ≤ j) : ovl f b W j = f j := by
  unfold ovl
  rw [if_neg (by omega)]
theorem ovl_upd {f : Nat → Int32} {b : Nat} {W : Nat → Int32} {i : Nat} {v : Int32} (h : i < 8) : upd (ovl f b W) (b + i) v = ovl f b (upd W i v) := by
  funext j
  unfold upd ovl
  by_cases h1 : j = b + i
  · rw [if_pos h1, if_pos ⟨by omega, by omega⟩]
    dsimp only
    rw [if_pos (by omega)]
  · rw [if_neg h1]
    by_cases h2 : b ≤ j ∧ j < b + 8
    · rw [if_pos h2, if_pos h2]
      dsimp only
      rw [if_neg (by omega)]
    · rw [if_neg h2, if_neg h2]
theorem ovl_self {f : Nat → Int32} {b : Nat} : ovl f b (fun y => f (b + y)) = f := by
  funext j
  unfold ovl
  split
  · show f (b + (j - b)) = f j
    congr 1
    omega
  · rfl
theorem ovl_2 {f : Nat → Int32} {b : Nat} {V W : Nat → Int32} : ovl (ovl f b V) b W = ovl f b W := by
  funext j
  unfold ovl
  split <;> rfl
theorem wellL_ok {P : Pl} {q : Int32} {dk : Nat → Int32} : ∀ (l : List Nat) (W : Nat → Int32), wOk W → wOk (wellL P q dk l W) := by
  intro l
  induction l with
  | nil => intro W h; exact h
  | cons z l ih =>
    intro W h
    rw [wellL]
    refine ih _ ?_
    split
    · exact h
    · intro y hy
      by_cases hyz : y = z
      · rw [hyz, upd_s]; exact clamp_b _
      · rw [upd_n hyz]; exact h y hy
theorem goN_ok {P : Pl} {q : Int32} {D K : Nat → Int32} (x : Nat) (u : Int32 × (Nat → Int32) × (Nat → Int32)) (h : wOk u.2.1) : wOk (goN P q D K x u).2.1 := by
  induction x with
  | zero => exact h
  | succ x ih => exact wellL_ok _ _ ih
/-- the wells behind a step's day as the reference writes them, one behind the other -/
def mwL (P : Pl) (q : Int32) (dk : Nat → Int32) (x i : Nat) (W : Nat → Int32) : Nat → Int32 := fun y => if y < i ∧ y < pC P ∧ pA P y = x then (if 0 < W y then nwI (pK P y) (pN P y) (dk y) (W y) (bit q y) else 0) else W y
theorem mwL_0 {P : Pl} {q : Int32} {dk : Nat → Int32} {x : Nat} {W : Nat → Int32} : mwL P q dk x 0 W = W := by
  funext y
  unfold mwL
  rw [if_neg (by omega)]
theorem mwL_s {P : Pl} {q : Int32} {dk : Nat → Int32} {x i : Nat} {W : Nat → Int32} (h : i < pC P) (hA : pA P i = x) : mwL P q dk x (i + 1) W = upd (mwL P q dk x i W) i (if 0 < W i then nwI (pK P i) (pN P i) (dk i) (W i) (bit q i) else 0) := by
  funext y
  unfold mwL upd
  by_cases hy : y = i
  · subst hy
    rw [if_pos ⟨by omega, h, hA⟩, if_pos rfl]
  · rw [if_neg hy]
    dsimp only
    by_cases h2 : y < i ∧ y < pC P ∧ pA P y = x
    · rw [if_pos ⟨by omega, h2.2⟩, if_pos h2]
    · rw [if_neg h2, if_neg (fun z => h2 ⟨by omega, z.2⟩)]
theorem mwL_n {P : Pl} {q : Int32} {dk : Nat → Int32} {x i : Nat} {W : Nat → Int32} (hA : ¬ pA P i = x) : mwL P q dk x (i + 1) W = mwL P q dk x i W := by
  funext y
  unfold mwL
  by_cases hy : y = i
  · subst hy
    rw [if_neg (fun z => hA z.2.2), if_neg (fun z => hA z.2.2)]
  · by_cases h2 : y < i ∧ y < pC P ∧ pA P y = x
    · rw [if_pos ⟨by omega, h2.2⟩, if_pos h2]
    · rw [if_neg h2, if_neg (fun z => h2 ⟨by omega, z.2⟩)]
theorem mwL_w {P : Pl} (hp : pOk P) {q : Int32} {dk : Nat → Int32} {x : Nat} {W : Nat → Int32} (hW : wOk W) : mwL P q dk x (pC P) W = wellL P q dk (tl P x) W := by
  have hc := hp.2.1
  funext y
  unfold mwL
  by_cases h : y ∈ tl P x
  · have h' := (tl_mem hp).mp h
    rw [wellL_in _ _ _ (tl_nodup P x) h, if_pos ⟨h'.1, h'⟩]
    have hy := hW y (by omega)
    by_cases hw : W y ≤ 0
    · rw [if_pos hw]
      have e : W y = 0 := by rw [eq_tI, t0]; rw [le_tI, t0] at hw; have := hy.1; omega
      rw [if_neg (by rw [e]; decide), e]
    · rw [if_neg hw, if_pos (by rw [lt_tI]; rw [le_tI] at hw; omega)]
  · rw [wellL_out _ _ _ h, if_neg (fun z => h ((tl_mem hp).mpr z.2))]
theorem m_gwLoop {P : Pl} (hp : pOk P) {b x : Nat} (hb : b + 28 ≤ 336) (hx : x < 9) {t : Sg} (hP : mPlan P t) (q cd : Int32) (f W : Nat → Int32) (hW : wOk W) (hd : ∀ y ∈ tl P x, rg (t 14 y) 0 18) (K : Sg → Option (Int32 × Sg)) : ∀ (d i n : Nat), i + d = pC P → d < n →
    fX11_goesOn_112 (nI b) cd (nI x) q n (nI i) (setC t 10 (ovl f b (mwL P q (t 14) x i W))) K = K (setC t 10 (ovl f b (mwL P q (t 14) x (pC P) W))) := by
  have hc := hp.2.1
  intro d
  induction d with
  | zero =>
    intro i n hi hn
    match n, hn with
    | n + 1, _ =>
      rw [fX11_goesOn_112, (mPlan_set (show 5 < 10 by decide) hP).2.1, if_pos ((nI_leN (by omega) (by omega)).mpr (by omega)), show i = pC P by omega]
  | succ d ih =>
    intro i n hi hn
    match n, hn with
    | n + 1, hn =>
      have hic : i < pC P := by omega
      have hA := (hp.2.2.2.2 i hic).1
      have h9 := hp.2.2.2.1
      have hP' := mPlan_set (f := ovl f b (mwL P q (t 14) x i W)) (show 5 < 10 by decide) hP
      have k := ih (i + 1) n (by omega) (by omega)
      rw [fX11_goesOn_112, hP'.2.1, if_neg (by rw [nI_leN (by omega) (by omega)]; omega), gRd_n (by omega) (by decide), (hP'.2.2.1 i hic).2.1]
      simp only [gLet, nI_1, nI_add]
      by_cases hAx : pA P i = x
      · rw [if_pos (by rw [hAx]), gRd_n (show b + i < 336 by omega) (by decide), gRd_n (by omega) (by decide), setC_s, setC_n (show 14 ≠ 10 by decide), ovl_in (by omega), m_has, gCl_s]
        have hwi : mwL P q (t 14) x i W i = W i := by unfold mwL; rw [if_neg (by omega)]
        rw [hwi, m_wellThen hp hP' hic _ _ _ _ (hW i (by omega)).2 (hd i ((tl_mem hp).mpr ⟨hic, hAx⟩)), gCl_s, gWr_n (show b + i < 336 by omega) (by decide), setC_2, setC_s, ovl_upd (by omega)]
        have eb : (!decide (bI (bit q i = true) = 0)) = bit q i := by
          by_cases hq : bit q i = true
          · rw [bI_t hq, hq]; rfl
          · rw [bI_f hq]; simpa using hq
        rw [eb, ← mwL_s hic hAx]
        exact k
      · rw [if_neg (by rw [nI_inj (by omega) (by omega)]; exact hAx), ← mwL_n hAx]
        exact k
def putM (t : Sg) (b : Nat) (u : (Nat → Int32) × (Nat → Int32)) : Sg := setC (setC t 14 u.2) 10 (ovl (t 10) b u.1)
theorem putM_at {t : Sg} {b : Nat} {u : (Nat → Int32) × (Nat → Int32)} {k : Nat} (h1 : k ≠ 10) (h2 : k ≠ 14) : putM t b u k = t k := by
  unfold putM
  rw [setC_n h1, setC_n h2]
theorem putM_s {t : Sg} {b : Nat} {u : (Nat → Int32) × (Nat → Int32)} : putM t b u 10 = ovl (t 10) b u.1 := by unfold putM; rw [setC_s]
theorem putM_d {t : Sg} {b : Nat} {u : (Nat → Int32) × (Nat → Int32)} : putM t b u 14 = u.2 := by unfold putM; rw [setC_n (by decide), setC_s]
theorem mPlan_put {P : Pl} {t : Sg} {b : Nat} {u : (Nat → Int32) × (Nat → Int32)} (hP : mPlan P t) : mPlan P (putM t b u) := mPlan_eq (fun k h1 h2 => putM_at (by omega) (by omega)) (by rw [putM_at (by decide) (by decide)]) (by rw [putM_at (by decide) (by decide)]) hP
def snD (a1 : Int32) (f : Nat → Int32) : Nat → Int32 := fun x => if a1 = 0 then f x else 0
theorem m_goLoop {P : Pl} (hp : pOk P) {b : Nat} (hb : b + 28 ≤ 336) {t : Sg} (hP : mPlan P t) (a1 : Int32) (hW : wOk (fun y => t 10 (b + y))) (hD : ∀ x, x < pS P → rg (t 10 (b + 9 + x)) 0 40) (hK : ∀ x, x < pS P → rg (t 10 (b + 18 + x)) 0 9) (K : Int32 → Sg → Option (Int32 × Sg)) : ∀ (d x n : Nat), d + x = pS P → d < n →
    fX11_goesOn_5 (nI b) a1 n (goN P (t 10 (b + 8)) (snD a1 (fun x => t 10 (b + 9 + x))) (fun x => t 10 (b + 18 + x)) x (0, (fun y => t 10 (b + y)), t 14)).1 (nI x) (putM t b (goN P (t 10 (b + 8)) (snD a1 (fun x => t 10 (b + 9 + x))) (fun x => t 10 (b + 18 + x)) x (0, (fun y => t 10 (b + y)), t 14)).2) K =
      K (goN P (t 10 (b + 8)) (snD a1 (fun x => t 10 (b + 9 + x))) (fun x => t 10 (b + 18 + x)) (pS P) (0, (fun y => t 10 (b + y)), t 14)).1 (putM t b (goN P (t 10 (b + 8)) (snD a1 (fun x => t 10 (b + 9 + x))) (fun x => t 10 (b + 18 + x)) (pS P) (0, (fun y => t 10 (b + y)), t 14)).2) := by
  have h9 := hp.2.2.2.1
  have hc := hp.2.1
  intro d
  induction d with
  | zero =>
    intro x n hx hn
    match n, hn with
    | n + 1, _ =>
      rw [fX11_goesOn_5, putM_at (by decide) (by decide), hP.1, if_pos ((nI_leN (by omega) (by omega)).mpr (by omega)), show x = pS P by omega]
  | succ d ih =>
    intro x n hx hn
    match n, hn with
    | n + 1, hn =>
      have k := ih (x + 1) n (by omega) (by omega)
      have hok := goN_ok (P := P) (q := t 10 (b + 8)) (D := snD a1 (fun x => t 10 (b + 9 + x))) (K := fun x => t 10 (b + 18 + x)) x (0, (fun y => t 10 (b + y)), t 14) hW
      generalize hu : goN P (t 10 (b + 8)) (snD a1 (fun x => t 10 (b + 9 + x))) (fun x => t 10 (b + 18 + x)) x (0, (fun y => t 10 (b + y)), t 14) = u at hok
      have hP' : mPlan P (putM t b u.2) := mPlan_put hP
      have rd : ∀ j, 8 ≤ j → putM t b u.2 10 (b + j) = t 10 (b + j) := fun j hj => by rw [putM_s, ovl_out (by omega)]
      have rd0 : ∀ y, y < 8 → putM t b u.2 10 (b + y) = u.2.1 y := fun y hy => by rw [putM_s, ovl_in hy]
      rw [fX11_goesOn_5, putM_at (by decide) (by decide), hP.1, if_neg (by rw [nI_leN (by omega) (by omega)]; omega)]
      rw [show (9 : Int32) = nI 9 from rfl, show (18 : Int32) = nI 18 from rfl, show (8 : Int32) = nI 8 from rfl]
      simp only [gLet, nI_1, nI_add]
      have body : ∀ dn : Int32, dn = snD a1 (fun x => t 10 (b + 9 + x)) x → gRd (nI (b + 8)) 336 (putM t b u.2 10) (fun x9 => gRd (nI (b + 18 + x)) 336 (putM t b u.2 10) (fun x11 => gCl (fX11_smaller (putM t b u.2) dn x11) (fun r15 g14 =>
          if r15 ≤ 0 then gRd (nI (b + 18 + x)) 336 (g14 10) (fun x19 => gCl (fX11_thereAt g14 (nI b) (nI x)) (fun r23 g22 => gCl (fX11_pours g22 (nI x) dn x19 (r23 &&& (x9 ^^^ (-1 : Int32)))) (fun r26 g25 => fX11_goesOn_112 (nI b) (0 : Int32) (nI x) x9 gN (0 : Int32) g25 (fun g52 => fX11_goesOn_5 (nI b) a1 n (u.1 + r26) (nI (x + 1)) g52 K))))
          else gRd (nI (b + 18 + x)) 336 (g14 10) (fun x19 => gCl (fX11_thereAt g14 (nI b) (nI x)) (fun r23 g22 => gCl (fX11_pours g22 (nI x) dn x19 (r23 &&& (x9 ^^^ (-1 : Int32)))) (fun r26 g25 => fX11_goesOn_112 (nI b) (1 : Int32) (nI x) x9 gN (0 : Int32) g25 (fun g52 => fX11_goesOn_5 (nI b) a1 n (u.1 + r26) (nI (x + 1)) g52 K))))))) = K (goN P (t 10 (b + 8)) (snD a1 (fun x => t 10 (b + 9 + x))) (fun x => t 10 (b + 18 + x)) (pS P) (0, (fun y => t 10 (b + y)), t 14)).1 (putM t b (goN P (t 10 (b + 8)) (snD a1 (fun x => t 10 (b + 9 + x))) (fun x => t 10 (b + 18 + x)) (pS P) (0, (fun y => t 10 (b + y)), t 14)).2) := by
        intro dn hdn
        have hth : thrL (fun y => putM t b u.2 10 (b + y)) (tl P x) 0 = thrL u.2.1 (tl P x) 0 := by
          have : ∀ (l : List Nat) (a : Int32), (∀ y ∈ l, y < 8) → thrL (fun y => putM t b u.2 10 (b + y)) l a = thrL u.2.1 l a := by
            intro l
            induction l with
            | nil => intro a _; rfl
            | cons z l ih2 =>
              intro a hl
              rw [thrL, thrL, ih2 _ (fun y hy => hl y (List.mem_cons_of_mem _ hy)), rd0 z (hl z List.mem_cons_self)]
          exact this _ _ (fun y hy => by have := ((tl_mem hp).mp hy).1; omega)
        have rest : ∀ cd : Int32, gRd (nI (b + 18 + x)) 336 (putM t b u.2 10) (fun x19 => gCl (fX11_thereAt (putM t b u.2) (nI b) (nI x)) (fun r23 g22 => gCl (fX11_pours g22 (nI x) dn x19 (r23 &&& (t 10 (b + 8) ^^^ (-1 : Int32)))) (fun r26 g25 => fX11_goesOn_112 (nI b) cd (nI x) (t 10 (b + 8)) gN (0 : Int32) g25 (fun g52 => fX11_goesOn_5 (nI b) a1 n (u.1 + r26) (nI (x + 1)) g52 K)))) = K (goN P (t 10 (b + 8)) (snD a1 (fun x => t 10 (b + 9 + x))) (fun x => t 10 (b + 18 + x)) (pS P) (0, (fun y => t 10 (b + y)), t 14)).1 (putM t b (goN P (t 10 (b + 8)) (snD a1 (fun x => t 10 (b + 9 + x))) (fun x => t 10 (b + 18 + x)) (pS P) (0, (fun y => t 10 (b + y)), t 14)).2) := by
          intro cd
          rw [gRd_n (show b + 18 + x < 336 by omega) (by decide), m_thereAt hp hP' hb (by omega), gCl_s, hth, m_pours hp hP' (by omega), gCl_s, putM_d, show b + 18 + x = b + (18 + x) by omega, rd (18 + x) (by omega), show b + (18 + x) = b + 18 + x by omega]
          have hdn' : rg dn 0 40 := by
            rw [hdn]
            unfold snD
            split
            · exact hD x (by omega)
            · exact ⟨by rw [t0]; omega, by rw [t0]; omega⟩
          rw [show pourA P x dn (t 10 (b + 18 + x)) (thrL u.2.1 (tl P x) 0 &&& (t 10 (b + 8) ^^^ (-1))) u.2.2 = dayA P x u.2.1 (t 10 (b + 8)) dn (t 10 (b + 18 + x)) u.2.2 from rfl]
          have hb2 := (pourA_b (P := P) hp (x := x) (set := drkI (t 10 (b + 8)) (thrL u.2.1 (tl P x) 0)) (dk := u.2.2) hdn' (hK x (by omega))).2
          rw [show pourA P x dn (t 10 (b + 18 + x)) (drkI (t 10 (b + 8)) (thrL u.2.1 (tl P x) 0)) u.2.2 = dayA P x u.2.1 (t 10 (b + 8)) dn (t 10 (b + 18 + x)) u.2.2 from rfl] at hb2
          generalize hv : dayA P x u.2.1 (t 10 (b + 8)) dn (t 10 (b + 18 + x)) u.2.2 = v at hb2
          have est : setC (putM t b u.2) 14 v.2 = setC (setC t 14 v.2) 10 (ovl (t 10) b u.2.1) := by
            unfold putM
            rw [setC_c (a := 10) (b := 14) (by decide), setC_2]
          have kk := m_gwLoop hp (x := x) hb (by omega) (t := setC t 14 v.2) (mPlan_set (by decide) hP) (t 10 (b + 8)) cd (t 10) u.2.1 hok (by rw [setC_s]; exact hb2) (fun g52 => fX11_goesOn_5 (nI b) a1 n (u.1 + v.1) (nI (x + 1)) g52 K) (pC P) 0 gN (by omega) (by unfold gN; omega)
          rw [mwL_0, setC_s, mwL_w hp hok] at kk
          rw [est, show (0 : Int32) = nI 0 from rfl, kk]
          have eu : goN P (t 10 (b + 8)) (snD a1 (fun x => t 10 (b + 9 + x))) (fun x => t 10 (b + 18 + x)) (x + 1) (0, (fun y => t 10 (b + y)), t 14) = (u.1 + v.1, wellL P (t 10 (b + 8)) v.2 (tl P x) u.2.1, v.2) := by
            rw [goN, hu, ← hdn, hv]
          rw [eu] at k
          exact k
        rw [gRd_n (show b + 8 < 336 by omega) (by decide), gRd_n (show b + 18 + x < 336 by omega) (by decide), m_smaller, gCl_s, rd 8 (by omega)]
        generalize (if dn < putM t b u.2 10 (b + 18 + x) then dn else putM t b u.2 10 (b + 18 + x)) = z
        split
        · exact rest 0
        · exact rest 1
      by_cases ha : a1 = 0
      · rw [if_pos ha, gRd_n (show b + 9 + x < 336 by omega) (by decide), show b + 9 + x = b + (9 + x) by omega, rd (9 + x) (by omega)]
        exact body _ (by unfold snD; rw [if_pos ha]; show t 10 (b + (9 + x)) = t 10 (b + 9 + x); congr 1; omega)
      · rw [if_neg ha]
        exact body 0 (by unfold snD; rw [if_neg ha])
theorem m_goesOn {P : Pl} (hp : pOk P) {b : Nat} (hb : b + 28 ≤ 336) {t : Sg} (hP : mPlan P t) (a1 : Int32) (hW : wOk (fun y => t 10 (b + y))) (hD : ∀ x, x < pS P → rg (t 10 (b + 9 + x)) 0 40) (hK : ∀ x, x < pS P → rg (t 10 (b + 18 + x)) 0 9) :
    fX11_goesOn t (nI b) a1 = some ((goN P (t 10 (b + 8)) (snD a1 (fun x => t 10 (b + 9 + x))) (fun x => t 10 (b + 18 + x)) (pS P) (0, (fun y => t 10 (b + y)), t 14)).1,
      setC (setC t 14 (goN P (t 10 (b + 8)) (snD a1 (fun x => t 10 (b + 9 + x))) (fun x => t 10 (b + 18 + x)) (pS P) (0, (fun y => t 10 (b + y)), t 14)).2.2) 10 (upd (ovl (t 10) b (goN P (t 10 (b + 8)) (snD a1 (fun x => t 10 (b + 9 + x))) (fun x => t 10 (b + 18 + x)) (pS P) (0, (fun y => t 10 (b + y)), t 14)).2.1) (b + 27) (t 10 (b + 27) + 1))) := by
  have h9 := hp.2.2.2.1
  unfold fX11_goesOn
  have e : putM t b ((fun y => t 10 (b + y)), t 14) = t := by
    unfold putM
    rw [ovl_self, setC_id, setC_id]
  have k := fun K => m_goLoop hp hb hP a1 hW hD hK K (pS P) 0 gN (by omega) (by unfold gN; omega)
  simp only [goN, e] at k
  rw [show (0 : Int32) = nI 0 from rfl, show (27 : Int32) = nI 27 from rfl] at *
  rw [k]
  simp only [nI_add]
  rw [gRd_n (show b + 27 < 336 by omega) (by decide), gWr_n (show b + 27 < 336 by omega) (by decide), putM_s, ovl_out (by omega)]
  unfold putM
  rw [setC_2]
