/-! ===== constructors that make standings in a row ===== -/
def stC (cA : Nat → ClassId) (r : Nat → Nat) (k : Nat) : Nat × va_E := (r k, if k % 4 = 0 then .inr (9, [.ref (r (k + 1)), .ref (r (k + 2)), .ref (r (k + 3)), .int 0, .int 0]) else .inl (cA 0, if k % 4 = 3 then 8 else 9, .inl (fun _ => 0)))
def stT (cA : Nat → ClassId) (r : Nat → Nat) (i : Nat) : va_W := (List.range (4 * i)).map (stC cA r)
def stF (r : Nat → Nat) (i : Nat) : Nat → Option Nat := fun j => if j < i then some (r (4 * j)) else none
def stArr (cA : Nat → ClassId) (N q : Nat) (f : Nat → Option Nat) : Nat × va_E := (q, .inl (cA 2, N, .inr (.inr (.inr (.inr f)))))
def stR (r ad : Nat → Nat) (i : Nat) : Nat → Nat := fun k => if k < 4 * i then r k else ad (k - 4 * i)
theorem stT_len {cA : Nat → ClassId} {r : Nat → Nat} {i : Nat} : (stT cA r i).length = 4 * i := by
  unfold stT
  rw [List.length_map, List.length_range]
theorem stT_s {cA : Nat → ClassId} {r ad : Nat → Nat} {i : Nat} : stT cA r i ++ gL cA ad z0 0 shSg = stT cA (stR r ad i) (i + 1) := by
  unfold stT
  rw [show 4 * (i + 1) = 4 * i + 4 by omega, List.range_add, List.map_append, List.map_map]
  have e : ∀ j, stR r ad i (4 * i + j) = ad j := fun j => by
    unfold stR
    rw [if_neg (by omega), show 4 * i + j - 4 * i = j by omega]
  congr 1
  · refine List.map_congr_left (fun k hk => ?_)
    have hk : k < 4 * i := List.mem_range.mp hk
    unfold stC
    have e0 : ∀ j, j < 4 * i → stR r ad i j = r j := fun j hj => if_pos hj
    rw [e0 k hk]
    by_cases z : k % 4 = 0
    · rw [if_pos z, if_pos z, e0 (k + 1) (by omega), e0 (k + 2) (by omega), e0 (k + 3) (by omega)]
    · rw [if_neg z, if_neg z]
  · show _ = [stC cA (stR r ad i) (4 * i + 0), stC cA (stR r ad i) (4 * i + 1), stC cA (stR r ad i) (4 * i + 2), stC cA (stR r ad i) (4 * i + 3)]
    unfold stC
    rw [if_pos (show (4 * i + 0) % 4 = 0 by omega), if_neg (show ¬ (4 * i + 1) % 4 = 0 by omega), if_neg (show ¬ (4 * i + 2) % 4 = 0 by omega), if_neg (show ¬ (4 * i + 3) % 4 = 0 by omega), if_neg (show ¬ (4 * i + 1) % 4 = 3 by omega), if_neg (show ¬ (4 * i + 2) % 4 = 3 by omega), if_pos (show (4 * i + 3) % 4 = 3 by omega), Nat.add_assoc, Nat.add_assoc, Nat.add_assoc, e, e, e, e]
    rfl
theorem stF_s {r ad : Nat → Nat} {i : Nat} : va_up (stF r i) i (some (ad 0)) = stF (stR r ad i) (i + 1) := by
  funext j
  unfold va_up stF stR
  by_cases z : j = i
  · rw [if_pos z, if_pos (by omega), if_neg (by omega), show 4 * j - 4 * i = 0 by omega]
  · rw [if_neg z]
    by_cases z2 : j < i
    · rw [if_pos z2, if_pos (by omega), if_pos (by omega)]
    · rw [if_neg z2, if_neg (by omega)]
theorem cr_astS {X : CX} {D : va_G} {cA : Nat → ClassId} {cc : ByteArray} {own : String} {Ts : List Cond} {nL fr lo MC MS : Nat} (C : cC X D cA cc own Ts nL fr lo MC MS) {ws : va_W} {k n pc : Nat} {lv : List (Nat × Value)} {st : List Value} (q0 qk : Nat) {a v N : Nat} {f : Nat → Option Nat} {vs : List Value} {i : Int32} (hd : decode cc pc = .ok (.aastore, 1)) (ha : ws[q0]? = some (a, .inl (cA 2, N, .inr (.inr (.inr (.inr f)))))) (hv : ws[qk]? = some (v, .inr (9, vs))) (hi : gIn i N) (kk : cG X D (ws.set q0 (a, .inl (cA 2, N, .inr (.inr (.inr (.inr (va_up f i.toNatClampNeg (some v)))))))) k n (pc + 1) lv st) : cG X D ws k n pc lv (.ref v :: .int i :: .ref a :: st) := by
  obtain ⟨p, l, e, R, s, m, args, below, meth, c, A, Qt, nL'⟩ := X
  obtain ⟨hx, hb, hml, rfl, hown, hts, hK, hN, hO, hA, hR⟩ := C
  intro H locs ls hls hP hD hS
  exact va_astq (r := (RX9, TX9, 5)) hx hb hK hP hD hS q0 2 qk 9 ha (gTy_at cA 2 (by decide)) hv rfl (gIn_vp hi) hd (fun H1 locs1 hP1 hD1 hS1 => kk H1 locs1 ls hls hP1 hD1 hS1)
/-- cells that are told in two ways -/
def eqE (e e' : va_E) : Prop := e = e' ∨ ∃ (c : ClassId) (N : Nat) (f g : Nat → Option Nat), e = .inl (c, N, .inr (.inr (.inr (.inr f)))) ∧ e' = .inl (c, N, .inr (.inr (.inr (.inr g)))) ∧ ∀ i, i < N → f i = g i
def eqW : va_W → va_W → Prop
  | [], [] => True
  | (a, e) :: l, (a', e') :: l' => a = a' ∧ eqE e e' ∧ eqW l l'
  | _, _ => False
theorem eqE_rf {e : va_E} : eqE e e := Or.inl rfl
theorem eqW_rf : ∀ {l : va_W}, eqW l l
  | [] => trivial
  | (_, _) :: _ => ⟨rfl, eqE_rf, eqW_rf⟩
theorem eqW_app : ∀ {a b c d : va_W}, eqW a b → eqW c d → eqW (a ++ c) (b ++ d)
  | [], [], _, _, _, h => h
  | (_, _) :: _, (_, _) :: _, _, _, ⟨h1, h2, h3⟩, h => ⟨h1, h2, eqW_app h3 h⟩
  | [], (_, _) :: _, _, _, h1, _ => h1.elim
  | (_, _) :: _, [], _, _, h1, _ => h1.elim
theorem eqW_at : ∀ {l l' : va_W}, eqW l l' → ∀ (i : Nat) (q : Nat × va_E), l'[i]? = some q → ∃ e, l[i]? = some (q.1, e) ∧ eqE e q.2
  | [], [], _, i, q, h => by simp at h
  | (a, e) :: l, (a', e') :: l', ⟨h1, h2, h3⟩, i, q, h => by
    cases i with
    | zero =>
      rw [List.getElem?_cons_zero] at h
      cases h
      exact ⟨e, by rw [List.getElem?_cons_zero, h1], h2⟩
    | succ i =>
      rw [List.getElem?_cons_succ] at h
      obtain ⟨e2, k1, k2⟩ := eqW_at h3 i q h
      exact ⟨e2, by rw [List.getElem?_cons_succ]; exact k1, k2⟩
  | [], (_, _) :: _, h, _, _, _ => h.elim
  | (_, _) :: _, [], h, _, _, _ => h.elim
theorem eqW_P {D : va_G} {l l' : va_W} {H : Heap} (h : eqW l l') (hP : va_P D vwCl l H) : va_P D vwCl l' H := by
  intro i q hq
  obtain ⟨e, k1, k2⟩ := eqW_at h i q hq
  have hp := hP i _ k1
  rcases k2 with k2 | ⟨c, N, f, g, e1, e2, e3⟩
  · subst k2
    exact hp
  · obtain ⟨a, qe⟩ := q
    dsimp only at e2 hp
    subst e1
    subst e2
    have hp : H[a]? = some (vp_cell c (N, .inr (.inr (.inr (.inr f))))) := hp
    show H[a]? = some (vp_cell c (N, .inr (.inr (.inr (.inr g)))))
    rw [hp, vp_cell_q, vp_cell_q]
    congr 1
    unfold arrV
    congr 1
    apply Array.ext
    · simp
    · intro j h1 h2
      simp at h1
      simp [e3 j h1]
theorem eqW_D {A : Nat → Prop} {l l' : va_W} (h : eqW l l') (hD : va_D A l) : va_D A l' := by
  refine ⟨fun i j p q hi hj hpq => ?_, fun i q hi => ?_⟩
  · obtain ⟨e1, k1, -⟩ := eqW_at h i p hi
    obtain ⟨e2, k2, -⟩ := eqW_at h j q hj
    exact hD.1 i j _ _ k1 k2 hpq
  · obtain ⟨e1, k1, -⟩ := eqW_at h i q hi
    exact hD.2 i (q.1, e1) k1
theorem cr_eqW {X : CX} {D : va_G} {ws ws' : va_W} {k n pc : Nat} {lv : List (Nat × Value)} {st : List Value} (h : eqW ws ws') (kk : cG X D ws' k n pc lv st) : cG X D ws k n pc lv st := by
  obtain ⟨p, l, e, R, s, m, args, below, meth, c, A, Qt, nL'⟩ := X
  intro H locs ls hls hP hD hS
  exact kk H locs ls hls (eqW_P h hP) (eqW_D h hD) hS
theorem cr_swap {X : CX} {D : va_G} {a b c : va_W} {k n pc : Nat} {lv : List (Nat × Value)} {st : List Value} (kk : cG X D ((a ++ c) ++ b) k n pc lv st) : cG X D ((a ++ b) ++ c) k n pc lv st := by
  obtain ⟨p, l, e, R, s, m, args, below, meth, c, A, Qt, nL'⟩ := X
  intro H locs ls hls hP hD hS
  exact kk H locs ls hls hP.swap hD.swap hS
/-- shapes moved to other places -/
def shf (f : Nat → Nat) : Sh → Sh
  | .inl a => .inl a
  | .inr (.inl (ci, fs)) => .inr (.inl (ci, fs.map (Option.map f)))
  | .inr (.inr (t, n, b, k)) => .inr (.inr (t, n, f b, k))
def okSh (M : Nat) : Sh → Prop
  | .inl _ => True
  | .inr (.inl (_, fs)) => ∀ o ∈ fs, ∀ j, o = some j → j < M ∨ j = 1000 ∨ j = 1001
  | .inr (.inr (_, n, b, k)) => ∀ i, i < n → b + k * i < M
theorem gL_shf {cA : Nat → ClassId} {ad ad' : Nat → Nat} {f : Nat → Nat} {o M : Nat} (hM : M ≤ 1000) (hf : ∀ j, j < 1000 → f j = o + j) (ha : ∀ j, j < M → ad (o + j) = ad' j) (ha2 : ad (f 1000) = ad' 1000) (ha3 : ad (f 1001) = ad' 1001) : ∀ (sh : List Sh) (i : Nat), (∀ s ∈ sh, okSh M s) → i + sh.length ≤ M → (∀ s ∈ sh, ∀ t n b k, s = .inr (.inr (t, n, b, k)) → b < 1000) → eqW (gL cA ad' z0 i sh) (gL cA ad z0 (o + i) (sh.map (shf f))) := by
  intro sh
  induction sh with
  | nil => intro i _ _ _; exact trivial
  | cons s sh ih =>
    intro i h1 h2 h3
    rw [List.length_cons] at h2
    have hs := h1 s (List.mem_cons_self)
    refine ⟨(ha i (by omega)).symm, ?_, ?_⟩
    · match s, hs, h3 s (List.mem_cons_self) with
      | .inl (t, n), _, _ => exact Or.inl rfl
      | .inr (.inl (ci, fs)), hs, _ =>
        left
        show (Sum.inr (ci, gFld ad' (z0 i) fs) : va_E) = Sum.inr (ci, gFld ad (z0 (o + i)) (fs.map (Option.map f)))
        congr 2
        unfold gFld
        apply List.ext_getElem?
        intro j
        rw [List.getElem?_mapIdx, List.getElem?_mapIdx, List.getElem?_map]
        cases hj : fs[j]? with
        | none => rfl
        | some w =>
          cases w with
          | none => rfl
          | some q =>
            have hq := hs (some q) (List.mem_of_getElem? hj) q rfl
            show some (Value.ref (ad' q)) = some (Value.ref (ad (f q)))
            rcases hq with hq | hq | hq
            · rw [hf q (by omega), ha q hq]
            · rw [hq, ha2]
            · rw [hq, ha3]
      | .inr (.inr (t, n, b, k)), hs, hb =>
        right
        refine ⟨cA t, n, _, _, rfl, rfl, fun j hj => ?_⟩
        have hb := hb t n b k rfl
        have hq := hs j hj
        show some (ad' (b + k * j)) = some (ad (f b + k * j))
        rw [hf b hb, Nat.add_assoc, ha _ hq]
    · have := ih (i + 1) (fun s' h => h1 s' (List.mem_cons_of_mem _ h)) (by omega) (fun s' h => h3 s' (List.mem_cons_of_mem _ h))
      rw [show o + (i + 1) = o + i + 1 by omega] at this
      exact this
/-- so many standings, as cells of a shape -/
def shT (N b : Nat) : List Sh := (List.range (4 * N)).map (fun k => if k % 4 = 0 then .inr (.inl (9, [some (b + k + 1), some (b + k + 2), some (b + k + 3), none, none])) else .inl (0, if k % 4 = 3 then 8 else 9))
theorem gL_at {cA : Nat → ClassId} {ad : Nat → Nat} {σ : Sg} : ∀ (sh : List Sh) (o i : Nat), (gL cA ad σ o sh)[i]? = sh[i]?.map (fun s => (ad (o + i), gCell cA ad (σ (o + i)) s))
  | [], o, i => rfl
  | s :: sh, o, i => by
    cases i with
    | zero => rfl
    | succ i =>
      rw [gL, List.getElem?_cons_succ, List.getElem?_cons_succ, gL_at sh (o + 1) i, show o + 1 + i = o + (i + 1) by omega]
theorem stT_L {cA : Nat → ClassId} {r ad : Nat → Nat} {b N : Nat} (h : ∀ k, k < 4 * N → ad (b + k) = r k) : stT cA r N = gL cA ad z0 b (shT N b) := by
  apply List.ext_getElem?
  intro i
  rw [gL_at]
  unfold stT shT
  rw [List.getElem?_map, List.getElem?_map]
  by_cases hi : i < 4 * N
  · rw [List.getElem?_range hi]
    simp only [Option.map_some]
    unfold stC
    rw [h i hi]
    congr 2
    by_cases z : i % 4 = 0
    · rw [if_pos z, if_pos z]
      show (Sum.inr (9, [Value.ref (r (i + 1)), .ref (r (i + 2)), .ref (r (i + 3)), .int 0, .int 0]) : va_E) = Sum.inr (9, [Value.ref (ad (b + i + 1)), .ref (ad (b + i + 2)), .ref (ad (b + i + 3)), .int 0, .int 0])
      rw [Nat.add_assoc, Nat.add_assoc, Nat.add_assoc, h _ (by omega), h _ (by omega), h _ (by omega)]
    · rw [if_neg z, if_neg z]
      rfl
  · rw [List.getElem?_eq_none (by rw [List.length_range]; omega)]
    rfl
