/-- all cells of the class, out of what its constructors left -/
def cAd (h0 : Nat) (a1 a2 a3 a4 a5 a6 a7 a8 a9 a10 a11 a12 : Nat → Nat) : Nat → Nat := fun k => if k = 0 then h0 else if k < 4 then a1 (k - 1) else if k < 14 then a2 (k - 4) else if k < 24 then a3 (k - 14) else if k < 28 then a4 (k - 24) else if k < 62 then a5 (k - 28) else if k < 72 then a6 (k - 62) else if k < 74 then a7 (k - 72) else if k < 77 then a8 (k - 74) else if k < 82 then a9 (k - 77) else if k < 108 then a10 (k - 82) else if k < 147 then a11 (k - 108) else a12 (k - 147)
def shF (o : Nat) : Nat → Nat := fun j => if j = 1000 then 4 else if j = 1001 then 72 else o + j
def okR (M : Nat) (ad ad' f : Nat → Nat) : Sh → Prop
  | .inl _ => True
  | .inr (.inl (_, fs)) => ∀ o ∈ fs, ∀ j, o = some j → j < M ∨ ad (f j) = ad' j
  | .inr (.inr (_, n, b, k)) => b < 1000 ∧ ∀ i, i < n → b + k * i < M
theorem gL_sh2 {cA : Nat → ClassId} {ad ad' f : Nat → Nat} {o M : Nat} (hM : M ≤ 1000) (hf : ∀ j, j < 1000 → f j = o + j) (ha : ∀ j, j < M → ad (o + j) = ad' j) : ∀ (sh : List Sh) (i : Nat), (∀ s ∈ sh, okR M ad ad' f s) → i + sh.length ≤ M → eqW (gL cA ad' z0 i sh) (gL cA ad z0 (o + i) (sh.map (shf f))) := by
  intro sh
  induction sh with
  | nil => intro i _ _; exact trivial
  | cons s sh ih =>
    intro i h1 h2
    rw [List.length_cons] at h2
    have hs := h1 s (List.mem_cons_self)
    refine ⟨(ha i (by omega)).symm, ?_, ?_⟩
    · match s, hs with
      | .inl (t, n), _ => exact Or.inl rfl
      | .inr (.inl (ci, fs)), hs =>
        left
        show (Sum.inr (ci, gFld ad' (z0 i) fs) : va_E) = Sum.inr (ci, gFld ad (z0 (o + i)) (fs.map (Option.map f)))
        congr 2
        unfold gFld
        apply List.ext_getElem?
        intro j
        rw [List.getElem?_mapIdx, List.getElem?_mapIdx, List.getElem?_map]
        cases hj : fs[j]? with
        | none => rfl
        | some w =>
          cases w with
          | none => rfl
          | some q =>
            have hq := hs (some q) (List.mem_of_getElem? hj) q rfl
            show some (Value.ref (ad' q)) = some (Value.ref (ad (f q)))
            rcases hq with hq | hq
            · rw [hf q (by omega), ha q hq]
            · rw [hq]
      | .inr (.inr (t, n, b, k)), hs =>
        right
        obtain ⟨hb, hs⟩ := hs
        refine ⟨cA t, n, _, _, rfl, rfl, fun j hj => ?_⟩
        have hq := hs j hj
        show some (ad' (b + k * j)) = some (ad (f b + k * j))
        rw [hf b hb, Nat.add_assoc, ha _ hq]
    · have := ih (i + 1) (fun s' h => h1 s' (List.mem_cons_of_mem _ h)) (by omega)
      rw [show o + (i + 1) = o + i + 1 by omega] at this
      exact this
def okB (M r : Nat) : Sh → Bool
  | .inl _ => true
  | .inr (.inl (_, fs)) => fs.all (fun o => match o with | none => true | some j => decide (j < M ∨ (1 ≤ r ∧ j = 1000) ∨ (2 ≤ r ∧ j = 1001)))
  | .inr (.inr (_, n, b, k)) => decide (b < 1000 ∧ ∀ i, i < n → b + k * i < M)
theorem blk {cA : Nat → ClassId} {ad ad' : Nat → Nat} {o : Nat} (M r : Nat) {sh : List Sh} (hM : M ≤ 1000) (ha : ∀ j, j < M → ad (o + j) = ad' j) (h1 : 1 ≤ r → ad 4 = ad' 1000) (h2 : 2 ≤ r → ad 72 = ad' 1001) (hall : sh.all (okB M r) = true) (hl : sh.length ≤ M) : eqW (gL cA ad' z0 0 sh) (gL cA ad z0 o (sh.map (shf (shF o)))) := by
  refine gL_sh2 (o := o) (M := M) hM (fun j hj => ?_) ha sh 0 (fun s hs => ?_) (by omega)
  · unfold shF
    rw [if_neg (by omega), if_neg (by omega)]
  · have hb := List.all_eq_true.mp hall s hs
    match s, hb with
    | .inl _, _ => exact trivial
    | .inr (.inl (ci, fs)), hb =>
      intro q hq j hj
      subst hj
      have h3 := List.all_eq_true.mp hb (some j) hq
      rcases of_decide_eq_true h3 with h | ⟨h, rfl⟩ | ⟨h, rfl⟩
      · exact Or.inl h
      · exact Or.inr (h1 h)
      · exact Or.inr (h2 h)
    | .inr (.inr (t, n, b, k)), hb =>
      have hb2 : decide (b < 1000 ∧ ∀ i, i < n → b + k * i < M) = true := hb
      exact (of_decide_eq_true hb2 : b < 1000 ∧ ∀ i, i < n → b + k * i < M)
theorem glue {cA : Nat → ClassId} {ad : Nat → Nat} {o : Nat} (o' : Nat) {A B : va_W} {m1 m2 : List Sh} (h1 : eqW A (gL cA ad z0 o m1)) (hl : o + m1.length = o') (h2 : eqW B (gL cA ad z0 o' m2)) : eqW (A ++ B) (gL cA ad z0 o (m1 ++ m2)) := by
  subst hl
  rw [gL_app]
  exact eqW_app h1 h2
theorem shC_e : shC = .inr (.inl (10, [some 1, some 4, some 14, some 24, some 28, some 62, some 72, some 74, some 77, some 82, some 108, some 147])) :: (shRd.map (shf (shF 1)) ++ (shPn.map (shf (shF 4)) ++ (shPn.map (shf (shF 14)) ++ (shSg.map (shf (shF 24)) ++ ((shSf 8).map (shf (shF 28)) ++ ((shSf 2).map (shf (shF 62)) ++ (shDy.map (shf (shF 72)) ++ (shSn.map (shf (shF 74)) ++ (shCm.map (shf (shF 77)) ++ (shSh.map (shf (shF 82)) ++ (shSw.map (shf (shF 108)) ++ (shCr.map (shf (shF 147)))))))))))))) := by decide +kernel
theorem shlen : 1 + (shRd.map (shf (shF 1))).length = 4 ∧ 4 + (shPn.map (shf (shF 4))).length = 14 ∧ 14 + (shPn.map (shf (shF 14))).length = 24 ∧ 24 + (shSg.map (shf (shF 24))).length = 28 ∧ 28 + ((shSf 8).map (shf (shF 28))).length = 62 ∧ 62 + ((shSf 2).map (shf (shF 62))).length = 72 ∧ 72 + (shDy.map (shf (shF 72))).length = 74 ∧ 74 + (shSn.map (shf (shF 74))).length = 77 ∧ 77 + (shCm.map (shf (shF 77))).length = 82 ∧ 82 + (shSh.map (shf (shF 82))).length = 108 ∧ 108 + (shSw.map (shf (shF 108))).length = 147 := by decide +kernel
set_option maxHeartbeats 4000000 in
theorem cAd_W {cA : Nat → ClassId} {h0 : Nat} {a1 a2 a3 a4 a5 a6 a7 a8 a9 a10 a11 a12 : Nat → Nat} (x7 : a7 1000 = a2 0) (x9 : a9 1000 = a2 0) (y9 : a9 1001 = a7 0) (x10 : a10 1000 = a2 0) (y10 : a10 1001 = a7 0) (x11 : a11 1000 = a2 0) (y11 : a11 1001 = a7 0) : eqW ((h0, .inr (10, [.ref (a1 0), .ref (a2 0), .ref (a3 0), .ref (a4 0), .ref (a5 0), .ref (a6 0), .ref (a7 0), .ref (a8 0), .ref (a9 0), .ref (a10 0), .ref (a11 0), .ref (a12 0)])) :: (((((((((((gL cA a1 z0 0 shRd ++ gL cA a2 z0 0 shPn) ++ gL cA a3 z0 0 shPn) ++ gL cA a4 z0 0 shSg) ++ gL cA a5 z0 0 (shSf 8)) ++ gL cA a6 z0 0 (shSf 2)) ++ gL cA a7 z0 0 shDy) ++ gL cA a8 z0 0 shSn) ++ gL cA a9 z0 0 shCm) ++ gL cA a10 z0 0 shSh) ++ gL cA a11 z0 0 shSw) ++ gL cA a12 z0 0 shCr)) (gL cA (cAd h0 a1 a2 a3 a4 a5 a6 a7 a8 a9 a10 a11 a12) z0 0 shC) := by
  rw [shC_e]
  show eqW (_ :: _) ((h0, _) :: gL cA _ z0 1 _)
  refine ⟨rfl, Or.inl rfl, ?_⟩
  rw [List.append_assoc, List.append_assoc, List.append_assoc, List.append_assoc, List.append_assoc, List.append_assoc, List.append_assoc, List.append_assoc, List.append_assoc, List.append_assoc]
  obtain ⟨l1, l2, l3, l4, l5, l6, l7, l8, l9, l10, l11⟩ := shlen
  have b1 : eqW (gL cA a1 z0 0 shRd) (gL cA (cAd h0 a1 a2 a3 a4 a5 a6 a7 a8 a9 a10 a11 a12) z0 1 (shRd.map (shf (shF 1)))) := blk 3 0 (by decide) (fun j hj => by
    unfold cAd
    rw [if_neg (by omega), if_pos (by omega), show 1 + j - 1 = j by omega]) (fun h => absurd h (by decide)) (fun h => absurd h (by decide)) (by decide +kernel) (by decide +kernel)
  have b2 : eqW (gL cA a2 z0 0 shPn) (gL cA (cAd h0 a1 a2 a3 a4 a5 a6 a7 a8 a9 a10 a11 a12) z0 4 (shPn.map (shf (shF 4)))) := blk 10 0 (by decide) (fun j hj => by
    unfold cAd
    rw [if_neg (by omega), if_neg (by omega), if_pos (by omega), show 4 + j - 4 = j by omega]) (fun h => absurd h (by decide)) (fun h => absurd h (by decide)) (by decide +kernel) (by decide +kernel)
  have b3 : eqW (gL cA a3 z0 0 shPn) (gL cA (cAd h0 a1 a2 a3 a4 a5 a6 a7 a8 a9 a10 a11 a12) z0 14 (shPn.map (shf (shF 14)))) := blk 10 0 (by decide) (fun j hj => by
    unfold cAd
    rw [if_neg (by omega), if_neg (by omega), if_neg (by omega), if_pos (by omega), show 14 + j - 14 = j by omega]) (fun h => absurd h (by decide)) (fun h => absurd h (by decide)) (by decide +kernel) (by decide +kernel)
  have b4 : eqW (gL cA a4 z0 0 shSg) (gL cA (cAd h0 a1 a2 a3 a4 a5 a6 a7 a8 a9 a10 a11 a12) z0 24 (shSg.map (shf (shF 24)))) := blk 4 0 (by decide) (fun j hj => by
    unfold cAd
    rw [if_neg (by omega), if_neg (by omega), if_neg (by omega), if_neg (by omega), if_pos (by omega), show 24 + j - 24 = j by omega]) (fun h => absurd h (by decide)) (fun h => absurd h (by decide)) (by decide +kernel) (by decide +kernel)
  have b5 : eqW (gL cA a5 z0 0 (shSf 8)) (gL cA (cAd h0 a1 a2 a3 a4 a5 a6 a7 a8 a9 a10 a11 a12) z0 28 ((shSf 8).map (shf (shF 28)))) := blk 34 0 (by decide) (fun j hj => by
    unfold cAd
    rw [if_neg (by omega), if_neg (by omega), if_neg (by omega), if_neg (by omega), if_neg (by omega), if_pos (by omega), show 28 + j - 28 = j by omega]) (fun h => absurd h (by decide)) (fun h => absurd h (by decide)) (by decide +kernel) (by decide +kernel)
  have b6 : eqW (gL cA a6 z0 0 (shSf 2)) (gL cA (cAd h0 a1 a2 a3 a4 a5 a6 a7 a8 a9 a10 a11 a12) z0 62 ((shSf 2).map (shf (shF 62)))) := blk 10 0 (by decide) (fun j hj => by
    unfold cAd
    rw [if_neg (by omega), if_neg (by omega), if_neg (by omega), if_neg (by omega), if_neg (by omega), if_neg (by omega), if_pos (by omega), show 62 + j - 62 = j by omega]) (fun h => absurd h (by decide)) (fun h => absurd h (by decide)) (by decide +kernel) (by decide +kernel)
  have b7 : eqW (gL cA a7 z0 0 shDy) (gL cA (cAd h0 a1 a2 a3 a4 a5 a6 a7 a8 a9 a10 a11 a12) z0 72 (shDy.map (shf (shF 72)))) := blk 2 1 (by decide) (fun j hj => by
    unfold cAd
    rw [if_neg (by omega), if_neg (by omega), if_neg (by omega), if_neg (by omega), if_neg (by omega), if_neg (by omega), if_neg (by omega), if_pos (by omega), show 72 + j - 72 = j by omega]) (fun _ => x7.symm) (fun h => absurd h (by decide)) (by decide +kernel) (by decide +kernel)
  have b8 : eqW (gL cA a8 z0 0 shSn) (gL cA (cAd h0 a1 a2 a3 a4 a5 a6 a7 a8 a9 a10 a11 a12) z0 74 (shSn.map (shf (shF 74)))) := blk 3 0 (by decide) (fun j hj => by
    unfold cAd
    rw [if_neg (by omega), if_neg (by omega), if_neg (by omega), if_neg (by omega), if_neg (by omega), if_neg (by omega), if_neg (by omega), if_neg (by omega), if_pos (by omega), show 74 + j - 74 = j by omega]) (fun h => absurd h (by decide)) (fun h => absurd h (by decide)) (by decide +kernel) (by decide +kernel)
  have b9 : eqW (gL cA a9 z0 0 shCm) (gL cA (cAd h0 a1 a2 a3 a4 a5 a6 a7 a8 a9 a10 a11 a12) z0 77 (shCm.map (shf (shF 77)))) := blk 5 2 (by decide) (fun j hj => by
    unfold cAd
    rw [if_neg (by omega), if_neg (by omega), if_neg (by omega), if_neg (by omega), if_neg (by omega), if_neg (by omega), if_neg (by omega), if_neg (by omega), if_neg (by omega), if_pos (by omega), show 77 + j - 77 = j by omega]) (fun _ => x9.symm) (fun _ => y9.symm) (by decide +kernel) (by decide +kernel)
  have b10 : eqW (gL cA a10 z0 0 shSh) (gL cA (cAd h0 a1 a2 a3 a4 a5 a6 a7 a8 a9 a10 a11 a12) z0 82 (shSh.map (shf (shF 82)))) := blk 26 2 (by decide) (fun j hj => by
    unfold cAd
    rw [if_neg (by omega), if_neg (by omega), if_neg (by omega), if_neg (by omega), if_neg (by omega), if_neg (by omega), if_neg (by omega), if_neg (by omega), if_neg (by omega), if_neg (by omega), if_pos (by omega), show 82 + j - 82 = j by omega]) (fun _ => x10.symm) (fun _ => y10.symm) (by decide +kernel) (by decide +kernel)
  have b11 : eqW (gL cA a11 z0 0 shSw) (gL cA (cAd h0 a1 a2 a3 a4 a5 a6 a7 a8 a9 a10 a11 a12) z0 108 (shSw.map (shf (shF 108)))) := blk 39 2 (by decide) (fun j hj => by
    unfold cAd
    rw [if_neg (by omega), if_neg (by omega), if_neg (by omega), if_neg (by omega), if_neg (by omega), if_neg (by omega), if_neg (by omega), if_neg (by omega), if_neg (by omega), if_neg (by omega), if_neg (by omega), if_pos (by omega), show 108 + j - 108 = j by omega]) (fun _ => x11.symm) (fun _ => y11.symm) (by decide +kernel) (by decide +kernel)
  have b12 : eqW (gL cA a12 z0 0 shCr) (gL cA (cAd h0 a1 a2 a3 a4 a5 a6 a7 a8 a9 a10 a11 a12) z0 147 (shCr.map (shf (shF 147)))) := blk 3 0 (by decide) (fun j hj => by
    unfold cAd
    rw [if_neg (by omega), if_neg (by omega), if_neg (by omega), if_neg (by omega), if_neg (by omega), if_neg (by omega), if_neg (by omega), if_neg (by omega), if_neg (by omega), if_neg (by omega), if_neg (by omega), if_neg (by omega), show 147 + j - 147 = j by omega]) (fun h => absurd h (by decide)) (fun h => absurd h (by decide)) (by decide +kernel) (by decide +kernel)
  exact (glue 4 b1 l1 (glue 14 b2 l2 (glue 24 b3 l3 (glue 28 b4 l4 (glue 62 b5 l5 (glue 72 b6 l6 (glue 74 b7 l7 (glue 77 b8 l8 (glue 82 b9 l9 (glue 108 b10 l10 (glue 147 b11 l11 b12)))))))))))
set_option maxHeartbeats 1000000 in
theorem lpTx {X : CX} {w : Wl} {MC MS k n aK aV : Nat} (C : cC X w.1 w.2.1 cX10_init RX10 wsX10_init 2 4 95 MC MS) (V : cV X aK aV) (hw : w.2.2.2 = shC) (hc : k ≤ MC ∧ n ≤ MS) (K : cG X w.1 (gWs w (addS 106)) k n 197 [(1, .int (nI 106)), (0, .ref (w.2.2.1 0))] []) : ∀ d i : Nat, i + d = 106 → cG X w.1 (gWs w (addS i)) k n 169 [(1, .int (nI i)), (0, .ref (w.2.2.1 0))] [] := by
  have inX10 : ∀ v ∈ u_ws RX10 TX10 12, v ∈ wsX10_init := by decide +kernel
  have ln10 : Cond.fieldLink RX10 10 (TX10 0).1 (TX10 0).2.1 (TX10 0).2.2.1 ∈ wsX10_init := by decide +kernel
  intro d
  induction d with
  | zero =>
    intro i hi
    have e : i = 106 := by omega
    subst e
    refine cr_iload_n C 0 dX10_init_169 rfl rfl ?_
    refine cr_ldcS C V rfl rfl dX10_init_170 ?_
    refine cr_len C V gX10_init_J0_length_8abf5 ⟨by decide, by decide⟩ (Nat.le_of_ble_eq_true rfl) hc dX10_init_172 ?_
    exact cr_icmp_ge C 197 dX10_init_175 (by decide) (fun _ => K) (fun h => absurd (nI_le (Nat.le_refl _) (by decide)) h)
  | succ d ih =>
    intro i hi
    refine cr_iload_n C 0 dX10_init_169 rfl rfl ?_
    refine cr_ldcS C V rfl rfl dX10_init_170 ?_
    refine cr_len C V gX10_init_J0_length_8abf5 ⟨by decide, by decide⟩ (Nat.le_of_ble_eq_true rfl) hc dX10_init_172 ?_
    refine cr_icmp_ge C 197 dX10_init_175 (by decide) (fun h => absurd h (by rw [nI_leN (by omega) (by omega)]; omega)) (fun _ => ?_)
    refine cr_aload_n C 1 dX10_init_178 rfl rfl ?_
    refine cr_getW C 0 0 (sc_0 hw) rfl inX10 (by decide) ln10 rfl dX10_init_179 ?_
    refine cr_ldcS C V rfl rfl dX10_init_182 ?_
    refine cr_iload_n C 0 dX10_init_184 rfl rfl ?_
    refine cr_chr C (show i < 106 by omega) V gX10_init_J0_charAt_5068e ⟨by decide, by decide⟩ (Nat.le_of_ble_eq_true rfl) hc dX10_init_185 ?_
    refine cr_nil ?_
    refine cr_callVV C 1 (nA := 1) (As := [.int (nI (sTx.getD i 0))]) (rest := []) (mX4_add X.2.1 hw (f_addS (by omega))) gX10_init_X4_add rfl ⟨rfl, rfl⟩ ⟨Nat.le_of_ble_eq_true rfl, Nat.le_of_ble_eq_true rfl⟩ rfl (Nat.le_of_ble_eq_true rfl) rfl (by decide +kernel) (sc_1 hw) rfl hc dX10_init_188 ?_
    refine cr_unil ?_
    refine cr_iinc C 0 [(1, .int (nI (i + 1))), (0, .ref (w.2.2.1 0))] dX10_init_191 rfl (nI_1 i) (by decide) rfl ?_
    refine cr_goto C 169 dX10_init_194 (by decide) ?_
    exact ih (i + 1) (by omega)
set_option maxHeartbeats 4000000 in
theorem kMilk (l : Launch) (D : va_G) (cA : Nat → ClassId) (aK aV h0 : Nat) : gMX l D cA aK aV yX10_init wsX10_init ({ frames := 4, cells := 149, slots := 3184, locals := 95 } : Room) [.ref h0] [(h0, .inr (10, [.null, .null, .null, .null, .null, .null, .null, .null, .null, .null, .null, .null]))] (fun u => ∃ (ad : Nat → Nat) (g : Sg), ad 0 = h0 ∧ iniC g ∧ u = gWs (D, cA, ad, shC) g) := by
  have inX0 : ∀ v ∈ u_ws RX0 TX0 2, v ∈ wsX10_init := by decide +kernel
  have inX1 : ∀ v ∈ u_ws RX1 TX1 3, v ∈ wsX10_init := by decide +kernel
  have inX2 : ∀ v ∈ u_ws RX2 TX2 2, v ∈ wsX10_init := by decide +kernel
  have inX3 : ∀ v ∈ u_ws RX3 TX3 13, v ∈ wsX10_init := by decide +kernel
  have inX4 : ∀ v ∈ u_ws RX4 TX4 3, v ∈ wsX10_init := by decide +kernel
  have inX5 : ∀ v ∈ u_ws RX5 TX5 3, v ∈ wsX10_init := by decide +kernel
  have inX6 : ∀ v ∈ u_ws RX6 TX6 7, v ∈ wsX10_init := by decide +kernel
  have inX7 : ∀ v ∈ u_ws RX7 TX7 3, v ∈ wsX10_init := by decide +kernel
  have inX8 : ∀ v ∈ u_ws RX8 TX8 4, v ∈ wsX10_init := by decide +kernel
  have inX9 : ∀ v ∈ u_ws RX9 TX9 5, v ∈ wsX10_init := by decide +kernel
  have inX10 : ∀ v ∈ u_ws RX10 TX10 12, v ∈ wsX10_init := by decide +kernel
  have ln10 : Cond.fieldLink RX10 10 (TX10 0).1 (TX10 0).2.1 (TX10 0).2.2.1 ∈ wsX10_init := by decide +kernel
  have ln19 : Cond.fieldLink RX10 19 (TX10 1).1 (TX10 1).2.1 (TX10 1).2.2.1 ∈ wsX10_init := by decide +kernel
  have ln23 : Cond.fieldLink RX10 23 (TX10 2).1 (TX10 2).2.1 (TX10 2).2.2.1 ∈ wsX10_init := by decide +kernel
  have ln29 : Cond.fieldLink RX10 29 (TX10 3).1 (TX10 3).2.1 (TX10 3).2.2.1 ∈ wsX10_init := by decide +kernel
  have ln38 : Cond.fieldLink RX10 38 (TX10 4).1 (TX10 4).2.1 (TX10 4).2.2.1 ∈ wsX10_init := by decide +kernel
  have ln42 : Cond.fieldLink RX10 42 (TX10 5).1 (TX10 5).2.1 (TX10 5).2.2.1 ∈ wsX10_init := by decide +kernel
  have ln50 : Cond.fieldLink RX10 50 (TX10 6).1 (TX10 6).2.1 (TX10 6).2.2.1 ∈ wsX10_init := by decide +kernel
  have ln57 : Cond.fieldLink RX10 57 (TX10 7).1 (TX10 7).2.1 (TX10 7).2.2.1 ∈ wsX10_init := by decide +kernel
  have ln66 : Cond.fieldLink RX10 66 (TX10 8).1 (TX10 8).2.1 (TX10 8).2.2.1 ∈ wsX10_init := by decide +kernel
  have ln73 : Cond.fieldLink RX10 73 (TX10 9).1 (TX10 9).2.1 (TX10 9).2.2.1 ∈ wsX10_init := by decide +kernel
  have ln80 : Cond.fieldLink RX10 80 (TX10 10).1 (TX10 10).2.1 (TX10 10).2.2.1 ∈ wsX10_init := by decide +kernel
  have ln87 : Cond.fieldLink RX10 87 (TX10 11).1 (TX10 11).2.1 (TX10 11).2.2.1 ∈ wsX10_init := by decide +kernel
  refine cStartX cX10_init 2 RX10 rfl (by decide) rfl rfl (Nat.le_of_ble_eq_true rfl) ?_
  intro X hl C I V E
  show cG X D [(h0, .inr (10, [.null, .null, .null, .null, .null, .null, .null, .null, .null, .null, .null, .null]))] 0 0 0 [(0, .ref h0)] []
  refine cr_aload_n C 0 dX10_init_0 rfl rfl ?_
  refine cr_objInit C dX10_init_1 (by decide +kernel) (by decide +kernel) (by decide +kernel) (by decide) (by decide) ?_
  refine cr_aload_n C 0 dX10_init_4 rfl rfl ?_
  refine cr_new C 4 3 [.null, .null, .int 0] rfl inX4 tyX4 tyX4_ok (by decide +kernel) (by decide +kernel) (by decide +kernel) (fun j hj => by rcases (show j = 0 ∨ j = 1 ∨ j = 2 by omega) with rfl | rfl | rfl <;> rfl) (Nat.le_of_ble_eq_true rfl) (Nat.le_of_ble_eq_true rfl) dX10_init_5 ?_
  intro s1
  refine cr_dup C dX10_init_8 rfl ?_
  refine cr_initN C (host := "YoungerMilk") (nA := 0) (As := []) (rest := [.ref s1, .ref h0]) (kReader X.2.1 D cA s1) gX10_init_X4_init_n9 rfl ⟨Nat.le_of_ble_eq_true rfl, Nat.le_of_ble_eq_true rfl⟩ rfl (Nat.le_of_ble_eq_true rfl) rfl rfl (by decide +kernel) (by decide +kernel) (by decide +kernel) ⟨Nat.le_of_ble_eq_true rfl, Nat.le_of_ble_eq_true rfl⟩ dX10_init_9 (by decide +kernel) ?_
  intro u1 hu1
  obtain ⟨a1, p1, x1, y1, rfl⟩ := hu1
  refine cr_putF C I 0 (fs' := [.ref s1, .null, .null, .null, .null, .null, .null, .null, .null, .null, .null, .null]) rfl rfl inX10 (by decide) ln10 tyX10 tyX10_ok nmX10 rfl rfl (.object "YoungerMilk$Reader") rfl rfl rfl (Nat.le_of_ble_eq_true rfl) rfl dX10_init_12 ?_
  refine cr_aload_n C 0 dX10_init_15 rfl rfl ?_
  refine cr_new C 3 13 [.null, .null, .null, .null, .null, .null, .null, .null, .null, .int 0, .int 0, .int 0, .int 0] rfl inX3 tyX3 tyX3_ok (by decide +kernel) (by decide +kernel) (by decide +kernel) (fun j hj => by rcases (show j = 0 ∨ j = 1 ∨ j = 2 ∨ j = 3 ∨ j = 4 ∨ j = 5 ∨ j = 6 ∨ j = 7 ∨ j = 8 ∨ j = 9 ∨ j = 10 ∨ j = 11 ∨ j = 12 by omega) with rfl | rfl | rfl | rfl | rfl | rfl | rfl | rfl | rfl | rfl | rfl | rfl | rfl <;> rfl) (Nat.le_of_ble_eq_true rfl) (Nat.le_of_ble_eq_true rfl) dX10_init_16 ?_
  intro s2
  refine cr_dup C dX10_init_19 rfl ?_
  refine cr_initN C (host := "YoungerMilk") (nA := 0) (As := []) (rest := [.ref s2, .ref h0]) (kPlan X.2.1 D cA s2) gX10_init_X3_init_n18 rfl ⟨Nat.le_of_ble_eq_true rfl, Nat.le_of_ble_eq_true rfl⟩ rfl (Nat.le_of_ble_eq_true rfl) rfl rfl (by decide +kernel) (by decide +kernel) (by decide +kernel) ⟨Nat.le_of_ble_eq_true rfl, Nat.le_of_ble_eq_true rfl⟩ dX10_init_20 (by decide +kernel) ?_
  intro u2 hu2
  obtain ⟨a2, p2, x2, y2, rfl⟩ := hu2
  refine cr_putF C I 1 (fs' := [.ref s1, .ref s2, .null, .null, .null, .null, .null, .null, .null, .null, .null, .null]) rfl rfl inX10 (by decide) ln19 tyX10 tyX10_ok nmX10 rfl rfl (.object "YoungerMilk$Plan") rfl rfl rfl (Nat.le_of_ble_eq_true rfl) rfl dX10_init_23 ?_
  refine cr_aload_n C 0 dX10_init_26 rfl rfl ?_
  refine cr_new C 3 13 [.null, .null, .null, .null, .null, .null, .null, .null, .null, .int 0, .int 0, .int 0, .int 0] rfl inX3 tyX3 tyX3_ok (by decide +kernel) (by decide +kernel) (by decide +kernel) (fun j hj => by rcases (show j = 0 ∨ j = 1 ∨ j = 2 ∨ j = 3 ∨ j = 4 ∨ j = 5 ∨ j = 6 ∨ j = 7 ∨ j = 8 ∨ j = 9 ∨ j = 10 ∨ j = 11 ∨ j = 12 by omega) with rfl | rfl | rfl | rfl | rfl | rfl | rfl | rfl | rfl | rfl | rfl | rfl | rfl <;> rfl) (Nat.le_of_ble_eq_true rfl) (Nat.le_of_ble_eq_true rfl) dX10_init_27 ?_
  intro s3
  refine cr_dup C dX10_init_30 rfl ?_
  refine cr_initN C (host := "YoungerMilk") (nA := 0) (As := []) (rest := [.ref s3, .ref h0]) (kPlan X.2.1 D cA s3) gX10_init_X3_init_n18 rfl ⟨Nat.le_of_ble_eq_true rfl, Nat.le_of_ble_eq_true rfl⟩ rfl (Nat.le_of_ble_eq_true rfl) rfl rfl (by decide +kernel) (by decide +kernel) (by decide +kernel) ⟨Nat.le_of_ble_eq_true rfl, Nat.le_of_ble_eq_true rfl⟩ dX10_init_31 (by decide +kernel) ?_
  intro u3 hu3
  obtain ⟨a3, p3, x3, y3, rfl⟩ := hu3
  refine cr_putF C I 2 (fs' := [.ref s1, .ref s2, .ref s3, .null, .null, .null, .null, .null, .null, .null, .null, .null]) rfl rfl inX10 (by decide) ln23 tyX10 tyX10_ok nmX10 rfl rfl (.object "YoungerMilk$Plan") rfl rfl rfl (Nat.le_of_ble_eq_true rfl) rfl dX10_init_34 ?_
  refine cr_aload_n C 0 dX10_init_37 rfl rfl ?_
  refine cr_new C 9 5 [.null, .null, .null, .int 0, .int 0] rfl inX9 tyX9 tyX9_ok (by decide +kernel) (by decide +kernel) (by decide +kernel) (fun j hj => by rcases (show j = 0 ∨ j = 1 ∨ j = 2 ∨ j = 3 ∨ j = 4 by omega) with rfl | rfl | rfl | rfl | rfl <;> rfl) (Nat.le_of_ble_eq_true rfl) (Nat.le_of_ble_eq_true rfl) dX10_init_38 ?_
  intro s4
  refine cr_dup C dX10_init_41 rfl ?_
  refine cr_initN C (host := "YoungerMilk") (nA := 0) (As := []) (rest := [.ref s4, .ref h0]) (kStanding X.2.1 D cA s4) gX10_init_X9_init_n28 rfl ⟨Nat.le_of_ble_eq_true rfl, Nat.le_of_ble_eq_true rfl⟩ rfl (Nat.le_of_ble_eq_true rfl) rfl rfl (by decide +kernel) (by decide +kernel) (by decide +kernel) ⟨Nat.le_of_ble_eq_true rfl, Nat.le_of_ble_eq_true rfl⟩ dX10_init_42 (by decide +kernel) ?_
  intro u4 hu4
  obtain ⟨a4, p4, x4, y4, rfl⟩ := hu4
  refine cr_putF C I 3 (fs' := [.ref s1, .ref s2, .ref s3, .ref s4, .null, .null, .null, .null, .null, .null, .null, .null]) rfl rfl inX10 (by decide) ln29 tyX10 tyX10_ok nmX10 rfl rfl (.object "YoungerMilk$Standing") rfl rfl rfl (Nat.le_of_ble_eq_true rfl) rfl dX10_init_45 ?_
  refine cr_aload_n C 0 dX10_init_48 rfl rfl ?_
  refine cr_new C 7 3 [.null, .int 0, .int 0] rfl inX7 tyX7 tyX7_ok (by decide +kernel) (by decide +kernel) (by decide +kernel) (fun j hj => by rcases (show j = 0 ∨ j = 1 ∨ j = 2 by omega) with rfl | rfl | rfl <;> rfl) (Nat.le_of_ble_eq_true rfl) (Nat.le_of_ble_eq_true rfl) dX10_init_49 ?_
  intro s5
  refine cr_dup C dX10_init_52 rfl ?_
  refine cr_bipush C (v := nI 8) dX10_init_53 rfl ?_
  refine cr_initI C (nA := 1) (As := [.int (nI 8)]) (rest := [.ref s5, .ref h0]) (kShelf X.2.1 D cA s5 8 (by decide)) gX10_init_X7_init rfl ⟨Nat.le_of_ble_eq_true rfl, Nat.le_of_ble_eq_true rfl⟩ rfl (Nat.le_of_ble_eq_true rfl) rfl rfl (by decide +kernel) (by decide +kernel) (by decide +kernel) ⟨Nat.le_of_ble_eq_true rfl, Nat.le_of_ble_eq_true rfl⟩ dX10_init_55 (by decide +kernel) ?_
  intro u5 hu5
  obtain ⟨a5, p5, x5, y5, rfl⟩ := hu5
  refine cr_putF C I 4 (fs' := [.ref s1, .ref s2, .ref s3, .ref s4, .ref s5, .null, .null, .null, .null, .null, .null, .null]) rfl rfl inX10 (by decide) ln38 tyX10 tyX10_ok nmX10 rfl rfl (.object "YoungerMilk$Shelf") rfl rfl rfl (Nat.le_of_ble_eq_true rfl) rfl dX10_init_58 ?_
  refine cr_aload_n C 0 dX10_init_61 rfl rfl ?_
  refine cr_new C 7 3 [.null, .int 0, .int 0] rfl inX7 tyX7 tyX7_ok (by decide +kernel) (by decide +kernel) (by decide +kernel) (fun j hj => by rcases (show j = 0 ∨ j = 1 ∨ j = 2 by omega) with rfl | rfl | rfl <;> rfl) (Nat.le_of_ble_eq_true rfl) (Nat.le_of_ble_eq_true rfl) dX10_init_62 ?_
  intro s6
  refine cr_dup C dX10_init_65 rfl ?_
  refine cr_iconst C (v := nI 2) dX10_init_66 rfl ?_
  refine cr_initI C (nA := 1) (As := [.int (nI 2)]) (rest := [.ref s6, .ref h0]) (kShelf X.2.1 D cA s6 2 (by decide)) gX10_init_X7_init rfl ⟨Nat.le_of_ble_eq_true rfl, Nat.le_of_ble_eq_true rfl⟩ rfl (Nat.le_of_ble_eq_true rfl) rfl rfl (by decide +kernel) (by decide +kernel) (by decide +kernel) ⟨Nat.le_of_ble_eq_true rfl, Nat.le_of_ble_eq_true rfl⟩ dX10_init_67 (by decide +kernel) ?_
  intro u6 hu6
  obtain ⟨a6, p6, x6, y6, rfl⟩ := hu6
  refine cr_putF C I 5 (fs' := [.ref s1, .ref s2, .ref s3, .ref s4, .ref s5, .ref s6, .null, .null, .null, .null, .null, .null]) rfl rfl inX10 (by decide) ln42 tyX10 tyX10_ok nmX10 rfl rfl (.object "YoungerMilk$Shelf") rfl rfl rfl (Nat.le_of_ble_eq_true rfl) rfl dX10_init_70 ?_
  refine cr_aload_n C 0 dX10_init_73 rfl rfl ?_
  refine cr_new C 2 2 [.null, .null] rfl inX2 tyX2 tyX2_ok (by decide +kernel) (by decide +kernel) (by decide +kernel) (fun j hj => by rcases (show j = 0 ∨ j = 1 by omega) with rfl | rfl <;> rfl) (Nat.le_of_ble_eq_true rfl) (Nat.le_of_ble_eq_true rfl) dX10_init_74 ?_
  intro s7
  refine cr_dup C dX10_init_77 rfl ?_
  refine cr_aload_n C 0 dX10_init_78 rfl rfl ?_
  refine cr_get C 1 0 (v := .ref s2) rfl rfl inX10 (by decide) ln19 rfl dX10_init_79 ?_
  refine cr_initI C (nA := 1) (As := [.ref s2]) (rest := [.ref s7, .ref h0]) (kDay X.2.1 D cA s7 s2) gX10_init_X2_init rfl ⟨Nat.le_of_ble_eq_true rfl, Nat.le_of_ble_eq_true rfl⟩ rfl (Nat.le_of_ble_eq_true rfl) rfl rfl (by decide +kernel) (by decide +kernel) (by decide +kernel) ⟨Nat.le_of_ble_eq_true rfl, Nat.le_of_ble_eq_true rfl⟩ dX10_init_82 (by decide +kernel) ?_
  intro u7 hu7
  obtain ⟨a7, p7, x7, y7, rfl⟩ := hu7
  refine cr_putF C I 6 (fs' := [.ref s1, .ref s2, .ref s3, .ref s4, .ref s5, .ref s6, .ref s7, .null, .null, .null, .null, .null]) rfl rfl inX10 (by decide) ln50 tyX10 tyX10_ok nmX10 rfl rfl (.object "YoungerMilk$Day") rfl rfl rfl (Nat.le_of_ble_eq_true rfl) rfl dX10_init_85 ?_
  refine cr_aload_n C 0 dX10_init_88 rfl rfl ?_
  refine cr_new C 5 3 [.null, .null, .int 0] rfl inX5 tyX5 tyX5_ok (by decide +kernel) (by decide +kernel) (by decide +kernel) (fun j hj => by rcases (show j = 0 ∨ j = 1 ∨ j = 2 by omega) with rfl | rfl | rfl <;> rfl) (Nat.le_of_ble_eq_true rfl) (Nat.le_of_ble_eq_true rfl) dX10_init_89 ?_
  intro s8
  refine cr_dup C dX10_init_92 rfl ?_
  refine cr_initN C (host := "YoungerMilk") (nA := 0) (As := []) (rest := [.ref s8, .ref h0]) (kSeen X.2.1 D cA s8) gX10_init_X5_init_n56 rfl ⟨Nat.le_of_ble_eq_true rfl, Nat.le_of_ble_eq_true rfl⟩ rfl (Nat.le_of_ble_eq_true rfl) rfl rfl (by decide +kernel) (by decide +kernel) (by decide +kernel) ⟨Nat.le_of_ble_eq_true rfl, Nat.le_of_ble_eq_true rfl⟩ dX10_init_93 (by decide +kernel) ?_
  intro u8 hu8
  obtain ⟨a8, p8, x8, y8, rfl⟩ := hu8
  refine cr_putF C I 7 (fs' := [.ref s1, .ref s2, .ref s3, .ref s4, .ref s5, .ref s6, .ref s7, .ref s8, .null, .null, .null, .null]) rfl rfl inX10 (by decide) ln57 tyX10 tyX10_ok nmX10 rfl rfl (.object "YoungerMilk$Seen") rfl rfl rfl (Nat.le_of_ble_eq_true rfl) rfl dX10_init_96 ?_
  refine cr_aload_n C 0 dX10_init_99 rfl rfl ?_
  refine cr_new C 1 3 [.null, .null, .null] rfl inX1 tyX1 tyX1_ok (by decide +kernel) (by decide +kernel) (by decide +kernel) (fun j hj => by rcases (show j = 0 ∨ j = 1 ∨ j = 2 by omega) with rfl | rfl | rfl <;> rfl) (Nat.le_of_ble_eq_true rfl) (Nat.le_of_ble_eq_true rfl) dX10_init_100 ?_
  intro s9
  refine cr_dup C dX10_init_103 rfl ?_
  refine cr_aload_n C 0 dX10_init_104 rfl rfl ?_
  refine cr_get C 1 0 (v := .ref s2) rfl rfl inX10 (by decide) ln19 rfl dX10_init_105 ?_
  refine cr_aload_n C 0 dX10_init_108 rfl rfl ?_
  refine cr_get C 6 0 (v := .ref s7) rfl rfl inX10 (by decide) ln50 rfl dX10_init_109 ?_
  refine cr_initI C (nA := 2) (As := [.ref s2, .ref s7]) (rest := [.ref s9, .ref h0]) (kComes X.2.1 D cA s9 s2 s7) gX10_init_X1_init rfl ⟨Nat.le_of_ble_eq_true rfl, Nat.le_of_ble_eq_true rfl⟩ rfl (Nat.le_of_ble_eq_true rfl) rfl rfl (by decide +kernel) (by decide +kernel) (by decide +kernel) ⟨Nat.le_of_ble_eq_true rfl, Nat.le_of_ble_eq_true rfl⟩ dX10_init_112 (by decide +kernel) ?_
  intro u9 hu9
  obtain ⟨a9, p9, x9, y9, rfl⟩ := hu9
  refine cr_putF C I 8 (fs' := [.ref s1, .ref s2, .ref s3, .ref s4, .ref s5, .ref s6, .ref s7, .ref s8, .ref s9, .null, .null, .null]) rfl rfl inX10 (by decide) ln66 tyX10 tyX10_ok nmX10 rfl rfl (.object "YoungerMilk$Comes") rfl rfl rfl (Nat.le_of_ble_eq_true rfl) rfl dX10_init_115 ?_
  refine cr_aload_n C 0 dX10_init_118 rfl rfl ?_
  refine cr_new C 6 7 [.null, .null, .null, .null, .null, .null, .int 0] rfl inX6 tyX6 tyX6_ok (by decide +kernel) (by decide +kernel) (by decide +kernel) (fun j hj => by rcases (show j = 0 ∨ j = 1 ∨ j = 2 ∨ j = 3 ∨ j = 4 ∨ j = 5 ∨ j = 6 by omega) with rfl | rfl | rfl | rfl | rfl | rfl | rfl <;> rfl) (Nat.le_of_ble_eq_true rfl) (Nat.le_of_ble_eq_true rfl) dX10_init_119 ?_
  intro s10
  refine cr_dup C dX10_init_122 rfl ?_
  refine cr_aload_n C 0 dX10_init_123 rfl rfl ?_
  refine cr_get C 1 0 (v := .ref s2) rfl rfl inX10 (by decide) ln19 rfl dX10_init_124 ?_
  refine cr_aload_n C 0 dX10_init_127 rfl rfl ?_
  refine cr_get C 6 0 (v := .ref s7) rfl rfl inX10 (by decide) ln50 rfl dX10_init_128 ?_
  refine cr_initI C (nA := 2) (As := [.ref s2, .ref s7]) (rest := [.ref s10, .ref h0]) (kSharing X.2.1 D cA s10 s2 s7) gX10_init_X6_init rfl ⟨Nat.le_of_ble_eq_true rfl, Nat.le_of_ble_eq_true rfl⟩ rfl (Nat.le_of_ble_eq_true rfl) rfl rfl (by decide +kernel) (by decide +kernel) (by decide +kernel) ⟨Nat.le_of_ble_eq_true rfl, Nat.le_of_ble_eq_true rfl⟩ dX10_init_131 (by decide +kernel) ?_
  intro u10 hu10
  obtain ⟨a10, p10, x10, y10, rfl⟩ := hu10
  refine cr_putF C I 9 (fs' := [.ref s1, .ref s2, .ref s3, .ref s4, .ref s5, .ref s6, .ref s7, .ref s8, .ref s9, .ref s10, .null, .null]) rfl rfl inX10 (by decide) ln73 tyX10 tyX10_ok nmX10 rfl rfl (.object "YoungerMilk$Sharing") rfl rfl rfl (Nat.le_of_ble_eq_true rfl) rfl dX10_init_134 ?_
  refine cr_aload_n C 0 dX10_init_137 rfl rfl ?_
  refine cr_new C 8 4 [.null, .null, .null, .null] rfl inX8 tyX8 tyX8_ok (by decide +kernel) (by decide +kernel) (by decide +kernel) (fun j hj => by rcases (show j = 0 ∨ j = 1 ∨ j = 2 ∨ j = 3 by omega) with rfl | rfl | rfl | rfl <;> rfl) (Nat.le_of_ble_eq_true rfl) (Nat.le_of_ble_eq_true rfl) dX10_init_138 ?_
  intro s11
  refine cr_dup C dX10_init_141 rfl ?_
  refine cr_aload_n C 0 dX10_init_142 rfl rfl ?_
  refine cr_get C 1 0 (v := .ref s2) rfl rfl inX10 (by decide) ln19 rfl dX10_init_143 ?_
  refine cr_aload_n C 0 dX10_init_146 rfl rfl ?_
  refine cr_get C 6 0 (v := .ref s7) rfl rfl inX10 (by decide) ln50 rfl dX10_init_147 ?_
  refine cr_initI C (nA := 2) (As := [.ref s2, .ref s7]) (rest := [.ref s11, .ref h0]) (kSnowing X.2.1 D cA s11 s2 s7) gX10_init_X8_init rfl ⟨Nat.le_of_ble_eq_true rfl, Nat.le_of_ble_eq_true rfl⟩ rfl (Nat.le_of_ble_eq_true rfl) rfl rfl (by decide +kernel) (by decide +kernel) (by decide +kernel) ⟨Nat.le_of_ble_eq_true rfl, Nat.le_of_ble_eq_true rfl⟩ dX10_init_150 (by decide +kernel) ?_
  intro u11 hu11
  obtain ⟨a11, p11, x11, y11, rfl⟩ := hu11
  refine cr_putF C I 10 (fs' := [.ref s1, .ref s2, .ref s3, .ref s4, .ref s5, .ref s6, .ref s7, .ref s8, .ref s9, .ref s10, .ref s11, .null]) rfl rfl inX10 (by decide) ln80 tyX10 tyX10_ok nmX10 rfl rfl (.object "YoungerMilk$Snowing") rfl rfl rfl (Nat.le_of_ble_eq_true rfl) rfl dX10_init_153 ?_
  refine cr_aload_n C 0 dX10_init_156 rfl rfl ?_
  refine cr_new C 0 2 [.null, .null] rfl inX0 tyX0 tyX0_ok (by decide +kernel) (by decide +kernel) (by decide +kernel) (fun j hj => by rcases (show j = 0 ∨ j = 1 by omega) with rfl | rfl <;> rfl) (Nat.le_of_ble_eq_true rfl) (Nat.le_of_ble_eq_true rfl) dX10_init_157 ?_
  intro s12
  refine cr_dup C dX10_init_160 rfl ?_
  refine cr_initN C (host := "YoungerMilk") (nA := 0) (As := []) (rest := [.ref s12, .ref h0]) (kCart X.2.1 D cA s12) gX10_init_X0_init_n86 rfl ⟨Nat.le_of_ble_eq_true rfl, Nat.le_of_ble_eq_true rfl⟩ rfl (Nat.le_of_ble_eq_true rfl) rfl rfl (by decide +kernel) (by decide +kernel) (by decide +kernel) ⟨Nat.le_of_ble_eq_true rfl, Nat.le_of_ble_eq_true rfl⟩ dX10_init_161 (by decide +kernel) ?_
  intro u12 hu12
  obtain ⟨a12, p12, x12, y12, rfl⟩ := hu12
  refine cr_putF C I 11 (fs' := [.ref s1, .ref s2, .ref s3, .ref s4, .ref s5, .ref s6, .ref s7, .ref s8, .ref s9, .ref s10, .ref s11, .ref s12]) rfl rfl inX10 (by decide) ln87 tyX10 tyX10_ok nmX10 rfl rfl (.object "YoungerMilk$Cart") rfl rfl rfl (Nat.le_of_ble_eq_true rfl) rfl dX10_init_164 ?_
  subst p1
  subst p2
  subst p3
  subst p4
  subst p5
  subst p6
  subst p7
  subst p8
  subst p9
  subst p10
  subst p11
  subst p12
  refine cr_eqW (ws' := gL cA (cAd h0 a1 a2 a3 a4 a5 a6 a7 a8 a9 a10 a11 a12) z0 0 shC) (cAd_W x7 x9 y9 x10 y10 x11 y11) ?_
  obtain ⟨ad, e0, ew⟩ : ∃ ad, ad 0 = h0 ∧ cAd h0 a1 a2 a3 a4 a5 a6 a7 a8 a9 a10 a11 a12 = ad := ⟨_, rfl, rfl⟩
  rw [ew]
  clear ew
  subst e0
  rw [show gL cA ad z0 0 shC = gWs (D, cA, ad, shC) (addS 0) by rw [addS_0, gWs_L]]
  obtain ⟨r, g1, g2, g3, c1, c2, c3, c4⟩ := ini_C
  have C2 : cC X ((D, cA, ad, shC) : Wl).1 ((D, cA, ad, shC) : Wl).2.1 cX10_init RX10 wsX10_init 2 4 95 149 3184 := C
  refine cr_iconst C (v := nI 0) dX10_init_167 rfl ?_
  refine cr_istore_n C [(1, .int (nI 0)), (0, .ref (ad 0))] dX10_init_168 rfl (by decide) rfl ?_
  refine lpTx (w := (D, cA, ad, shC)) C2 V rfl ⟨Nat.le_of_ble_eq_true rfl, Nat.le_of_ble_eq_true rfl⟩ ?_ 106 0 rfl
  refine cr_aload_n C2 1 dX10_init_197 rfl rfl ?_
  refine cr_getW C2 0 0 (sc_0 rfl) rfl inX10 (by decide) ln10 rfl dX10_init_198 ?_
  refine cr_aload_n C2 1 dX10_init_201 rfl rfl ?_
  refine cr_getW C2 1 0 (sc_0 rfl) rfl inX10 (by decide) ln19 rfl dX10_init_202 ?_
  refine cr_nil ?_
  refine cr_callVI C2 1 (nA := 1) (As := [.ref (ad 4)]) (rest := []) (mX4_readInto X.2.1 (w := (D, cA, ad, shC)) rfl (pl_4 rfl) c1) gX10_init_X4_readInto rfl ⟨rfl, rfl⟩ ⟨Nat.le_of_ble_eq_true rfl, Nat.le_of_ble_eq_true rfl⟩ rfl (Nat.le_of_ble_eq_true rfl) rfl (by decide +kernel) (sc_1 rfl) rfl ⟨Nat.le_of_ble_eq_true rfl, Nat.le_of_ble_eq_true rfl⟩ dX10_init_205 ?_
  refine cr_pop C2 dX10_init_208 rfl ?_
  refine cr_aload_n C2 1 dX10_init_209 rfl rfl ?_
  refine cr_unil ?_
  refine cr_getW C2 0 0 (sc_0 rfl) rfl inX10 (by decide) ln10 rfl dX10_init_210 ?_
  refine cr_nil ?_
  refine cr_callVV C2 1 (As := []) (rest := []) (mX4_clear X.2.1 (w := (D, cA, ad, shC)) rfl c2) gX10_init_X4_clear rfl ⟨rfl, rfl⟩ ⟨Nat.le_of_ble_eq_true rfl, Nat.le_of_ble_eq_true rfl⟩ rfl (Nat.le_of_ble_eq_true rfl) rfl (by decide +kernel) (sc_1 rfl) rfl ⟨Nat.le_of_ble_eq_true rfl, Nat.le_of_ble_eq_true rfl⟩ dX10_init_213 ?_
  refine cr_aload_n C2 1 dX10_init_216 rfl rfl ?_
  refine cr_callVV C2 0 (As := []) (rest := []) (mX10_start X.2.1 (w := (D, cA, ad, shC)) rfl c3) gX10_init_X10_start rfl ⟨rfl, rfl⟩ ⟨Nat.le_of_ble_eq_true rfl, Nat.le_of_ble_eq_true rfl⟩ rfl (Nat.le_of_ble_eq_true rfl) rfl (by decide +kernel) (sc_0 rfl) rfl ⟨Nat.le_of_ble_eq_true rfl, Nat.le_of_ble_eq_true rfl⟩ dX10_init_217 ?_
  refine cr_unil ?_
  exact E (gWs (D, cA, ad, shC) g3) _ _ _ _ (Nat.le_of_ble_eq_true rfl) (Nat.le_of_ble_eq_true rfl) ⟨ad, g3, rfl, c4, rfl⟩ dX10_init_220
