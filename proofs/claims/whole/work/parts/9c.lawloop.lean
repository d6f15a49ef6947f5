/-! ===== the law: its loop, its start ===== -/
set_option maxHeartbeats 4000000 in
theorem lw_loop {X : CX} {D : va_G} {cA : Nat → ClassId} (C : cCL X D cA) {b L k n : Nat} {xs : Nat → Int32} {ad ad2 : Nat → Nat} (S : cS X b L xs) (hL : L ≤ 320) (hc : k ≤ 600000 ∧ n ≤ 7302250) (E : ∀ (ws : va_W) (pc : Nat) (lv : List (Nat × Value)), decode cL_law pc = .ok (.ireturn, 1) → cG X D ws k n pc lv [.int 1]) : ∀ (d i : Nat) (g t : Sg), L + 10 ≤ i + d → i ≤ L + 5 → Rx g t → cG X D (gWs (D, cA, ad, shC) g ++ gWs (D, cA, ad2, shM) t) k n 18 (lvL i (ad2 0) (ad 0) b) [] := by
  intro d
  induction d with
  | zero => intro i g t h1 h2; omega
  | succ d ih =>
    intro i g t h1 h2 hR
    refine cr_iload_n C 0 dL_law_18 rfl rfl ?_
    refine cr_aload_n C 3 dL_law_19 rfl rfl ?_
    refine cr_slen C S dL_law_20 ?_
    refine cr_iconst C (v := nI 5) dL_law_21 rfl ?_
    refine cr_isub C dL_law_22 ?_
    have hz : (nI L - nI 5).toInt = (L : Int) - 5 := pk_sub_toInt (by omega) (by omega)
    refine cr_icmp_gt C 883 dL_law_23 (by decide) (fun _ => ?_) (fun hc1 => ?_)
    · refine cr_iconst C (v := 1) dL_law_883 (by decide) ?_
      exact E _ _ _ dL_law_884
    · have hiL : i + 5 ≤ L := by
        rw [lt_tI, hz, tI_nI (by omega)] at hc1
        omega
      have Kk : ∀ g2 t2, Rx g2 t2 → cG X D (gWs (D, cA, ad, shC) g2 ++ gWs (D, cA, ad2, shM) t2) k n 877 (lvL i (ad2 0) (ad 0) b) [] := by
        intro g2 t2 hR2
        refine cr_iinc C 0 (lvL (i + 5) (ad2 0) (ad 0) b) dL_law_877 rfl (nI_add i 5) (by decide) rfl ?_
        refine cr_goto C 18 dL_law_880 (by decide) ?_
        exact ih (i + 5) g2 t2 (by omega) (by omega) hR2
      refine cr_aload_n C 3 dL_law_26 rfl rfl ?_
      refine cr_iload_n C 0 dL_law_27 rfl rfl ?_
      refine cr_sld C S (show i < L by omega) hL dL_law_28 ?_
      refine cr_bipush C (v := 31) dL_law_29 (by decide) ?_
      refine cr_iand C dL_law_31 ?_
      obtain ⟨j, hj, ej⟩ := pk_andE (xs i) (m := 31) 5 (by decide)
      have hj : j < 32 := hj
      rw [ej]
      have go : ∀ (q : Nat) (off : Int) (tgt : Nat), q < 27 → (#[124, 147, 160, 173, 186, 219, 252, 275, 308, 341, 374, 387, 420, 443, 476, 489, 532, 555, 588, 601, 634, 657, 700, 753, 796, 809, 822] : Array Int)[q]? = some off → (32 : Int) + off = (tgt : Int) → j = q → cG X D (gWs (D, cA, ad, shC) g ++ gWs (D, cA, ad2, shM) t) k n tgt (lvL i (ad2 0) (ad 0) b) [] → cG X D (gWs (D, cA, ad, shC) g ++ gWs (D, cA, ad2, shM) t) k n 32 (lvL i (ad2 0) (ad 0) b) [.int (nI j)] := by
        intro q off tgt hq ho htg e kk
        subst e
        exact cr_tin C (j : Int) off tgt dL_law_32 (tI_nI (by omega)) (by omega) (by omega) (by rw [show ((j : Int) - 0).toNat = j by omega]; exact ho) htg kk
      rcases Nat.lt_or_ge j 27 with h27 | h27
      · match j, h27, go with
        | 0, _, go => exact go 0 124 156 (by decide) rfl rfl rfl (lw_c0 C S hL hiL hc hR Kk)
        | 1, _, go => exact go 1 147 179 (by decide) rfl rfl rfl (lw_c1 C S hL hiL hc hR Kk)
        | 2, _, go => exact go 2 160 192 (by decide) rfl rfl rfl (lw_c2 C S hL hiL hc hR Kk)
        | 3, _, go => exact go 3 173 205 (by decide) rfl rfl rfl (lw_c3 C S hL hiL hc hR Kk)
        | 4, _, go => exact go 4 186 218 (by decide) rfl rfl rfl (lw_c4 C S hL hiL hc hR Kk)
        | 5, _, go => exact go 5 219 251 (by decide) rfl rfl rfl (lw_c5 C S hL hiL hc hR Kk)
        | 6, _, go => exact go 6 252 284 (by decide) rfl rfl rfl (lw_c6 C S hL hiL hc hR Kk)
        | 7, _, go => exact go 7 275 307 (by decide) rfl rfl rfl (lw_c7 C S hL hiL hc hR Kk)
        | 8, _, go => exact go 8 308 340 (by decide) rfl rfl rfl (lw_c8 C S hL hiL hc hR Kk)
        | 9, _, go => exact go 9 341 373 (by decide) rfl rfl rfl (lw_c9 C S hL hiL hc hR Kk)
        | 10, _, go => exact go 10 374 406 (by decide) rfl rfl rfl (lw_c10 C S hL hiL hc hR Kk)
        | 11, _, go => exact go 11 387 419 (by decide) rfl rfl rfl (lw_c11 C S hL hiL hc hR Kk)
        | 12, _, go => exact go 12 420 452 (by decide) rfl rfl rfl (lw_c12 C S hL hiL hc hR Kk)
        | 13, _, go => exact go 13 443 475 (by decide) rfl rfl rfl (lw_c13 C S hL hiL hc hR Kk)
        | 14, _, go => exact go 14 476 508 (by decide) rfl rfl rfl (lw_c14 C S hL hiL hc hR Kk)
        | 15, _, go => exact go 15 489 521 (by decide) rfl rfl rfl (lw_c15 C S hL hiL hc hR Kk)
        | 16, _, go => exact go 16 532 564 (by decide) rfl rfl rfl (lw_c16 C S hL hiL hc hR Kk)
        | 17, _, go => exact go 17 555 587 (by decide) rfl rfl rfl (lw_c17 C S hL hiL hc hR Kk)
        | 18, _, go => exact go 18 588 620 (by decide) rfl rfl rfl (lw_c18 C S hL hiL hc hR Kk)
        | 19, _, go => exact go 19 601 633 (by decide) rfl rfl rfl (lw_c19 C S hL hiL hc hR Kk)
        | 20, _, go => exact go 20 634 666 (by decide) rfl rfl rfl (lw_c20 C S hL hiL hc hR Kk)
        | 21, _, go => exact go 21 657 689 (by decide) rfl rfl rfl (lw_c21 C S hL hiL hc hR Kk)
        | 22, _, go => exact go 22 700 732 (by decide) rfl rfl rfl (lw_c22 C S hL hiL hc hR Kk)
        | 23, _, go => exact go 23 753 785 (by decide) rfl rfl rfl (lw_c23 C S hL hiL hc hR Kk)
        | 24, _, go => exact go 24 796 828 (by decide) rfl rfl rfl (lw_c24 C S hL hiL hc hR Kk)
        | 25, _, go => exact go 25 809 841 (by decide) rfl rfl rfl (lw_c25 C S hL hiL hc hR Kk)
        | 26, _, go => exact go 26 822 854 (by decide) rfl rfl rfl (lw_c26 C S hL hiL hc hR Kk)
        | (w + 27), hw, _ => exact absurd hw (by omega)
      · exact cr_tout C 877 dL_law_32 (Or.inr (by rw [tI_nI (by omega)]; omega)) rfl (Kk g t hR)
