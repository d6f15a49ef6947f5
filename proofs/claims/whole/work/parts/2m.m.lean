-- X11_keepsBy: 161 instructions, frames 5, locals 125
set_option maxRecDepth 100000 in
set_option maxHeartbeats 4000000 in
theorem mX11_keepsBy (l : Launch) {w : Wl} (hw : w.2.2.2 = shM) {σ : Sg} {a0 : Int32} {a1 : Int32}  {σ' : Sg} (hF : fX11_keepsBy σ a0 a1 = some σ') : gMV l w yX11_keepsBy wsX11_keepsBy ({ frames := 5, cells := 0, slots := 0, locals := 125 } : Room) [.ref (w.2.2.1 0), .int a0, .int a1] σ σ' := by
  have inX11 : ∀ v ∈ u_ws RX11 TX11 32, v ∈ wsX11_keepsBy := by decide +kernel
  have ln56 : Cond.fieldLink RX11 56 (TX11 28).1 (TX11 28).2.1 (TX11 28).2.2.1 ∈ wsX11_keepsBy := by decide +kernel
  have ln59 : Cond.fieldLink RX11 59 (TX11 29).1 (TX11 29).2.1 (TX11 29).2.2.1 ∈ wsX11_keepsBy := by decide +kernel
  have ln62 : Cond.fieldLink RX11 62 (TX11 30).1 (TX11 30).2.1 (TX11 30).2.2.1 ∈ wsX11_keepsBy := by decide +kernel
  have ln88 : Cond.fieldLink RX11 88 (TX11 0).1 (TX11 0).2.1 (TX11 0).2.2.1 ∈ wsX11_keepsBy := by decide +kernel
  refine gStartV cX11_keepsBy 11 RX11 rfl (by decide) rfl (Nat.le_of_ble_eq_true rfl) ?_
  intro X hl C
  show gG X w σ 0 [(0, .ref (w.2.2.1 0)), (1, .int a0), (2, .int a1)] []
  unfold fX11_keepsBy at hF
  refine gr_iconst C (v := 0) dX11_keepsBy_0 (by decide) ?_
  refine gr_istore_n C [(3, .int (0 : Int32)), (0, .ref (w.2.2.1 0)), (1, .int a0), (2, .int a1)] dX11_keepsBy_1 rfl (by decide) rfl ?_
  refine gr_sub [1, 2, 3, 0] [(0, .ref (w.2.2.1 0)), (1, .int a0), (2, .int a1), (3, .int (0 : Int32))] rfl ?_
  have L16 : ∀ (n : Nat) (x2 : Int32) (g3 : Sg) (K1 : Sg → Option Sg), (∀  (g17 : Sg), K1  g17 = some σ' → gG X w g17 41 [(0, .ref (w.2.2.1 0)), (1, .int a0)] []) → fX11_keepsBy_2 a1 n x2 g3 K1 = some σ' → gG X w g3 2 [(0, .ref (w.2.2.1 0)), (1, .int a0), (2, .int a1), (3, .int x2)] [] := by
    intro n
    induction n with
    | zero =>
      intro x2 g3 K1 hK1 hF
      rw [fX11_keepsBy_2] at hF
      cases hF
    | succ n ih =>
      intro x2 g3 K1 hK1 hF
      rw [fX11_keepsBy_2] at hF
      refine gr_iload_n C 3 dX11_keepsBy_2 rfl rfl ?_
      refine gr_bipush C (v := 10) dX11_keepsBy_3 (by decide) ?_
      refine gr_aload_n C 0 dX11_keepsBy_5 rfl rfl ?_
      refine gr_getI C 0 0 dX11_keepsBy_6 (scm_0 hw) rfl inX11 (by decide) ln88 rfl ?_
      refine gr_imul C dX11_keepsBy_9 ?_
      refine gr_icmp_ge C 41 dX11_keepsBy_10 (by decide) (fun c4 => ?_) (fun c4 => ?_)
      · rw [if_pos c4] at hF
        refine gr_sub [0, 1] [(0, .ref (w.2.2.1 0)), (1, .int a0)] rfl ?_
        exact hK1  g3 hF
      · rw [if_neg c4] at hF
        refine gr_aload_n C 0 dX11_keepsBy_13 rfl rfl ?_
        refine gr_getR C 0 28 16 dX11_keepsBy_14 (scm_0 hw) rfl inX11 (by decide) ln56 rfl ?_
        refine gr_iload_n C 3 dX11_keepsBy_17 rfl rfl ?_
        refine gr_aload_n C 0 dX11_keepsBy_18 rfl rfl ?_
        refine gr_iload_n C 3 dX11_keepsBy_19 rfl rfl ?_
        refine gr_bipush C (v := 10) dX11_keepsBy_20 (by decide) ?_
        refine gr_idiv C dX11_keepsBy_22 (by decide) ?_
        refine gr_iload_n C 3 dX11_keepsBy_23 rfl rfl ?_
        refine gr_bipush C (v := 10) dX11_keepsBy_24 (by decide) ?_
        refine gr_irem C dX11_keepsBy_26 (by decide) ?_
        refine gr_iload_n C 2 dX11_keepsBy_27 rfl rfl ?_
        obtain ⟨r9, g8, hc7, hF⟩ := gCl_e hF
        refine gr_callVI C (n := 3) (As := [.int (x2 / (10 : Int32)), .int (x2 - x2 / (10 : Int32) * (10 : Int32)), .int a1]) (rest := [.int x2, .ref (w.2.2.1 16)]) 0 (mX11_staysAt X.2.1 hw  hc7) gX11_keepsBy_X11_staysAt rfl ⟨rfl, rfl⟩ ⟨by decide, by decide⟩ rfl (Nat.le_of_ble_eq_true rfl) rfl (by decide +kernel) (scm_0 hw) rfl dX11_keepsBy_28 ?_
        obtain ⟨r12, g11, hc10, hF⟩ := gCl_e hF
        refine gr_callSI C (n := 1) (As := [.int r9]) (rest := [.int x2, .ref (w.2.2.1 16)]) (mX11_bits X.2.1 hw  hc10) gX11_keepsBy_X11_bits rfl ⟨rfl, rfl⟩ ⟨by decide, by decide⟩ rfl (Nat.le_of_ble_eq_true rfl) rfl (by decide +kernel) dX11_keepsBy_31 ?_
        obtain ⟨h13, g14, eg14, hF⟩ := gWr_e hF
        refine gr_iast C 16 90 dX11_keepsBy_34 (scm_16 hw) h13 ?_
        refine gr_nmS eg14 ?_
        obtain ⟨x15, ex15, hF⟩ := gLet_e hF
        refine gr_iinc C (v := x15) 3 [(3, .int x15), (0, .ref (w.2.2.1 0)), (1, .int a0), (2, .int a1)] dX11_keepsBy_35 rfl (by rw [ex15]; rfl) (by decide) rfl ?_
        refine gr_goto C 2 dX11_keepsBy_38 (by decide) ?_
        refine gr_sub [1, 2, 3, 0] [(0, .ref (w.2.2.1 0)), (1, .int a0), (2, .int a1), (3, .int x15)] rfl ?_
        exact ih x15 g14 K1 hK1 hF
  refine L16 _ (0 : Int32) σ _ ?_ hF
  intro g18 hF
  try dsimp only at hF
  refine gr_iconst C (v := 0) dX11_keepsBy_41 (by decide) ?_
  refine gr_istore_n C [(3, .int (0 : Int32)), (0, .ref (w.2.2.1 0)), (1, .int a0)] dX11_keepsBy_42 rfl (by decide) rfl ?_
  refine gr_sub [1, 2, 0] [(0, .ref (w.2.2.1 0)), (1, .int a0), (3, .int (0 : Int32))] rfl ?_
  have L28 : ∀ (n : Nat) (x20 : Int32) (g21 : Sg) (K19 : Sg → Option Sg), (∀  (g29 : Sg), K19  g29 = some σ' → gG X w g29 84 [(0, .ref (w.2.2.1 0)), (1, .int a0)] []) → fX11_keepsBy_43 a0 n x20 g21 K19 = some σ' → gG X w g21 43 [(0, .ref (w.2.2.1 0)), (1, .int a0), (3, .int x20)] [] := by
    intro n
    induction n with
    | zero =>
      intro x20 g21 K19 hK19 hF
      rw [fX11_keepsBy_43] at hF
      cases hF
    | succ n ih =>
      intro x20 g21 K19 hK19 hF
      rw [fX11_keepsBy_43] at hF
      refine gr_iload_n C 2 dX11_keepsBy_43 rfl rfl ?_
      refine gr_iload_n C 1 dX11_keepsBy_44 rfl rfl ?_
      refine gr_icmp_gt C 84 dX11_keepsBy_45 (by decide) (fun c22 => ?_) (fun c22 => ?_)
      · rw [if_pos c22] at hF
        refine gr_sub [0, 1] [(0, .ref (w.2.2.1 0)), (1, .int a0)] rfl ?_
        exact hK19  g21 hF
      · rw [if_neg c22] at hF
        refine gr_aload_n C 0 dX11_keepsBy_48 rfl rfl ?_
        refine gr_getR C 0 29 17 dX11_keepsBy_49 (scm_0 hw) rfl inX11 (by decide) ln59 rfl ?_
        refine gr_bipush C (v := 100) dX11_keepsBy_52 (by decide) ?_
        refine gr_aload_n C 0 dX11_keepsBy_54 rfl rfl ?_
        refine gr_getI C 0 0 dX11_keepsBy_55 (scm_0 hw) rfl inX11 (by decide) ln88 rfl ?_
        refine gr_imul C dX11_keepsBy_58 ?_
        refine gr_iload_n C 2 dX11_keepsBy_59 rfl rfl ?_
        refine gr_iadd C dX11_keepsBy_60 ?_
        refine gr_iconst C (v := 0) dX11_keepsBy_61 (by decide) ?_
        obtain ⟨h23, g24, eg24, hF⟩ := gWr_e hF
        refine gr_iast C 17 1000 dX11_keepsBy_62 (scm_17 hw) h23 ?_
        refine gr_nmS eg24 ?_
        refine gr_aload_n C 0 dX11_keepsBy_63 rfl rfl ?_
        refine gr_getR C 0 30 18 dX11_keepsBy_64 (scm_0 hw) rfl inX11 (by decide) ln62 rfl ?_
        refine gr_bipush C (v := 100) dX11_keepsBy_67 (by decide) ?_
        refine gr_aload_n C 0 dX11_keepsBy_69 rfl rfl ?_
        refine gr_getI C 0 0 dX11_keepsBy_70 (scm_0 hw) rfl inX11 (by decide) ln88 rfl ?_
        refine gr_imul C dX11_keepsBy_73 ?_
        refine gr_iload_n C 2 dX11_keepsBy_74 rfl rfl ?_
        refine gr_iadd C dX11_keepsBy_75 ?_
        refine gr_iconst C (v := 0) dX11_keepsBy_76 (by decide) ?_
        obtain ⟨h25, g26, eg26, hF⟩ := gWr_e hF
        refine gr_iast C 18 1000 dX11_keepsBy_77 (scm_18 hw) h25 ?_
        refine gr_nmS eg26 ?_
        obtain ⟨x27, ex27, hF⟩ := gLet_e hF
        refine gr_iinc C (v := x27) 2 [(3, .int x27), (0, .ref (w.2.2.1 0)), (1, .int a0)] dX11_keepsBy_78 rfl (by rw [ex27]; rfl) (by decide) rfl ?_
        refine gr_goto C 43 dX11_keepsBy_81 (by decide) ?_
        refine gr_sub [1, 2, 0] [(0, .ref (w.2.2.1 0)), (1, .int a0), (3, .int x27)] rfl ?_
        exact ih x27 g26 K19 hK19 hF
  refine L28 _ (0 : Int32) g18 _ ?_ hF
  intro g30 hF
  try dsimp only at hF
  refine gr_aload_n C 0 dX11_keepsBy_84 rfl rfl ?_
  refine gr_getI C 0 0 dX11_keepsBy_85 (scm_0 hw) rfl inX11 (by decide) ln88 rfl ?_
  refine gr_iconst C (v := 1) dX11_keepsBy_88 (by decide) ?_
  refine gr_isub C dX11_keepsBy_89 ?_
  obtain ⟨x31, ex31, hF⟩ := gLet_e hF
  refine gr_nmI ex31 ?_
  refine gr_istore_n C [(3, .int x31), (0, .ref (w.2.2.1 0)), (1, .int a0)] dX11_keepsBy_90 rfl (by decide) rfl ?_
  refine gr_sub [1, 2, 0] [(0, .ref (w.2.2.1 0)), (1, .int a0), (3, .int x31)] rfl ?_
  have L99 : ∀ (n : Nat) (x32 : Int32) (g33 : Sg) , fX11_keepsBy_91 a0 n x32 g33  = some σ' → gG X w g33 91 [(0, .ref (w.2.2.1 0)), (1, .int a0), (3, .int x32)] [] := by
    intro n
    induction n with
    | zero =>
      intro x32 g33 hF
      rw [fX11_keepsBy_91] at hF
      cases hF
    | succ n ih =>
      intro x32 g33 hF
      rw [fX11_keepsBy_91] at hF
      refine gr_iload_n C 2 dX11_keepsBy_91 rfl rfl ?_
      refine gr_if_lt C 289 dX11_keepsBy_92 (by decide) (fun c34 => ?_) (fun c34 => ?_)
      · rw [if_pos c34] at hF
        refine gr_sub [] [] rfl ?_
        cases hF
        exact gr_vret C dX11_keepsBy_289 ⟨rfl, rfl⟩
      · rw [if_neg c34] at hF
        refine gr_iconst C (v := 0) dX11_keepsBy_95 (by decide) ?_
        refine gr_istore C [(4, .int (0 : Int32)), (0, .ref (w.2.2.1 0)), (1, .int a0), (3, .int x32)] dX11_keepsBy_96 (by decide) rfl ?_
        refine gr_sub [1, 2, 3, 0] [(0, .ref (w.2.2.1 0)), (1, .int a0), (3, .int x32), (4, .int (0 : Int32))] rfl ?_
        have L95 : ∀ (n : Nat) (x36 : Int32) (g37 : Sg) (K35 : Sg → Option Sg), (∀  (g96 : Sg), K35  g96 = some σ' → gG X w g96 283 [(0, .ref (w.2.2.1 0)), (1, .int a0), (3, .int x32)] []) → fX11_keepsBy_98 a0 x32 n x36 g37 K35 = some σ' → gG X w g37 98 [(0, .ref (w.2.2.1 0)), (1, .int a0), (3, .int x32), (4, .int x36)] [] := by
          intro n
          induction n with
          | zero =>
            intro x36 g37 K35 hK35 hF
            rw [fX11_keepsBy_98] at hF
            cases hF
          | succ n ih =>
            intro x36 g37 K35 hK35 hF
            rw [fX11_keepsBy_98] at hF
            refine gr_iload C 3 dX11_keepsBy_98 rfl ?_
            refine gr_iload_n C 1 dX11_keepsBy_100 rfl rfl ?_
            refine gr_icmp_gt C 283 dX11_keepsBy_101 (by decide) (fun c38 => ?_) (fun c38 => ?_)
            · rw [if_pos c38] at hF
              refine gr_sub [0, 1, 2] [(0, .ref (w.2.2.1 0)), (1, .int a0), (3, .int x32)] rfl ?_
              exact hK35  g37 hF
            · rw [if_neg c38] at hF
              refine gr_bipush C (v := 100) dX11_keepsBy_104 (by decide) ?_
              refine gr_iload_n C 2 dX11_keepsBy_106 rfl rfl ?_
              refine gr_imul C dX11_keepsBy_107 ?_
              refine gr_iload C 3 dX11_keepsBy_108 rfl ?_
              refine gr_iadd C dX11_keepsBy_110 ?_
              obtain ⟨x39, ex39, hF⟩ := gLet_e hF
              refine gr_nmI ex39 ?_
              refine gr_istore C [(5, .int x39), (0, .ref (w.2.2.1 0)), (1, .int a0), (3, .int x32), (4, .int x36)] dX11_keepsBy_111 (by decide) rfl ?_
              refine gr_aload_n C 1 dX11_keepsBy_113 rfl rfl ?_
              refine gr_getR C 0 29 17 dX11_keepsBy_114 (scm_0 hw) rfl inX11 (by decide) ln59 rfl ?_
              refine gr_iload C 0 dX11_keepsBy_117 rfl ?_
              refine gr_iconst C (v := -1) dX11_keepsBy_119 (by decide) ?_
              obtain ⟨h40, g41, eg41, hF⟩ := gWr_e hF
              refine gr_iast C 17 1000 dX11_keepsBy_120 (scm_17 hw) h40 ?_
              refine gr_nmS eg41 ?_
              refine gr_iconst C (v := 0) dX11_keepsBy_121 (by decide) ?_
              refine gr_istore C [(6, .int (0 : Int32)), (5, .int x39), (0, .ref (w.2.2.1 0)), (1, .int a0), (3, .int x32), (4, .int x36)] dX11_keepsBy_122 (by decide) rfl ?_
              refine gr_sub [2, 3, 4, 5, 1, 0] [(0, .ref (w.2.2.1 0)), (1, .int a0), (3, .int x32), (4, .int x36), (5, .int x39), (6, .int (0 : Int32))] rfl ?_
              have L91 : ∀ (n : Nat) (x43 : Int32) (g44 : Sg) (K42 : Sg → Option Sg), (∀  (g92 : Sg), K42  g92 = some σ' → gG X w g92 277 [(0, .ref (w.2.2.1 0)), (1, .int a0), (3, .int x32), (4, .int x36)] []) → fX11_keepsBy_124 x32 x36 x39 n x43 g44 K42 = some σ' → gG X w g44 124 [(0, .ref (w.2.2.1 0)), (1, .int a0), (3, .int x32), (4, .int x36), (5, .int x39), (6, .int x43)] [] := by
                intro n
                induction n with
                | zero =>
                  intro x43 g44 K42 hK42 hF
                  rw [fX11_keepsBy_124] at hF
                  cases hF
                | succ n ih =>
                  intro x43 g44 K42 hK42 hF
                  rw [fX11_keepsBy_124] at hF
                  refine gr_iload C 5 dX11_keepsBy_124 rfl ?_
                  refine gr_bipush C (v := 9) dX11_keepsBy_126 (by decide) ?_
                  refine gr_iload C 3 dX11_keepsBy_128 rfl ?_
                  obtain ⟨r47, g46, hc45, hF⟩ := gCl_e hF
                  refine gr_callSI C (n := 2) (As := [.int (9 : Int32), .int x36]) (rest := [.int x43]) (mX11_smaller X.2.1 hw  hc45) gX11_keepsBy_X11_smaller rfl ⟨rfl, rfl⟩ ⟨by decide, by decide⟩ rfl (Nat.le_of_ble_eq_true rfl) rfl (by decide +kernel) dX11_keepsBy_130 ?_
                  refine gr_icmp_gt C 277 dX11_keepsBy_133 (by decide) (fun c48 => ?_) (fun c48 => ?_)
                  · rw [if_pos c48] at hF
                    refine gr_sub [0, 1, 2, 3] [(0, .ref (w.2.2.1 0)), (1, .int a0), (3, .int x32), (4, .int x36)] rfl ?_
                    exact hK42  g46 hF
                  · rw [if_neg c48] at hF
                    refine gr_iload C 4 dX11_keepsBy_136 rfl ?_
                    refine gr_bipush C (v := 100) dX11_keepsBy_138 (by decide) ?_
                    refine gr_iadd C dX11_keepsBy_140 ?_
                    refine gr_iload C 5 dX11_keepsBy_141 rfl ?_
                    refine gr_isub C dX11_keepsBy_143 ?_
                    obtain ⟨x49, ex49, hF⟩ := gLet_e hF
                    refine gr_nmI ex49 ?_
                    refine gr_istore C [(7, .int x49), (0, .ref (w.2.2.1 0)), (1, .int a0), (3, .int x32), (4, .int x36), (5, .int x39), (6, .int x43)] dX11_keepsBy_144 (by decide) rfl ?_
                    refine gr_aload_n C 1 dX11_keepsBy_146 rfl rfl ?_
                    refine gr_getR C 0 28 16 dX11_keepsBy_147 (scm_0 hw) rfl inX11 (by decide) ln56 rfl ?_
                    refine gr_bipush C (v := 10) dX11_keepsBy_150 (by decide) ?_
                    refine gr_iload_n C 3 dX11_keepsBy_152 rfl rfl ?_
                    refine gr_imul C dX11_keepsBy_153 ?_
                    refine gr_iload C 6 dX11_keepsBy_154 rfl ?_
                    refine gr_iadd C dX11_keepsBy_156 ?_
                    obtain ⟨h51, x50, ex50, hF⟩ := gRd_e hF
                    refine gr_iald C 16 90 dX11_keepsBy_157 (scm_16 hw) h51 ?_
                    refine gr_nmI ex50 ?_
                    refine gr_aload_n C 1 dX11_keepsBy_158 rfl rfl ?_
                    refine gr_getR C 0 29 17 dX11_keepsBy_159 (scm_0 hw) rfl inX11 (by decide) ln59 rfl ?_
                    refine gr_iload C 0 dX11_keepsBy_162 rfl ?_
                    obtain ⟨h53, x52, ex52, hF⟩ := gRd_e hF
                    refine gr_iald C 17 1000 dX11_keepsBy_164 (scm_17 hw) h53 ?_
                    refine gr_nmI ex52 ?_
                    refine gr_iadd C dX11_keepsBy_165 ?_
                    obtain ⟨x54, ex54, hF⟩ := gLet_e hF
                    refine gr_nmI ex54 ?_
                    refine gr_istore C [(8, .int x54), (7, .int x49), (0, .ref (w.2.2.1 0)), (1, .int a0), (3, .int x32), (4, .int x36), (5, .int x39), (6, .int x43)] dX11_keepsBy_166 (by decide) rfl ?_
                    refine gr_iload C 7 dX11_keepsBy_168 rfl ?_
                    refine gr_aload_n C 2 dX11_keepsBy_170 rfl rfl ?_
                    refine gr_getR C 0 30 18 dX11_keepsBy_171 (scm_0 hw) rfl inX11 (by decide) ln62 rfl ?_
                    refine gr_iload C 1 dX11_keepsBy_174 rfl ?_
                    obtain ⟨h56, x55, ex55, hF⟩ := gRd_e hF
                    refine gr_iald C 18 1000 dX11_keepsBy_176 (scm_18 hw) h56 ?_
                    refine gr_nmI ex55 ?_
                    refine gr_iadd C dX11_keepsBy_177 ?_
                    obtain ⟨x57, ex57, hF⟩ := gLet_e hF
                    refine gr_nmI ex57 ?_
                    refine gr_istore C [(9, .int x57), (8, .int x54), (7, .int x49), (0, .ref (w.2.2.1 0)), (1, .int a0), (3, .int x32), (4, .int x36), (5, .int x39), (6, .int x43)] dX11_keepsBy_178 (by decide) rfl ?_
                    refine gr_iload C 1 dX11_keepsBy_180 rfl ?_
                    refine gr_aload_n C 3 dX11_keepsBy_182 rfl rfl ?_
                    refine gr_getR C 0 29 17 dX11_keepsBy_183 (scm_0 hw) rfl inX11 (by decide) ln59 rfl ?_
                    refine gr_iload C 7 dX11_keepsBy_186 rfl ?_
                    obtain ⟨h59, x58, ex58, hF⟩ := gRd_e hF
                    refine gr_iald C 17 1000 dX11_keepsBy_188 (scm_17 hw) h59 ?_
                    refine gr_nmI ex58 ?_
                    obtain ⟨K60, eK60, hF⟩ := gLet_e hF
                    have JK60 : ∀ (x61 : Int32) (g62 : Sg), K60 x61 g62 = some σ' → gG X w g62 221 [(0, .ref (w.2.2.1 0)), (1, .int a0), (3, .int x32), (4, .int x36), (5, .int x39), (6, .int x43), (8, .int x54), (9, .int x57)] [.int x61] := by
                      intro x61 g62 hF
                      rw [eK60] at hF
                      try dsimp only at hF
                      refine gr_istore C [(10, .int x61), (0, .ref (w.2.2.1 0)), (1, .int a0), (3, .int x32), (4, .int x36), (5, .int x39), (6, .int x43), (8, .int x54), (9, .int x57)] dX11_keepsBy_221 (by decide) rfl ?_
                      refine gr_aload_n C 1 dX11_keepsBy_223 rfl rfl ?_
                      refine gr_getR C 0 30 18 dX11_keepsBy_224 (scm_0 hw) rfl inX11 (by decide) ln62 rfl ?_
                      refine gr_iload C 5 dX11_keepsBy_227 rfl ?_
                      refine gr_iload C 0 dX11_keepsBy_229 rfl ?_
                      obtain ⟨K63, eK63, hF⟩ := gLet_e hF
                      have JK63 : ∀ (x64 : Int32) (g65 : Sg), K63 x64 g65 = some σ' → gG X w g65 246 [(0, .ref (w.2.2.1 0)), (1, .int a0), (3, .int x32), (4, .int x36), (5, .int x39), (6, .int x43), (8, .int x54), (10, .int x61)] [.int x64, .int x39, .ref (w.2.2.1 18)] := by
                        intro x64 g65 hF
                        rw [eK63] at hF
                        try dsimp only at hF
                        obtain ⟨h66, g67, eg67, hF⟩ := gWr_e hF
                        refine gr_iast C 18 1000 dX11_keepsBy_246 (scm_18 hw) h66 ?_
                        refine gr_nmS eg67 ?_
                        refine gr_aload_n C 0 dX11_keepsBy_247 rfl rfl ?_
                        refine gr_getR C 0 29 17 dX11_keepsBy_248 (scm_0 hw) rfl inX11 (by decide) ln59 rfl ?_
                        refine gr_iload C 4 dX11_keepsBy_251 rfl ?_
                        refine gr_iload C 7 dX11_keepsBy_253 rfl ?_
                        obtain ⟨K68, eK68, hF⟩ := gLet_e hF
                        have JK68 : ∀ (x69 : Int32) (g70 : Sg), K68 x69 g70 = some σ' → gG X w g70 270 [(0, .ref (w.2.2.1 0)), (1, .int a0), (3, .int x32), (4, .int x36), (5, .int x39), (6, .int x43)] [.int x69, .int x39, .ref (w.2.2.1 17)] := by
                          intro x69 g70 hF
                          rw [eK68] at hF
                          try dsimp only at hF
                          obtain ⟨h71, g72, eg72, hF⟩ := gWr_e hF
                          refine gr_iast C 17 1000 dX11_keepsBy_270 (scm_17 hw) h71 ?_
                          refine gr_nmS eg72 ?_
                          obtain ⟨x73, ex73, hF⟩ := gLet_e hF
                          refine gr_iinc C (v := x73) 5 [(6, .int x73), (0, .ref (w.2.2.1 0)), (1, .int a0), (3, .int x32), (4, .int x36), (5, .int x39)] dX11_keepsBy_271 rfl (by rw [ex73]; rfl) (by decide) rfl ?_
                          refine gr_goto C 124 dX11_keepsBy_274 (by decide) ?_
                          refine gr_sub [1, 2, 3, 4, 5, 0] [(0, .ref (w.2.2.1 0)), (1, .int a0), (3, .int x32), (4, .int x36), (5, .int x39), (6, .int x73)] rfl ?_
                          exact ih x73 g72 K42 hK42 hF
                        refine gr_if_eq C 263 dX11_keepsBy_255 (by decide) (fun c74 => ?_) (fun c74 => ?_)
                        · rw [if_pos c74] at hF
                          refine gr_sub [0, 1, 2, 3, 4, 5] [(0, .ref (w.2.2.1 0)), (1, .int a0), (3, .int x32), (4, .int x36), (5, .int x39), (6, .int x43)] rfl ?_
                          refine gr_aload_n C 0 dX11_keepsBy_263 rfl rfl ?_
                          refine gr_getR C 0 29 17 dX11_keepsBy_264 (scm_0 hw) rfl inX11 (by decide) ln59 rfl ?_
                          refine gr_iload C 4 dX11_keepsBy_267 rfl ?_
                          obtain ⟨h76, x75, ex75, hF⟩ := gRd_e hF
                          refine gr_iald C 17 1000 dX11_keepsBy_269 (scm_17 hw) h76 ?_
                          refine gr_nmI ex75 ?_
                          exact JK68 x75 g67 hF
                        · rw [if_neg c74] at hF
                          refine gr_sub [0, 1, 2, 3, 4, 5, 6] [(0, .ref (w.2.2.1 0)), (1, .int a0), (3, .int x32), (4, .int x36), (5, .int x39), (6, .int x43), (8, .int x54)] rfl ?_
                          refine gr_iload C 6 dX11_keepsBy_258 rfl ?_
                          refine gr_goto C 270 dX11_keepsBy_260 (by decide) ?_
                          refine gr_sub [0, 1, 2, 3, 4, 5] [(0, .ref (w.2.2.1 0)), (1, .int a0), (3, .int x32), (4, .int x36), (5, .int x39), (6, .int x43)] rfl ?_
                          exact JK68 x54 g67 hF
                      refine gr_if_eq C 239 dX11_keepsBy_231 (by decide) (fun c77 => ?_) (fun c77 => ?_)
                      · rw [if_pos c77] at hF
                        refine gr_sub [1, 2, 3, 4, 5, 6, 7, 0] [(0, .ref (w.2.2.1 0)), (1, .int a0), (3, .int x32), (4, .int x36), (5, .int x39), (6, .int x43), (8, .int x54), (10, .int x61)] rfl ?_
                        refine gr_aload_n C 0 dX11_keepsBy_239 rfl rfl ?_
                        refine gr_getR C 0 30 18 dX11_keepsBy_240 (scm_0 hw) rfl inX11 (by decide) ln62 rfl ?_
                        refine gr_iload C 4 dX11_keepsBy_243 rfl ?_
                        obtain ⟨h79, x78, ex78, hF⟩ := gRd_e hF
                        refine gr_iald C 18 1000 dX11_keepsBy_245 (scm_18 hw) h79 ?_
                        refine gr_nmI ex78 ?_
                        exact JK63 x78 g62 hF
                      · rw [if_neg c77] at hF
                        refine gr_sub [1, 2, 3, 4, 5, 6, 7, 8, 0] [(0, .ref (w.2.2.1 0)), (1, .int a0), (3, .int x32), (4, .int x36), (5, .int x39), (6, .int x43), (8, .int x54), (9, .int x57), (10, .int x61)] rfl ?_
                        refine gr_iload C 7 dX11_keepsBy_234 rfl ?_
                        refine gr_goto C 246 dX11_keepsBy_236 (by decide) ?_
                        refine gr_sub [0, 1, 2, 3, 4, 5, 6, 8] [(0, .ref (w.2.2.1 0)), (1, .int a0), (3, .int x32), (4, .int x36), (5, .int x39), (6, .int x43), (8, .int x54), (10, .int x61)] rfl ?_
                        exact JK63 x57 g62 hF
                    obtain ⟨K80, eK80, hF⟩ := gLet_e hF
                    have JK80 : ∀  (g81 : Sg), K80  g81 = some σ' → gG X w g81 216 [(0, .ref (w.2.2.1 0)), (1, .int a0), (3, .int x32), (4, .int x36), (5, .int x39), (6, .int x43), (8, .int x54), (9, .int x57)] [] := by
                      intro g81 hF
                      rw [eK80] at hF
                      try dsimp only at hF
                      refine gr_iconst C (v := 1) dX11_keepsBy_216 (by decide) ?_
                      refine gr_goto C 221 dX11_keepsBy_217 (by decide) ?_
                      exact JK60 (1 : Int32) g81 hF
                    refine gr_icmp_gt C 216 dX11_keepsBy_189 (by decide) (fun c82 => ?_) (fun c82 => ?_)
                    · rw [if_pos c82] at hF
                      refine gr_sub [3, 4, 5, 6, 7, 8, 1, 0] [(0, .ref (w.2.2.1 0)), (1, .int a0), (3, .int x32), (4, .int x36), (5, .int x39), (6, .int x43), (8, .int x54), (9, .int x57)] rfl ?_
                      exact JK80  g46 hF
                    · rw [if_neg c82] at hF
                      refine gr_sub [3, 4, 5, 6, 7, 8, 1, 0] [(0, .ref (w.2.2.1 0)), (1, .int a0), (3, .int x32), (4, .int x36), (5, .int x39), (6, .int x43), (8, .int x54), (9, .int x57)] rfl ?_
                      refine gr_iload C 6 dX11_keepsBy_192 rfl ?_
                      refine gr_aload_n C 0 dX11_keepsBy_194 rfl rfl ?_
                      refine gr_getR C 0 29 17 dX11_keepsBy_195 (scm_0 hw) rfl inX11 (by decide) ln59 rfl ?_
                      refine gr_iload C 4 dX11_keepsBy_198 rfl ?_
                      obtain ⟨h84, x83, ex83, hF⟩ := gRd_e hF
                      refine gr_iald C 17 1000 dX11_keepsBy_200 (scm_17 hw) h84 ?_
                      refine gr_nmI ex83 ?_
                      obtain ⟨K85, eK85, hF⟩ := gLet_e hF
                      have JK85 : ∀  (g86 : Sg), K85  g86 = some σ' → gG X w g86 220 [(0, .ref (w.2.2.1 0)), (1, .int a0), (3, .int x32), (4, .int x36), (5, .int x39), (6, .int x43), (8, .int x54), (9, .int x57)] [] := by
                        intro g86 hF
                        rw [eK85] at hF
                        try dsimp only at hF
                        refine gr_iconst C (v := 0) dX11_keepsBy_220 (by decide) ?_
                        exact JK60 (0 : Int32) g86 hF
                      refine gr_icmp_ne C 220 dX11_keepsBy_201 (by decide) (fun c87 => ?_) (fun c87 => ?_)
                      · rw [if_neg c87] at hF
                        exact JK85  g46 hF
                      · rw [if_pos c87] at hF
                        refine gr_iload C 7 dX11_keepsBy_204 rfl ?_
                        refine gr_aload_n C 0 dX11_keepsBy_206 rfl rfl ?_
                        refine gr_getR C 0 30 18 dX11_keepsBy_207 (scm_0 hw) rfl inX11 (by decide) ln62 rfl ?_
                        refine gr_iload C 4 dX11_keepsBy_210 rfl ?_
                        obtain ⟨h89, x88, ex88, hF⟩ := gRd_e hF
                        refine gr_iald C 18 1000 dX11_keepsBy_212 (scm_18 hw) h89 ?_
                        refine gr_nmI ex88 ?_
                        refine gr_icmp_ge C 220 dX11_keepsBy_213 (by decide) (fun c90 => ?_) (fun c90 => ?_)
                        · rw [if_pos c90] at hF
                          exact JK85  g46 hF
                        · rw [if_neg c90] at hF
                          exact JK80  g46 hF
              refine L91 _ (0 : Int32) g41 _ ?_ hF
              intro g93 hF
              try dsimp only at hF
              obtain ⟨x94, ex94, hF⟩ := gLet_e hF
              refine gr_iinc C (v := x94) 3 [(4, .int x94), (0, .ref (w.2.2.1 0)), (1, .int a0), (3, .int x32)] dX11_keepsBy_277 rfl (by rw [ex94]; rfl) (by decide) rfl ?_
              refine gr_goto C 98 dX11_keepsBy_280 (by decide) ?_
              refine gr_sub [1, 2, 3, 0] [(0, .ref (w.2.2.1 0)), (1, .int a0), (3, .int x32), (4, .int x94)] rfl ?_
              exact ih x94 g93 K35 hK35 hF
        refine L95 _ (0 : Int32) g33 _ ?_ hF
        intro g97 hF
        try dsimp only at hF
        obtain ⟨x98, ex98, hF⟩ := gLet_e hF
        refine gr_iinc C (v := x98) 2 [(3, .int x98), (0, .ref (w.2.2.1 0)), (1, .int a0)] dX11_keepsBy_283 rfl (by rw [ex98]; rfl) (by decide) rfl ?_
        refine gr_goto C 91 dX11_keepsBy_286 (by decide) ?_
        refine gr_sub [1, 2, 0] [(0, .ref (w.2.2.1 0)), (1, .int a0), (3, .int x98)] rfl ?_
        exact ih x98 g97   hF
  refine L99 _ x31 g30   hF
-- X11_best: 106 instructions, frames 6, locals 155
set_option maxRecDepth 100000 in
set_option maxHeartbeats 4000000 in
theorem mX11_best (l : Launch) {w : Wl} (hw : w.2.2.2 = shM) {σ : Sg} {a0 : Int32} {a1 : Int32} {a2 : Int32}  {r : Int32} {σ' : Sg} (hF : fX11_best σ a0 a1 a2 = some (r, σ')) : gMI l w yX11_best wsX11_best ({ frames := 6, cells := 0, slots := 0, locals := 155 } : Room) [.ref (w.2.2.1 0), .int a0, .int a1, .int a2] σ r σ' := by
  have inX11 : ∀ v ∈ u_ws RX11 TX11 32, v ∈ wsX11_best := by decide +kernel
  have ln56 : Cond.fieldLink RX11 56 (TX11 28).1 (TX11 28).2.1 (TX11 28).2.2.1 ∈ wsX11_best := by decide +kernel
  have ln59 : Cond.fieldLink RX11 59 (TX11 29).1 (TX11 29).2.1 (TX11 29).2.2.1 ∈ wsX11_best := by decide +kernel
  have ln62 : Cond.fieldLink RX11 62 (TX11 30).1 (TX11 30).2.1 (TX11 30).2.2.1 ∈ wsX11_best := by decide +kernel
  have ln65 : Cond.fieldLink RX11 65 (TX11 31).1 (TX11 31).2.1 (TX11 31).2.2.1 ∈ wsX11_best := by decide +kernel
  have ln88 : Cond.fieldLink RX11 88 (TX11 0).1 (TX11 0).2.1 (TX11 0).2.2.1 ∈ wsX11_best := by decide +kernel
  have k196 : Cond.constantLong RX11 196 (20) ∈ wsX11_best := by decide +kernel
  have k228 : Cond.constantLong RX11 228 (99) ∈ wsX11_best := by decide +kernel
  have k230 : Cond.constantLong RX11 230 (-1) ∈ wsX11_best := by decide +kernel
  refine gStartI cX11_best 8 RX11 rfl (by decide) rfl (Nat.le_of_ble_eq_true rfl) ?_
  intro X hl C
  show gG X w σ 0 [(0, .ref (w.2.2.1 0)), (1, .int a0), (2, .int a1), (3, .int a2)] []
  unfold fX11_best at hF
  refine gr_iload_n C 1 dX11_best_0 rfl rfl ?_
  refine gr_i2l C dX11_best_1 ?_
  refine gr_lconst C (v := 0) dX11_best_2 (by decide) ?_
  refine gr_ldc2 C (v := 99) dX11_best_3 k228 ?_
  obtain ⟨r3, g2, hc1, hF⟩ := gCl_e hF
  refine gr_callSI C (n := 3) (As := [.long (a0.toInt64), .long (0 : Int64), .long (99 : Int64)]) (rest := []) (mX11_in X.2.1 hw  hc1) gX11_best_X11_in rfl ⟨rfl, rfl⟩ ⟨by decide, by decide⟩ rfl (Nat.le_of_ble_eq_true rfl) rfl (by decide +kernel) dX11_best_6 ?_
  refine gr_if_eq C 42 dX11_best_9 (by decide) (fun c4 => ?_) (fun c4 => ?_)
  · rw [if_pos c4] at hF
    refine gr_sub [] [] rfl ?_
    refine gr_iconst C (v := -1) dX11_best_42 (by decide) ?_
    cases hF
    exact gr_iret C dX11_best_43 ⟨rfl, rfl⟩
  · rw [if_neg c4] at hF
    refine gr_iload_n C 2 dX11_best_12 rfl rfl ?_
    refine gr_i2l C dX11_best_13 ?_
    refine gr_lconst C (v := 1) dX11_best_14 (by decide) ?_
    refine gr_ldc2 C (v := 20) dX11_best_15 k196 ?_
    obtain ⟨r7, g6, hc5, hF⟩ := gCl_e hF
    refine gr_callSI C (n := 3) (As := [.long (a1.toInt64), .long (1 : Int64), .long (20 : Int64)]) (rest := []) (mX11_in X.2.1 hw  hc5) gX11_best_X11_in rfl ⟨rfl, rfl⟩ ⟨by decide, by decide⟩ rfl (Nat.le_of_ble_eq_true rfl) rfl (by decide +kernel) dX11_best_18 ?_
    refine gr_if_eq C 42 dX11_best_21 (by decide) (fun c8 => ?_) (fun c8 => ?_)
    · rw [if_pos c8] at hF
      refine gr_sub [] [] rfl ?_
      refine gr_iconst C (v := -1) dX11_best_42 (by decide) ?_
      cases hF
      exact gr_iret C dX11_best_43 ⟨rfl, rfl⟩
    · rw [if_neg c8] at hF
      refine gr_iload_n C 3 dX11_best_24 rfl rfl ?_
      refine gr_i2l C dX11_best_25 ?_
      refine gr_ldc2 C (v := -1) dX11_best_26 k230 ?_
      refine gr_aload_n C 0 dX11_best_29 rfl rfl ?_
      refine gr_getI C 0 0 dX11_best_30 (scm_0 hw) rfl inX11 (by decide) ln88 rfl ?_
      refine gr_iconst C (v := 1) dX11_best_33 (by decide) ?_
      refine gr_isub C dX11_best_34 ?_
      refine gr_i2l C dX11_best_35 ?_
      obtain ⟨r11, g10, hc9, hF⟩ := gCl_e hF
      refine gr_callSI C (n := 3) (As := [.long (a2.toInt64), .long (-1 : Int64), .long (((g6 0 0) - (1 : Int32)).toInt64)]) (rest := []) (mX11_in X.2.1 hw  hc9) gX11_best_X11_in rfl ⟨rfl, rfl⟩ ⟨by decide, by decide⟩ rfl (Nat.le_of_ble_eq_true rfl) rfl (by decide +kernel) dX11_best_36 ?_
      refine gr_if_ne C 44 dX11_best_39 (by decide) (fun c12 => ?_) (fun c12 => ?_)
      · rw [if_neg c12] at hF
        refine gr_aload_n C 0 dX11_best_44 rfl rfl ?_
        refine gr_iload_n C 1 dX11_best_45 rfl rfl ?_
        refine gr_iload_n C 2 dX11_best_46 rfl rfl ?_
        obtain ⟨g14, hc13, hF⟩ := gCv_e hF
        refine gr_callVV C (n := 2) (As := [.int a0, .int a1]) (rest := []) 0 (mX11_keepsBy X.2.1 hw  hc13) gX11_best_X11_keepsBy rfl ⟨rfl, rfl⟩ ⟨by decide, by decide⟩ rfl (Nat.le_of_ble_eq_true rfl) rfl (by decide +kernel) (scm_0 hw) rfl dX11_best_47 ?_
        refine gr_iload_n C 1 dX11_best_50 rfl rfl ?_
        refine gr_istore C [(4, .int a0), (0, .ref (w.2.2.1 0)), (1, .int a0), (2, .int a1), (3, .int a2)] dX11_best_51 (by decide) rfl ?_
        refine gr_iconst C (v := 0) dX11_best_53 (by decide) ?_
        refine gr_istore C [(5, .int (0 : Int32)), (4, .int a0), (0, .ref (w.2.2.1 0)), (1, .int a0), (2, .int a1), (3, .int a2)] dX11_best_54 (by decide) rfl ?_
        refine gr_sub [2, 3, 5, 1, 0] [(0, .ref (w.2.2.1 0)), (1, .int a0), (3, .int a2), (4, .int a0), (5, .int (0 : Int32))] rfl ?_
        have L48 : ∀ (n : Nat) (x16 : Int32) (x17 : Int32) (g18 : Sg) (K15 : Sg → Option (Int32 × Sg)), (∀  (g49 : Sg), K15  g49 = some (r, σ') → gG X w g49 169 [(0, .ref (w.2.2.1 0)), (1, .int a0), (3, .int a2)] []) → fX11_best_56  n x16 x17 g18 K15 = some (r, σ') → gG X w g18 56 [(0, .ref (w.2.2.1 0)), (1, .int a0), (3, .int a2), (4, .int x16), (5, .int x17)] [] := by
          intro n
          induction n with
          | zero =>
            intro x16 x17 g18 K15 hK15 hF
            rw [fX11_best_56] at hF
            cases hF
          | succ n ih =>
            intro x16 x17 g18 K15 hK15 hF
            rw [fX11_best_56] at hF
            refine gr_iload C 4 dX11_best_56 rfl ?_
            refine gr_aload_n C 0 dX11_best_58 rfl rfl ?_
            refine gr_getI C 0 0 dX11_best_59 (scm_0 hw) rfl inX11 (by decide) ln88 rfl ?_
            refine gr_icmp_ge C 169 dX11_best_62 (by decide) (fun c19 => ?_) (fun c19 => ?_)
            · rw [if_pos c19] at hF
              refine gr_sub [0, 1, 2] [(0, .ref (w.2.2.1 0)), (1, .int a0), (3, .int a2)] rfl ?_
              exact hK15  g18 hF
            · rw [if_neg c19] at hF
              refine gr_bipush C (v := 100) dX11_best_65 (by decide) ?_
              refine gr_iload C 4 dX11_best_67 rfl ?_
              refine gr_imul C dX11_best_69 ?_
              refine gr_iload C 3 dX11_best_70 rfl ?_
              refine gr_iadd C dX11_best_72 ?_
              obtain ⟨x20, ex20, hF⟩ := gLet_e hF
              refine gr_nmI ex20 ?_
              refine gr_istore C [(6, .int x20), (0, .ref (w.2.2.1 0)), (1, .int a0), (3, .int a2), (4, .int x16), (5, .int x17)] dX11_best_73 (by decide) rfl ?_
              refine gr_iconst C (v := 0) dX11_best_75 (by decide) ?_
              refine gr_istore C [(7, .int (0 : Int32)), (6, .int x20), (0, .ref (w.2.2.1 0)), (1, .int a0), (3, .int a2), (4, .int x16), (5, .int x17)] dX11_best_76 (by decide) rfl ?_
              refine gr_sub [2, 3, 4, 5, 6, 1, 0] [(0, .ref (w.2.2.1 0)), (1, .int a0), (3, .int a2), (4, .int x16), (5, .int x17), (6, .int x20), (7, .int (0 : Int32))] rfl ?_
              have L39 : ∀ (n : Nat) (x22 : Int32) (g23 : Sg) (K21 : Int32 → Sg → Option (Int32 × Sg)), (∀ (x40 : Int32) (g41 : Sg), K21 x40 g41 = some (r, σ') → gG X w g41 147 [(0, .ref (w.2.2.1 0)), (1, .int a0), (3, .int a2), (4, .int x16), (5, .int x17), (7, .int x40)] []) → fX11_best_78 x17 x20 n x22 g23 K21 = some (r, σ') → gG X w g23 78 [(0, .ref (w.2.2.1 0)), (1, .int a0), (3, .int a2), (4, .int x16), (5, .int x17), (6, .int x20), (7, .int x22)] [] := by
                intro n
                induction n with
                | zero =>
                  intro x22 g23 K21 hK21 hF
                  rw [fX11_best_78] at hF
                  cases hF
                | succ n ih =>
                  intro x22 g23 K21 hK21 hF
                  rw [fX11_best_78] at hF
                  refine gr_aload_n C 0 dX11_best_78 rfl rfl ?_
                  refine gr_getR C 0 28 16 dX11_best_79 (scm_0 hw) rfl inX11 (by decide) ln56 rfl ?_
                  refine gr_bipush C (v := 10) dX11_best_82 (by decide) ?_
                  refine gr_iload C 4 dX11_best_84 rfl ?_
                  refine gr_imul C dX11_best_86 ?_
                  refine gr_iload C 6 dX11_best_87 rfl ?_
                  refine gr_iadd C dX11_best_89 ?_
                  obtain ⟨h25, x24, ex24, hF⟩ := gRd_e hF
                  refine gr_iald C 16 90 dX11_best_90 (scm_16 hw) h25 ?_
                  refine gr_nmI ex24 ?_
                  refine gr_aload_n C 0 dX11_best_91 rfl rfl ?_
                  refine gr_getR C 0 29 17 dX11_best_92 (scm_0 hw) rfl inX11 (by decide) ln59 rfl ?_
                  refine gr_iload C 5 dX11_best_95 rfl ?_
                  refine gr_bipush C (v := 100) dX11_best_97 (by decide) ?_
                  refine gr_iadd C dX11_best_99 ?_
                  refine gr_iload C 6 dX11_best_100 rfl ?_
                  refine gr_isub C dX11_best_102 ?_
                  obtain ⟨h27, x26, ex26, hF⟩ := gRd_e hF
                  refine gr_iald C 17 1000 dX11_best_103 (scm_17 hw) h27 ?_
                  refine gr_nmI ex26 ?_
                  refine gr_iadd C dX11_best_104 ?_
                  refine gr_aload_n C 0 dX11_best_105 rfl rfl ?_
                  refine gr_getR C 0 29 17 dX11_best_106 (scm_0 hw) rfl inX11 (by decide) ln59 rfl ?_
                  refine gr_iload C 5 dX11_best_109 rfl ?_
                  obtain ⟨h29, x28, ex28, hF⟩ := gRd_e hF
                  refine gr_iald C 17 1000 dX11_best_111 (scm_17 hw) h29 ?_
                  refine gr_nmI ex28 ?_
                  obtain ⟨K30, eK30, hF⟩ := gLet_e hF
                  have JK30 : ∀  (g31 : Sg), K30  g31 = some (r, σ') → gG X w g31 141 [(0, .ref (w.2.2.1 0)), (1, .int a0), (3, .int a2), (4, .int x16), (5, .int x17), (6, .int x20), (7, .int x22)] [] := by
                    intro g31 hF
                    rw [eK30] at hF
                    try dsimp only at hF
                    obtain ⟨x32, ex32, hF⟩ := gLet_e hF
                    refine gr_iinc C (v := x32) 6 [(7, .int x32), (0, .ref (w.2.2.1 0)), (1, .int a0), (3, .int a2), (4, .int x16), (5, .int x17), (6, .int x20)] dX11_best_141 rfl (by rw [ex32]; rfl) (by decide) rfl ?_
                    refine gr_goto C 78 dX11_best_144 (by decide) ?_
                    refine gr_sub [1, 2, 3, 4, 5, 6, 0] [(0, .ref (w.2.2.1 0)), (1, .int a0), (3, .int a2), (4, .int x16), (5, .int x17), (6, .int x20), (7, .int x32)] rfl ?_
                    exact ih x32 g31 K21 hK21 hF
                  refine gr_icmp_ne C 141 dX11_best_112 (by decide) (fun c33 => ?_) (fun c33 => ?_)
                  · rw [if_neg c33] at hF
                    exact JK30  g23 hF
                  · rw [if_pos c33] at hF
                    refine gr_iload C 6 dX11_best_115 rfl ?_
                    refine gr_aload_n C 0 dX11_best_117 rfl rfl ?_
                    refine gr_getR C 0 30 18 dX11_best_118 (scm_0 hw) rfl inX11 (by decide) ln62 rfl ?_
                    refine gr_iload C 5 dX11_best_121 rfl ?_
                    refine gr_bipush C (v := 100) dX11_best_123 (by decide) ?_
                    refine gr_iadd C dX11_best_125 ?_
                    refine gr_iload C 6 dX11_best_126 rfl ?_
                    refine gr_isub C dX11_best_128 ?_
                    obtain ⟨h35, x34, ex34, hF⟩ := gRd_e hF
                    refine gr_iald C 18 1000 dX11_best_129 (scm_18 hw) h35 ?_
                    refine gr_nmI ex34 ?_
                    refine gr_iadd C dX11_best_130 ?_
                    refine gr_aload_n C 0 dX11_best_131 rfl rfl ?_
                    refine gr_getR C 0 30 18 dX11_best_132 (scm_0 hw) rfl inX11 (by decide) ln62 rfl ?_
                    refine gr_iload C 5 dX11_best_135 rfl ?_
                    obtain ⟨h37, x36, ex36, hF⟩ := gRd_e hF
                    refine gr_iald C 18 1000 dX11_best_137 (scm_18 hw) h37 ?_
                    refine gr_nmI ex36 ?_
                    refine gr_icmp_eq C 147 dX11_best_138 (by decide) (fun c38 => ?_) (fun c38 => ?_)
                    · rw [if_pos c38] at hF
                      refine gr_sub [0, 1, 2, 3, 4, 6] [(0, .ref (w.2.2.1 0)), (1, .int a0), (3, .int a2), (4, .int x16), (5, .int x17), (7, .int x22)] rfl ?_
                      exact hK21 x22 g23 hF
                    · rw [if_neg c38] at hF
                      exact JK30  g23 hF
              refine L39 _ (0 : Int32) g18 _ ?_ hF
              intro x42 g43 hF
              try dsimp only at hF
              refine gr_aload_n C 0 dX11_best_147 rfl rfl ?_
              refine gr_getR C 0 31 19 dX11_best_148 (scm_0 hw) rfl inX11 (by decide) ln65 rfl ?_
              refine gr_iload C 4 dX11_best_151 rfl ?_
              refine gr_iload C 5 dX11_best_153 rfl ?_
              obtain ⟨h44, g45, eg45, hF⟩ := gWr_e hF
              refine gr_iast C 19 9 dX11_best_155 (scm_19 hw) h44 ?_
              refine gr_nmS eg45 ?_
              refine gr_iload C 3 dX11_best_156 rfl ?_
              refine gr_iload C 5 dX11_best_158 rfl ?_
              refine gr_isub C dX11_best_160 ?_
              obtain ⟨x46, ex46, hF⟩ := gLet_e hF
              refine gr_nmI ex46 ?_
              refine gr_istore C [(4, .int x46), (0, .ref (w.2.2.1 0)), (1, .int a0), (3, .int a2), (5, .int x17), (7, .int x42)] dX11_best_161 (by decide) rfl ?_
              obtain ⟨x47, ex47, hF⟩ := gLet_e hF
              refine gr_iinc C (v := x47) 4 [(5, .int x47), (4, .int x46), (0, .ref (w.2.2.1 0)), (1, .int a0), (3, .int a2), (7, .int x42)] dX11_best_163 rfl (by rw [ex47]; rfl) (by decide) rfl ?_
              refine gr_goto C 56 dX11_best_166 (by decide) ?_
              refine gr_sub [2, 3, 4, 1, 0] [(0, .ref (w.2.2.1 0)), (1, .int a0), (3, .int a2), (4, .int x46), (5, .int x47)] rfl ?_
              exact ih x46 x47 g45 K15 hK15 hF
        refine L48 _ a0 (0 : Int32) g14 _ ?_ hF
        intro g50 hF
        try dsimp only at hF
        refine gr_iload_n C 2 dX11_best_169 rfl rfl ?_
        refine gr_if_ge C 182 dX11_best_170 (by decide) (fun c51 => ?_) (fun c51 => ?_)
        · rw [if_pos c51] at hF
          refine gr_sub [0, 2] [(0, .ref (w.2.2.1 0)), (3, .int a2)] rfl ?_
          refine gr_aload_n C 0 dX11_best_182 rfl rfl ?_
          refine gr_getR C 0 31 19 dX11_best_183 (scm_0 hw) rfl inX11 (by decide) ln65 rfl ?_
          refine gr_iload_n C 1 dX11_best_186 rfl rfl ?_
          obtain ⟨h53, x52, ex52, hF⟩ := gRd_e hF
          refine gr_iald C 19 9 dX11_best_187 (scm_19 hw) h53 ?_
          refine gr_nmI ex52 ?_
          cases hF
          exact gr_iret C dX11_best_188 ⟨rfl, rfl⟩
        · rw [if_neg c51] at hF
          refine gr_sub [0, 1] [(0, .ref (w.2.2.1 0)), (1, .int a0)] rfl ?_
          refine gr_aload_n C 0 dX11_best_173 rfl rfl ?_
          refine gr_getR C 0 29 17 dX11_best_174 (scm_0 hw) rfl inX11 (by decide) ln59 rfl ?_
          refine gr_iload_n C 1 dX11_best_177 rfl rfl ?_
          obtain ⟨h55, x54, ex54, hF⟩ := gRd_e hF
          refine gr_iald C 17 1000 dX11_best_178 (scm_17 hw) h55 ?_
          refine gr_nmI ex54 ?_
          refine gr_goto C 188 dX11_best_179 (by decide) ?_
          refine gr_sub [] [] rfl ?_
          cases hF
          exact gr_iret C dX11_best_188 ⟨rfl, rfl⟩
      · rw [if_pos c12] at hF
        refine gr_sub [] [] rfl ?_
        refine gr_iconst C (v := -1) dX11_best_42 (by decide) ?_
        cases hF
        exact gr_iret C dX11_best_43 ⟨rfl, rfl⟩
-- X11_alive: 25 instructions, frames 0, locals 0
set_option maxRecDepth 100000 in
set_option maxHeartbeats 4000000 in
theorem mX11_alive (l : Launch) {w : Wl} (hw : w.2.2.2 = shM) {σ : Sg} {a0 : Int32}  {r : Int32} {σ' : Sg} (hF : fX11_alive σ a0 = some (r, σ')) : gMI l w yX11_alive wsX11_alive ({ frames := 0, cells := 0, slots := 0, locals := 0 } : Room) [.ref (w.2.2.1 0), .int a0] σ r σ' := by
  have inX11 : ∀ v ∈ u_ws RX11 TX11 32, v ∈ wsX11_alive := by decide +kernel
  have ln37 : Cond.fieldLink RX11 37 (TX11 15).1 (TX11 15).2.1 (TX11 15).2.2.1 ∈ wsX11_alive := by decide +kernel
  have ln94 : Cond.fieldLink RX11 94 (TX11 2).1 (TX11 2).2.1 (TX11 2).2.2.1 ∈ wsX11_alive := by decide +kernel
  refine gStartI cX11_alive 4 RX11 rfl (by decide) rfl (Nat.le_of_ble_eq_true rfl) ?_
  intro X hl C
  show gG X w σ 0 [(0, .ref (w.2.2.1 0)), (1, .int a0)] []
  unfold fX11_alive at hF
  refine gr_iconst C (v := 0) dX11_alive_0 (by decide) ?_
  refine gr_istore_n C [(2, .int (0 : Int32)), (0, .ref (w.2.2.1 0)), (1, .int a0)] dX11_alive_1 rfl (by decide) rfl ?_
  refine gr_iconst C (v := 0) dX11_alive_2 (by decide) ?_
  refine gr_istore_n C [(3, .int (0 : Int32)), (2, .int (0 : Int32)), (0, .ref (w.2.2.1 0)), (1, .int a0)] dX11_alive_3 rfl (by decide) rfl ?_
  refine gr_sub [2, 3, 1, 0] [(0, .ref (w.2.2.1 0)), (1, .int a0), (2, .int (0 : Int32)), (3, .int (0 : Int32))] rfl ?_
  have L13 : ∀ (n : Nat) (x1 : Int32) (x2 : Int32) (g3 : Sg) , fX11_alive_4 a0 n x1 x2 g3  = some (r, σ') → gG X w g3 4 [(0, .ref (w.2.2.1 0)), (1, .int a0), (2, .int x1), (3, .int x2)] [] := by
    intro n
    induction n with
    | zero =>
      intro x1 x2 g3 hF
      rw [fX11_alive_4] at hF
      cases hF
    | succ n ih =>
      intro x1 x2 g3 hF
      rw [fX11_alive_4] at hF
      refine gr_iload_n C 3 dX11_alive_4 rfl rfl ?_
      refine gr_aload_n C 0 dX11_alive_5 rfl rfl ?_
      refine gr_getI C 0 2 dX11_alive_6 (scm_0 hw) rfl inX11 (by decide) ln94 rfl ?_
      refine gr_icmp_ge C 37 dX11_alive_9 (by decide) (fun c4 => ?_) (fun c4 => ?_)
      · rw [if_pos c4] at hF
        refine gr_sub [2] [(2, .int x1)] rfl ?_
        refine gr_iload_n C 0 dX11_alive_37 rfl rfl ?_
        refine gr_sub [] [] rfl ?_
        cases hF
        exact gr_iret C dX11_alive_38 ⟨rfl, rfl⟩
      · rw [if_neg c4] at hF
        refine gr_iload_n C 2 dX11_alive_12 rfl rfl ?_
        refine gr_aload_n C 0 dX11_alive_13 rfl rfl ?_
        refine gr_getR C 0 15 10 dX11_alive_14 (scm_0 hw) rfl inX11 (by decide) ln37 rfl ?_
        refine gr_iload_n C 1 dX11_alive_17 rfl rfl ?_
        refine gr_iload_n C 3 dX11_alive_18 rfl rfl ?_
        refine gr_iadd C dX11_alive_19 ?_
        obtain ⟨h6, x5, ex5, hF⟩ := gRd_e hF
        refine gr_iald C 10 336 dX11_alive_20 (scm_10 hw) h6 ?_
        refine gr_nmI ex5 ?_
        obtain ⟨K7, eK7, hF⟩ := gLet_e hF
        have JK7 : ∀ (x8 : Int32) (g9 : Sg), K7 x8 g9 = some (r, σ') → gG X w g9 29 [(0, .ref (w.2.2.1 0)), (1, .int a0), (3, .int x2)] [.int x8, .int x1] := by
          intro x8 g9 hF
          rw [eK7] at hF
          try dsimp only at hF
          refine gr_iadd C dX11_alive_29 ?_
          obtain ⟨x10, ex10, hF⟩ := gLet_e hF
          refine gr_nmI ex10 ?_
          refine gr_istore_n C [(2, .int x10), (0, .ref (w.2.2.1 0)), (1, .int a0), (3, .int x2)] dX11_alive_30 rfl (by decide) rfl ?_
          obtain ⟨x11, ex11, hF⟩ := gLet_e hF
          refine gr_iinc C (v := x11) 3 [(3, .int x11), (2, .int x10), (0, .ref (w.2.2.1 0)), (1, .int a0)] dX11_alive_31 rfl (by rw [ex11]; rfl) (by decide) rfl ?_
          refine gr_goto C 4 dX11_alive_34 (by decide) ?_
          refine gr_sub [2, 3, 1, 0] [(0, .ref (w.2.2.1 0)), (1, .int a0), (2, .int x10), (3, .int x11)] rfl ?_
          exact ih x10 x11 g9   hF
        refine gr_if_le C 28 dX11_alive_21 (by decide) (fun c12 => ?_) (fun c12 => ?_)
        · rw [if_pos c12] at hF
          refine gr_sub [0, 1, 3] [(0, .ref (w.2.2.1 0)), (1, .int a0), (3, .int x2)] rfl ?_
          refine gr_iconst C (v := 0) dX11_alive_28 (by decide) ?_
          exact JK7 (0 : Int32) g3 hF
        · rw [if_neg c12] at hF
          refine gr_sub [0, 1, 3] [(0, .ref (w.2.2.1 0)), (1, .int a0), (3, .int x2)] rfl ?_
          refine gr_iconst C (v := 1) dX11_alive_24 (by decide) ?_
          refine gr_goto C 29 dX11_alive_25 (by decide) ?_
          exact JK7 (1 : Int32) g3 hF
  refine L13 _ (0 : Int32) (0 : Int32) σ   hF
-- X11_help: 83 instructions, frames 4, locals 102
set_option maxRecDepth 100000 in
set_option maxHeartbeats 4000000 in
theorem mX11_help (l : Launch) {w : Wl} (hw : w.2.2.2 = shM) {σ : Sg} {a0 : Int32}  {r : Int32} {σ' : Sg} (hF : fX11_help σ a0 = some (r, σ')) : gMI l w yX11_help wsX11_help ({ frames := 4, cells := 0, slots := 0, locals := 102 } : Room) [.ref (w.2.2.1 0), .int a0] σ r σ' := by
  have inX11 : ∀ v ∈ u_ws RX11 TX11 32, v ∈ wsX11_help := by decide +kernel
  have ln37 : Cond.fieldLink RX11 37 (TX11 15).1 (TX11 15).2.1 (TX11 15).2.2.1 ∈ wsX11_help := by decide +kernel
  have ln94 : Cond.fieldLink RX11 94 (TX11 2).1 (TX11 2).2.1 (TX11 2).2.2.1 ∈ wsX11_help := by decide +kernel
  refine gStartI cX11_help 6 RX11 rfl (by decide) rfl (Nat.le_of_ble_eq_true rfl) ?_
  intro X hl C
  show gG X w σ 0 [(0, .ref (w.2.2.1 0)), (1, .int a0)] []
  unfold fX11_help at hF
  refine gr_iload_n C 1 dX11_help_0 rfl rfl ?_
  refine gr_i2l C dX11_help_1 ?_
  refine gr_lconst C (v := 0) dX11_help_2 (by decide) ?_
  refine gr_lconst C (v := 1) dX11_help_3 (by decide) ?_
  obtain ⟨r3, g2, hc1, hF⟩ := gCl_e hF
  refine gr_callSI C (n := 3) (As := [.long (a0.toInt64), .long (0 : Int64), .long (1 : Int64)]) (rest := []) (mX11_in X.2.1 hw  hc1) gX11_help_X11_in rfl ⟨rfl, rfl⟩ ⟨by decide, by decide⟩ rfl (Nat.le_of_ble_eq_true rfl) rfl (by decide +kernel) dX11_help_4 ?_
  refine gr_if_ne C 12 dX11_help_7 (by decide) (fun c4 => ?_) (fun c4 => ?_)
  · rw [if_neg c4] at hF
    refine gr_bipush C (v := -4) dX11_help_12 (by decide) ?_
    refine gr_istore_n C [(2, .int (-4 : Int32)), (0, .ref (w.2.2.1 0)), (1, .int a0)] dX11_help_14 rfl (by decide) rfl ?_
    refine gr_iconst C (v := -1) dX11_help_15 (by decide) ?_
    refine gr_istore_n C [(3, .int (-1 : Int32)), (2, .int (-4 : Int32)), (0, .ref (w.2.2.1 0)), (1, .int a0)] dX11_help_16 rfl (by decide) rfl ?_
    refine gr_iconst C (v := 0) dX11_help_17 (by decide) ?_
    refine gr_istore C [(4, .int (0 : Int32)), (3, .int (-1 : Int32)), (2, .int (-4 : Int32)), (0, .ref (w.2.2.1 0)), (1, .int a0)] dX11_help_18 (by decide) rfl ?_
    refine gr_sub [3, 4, 2, 1, 0] [(0, .ref (w.2.2.1 0)), (1, .int a0), (2, .int (-4 : Int32)), (3, .int (-1 : Int32)), (4, .int (0 : Int32))] rfl ?_
    have L50 : ∀ (n : Nat) (x6 : Int32) (x7 : Int32) (x8 : Int32) (g9 : Sg) (K5 : Int32 → Int32 → Sg → Option (Int32 × Sg)), (∀ (x51 : Int32) (x52 : Int32) (g53 : Sg), K5 x51 x52 g53 = some (r, σ') → gG X w g53 138 [(1, .int a0), (2, .int x51), (3, .int x52)] []) → fX11_help_20  n x6 x7 x8 g9 K5 = some (r, σ') → gG X w g9 20 [(0, .ref (w.2.2.1 0)), (1, .int a0), (2, .int x6), (3, .int x7), (4, .int x8)] [] := by
      intro n
      induction n with
      | zero =>
        intro x6 x7 x8 g9 K5 hK5 hF
        rw [fX11_help_20] at hF
        cases hF
      | succ n ih =>
        intro x6 x7 x8 g9 K5 hK5 hF
        rw [fX11_help_20] at hF
        refine gr_iload C 4 dX11_help_20 rfl ?_
        refine gr_aload_n C 0 dX11_help_22 rfl rfl ?_
        refine gr_getI C 0 2 dX11_help_23 (scm_0 hw) rfl inX11 (by decide) ln94 rfl ?_
        refine gr_icmp_ge C 138 dX11_help_26 (by decide) (fun c10 => ?_) (fun c10 => ?_)
        · rw [if_pos c10] at hF
          refine gr_sub [1, 2, 3] [(1, .int a0), (2, .int x6), (3, .int x7)] rfl ?_
          exact hK5 x6 x7 g9 hF
        · rw [if_neg c10] at hF
          refine gr_aload_n C 0 dX11_help_29 rfl rfl ?_
          refine gr_getR C 0 15 10 dX11_help_30 (scm_0 hw) rfl inX11 (by decide) ln37 rfl ?_
          refine gr_iload C 4 dX11_help_33 rfl ?_
          obtain ⟨h12, x11, ex11, hF⟩ := gRd_e hF
          refine gr_iald C 10 336 dX11_help_35 (scm_10 hw) h12 ?_
          refine gr_nmI ex11 ?_
          obtain ⟨K13, eK13, hF⟩ := gLet_e hF
          have JK13 : ∀ (x14 : Int32) (x15 : Int32) (g16 : Sg), K13 x14 x15 g16 = some (r, σ') → gG X w g16 132 [(0, .ref (w.2.2.1 0)), (1, .int a0), (2, .int x14), (3, .int x15), (4, .int x8)] [] := by
            intro x14 x15 g16 hF
            rw [eK13] at hF
            try dsimp only at hF
            obtain ⟨x17, ex17, hF⟩ := gLet_e hF
            refine gr_iinc C (v := x17) 4 [(4, .int x17), (0, .ref (w.2.2.1 0)), (1, .int a0), (2, .int x14), (3, .int x15)] dX11_help_132 rfl (by rw [ex17]; rfl) (by decide) rfl ?_
            refine gr_goto C 20 dX11_help_135 (by decide) ?_
            refine gr_sub [1, 2, 3, 4, 0] [(0, .ref (w.2.2.1 0)), (1, .int a0), (2, .int x14), (3, .int x15), (4, .int x17)] rfl ?_
            exact ih x14 x15 x17 g16 K5 hK5 hF
          refine gr_if_le C 132 dX11_help_36 (by decide) (fun c18 => ?_) (fun c18 => ?_)
          · rw [if_pos c18] at hF
            exact JK13 x6 x7 g9 hF
          · rw [if_neg c18] at hF
            refine gr_aload_n C 0 dX11_help_39 rfl rfl ?_
            refine gr_getR C 0 15 10 dX11_help_40 (scm_0 hw) rfl inX11 (by decide) ln37 rfl ?_
            refine gr_bipush C (v := 8) dX11_help_43 (by decide) ?_
            obtain ⟨h20, x19, ex19, hF⟩ := gRd_e hF
            refine gr_iald C 10 336 dX11_help_45 (scm_10 hw) h20 ?_
            refine gr_nmI ex19 ?_
            refine gr_iload C 4 dX11_help_46 rfl ?_
            obtain ⟨r23, g22, hc21, hF⟩ := gCl_e hF
            refine gr_callSI C (n := 2) (As := [.int x19, .int x8]) (rest := []) (mX11_has X.2.1 hw  hc21) gX11_help_X11_has rfl ⟨rfl, rfl⟩ ⟨by decide, by decide⟩ rfl (Nat.le_of_ble_eq_true rfl) rfl (by decide +kernel) dX11_help_48 ?_
            refine gr_if_ne C 132 dX11_help_51 (by decide) (fun c24 => ?_) (fun c24 => ?_)
            · rw [if_neg c24] at hF
              exact JK13 x6 x7 g22 hF
            · rw [if_pos c24] at hF
              refine gr_aload_n C 0 dX11_help_54 rfl rfl ?_
              refine gr_iconst C (v := 0) dX11_help_55 (by decide) ?_
              refine gr_sipush C (v := 308) dX11_help_56 (by decide) ?_
              obtain ⟨g26, hc25, hF⟩ := gCv_e hF
              refine gr_callVV C (n := 2) (As := [.int (0 : Int32), .int (308 : Int32)]) (rest := []) 0 (mX11_copies X.2.1 hw  hc25) gX11_help_X11_copies rfl ⟨rfl, rfl⟩ ⟨by decide, by decide⟩ rfl (Nat.le_of_ble_eq_true rfl) rfl (by decide +kernel) (scm_0 hw) rfl dX11_help_59 ?_
              refine gr_aload_n C 0 dX11_help_62 rfl rfl ?_
              refine gr_getR C 0 15 10 dX11_help_63 (scm_0 hw) rfl inX11 (by decide) ln37 rfl ?_
              refine gr_sipush C (v := 316) dX11_help_66 (by decide) ?_
              refine gr_dup2 C dX11_help_69 rfl rfl ?_
              obtain ⟨h28, x27, ex27, hF⟩ := gRd_e hF
              refine gr_iald C 10 336 dX11_help_70 (scm_10 hw) h28 ?_
              refine gr_nmI ex27 ?_
              refine gr_iconst C (v := 1) dX11_help_71 (by decide) ?_
              refine gr_iload C 4 dX11_help_72 rfl ?_
              refine gr_ishl C dX11_help_74 ?_
              refine gr_ior C dX11_help_75 ?_
              obtain ⟨h29, g30, eg30, hF⟩ := gWr_e hF
              refine gr_iast C 10 336 dX11_help_76 (scm_10 hw) h29 ?_
              refine gr_nmS eg30 ?_
              refine gr_aload_n C 0 dX11_help_77 rfl rfl ?_
              refine gr_bipush C (v := 10) dX11_help_78 (by decide) ?_
              obtain ⟨g32, hc31, hF⟩ := gCv_e hF
              refine gr_callVV C (n := 1) (As := [.int (10 : Int32)]) (rest := []) 0 (mX11_tries X.2.1 hw  hc31) gX11_help_X11_tries rfl ⟨rfl, rfl⟩ ⟨by decide, by decide⟩ rfl (Nat.le_of_ble_eq_true rfl) rfl (by decide +kernel) (scm_0 hw) rfl dX11_help_80 ?_
              refine gr_aload_n C 0 dX11_help_83 rfl rfl ?_
              refine gr_sipush C (v := 308) dX11_help_84 (by decide) ?_
              obtain ⟨r35, g34, hc33, hF⟩ := gCl_e hF
              refine gr_callVI C (n := 1) (As := [.int (308 : Int32)]) (rest := []) 0 (mX11_alive X.2.1 hw  hc33) gX11_help_X11_alive rfl ⟨rfl, rfl⟩ ⟨by decide, by decide⟩ rfl (Nat.le_of_ble_eq_true rfl) rfl (by decide +kernel) (scm_0 hw) rfl dX11_help_87 ?_
              refine gr_aload_n C 0 dX11_help_90 rfl rfl ?_
              refine gr_getR C 0 15 10 dX11_help_91 (scm_0 hw) rfl inX11 (by decide) ln37 rfl ?_
              refine gr_sipush C (v := 308) dX11_help_94 (by decide) ?_
              refine gr_iload C 4 dX11_help_97 rfl ?_
              refine gr_iadd C dX11_help_99 ?_
              obtain ⟨h37, x36, ex36, hF⟩ := gRd_e hF
              refine gr_iald C 10 336 dX11_help_100 (scm_10 hw) h37 ?_
              refine gr_nmI ex36 ?_
              obtain ⟨K38, eK38, hF⟩ := gLet_e hF
              have JK38 : ∀ (x39 : Int32) (g40 : Sg), K38 x39 g40 = some (r, σ') → gG X w g40 109 [(0, .ref (w.2.2.1 0)), (1, .int a0), (2, .int x6), (3, .int x7), (4, .int x8)] [.int x39, .int r35] := by
                intro x39 g40 hF
                rw [eK38] at hF
                try dsimp only at hF
                refine gr_isub C dX11_help_109 ?_
                obtain ⟨x41, ex41, hF⟩ := gLet_e hF
                refine gr_nmI ex41 ?_
                refine gr_istore C [(5, .int x41), (0, .ref (w.2.2.1 0)), (1, .int a0), (2, .int x6), (3, .int x7), (4, .int x8)] dX11_help_110 (by decide) rfl ?_
                refine gr_iload C 0 dX11_help_112 rfl ?_
                refine gr_iload_n C 4 dX11_help_114 rfl rfl ?_
                obtain ⟨K42, eK42, hF⟩ := gLet_e hF
                have JK42 : ∀ (x43 : Int32) (g44 : Sg), K42 x43 g44 = some (r, σ') → gG X w g44 124 [(0, .ref (w.2.2.1 0)), (1, .int a0), (3, .int x7), (4, .int x8), (5, .int x41)] [.int x43] := by
                  intro x43 g44 hF
                  rw [eK42] at hF
                  try dsimp only at hF
                  refine gr_istore_n C [(2, .int x43), (0, .ref (w.2.2.1 0)), (1, .int a0), (3, .int x7), (4, .int x8), (5, .int x41)] dX11_help_124 rfl (by decide) rfl ?_
                  refine gr_iload_n C 3 dX11_help_125 rfl rfl ?_
                  refine gr_iload C 5 dX11_help_126 rfl ?_
                  obtain ⟨r47, g46, hc45, hF⟩ := gCl_e hF
                  refine gr_callSI C (n := 2) (As := [.int x7, .int x41]) (rest := []) (mX11_larger X.2.1 hw  hc45) gX11_help_X11_larger rfl ⟨rfl, rfl⟩ ⟨by decide, by decide⟩ rfl (Nat.le_of_ble_eq_true rfl) rfl (by decide +kernel) dX11_help_128 ?_
                  refine gr_istore_n C [(3, .int r47), (2, .int x43), (0, .ref (w.2.2.1 0)), (1, .int a0), (4, .int x8), (5, .int x41)] dX11_help_131 rfl (by decide) rfl ?_
                  refine gr_sub [2, 3, 1, 0, 4] [(0, .ref (w.2.2.1 0)), (1, .int a0), (2, .int x43), (3, .int r47), (4, .int x8)] rfl ?_
                  exact JK13 x43 r47 g46 hF
                refine gr_icmp_le C 123 dX11_help_115 (by decide) (fun c48 => ?_) (fun c48 => ?_)
                · rw [if_pos c48] at hF
                  refine gr_sub [1, 2, 3, 4, 5, 0] [(0, .ref (w.2.2.1 0)), (1, .int a0), (2, .int x6), (3, .int x7), (4, .int x8), (5, .int x41)] rfl ?_
                  refine gr_iload_n C 2 dX11_help_123 rfl rfl ?_
                  refine gr_sub [0, 1, 3, 4, 5] [(0, .ref (w.2.2.1 0)), (1, .int a0), (3, .int x7), (4, .int x8), (5, .int x41)] rfl ?_
                  exact JK42 x6 g40 hF
                · rw [if_neg c48] at hF
                  refine gr_sub [1, 2, 4, 5, 0] [(0, .ref (w.2.2.1 0)), (1, .int a0), (3, .int x7), (4, .int x8), (5, .int x41)] rfl ?_
                  refine gr_iload C 3 dX11_help_118 rfl ?_
                  refine gr_goto C 124 dX11_help_120 (by decide) ?_
                  exact JK42 x8 g40 hF
              refine gr_if_le C 108 dX11_help_101 (by decide) (fun c49 => ?_) (fun c49 => ?_)
              · rw [if_pos c49] at hF
                refine gr_iconst C (v := 0) dX11_help_108 (by decide) ?_
                exact JK38 (0 : Int32) g34 hF
              · rw [if_neg c49] at hF
                refine gr_iconst C (v := 1) dX11_help_104 (by decide) ?_
                refine gr_goto C 109 dX11_help_105 (by decide) ?_
                exact JK38 (1 : Int32) g34 hF
    refine L50 _ (-4 : Int32) (-1 : Int32) (0 : Int32) g2 _ ?_ hF
    intro x54 x55 g56 hF
    try dsimp only at hF
    refine gr_iload_n C 1 dX11_help_138 rfl rfl ?_
    obtain ⟨K57, eK57, hF⟩ := gLet_e hF
    have JK57 : ∀  (g58 : Sg), K57  g58 = some (r, σ') → gG X w g58 146 [(2, .int x54)] [] := by
      intro g58 hF
      rw [eK57] at hF
      try dsimp only at hF
      refine gr_iload_n C 0 dX11_help_146 rfl rfl ?_
      refine gr_goto C 151 dX11_help_147 (by decide) ?_
      refine gr_sub [] [] rfl ?_
      cases hF
      exact gr_iret C dX11_help_151 ⟨rfl, rfl⟩
    refine gr_if_lt C 146 dX11_help_139 (by decide) (fun c59 => ?_) (fun c59 => ?_)
    · rw [if_pos c59] at hF
      refine gr_sub [1] [(2, .int x54)] rfl ?_
      exact JK57  g56 hF
    · rw [if_neg c59] at hF
      refine gr_iload_n C 0 dX11_help_142 rfl rfl ?_
      refine gr_if_ne C 150 dX11_help_143 (by decide) (fun c60 => ?_) (fun c60 => ?_)
      · rw [if_neg c60] at hF
        refine gr_sub [2] [(3, .int x55)] rfl ?_
        refine gr_iload_n C 0 dX11_help_150 rfl rfl ?_
        cases hF
        exact gr_iret C dX11_help_151 ⟨rfl, rfl⟩
      · rw [if_pos c60] at hF
        refine gr_sub [1] [(2, .int x54)] rfl ?_
        exact JK57  g56 hF
  · rw [if_pos c4] at hF
    refine gr_sub [] [] rfl ?_
    refine gr_iconst C (v := -1) dX11_help_10 (by decide) ?_
    cases hF
    exact gr_iret C dX11_help_11 ⟨rfl, rfl⟩
-- X11_see: 39 instructions, frames 2, locals 46
set_option maxRecDepth 100000 in
set_option maxHeartbeats 4000000 in
theorem mX11_see (l : Launch) {w : Wl} (hw : w.2.2.2 = shM) {σ : Sg} {a0 : Int32} {a1 : Int32}  {r : Int32} {σ' : Sg} (hF : fX11_see σ a0 a1 = some (r, σ')) : gMI l w yX11_see wsX11_see ({ frames := 2, cells := 0, slots := 0, locals := 46 } : Room) [.ref (w.2.2.1 0), .int a0, .int a1] σ r σ' := by
  have inX11 : ∀ v ∈ u_ws RX11 TX11 32, v ∈ wsX11_see := by decide +kernel
  have ln44 : Cond.fieldLink RX11 44 (TX11 24).1 (TX11 24).2.1 (TX11 24).2.2.1 ∈ wsX11_see := by decide +kernel
  have ln47 : Cond.fieldLink RX11 47 (TX11 25).1 (TX11 25).2.1 (TX11 25).2.2.1 ∈ wsX11_see := by decide +kernel
  have ln154 : Cond.fieldLink RX11 154 (TX11 23).1 (TX11 23).2.1 (TX11 23).2.2.1 ∈ wsX11_see := by decide +kernel
  have k204 : Cond.constantLong RX11 204 (40) ∈ wsX11_see := by decide +kernel
  refine gStartI cX11_see 3 RX11 rfl (by decide) rfl (Nat.le_of_ble_eq_true rfl) ?_
  intro X hl C
  show gG X w σ 0 [(0, .ref (w.2.2.1 0)), (1, .int a0), (2, .int a1)] []
  unfold fX11_see at hF
  refine gr_aload_n C 0 dX11_see_0 rfl rfl ?_
  refine gr_iload_n C 1 dX11_see_1 rfl rfl ?_
  obtain ⟨r3, g2, hc1, hF⟩ := gCl_e hF
  refine gr_callVI C (n := 1) (As := [.int a0]) (rest := []) 0 (mX11_isStep X.2.1 hw  hc1) gX11_see_X11_isStep rfl ⟨rfl, rfl⟩ ⟨by decide, by decide⟩ rfl (Nat.le_of_ble_eq_true rfl) rfl (by decide +kernel) (scm_0 hw) rfl dX11_see_2 ?_
  refine gr_if_eq C 20 dX11_see_5 (by decide) (fun c4 => ?_) (fun c4 => ?_)
  · rw [if_pos c4] at hF
    refine gr_sub [] [] rfl ?_
    refine gr_iconst C (v := -1) dX11_see_20 (by decide) ?_
    cases hF
    exact gr_iret C dX11_see_21 ⟨rfl, rfl⟩
  · rw [if_neg c4] at hF
    refine gr_iload_n C 2 dX11_see_8 rfl rfl ?_
    refine gr_i2l C dX11_see_9 ?_
    refine gr_lconst C (v := 0) dX11_see_10 (by decide) ?_
    refine gr_ldc2 C (v := 40) dX11_see_11 k204 ?_
    obtain ⟨r7, g6, hc5, hF⟩ := gCl_e hF
    refine gr_callSI C (n := 3) (As := [.long (a1.toInt64), .long (0 : Int64), .long (40 : Int64)]) (rest := []) (mX11_in X.2.1 hw  hc5) gX11_see_X11_in rfl ⟨rfl, rfl⟩ ⟨by decide, by decide⟩ rfl (Nat.le_of_ble_eq_true rfl) rfl (by decide +kernel) dX11_see_14 ?_
    refine gr_if_ne C 22 dX11_see_17 (by decide) (fun c8 => ?_) (fun c8 => ?_)
    · rw [if_neg c8] at hF
      refine gr_aload_n C 0 dX11_see_22 rfl rfl ?_
      refine gr_getI C 0 23 dX11_see_23 (scm_0 hw) rfl inX11 (by decide) ln154 rfl ?_
      refine gr_bipush C (v := 6) dX11_see_26 (by decide) ?_
      refine gr_icmp_ne C 34 dX11_see_28 (by decide) (fun c9 => ?_) (fun c9 => ?_)
      · rw [if_neg c9] at hF
        refine gr_aload_n C 0 dX11_see_34 rfl rfl ?_
        refine gr_getR C 0 24 12 dX11_see_35 (scm_0 hw) rfl inX11 (by decide) ln44 rfl ?_
        refine gr_aload_n C 0 dX11_see_38 rfl rfl ?_
        refine gr_getI C 0 23 dX11_see_39 (scm_0 hw) rfl inX11 (by decide) ln154 rfl ?_
        refine gr_iload_n C 1 dX11_see_42 rfl rfl ?_
        obtain ⟨h10, g11, eg11, hF⟩ := gWr_e hF
        refine gr_iast C 12 6 dX11_see_43 (scm_12 hw) h10 ?_
        refine gr_nmS eg11 ?_
        refine gr_aload_n C 0 dX11_see_44 rfl rfl ?_
        refine gr_getR C 0 25 13 dX11_see_45 (scm_0 hw) rfl inX11 (by decide) ln47 rfl ?_
        refine gr_aload_n C 0 dX11_see_48 rfl rfl ?_
        refine gr_getI C 0 23 dX11_see_49 (scm_0 hw) rfl inX11 (by decide) ln154 rfl ?_
        refine gr_iload_n C 2 dX11_see_52 rfl rfl ?_
        obtain ⟨h12, g13, eg13, hF⟩ := gWr_e hF
        refine gr_iast C 13 6 dX11_see_53 (scm_13 hw) h12 ?_
        refine gr_nmS eg13 ?_
        refine gr_aload_n C 0 dX11_see_54 rfl rfl ?_
        refine gr_dup C dX11_see_55 rfl ?_
        refine gr_getI C 0 23 dX11_see_56 (scm_0 hw) rfl inX11 (by decide) ln154 rfl ?_
        refine gr_iconst C (v := 1) dX11_see_59 (by decide) ?_
        refine gr_iadd C dX11_see_60 ?_
        obtain ⟨g14, eg14, hF⟩ := gLet_e hF
        refine gr_putI C 0 23 dX11_see_61 (scm_0 hw) rfl inX11 (by decide) ln154 rfl tyX11 tyX11_ok nmX11 rfl .int rfl rfl rfl ?_
        refine gr_nmS eg14 ?_
        refine gr_aload_n C 0 dX11_see_64 rfl rfl ?_
        refine gr_getI C 0 23 dX11_see_65 (scm_0 hw) rfl inX11 (by decide) ln154 rfl ?_
        cases hF
        exact gr_iret C dX11_see_68 ⟨rfl, rfl⟩
      · rw [if_pos c9] at hF
        refine gr_sub [] [] rfl ?_
        refine gr_bipush C (v := -3) dX11_see_31 (by decide) ?_
        cases hF
        exact gr_iret C dX11_see_33 ⟨rfl, rfl⟩
    · rw [if_pos c8] at hF
      refine gr_sub [] [] rfl ?_
      refine gr_iconst C (v := -1) dX11_see_20 (by decide) ?_
      cases hF
      exact gr_iret C dX11_see_21 ⟨rfl, rfl⟩
