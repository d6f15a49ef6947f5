-- X11_item: 106 instructions, frames 4, locals 96
set_option maxRecDepth 100000 in
set_option maxHeartbeats 4000000 in
theorem mX11_item (l : Launch) {w : Wl} (hw : w.2.2.2 = shM) {σ : Sg} {a0 : Int32} {a1 : Int32}  {r : Int32} {σ' : Sg} (hF : fX11_item σ a0 a1 = some (r, σ')) : gMI l w yX11_item wsX11_item ({ frames := 4, cells := 0, slots := 0, locals := 96 } : Room) [.ref (w.2.2.1 0), .int a0, .int a1] σ r σ' := by
  have inX11 : ∀ v ∈ u_ws RX11 TX11 32, v ∈ wsX11_item := by decide +kernel
  have ln37 : Cond.fieldLink RX11 37 (TX11 15).1 (TX11 15).2.1 (TX11 15).2.2.1 ∈ wsX11_item := by decide +kernel
  have ln75 : Cond.fieldLink RX11 75 (TX11 9).1 (TX11 9).2.1 (TX11 9).2.2.1 ∈ wsX11_item := by decide +kernel
  have ln82 : Cond.fieldLink RX11 82 (TX11 8).1 (TX11 8).2.1 (TX11 8).2.2.1 ∈ wsX11_item := by decide +kernel
  have ln123 : Cond.fieldLink RX11 123 (TX11 22).1 (TX11 22).2.1 (TX11 22).2.2.1 ∈ wsX11_item := by decide +kernel
  refine gStartZ cX11_item 6 RX11 rfl (by decide) rfl (Nat.le_of_ble_eq_true rfl) ?_
  intro X hl C
  show gG X w σ 0 [(0, .ref (w.2.2.1 0)), (1, .int a0), (2, .int a1)] []
  unfold fX11_item at hF
  refine gr_iload_n C 1 dX11_item_0 rfl rfl ?_
  refine gr_bipush C (v := 115) dX11_item_1 (by decide) ?_
  refine gr_icmp_ne C 59 dX11_item_3 (by decide) (fun c1 => ?_) (fun c1 => ?_)
  · rw [if_neg c1] at hF
    refine gr_sub [0, 1] [(0, .ref (w.2.2.1 0)), (1, .int a0)] rfl ?_
    refine gr_iload_n C 1 dX11_item_59 rfl rfl ?_
    refine gr_bipush C (v := 121) dX11_item_60 (by decide) ?_
    refine gr_icmp_ne C 72 dX11_item_62 (by decide) (fun c2 => ?_) (fun c2 => ?_)
    · rw [if_neg c2] at hF
      refine gr_iload_n C 1 dX11_item_72 rfl rfl ?_
      refine gr_bipush C (v := 107) dX11_item_73 (by decide) ?_
      obtain ⟨K3, eK3, hF⟩ := gLet_e hF
      have JK3 : ∀  (g4 : Sg), K3  g4 = some (r, σ') → gG X w g4 84 [(0, .ref (w.2.2.1 0)), (1, .int a0)] [] := by
        intro g4 hF
        rw [eK3] at hF
        try dsimp only at hF
        refine gr_aload_n C 0 dX11_item_84 rfl rfl ?_
        refine gr_iconst C (v := 0) dX11_item_85 (by decide) ?_
        refine gr_aload_n C 0 dX11_item_86 rfl rfl ?_
        refine gr_getI C 0 8 dX11_item_87 (scm_0 hw) rfl inX11 (by decide) ln82 rfl ?_
        refine gr_iconst C (v := 1) dX11_item_90 (by decide) ?_
        refine gr_isub C dX11_item_91 ?_
        obtain ⟨r7, g6, hc5, hF⟩ := gCl_e hF
        refine gr_callVI C (n := 2) (As := [.int (0 : Int32), .int ((g4 0 8) - (1 : Int32))]) (rest := []) 0 (mX11_number X.2.1 hw  hc5) gX11_item_X11_number rfl ⟨rfl, rfl⟩ ⟨by decide, by decide⟩ rfl (Nat.le_of_ble_eq_true rfl) rfl (by decide +kernel) (scm_0 hw) rfl dX11_item_92 ?_
        refine gr_istore_n C [(3, .int r7), (0, .ref (w.2.2.1 0)), (1, .int a0)] dX11_item_95 rfl (by decide) rfl ?_
        refine gr_aload_n C 1 dX11_item_96 rfl rfl ?_
        refine gr_iconst C (v := 0) dX11_item_97 (by decide) ?_
        refine gr_iload_n C 2 dX11_item_98 rfl rfl ?_
        refine gr_bipush C (v := 107) dX11_item_99 (by decide) ?_
        obtain ⟨K8, eK8, hF⟩ := gLet_e hF
        have JK8 : ∀ (x9 : Int32) (g10 : Sg), K8 x9 g10 = some (r, σ') → gG X w g10 111 [(0, .ref (w.2.2.1 0)), (1, .int a0), (3, .int r7)] [.int x9, .int (0 : Int32), .ref (w.2.2.1 0)] := by
          intro x9 g10 hF
          rw [eK8] at hF
          try dsimp only at hF
          obtain ⟨r13, g12, hc11, hF⟩ := gCl_e hF
          refine gr_callVI C (n := 2) (As := [.int (0 : Int32), .int x9]) (rest := []) 0 (mX11_more X.2.1 hw  hc11) gX11_item_X11_more rfl ⟨rfl, rfl⟩ ⟨by decide, by decide⟩ rfl (Nat.le_of_ble_eq_true rfl) rfl (by decide +kernel) (scm_0 hw) rfl dX11_item_111 ?_
          refine gr_istore C [(4, .int r13), (0, .ref (w.2.2.1 0)), (1, .int a0), (3, .int r7)] dX11_item_114 (by decide) rfl ?_
          refine gr_iload_n C 2 dX11_item_116 rfl rfl ?_
          refine gr_bipush C (v := 107) dX11_item_117 (by decide) ?_
          obtain ⟨K14, eK14, hF⟩ := gLet_e hF
          have JK14 : ∀ (x15 : Int32) (g16 : Sg), K14 x15 g16 = some (r, σ') → gG X w g16 129 [(0, .ref (w.2.2.1 0)), (3, .int r7), (4, .int r13)] [.int x15] := by
            intro x15 g16 hF
            rw [eK14] at hF
            try dsimp only at hF
            refine gr_istore C [(5, .int x15), (0, .ref (w.2.2.1 0)), (3, .int r7), (4, .int r13)] dX11_item_129 (by decide) rfl ?_
            refine gr_aload_n C 1 dX11_item_131 rfl rfl ?_
            refine gr_getR C 0 15 10 dX11_item_132 (scm_0 hw) rfl inX11 (by decide) ln37 rfl ?_
            refine gr_sipush C (v := 308) dX11_item_135 (by decide) ?_
            refine gr_iload C 0 dX11_item_138 rfl ?_
            refine gr_iadd C dX11_item_140 ?_
            refine gr_iload_n C 2 dX11_item_141 rfl rfl ?_
            refine gr_iadd C dX11_item_142 ?_
            refine gr_aload_n C 1 dX11_item_143 rfl rfl ?_
            refine gr_getI C 0 22 dX11_item_144 (scm_0 hw) rfl inX11 (by decide) ln123 rfl ?_
            obtain ⟨K17, eK17, hF⟩ := gLet_e hF
            have JK17 : ∀ (x18 : Int32) (g19 : Sg), K17 x18 g19 = some (r, σ') → gG X w g19 156 [] [.int x18, .int (((308 : Int32) + x15) + r7), .ref (w.2.2.1 10)] := by
              intro x18 g19 hF
              rw [eK17] at hF
              try dsimp only at hF
              obtain ⟨h20, g21, eg21, hF⟩ := gWr_e hF
              refine gr_iast C 10 336 dX11_item_156 (scm_10 hw) h20 ?_
              refine gr_nmS eg21 ?_
              refine gr_goto C 201 dX11_item_157 (by decide) ?_
              refine gr_iconst C (v := 0) dX11_item_201 (by decide) ?_
              cases hF
              exact gr_zret C dX11_item_202 rfl ⟨rfl, rfl⟩
            refine gr_if_eq C 154 dX11_item_147 (by decide) (fun c22 => ?_) (fun c22 => ?_)
            · rw [if_pos c22] at hF
              refine gr_sub [3] [(4, .int r13)] rfl ?_
              refine gr_iload C 0 dX11_item_154 rfl ?_
              refine gr_sub [] [] rfl ?_
              exact JK17 r13 g16 hF
            · rw [if_neg c22] at hF
              refine gr_sub [] [] rfl ?_
              refine gr_iconst C (v := 0) dX11_item_150 (by decide) ?_
              refine gr_goto C 156 dX11_item_151 (by decide) ?_
              exact JK17 (0 : Int32) g16 hF
          refine gr_icmp_ne C 127 dX11_item_119 (by decide) (fun c23 => ?_) (fun c23 => ?_)
          · rw [if_neg c23] at hF
            refine gr_sub [1, 3, 0] [(0, .ref (w.2.2.1 0)), (3, .int r7), (4, .int r13)] rfl ?_
            refine gr_bipush C (v := 9) dX11_item_127 (by decide) ?_
            exact JK14 (9 : Int32) g12 hF
          · rw [if_pos c23] at hF
            refine gr_sub [1, 3, 0] [(0, .ref (w.2.2.1 0)), (3, .int r7), (4, .int r13)] rfl ?_
            refine gr_bipush C (v := 18) dX11_item_122 (by decide) ?_
            refine gr_goto C 129 dX11_item_124 (by decide) ?_
            exact JK14 (18 : Int32) g12 hF
        refine gr_icmp_ne C 109 dX11_item_101 (by decide) (fun c24 => ?_) (fun c24 => ?_)
        · rw [if_neg c24] at hF
          refine gr_sub [1, 2, 0] [(0, .ref (w.2.2.1 0)), (1, .int a0), (3, .int r7)] rfl ?_
          refine gr_bipush C (v := 40) dX11_item_109 (by decide) ?_
          exact JK8 (40 : Int32) g6 hF
        · rw [if_pos c24] at hF
          refine gr_sub [1, 2, 0] [(0, .ref (w.2.2.1 0)), (1, .int a0), (3, .int r7)] rfl ?_
          refine gr_bipush C (v := 9) dX11_item_104 (by decide) ?_
          refine gr_goto C 111 dX11_item_106 (by decide) ?_
          exact JK8 (9 : Int32) g6 hF
      refine gr_icmp_eq C 84 dX11_item_75 (by decide) (fun c25 => ?_) (fun c25 => ?_)
      · rw [if_pos c25] at hF
        exact JK3  σ hF
      · rw [if_neg c25] at hF
        refine gr_iload_n C 1 dX11_item_78 rfl rfl ?_
        refine gr_bipush C (v := 99) dX11_item_79 (by decide) ?_
        refine gr_icmp_ne C 160 dX11_item_81 (by decide) (fun c26 => ?_) (fun c26 => ?_)
        · rw [if_neg c26] at hF
          refine gr_iload_n C 1 dX11_item_160 rfl rfl ?_
          refine gr_bipush C (v := 104) dX11_item_161 (by decide) ?_
          refine gr_icmp_ne C 196 dX11_item_163 (by decide) (fun c27 => ?_) (fun c27 => ?_)
          · rw [if_neg c27] at hF
            refine gr_sub [0] [(0, .ref (w.2.2.1 0))] rfl ?_
            refine gr_aload_n C 0 dX11_item_196 rfl rfl ?_
            refine gr_iconst C (v := 1) dX11_item_197 (by decide) ?_
            obtain ⟨g28, eg28, hF⟩ := gLet_e hF
            refine gr_putI C 0 22 dX11_item_198 (scm_0 hw) rfl inX11 (by decide) ln123 rfl tyX11 tyX11_ok nmX11 rfl .boolean rfl rfl rfl ?_
            refine gr_nmS eg28 ?_
            refine gr_iconst C (v := 0) dX11_item_201 (by decide) ?_
            cases hF
            exact gr_zret C dX11_item_202 rfl ⟨rfl, rfl⟩
          · rw [if_pos c27] at hF
            refine gr_sub [0] [(0, .ref (w.2.2.1 0))] rfl ?_
            refine gr_aload_n C 0 dX11_item_166 rfl rfl ?_
            refine gr_iconst C (v := 1) dX11_item_167 (by decide) ?_
            refine gr_bipush C (v := 99) dX11_item_168 (by decide) ?_
            obtain ⟨r31, g30, hc29, hF⟩ := gCl_e hF
            refine gr_callVI C (n := 2) (As := [.int (1 : Int32), .int (99 : Int32)]) (rest := []) 0 (mX11_number X.2.1 hw  hc29) gX11_item_X11_number rfl ⟨rfl, rfl⟩ ⟨by decide, by decide⟩ rfl (Nat.le_of_ble_eq_true rfl) rfl (by decide +kernel) (scm_0 hw) rfl dX11_item_170 ?_
            refine gr_istore_n C [(3, .int r31), (0, .ref (w.2.2.1 0))] dX11_item_173 rfl (by decide) rfl ?_
            refine gr_aload_n C 1 dX11_item_174 rfl rfl ?_
            refine gr_aload_n C 1 dX11_item_175 rfl rfl ?_
            refine gr_getI C 0 22 dX11_item_176 (scm_0 hw) rfl inX11 (by decide) ln123 rfl ?_
            obtain ⟨K32, eK32, hF⟩ := gLet_e hF
            have JK32 : ∀ (x33 : Int32) (g34 : Sg), K32 x33 g34 = some (r, σ') → gG X w g34 190 [] [.int x33, .ref (w.2.2.1 0)] := by
              intro x33 g34 hF
              rw [eK32] at hF
              try dsimp only at hF
              obtain ⟨g35, eg35, hF⟩ := gLet_e hF
              refine gr_putI C 0 9 dX11_item_190 (scm_0 hw) rfl inX11 (by decide) ln75 rfl tyX11 tyX11_ok nmX11 rfl .int rfl rfl rfl ?_
              refine gr_nmS eg35 ?_
              refine gr_goto C 201 dX11_item_193 (by decide) ?_
              refine gr_iconst C (v := 0) dX11_item_201 (by decide) ?_
              cases hF
              exact gr_zret C dX11_item_202 rfl ⟨rfl, rfl⟩
            refine gr_if_eq C 189 dX11_item_179 (by decide) (fun c36 => ?_) (fun c36 => ?_)
            · rw [if_pos c36] at hF
              refine gr_sub [0] [(3, .int r31)] rfl ?_
              refine gr_iload_n C 0 dX11_item_189 rfl rfl ?_
              refine gr_sub [] [] rfl ?_
              exact JK32 r31 g30 hF
            · rw [if_neg c36] at hF
              refine gr_sub [1] [(0, .ref (w.2.2.1 0))] rfl ?_
              refine gr_aload_n C 0 dX11_item_182 rfl rfl ?_
              refine gr_getI C 0 9 dX11_item_183 (scm_0 hw) rfl inX11 (by decide) ln75 rfl ?_
              refine gr_goto C 190 dX11_item_186 (by decide) ?_
              refine gr_sub [] [] rfl ?_
              exact JK32 (g30 0 9) g30 hF
        · rw [if_pos c26] at hF
          exact JK3  σ hF
    · rw [if_pos c2] at hF
      refine gr_sub [0] [(0, .ref (w.2.2.1 0))] rfl ?_
      refine gr_aload_n C 0 dX11_item_65 rfl rfl ?_
      obtain ⟨g38, hc37, hF⟩ := gCv_e hF
      refine gr_callVV C (n := 0) (As := []) (rest := []) 0 (mX11_youngerItem X.2.1 hw  hc37) gX11_item_X11_youngerItem rfl ⟨rfl, rfl⟩ ⟨by decide, by decide⟩ rfl (Nat.le_of_ble_eq_true rfl) rfl (by decide +kernel) (scm_0 hw) rfl dX11_item_66 ?_
      refine gr_goto C 201 dX11_item_69 (by decide) ?_
      refine gr_sub [] [] rfl ?_
      refine gr_iconst C (v := 0) dX11_item_201 (by decide) ?_
      cases hF
      exact gr_zret C dX11_item_202 rfl ⟨rfl, rfl⟩
  · rw [if_pos c1] at hF
    refine gr_sub [0, 2] [(0, .ref (w.2.2.1 0)), (2, .int a1)] rfl ?_
    refine gr_aload_n C 0 dX11_item_6 rfl rfl ?_
    refine gr_iload_n C 1 dX11_item_7 rfl rfl ?_
    obtain ⟨K39, eK39, hF⟩ := gLet_e hF
    have JK39 : ∀ (x40 : Int32) (g41 : Sg), K39 x40 g41 = some (r, σ') → gG X w g41 16 [(0, .ref (w.2.2.1 0))] [.int x40, .ref (w.2.2.1 0)] := by
      intro x40 g41 hF
      rw [eK39] at hF
      try dsimp only at hF
      obtain ⟨h43, hF⟩ := gZ_e hF
      obtain ⟨g42, eg42, hF⟩ := gLet_e hF
      refine gr_putI C 0 22 dX11_item_16 (scm_0 hw) rfl inX11 (by decide) ln123 rfl tyX11 tyX11_ok nmX11 rfl .boolean rfl h43.1 h43.2 ?_
      refine gr_nmS eg42 ?_
      refine gr_aload_n C 0 dX11_item_19 rfl rfl ?_
      refine gr_getI C 0 22 dX11_item_20 (scm_0 hw) rfl inX11 (by decide) ln123 rfl ?_
      obtain ⟨K44, eK44, hF⟩ := gLet_e hF
      have JK44 : ∀ (x45 : Int32) (g46 : Sg), K44 x45 g46 = some (r, σ') → gG X w g46 37 [(0, .ref (w.2.2.1 0))] [.int x45] := by
        intro x45 g46 hF
        rw [eK44] at hF
        try dsimp only at hF
        refine gr_istore_n C [(3, .int x45), (0, .ref (w.2.2.1 0))] dX11_item_37 rfl (by decide) rfl ?_
        refine gr_aload_n C 1 dX11_item_38 rfl rfl ?_
        refine gr_aload_n C 1 dX11_item_39 rfl rfl ?_
        refine gr_getI C 0 22 dX11_item_40 (scm_0 hw) rfl inX11 (by decide) ln123 rfl ?_
        obtain ⟨K47, eK47, hF⟩ := gLet_e hF
        have JK47 : ∀ (x48 : Int32) (g49 : Sg), K47 x48 g49 = some (r, σ') → gG X w g49 54 [] [.int x48, .ref (w.2.2.1 0)] := by
          intro x48 g49 hF
          rw [eK47] at hF
          try dsimp only at hF
          obtain ⟨g50, eg50, hF⟩ := gLet_e hF
          refine gr_putI C 0 8 dX11_item_54 (scm_0 hw) rfl inX11 (by decide) ln82 rfl tyX11 tyX11_ok nmX11 rfl .int rfl rfl rfl ?_
          refine gr_nmS eg50 ?_
          refine gr_iconst C (v := 1) dX11_item_57 (by decide) ?_
          cases hF
          exact gr_zret C dX11_item_58 rfl ⟨rfl, rfl⟩
        refine gr_if_eq C 53 dX11_item_43 (by decide) (fun c51 => ?_) (fun c51 => ?_)
        · rw [if_pos c51] at hF
          refine gr_sub [0] [(3, .int x45)] rfl ?_
          refine gr_iload_n C 0 dX11_item_53 rfl rfl ?_
          refine gr_sub [] [] rfl ?_
          exact JK47 x45 g46 hF
        · rw [if_neg c51] at hF
          refine gr_sub [1] [(0, .ref (w.2.2.1 0))] rfl ?_
          refine gr_aload_n C 0 dX11_item_46 rfl rfl ?_
          refine gr_getI C 0 8 dX11_item_47 (scm_0 hw) rfl inX11 (by decide) ln82 rfl ?_
          refine gr_goto C 54 dX11_item_50 (by decide) ?_
          refine gr_sub [] [] rfl ?_
          exact JK47 (g46 0 8) g46 hF
      refine gr_if_eq C 30 dX11_item_23 (by decide) (fun c52 => ?_) (fun c52 => ?_)
      · rw [if_pos c52] at hF
        refine gr_aload_n C 0 dX11_item_30 rfl rfl ?_
        refine gr_iconst C (v := 1) dX11_item_31 (by decide) ?_
        refine gr_bipush C (v := 9) dX11_item_32 (by decide) ?_
        obtain ⟨r55, g54, hc53, hF⟩ := gCl_e hF
        refine gr_callVI C (n := 2) (As := [.int (1 : Int32), .int (9 : Int32)]) (rest := []) 0 (mX11_number X.2.1 hw  hc53) gX11_item_X11_number rfl ⟨rfl, rfl⟩ ⟨by decide, by decide⟩ rfl (Nat.le_of_ble_eq_true rfl) rfl (by decide +kernel) (scm_0 hw) rfl dX11_item_34 ?_
        exact JK44 r55 g54 hF
      · rw [if_neg c52] at hF
        refine gr_iconst C (v := 0) dX11_item_26 (by decide) ?_
        refine gr_goto C 37 dX11_item_27 (by decide) ?_
        exact JK44 (0 : Int32) g42 hF
    refine gr_if_ne C 15 dX11_item_8 (by decide) (fun c56 => ?_) (fun c56 => ?_)
    · rw [if_neg c56] at hF
      refine gr_sub [0] [(0, .ref (w.2.2.1 0))] rfl ?_
      refine gr_iconst C (v := 0) dX11_item_15 (by decide) ?_
      exact JK39 (0 : Int32) σ hF
    · rw [if_pos c56] at hF
      refine gr_sub [0] [(0, .ref (w.2.2.1 0))] rfl ?_
      refine gr_iconst C (v := 1) dX11_item_11 (by decide) ?_
      refine gr_goto C 16 dX11_item_12 (by decide) ?_
      exact JK39 (1 : Int32) σ hF
-- X11_reads: 68 instructions, frames 5, locals 121
set_option maxRecDepth 100000 in
set_option maxHeartbeats 4000000 in
theorem mX11_reads (l : Launch) {w : Wl} (hw : w.2.2.2 = shM) {σ : Sg}   {r : Int32} {σ' : Sg} (hF : fX11_reads σ  = some (r, σ')) : gMI l w yX11_reads wsX11_reads ({ frames := 5, cells := 0, slots := 0, locals := 121 } : Room) [.ref (w.2.2.1 0)] σ r σ' := by
  have inX11 : ∀ v ∈ u_ws RX11 TX11 32, v ∈ wsX11_reads := by decide +kernel
  have ln109 : Cond.fieldLink RX11 109 (TX11 18).1 (TX11 18).2.1 (TX11 18).2.2.1 ∈ wsX11_reads := by decide +kernel
  have ln112 : Cond.fieldLink RX11 112 (TX11 20).1 (TX11 20).2.1 (TX11 20).2.2.1 ∈ wsX11_reads := by decide +kernel
  have ln123 : Cond.fieldLink RX11 123 (TX11 22).1 (TX11 22).2.1 (TX11 22).2.2.1 ∈ wsX11_reads := by decide +kernel
  have ln137 : Cond.fieldLink RX11 137 (TX11 21).1 (TX11 21).2.1 (TX11 21).2.2.1 ∈ wsX11_reads := by decide +kernel
  refine gStartZ cX11_reads 3 RX11 rfl (by decide) rfl (Nat.le_of_ble_eq_true rfl) ?_
  intro X hl C
  show gG X w σ 0 [(0, .ref (w.2.2.1 0))] []
  unfold fX11_reads at hF
  refine gr_aload_n C 0 dX11_reads_0 rfl rfl ?_
  obtain ⟨g2, hc1, hF⟩ := gCv_e hF
  refine gr_callVV C (n := 0) (As := []) (rest := []) 0 (mX11_clears X.2.1 hw  hc1) gX11_reads_X11_clears rfl ⟨rfl, rfl⟩ ⟨by decide, by decide⟩ rfl (Nat.le_of_ble_eq_true rfl) rfl (by decide +kernel) (scm_0 hw) rfl dX11_reads_1 ?_
  refine gr_aload_n C 0 dX11_reads_4 rfl rfl ?_
  refine gr_iconst C (v := 0) dX11_reads_5 (by decide) ?_
  obtain ⟨g3, eg3, hF⟩ := gLet_e hF
  refine gr_putI C 0 20 dX11_reads_6 (scm_0 hw) rfl inX11 (by decide) ln112 rfl tyX11 tyX11_ok nmX11 rfl .int rfl rfl rfl ?_
  refine gr_nmS eg3 ?_
  refine gr_aload_n C 0 dX11_reads_9 rfl rfl ?_
  refine gr_iconst C (v := 0) dX11_reads_10 (by decide) ?_
  obtain ⟨g4, eg4, hF⟩ := gLet_e hF
  refine gr_putI C 0 22 dX11_reads_11 (scm_0 hw) rfl inX11 (by decide) ln123 rfl tyX11 tyX11_ok nmX11 rfl .boolean rfl rfl rfl ?_
  refine gr_nmS eg4 ?_
  refine gr_iconst C (v := 1) dX11_reads_14 (by decide) ?_
  refine gr_istore_n C [(1, .int (1 : Int32)), (0, .ref (w.2.2.1 0))] dX11_reads_15 rfl (by decide) rfl ?_
  refine gr_sub [1, 0] [(0, .ref (w.2.2.1 0)), (1, .int (1 : Int32))] rfl ?_
  have L38 : ∀ (n : Nat) (x6 : Int32) (g7 : Sg) (K5 : Sg → Option (Int32 × Sg)), (∀  (g39 : Sg), K5  g39 = some (r, σ') → gG X w g39 114 [(0, .ref (w.2.2.1 0))] []) → fX11_reads_16  n x6 g7 K5 = some (r, σ') → gG X w g7 16 [(0, .ref (w.2.2.1 0)), (1, .int x6)] [] := by
    intro n
    induction n with
    | zero =>
      intro x6 g7 K5 hK5 hF
      rw [fX11_reads_16] at hF
      cases hF
    | succ n ih =>
      intro x6 g7 K5 hK5 hF
      rw [fX11_reads_16] at hF
      refine gr_aload_n C 0 dX11_reads_16 rfl rfl ?_
      refine gr_getI C 0 20 dX11_reads_17 (scm_0 hw) rfl inX11 (by decide) ln112 rfl ?_
      refine gr_aload_n C 0 dX11_reads_20 rfl rfl ?_
      refine gr_getI C 0 18 dX11_reads_21 (scm_0 hw) rfl inX11 (by decide) ln109 rfl ?_
      refine gr_icmp_ge C 114 dX11_reads_24 (by decide) (fun c8 => ?_) (fun c8 => ?_)
      · rw [if_pos c8] at hF
        refine gr_sub [0] [(0, .ref (w.2.2.1 0))] rfl ?_
        exact hK5  g7 hF
      · rw [if_neg c8] at hF
        refine gr_aload_n C 0 dX11_reads_27 rfl rfl ?_
        refine gr_getI C 0 22 dX11_reads_28 (scm_0 hw) rfl inX11 (by decide) ln123 rfl ?_
        refine gr_if_ne C 114 dX11_reads_31 (by decide) (fun c9 => ?_) (fun c9 => ?_)
        · rw [if_neg c9] at hF
          refine gr_sub [0] [(0, .ref (w.2.2.1 0))] rfl ?_
          exact hK5  g7 hF
        · rw [if_pos c9] at hF
          refine gr_aload_n C 0 dX11_reads_34 rfl rfl ?_
          refine gr_aload_n C 0 dX11_reads_35 rfl rfl ?_
          refine gr_getI C 0 20 dX11_reads_36 (scm_0 hw) rfl inX11 (by decide) ln112 rfl ?_
          obtain ⟨g10, eg10, hF⟩ := gLet_e hF
          refine gr_putI C 0 21 dX11_reads_39 (scm_0 hw) rfl inX11 (by decide) ln137 rfl tyX11 tyX11_ok nmX11 rfl .int rfl rfl rfl ?_
          refine gr_nmS eg10 ?_
          refine gr_aload_n C 0 dX11_reads_42 rfl rfl ?_
          obtain ⟨r13, g12, hc11, hF⟩ := gCl_e hF
          refine gr_callVI C (n := 0) (As := []) (rest := []) 0 (mX11_next X.2.1 hw  hc11) gX11_reads_X11_next rfl ⟨rfl, rfl⟩ ⟨by decide, by decide⟩ rfl (Nat.le_of_ble_eq_true rfl) rfl (by decide +kernel) (scm_0 hw) rfl dX11_reads_43 ?_
          refine gr_istore_n C [(2, .int r13), (0, .ref (w.2.2.1 0)), (1, .int x6)] dX11_reads_46 rfl (by decide) rfl ?_
          refine gr_aload_n C 1 dX11_reads_47 rfl rfl ?_
          refine gr_dup C dX11_reads_48 rfl ?_
          refine gr_getI C 0 20 dX11_reads_49 (scm_0 hw) rfl inX11 (by decide) ln112 rfl ?_
          refine gr_iconst C (v := 1) dX11_reads_52 (by decide) ?_
          refine gr_iadd C dX11_reads_53 ?_
          obtain ⟨g14, eg14, hF⟩ := gLet_e hF
          refine gr_putI C 0 20 dX11_reads_54 (scm_0 hw) rfl inX11 (by decide) ln112 rfl tyX11 tyX11_ok nmX11 rfl .int rfl rfl rfl ?_
          refine gr_nmS eg14 ?_
          refine gr_aload_n C 1 dX11_reads_57 rfl rfl ?_
          refine gr_iload_n C 0 dX11_reads_58 rfl rfl ?_
          refine gr_iload_n C 2 dX11_reads_59 rfl rfl ?_
          obtain ⟨r17, g16, hc15, hF⟩ := gCl_e hF
          refine gr_callVI C (n := 2) (As := [.int r13, .int x6]) (rest := []) 0 (mX11_item X.2.1 hw  hc15) gX11_reads_X11_item rfl ⟨rfl, rfl⟩ ⟨by decide, by decide⟩ rfl (Nat.le_of_ble_eq_true rfl) rfl (by decide +kernel) (scm_0 hw) rfl dX11_reads_60 ?_
          obtain ⟨K18, eK18, hF⟩ := gLet_e hF
          have JK18 : ∀ (x19 : Int32) (g20 : Sg), K18 x19 g20 = some (r, σ') → gG X w g20 75 [(0, .ref (w.2.2.1 0))] [.int x19] := by
            intro x19 g20 hF
            rw [eK18] at hF
            try dsimp only at hF
            refine gr_istore_n C [(1, .int x19), (0, .ref (w.2.2.1 0))] dX11_reads_75 rfl (by decide) rfl ?_
            refine gr_aload_n C 1 dX11_reads_76 rfl rfl ?_
            refine gr_aload_n C 1 dX11_reads_77 rfl rfl ?_
            refine gr_getI C 0 22 dX11_reads_78 (scm_0 hw) rfl inX11 (by decide) ln123 rfl ?_
            obtain ⟨K21, eK21, hF⟩ := gLet_e hF
            have JK21 : ∀ (x22 : Int32) (g23 : Sg), K21 x22 g23 = some (r, σ') → gG X w g23 98 [(0, .ref (w.2.2.1 0)), (1, .int x19)] [.int x22, .ref (w.2.2.1 0)] := by
              intro x22 g23 hF
              rw [eK21] at hF
              try dsimp only at hF
              obtain ⟨h25, hF⟩ := gZ_e hF
              obtain ⟨g24, eg24, hF⟩ := gLet_e hF
              refine gr_putI C 0 22 dX11_reads_98 (scm_0 hw) rfl inX11 (by decide) ln123 rfl tyX11 tyX11_ok nmX11 rfl .boolean rfl h25.1 h25.2 ?_
              refine gr_nmS eg24 ?_
              refine gr_aload_n C 0 dX11_reads_101 rfl rfl ?_
              refine gr_dup C dX11_reads_102 rfl ?_
              refine gr_getI C 0 20 dX11_reads_103 (scm_0 hw) rfl inX11 (by decide) ln112 rfl ?_
              refine gr_iconst C (v := 1) dX11_reads_106 (by decide) ?_
              refine gr_iadd C dX11_reads_107 ?_
              obtain ⟨g26, eg26, hF⟩ := gLet_e hF
              refine gr_putI C 0 20 dX11_reads_108 (scm_0 hw) rfl inX11 (by decide) ln112 rfl tyX11 tyX11_ok nmX11 rfl .int rfl rfl rfl ?_
              refine gr_nmS eg26 ?_
              refine gr_goto C 16 dX11_reads_111 (by decide) ?_
              exact ih x19 g26 K5 hK5 hF
            obtain ⟨K27, eK27, hF⟩ := gLet_e hF
            have JK27 : ∀  (g28 : Sg), K27  g28 = some (r, σ') → gG X w g28 93 [(0, .ref (w.2.2.1 0)), (1, .int x19)] [.ref (w.2.2.1 0)] := by
              intro g28 hF
              rw [eK27] at hF
              try dsimp only at hF
              refine gr_iconst C (v := 1) dX11_reads_93 (by decide) ?_
              refine gr_goto C 98 dX11_reads_94 (by decide) ?_
              exact JK21 (1 : Int32) g28 hF
            refine gr_if_ne C 93 dX11_reads_81 (by decide) (fun c29 => ?_) (fun c29 => ?_)
            · rw [if_neg c29] at hF
              refine gr_sub [1, 0] [(0, .ref (w.2.2.1 0)), (1, .int x19)] rfl ?_
              exact JK27  g20 hF
            · rw [if_pos c29] at hF
              refine gr_sub [1, 0] [(0, .ref (w.2.2.1 0)), (1, .int x19)] rfl ?_
              refine gr_aload_n C 0 dX11_reads_84 rfl rfl ?_
              obtain ⟨r32, g31, hc30, hF⟩ := gCl_e hF
              refine gr_callVI C (n := 0) (As := []) (rest := [.ref (w.2.2.1 0)]) 0 (mX11_next X.2.1 hw  hc30) gX11_reads_X11_next rfl ⟨rfl, rfl⟩ ⟨by decide, by decide⟩ rfl (Nat.le_of_ble_eq_true rfl) rfl (by decide +kernel) (scm_0 hw) rfl dX11_reads_85 ?_
              refine gr_bipush C (v := 59) dX11_reads_88 (by decide) ?_
              refine gr_icmp_eq C 97 dX11_reads_90 (by decide) (fun c33 => ?_) (fun c33 => ?_)
              · rw [if_pos c33] at hF
                refine gr_iconst C (v := 0) dX11_reads_97 (by decide) ?_
                exact JK21 (0 : Int32) g31 hF
              · rw [if_neg c33] at hF
                exact JK27  g31 hF
          obtain ⟨K34, eK34, hF⟩ := gLet_e hF
          have JK34 : ∀  (g35 : Sg), K34  g35 = some (r, σ') → gG X w g35 74 [(0, .ref (w.2.2.1 0))] [] := by
            intro g35 hF
            rw [eK34] at hF
            try dsimp only at hF
            refine gr_iconst C (v := 0) dX11_reads_74 (by decide) ?_
            exact JK18 (0 : Int32) g35 hF
          refine gr_if_eq C 74 dX11_reads_63 (by decide) (fun c36 => ?_) (fun c36 => ?_)
          · rw [if_pos c36] at hF
            refine gr_sub [1] [(0, .ref (w.2.2.1 0))] rfl ?_
            exact JK34  g16 hF
          · rw [if_neg c36] at hF
            refine gr_sub [1, 2] [(0, .ref (w.2.2.1 0)), (1, .int x6)] rfl ?_
            refine gr_iload_n C 1 dX11_reads_66 rfl rfl ?_
            refine gr_if_eq C 74 dX11_reads_67 (by decide) (fun c37 => ?_) (fun c37 => ?_)
            · rw [if_pos c37] at hF
              refine gr_sub [0] [(0, .ref (w.2.2.1 0))] rfl ?_
              exact JK34  g16 hF
            · rw [if_neg c37] at hF
              refine gr_sub [0] [(0, .ref (w.2.2.1 0))] rfl ?_
              refine gr_iconst C (v := 1) dX11_reads_70 (by decide) ?_
              refine gr_goto C 75 dX11_reads_71 (by decide) ?_
              exact JK18 (1 : Int32) g16 hF
  refine L38 _ (1 : Int32) g4 _ ?_ hF
  intro g40 hF
  try dsimp only at hF
  refine gr_aload_n C 0 dX11_reads_114 rfl rfl ?_
  refine gr_getI C 0 22 dX11_reads_115 (scm_0 hw) rfl inX11 (by decide) ln123 rfl ?_
  refine gr_if_ne C 125 dX11_reads_118 (by decide) (fun c41 => ?_) (fun c41 => ?_)
  · rw [if_neg c41] at hF
    refine gr_sub [] [] rfl ?_
    refine gr_iconst C (v := 0) dX11_reads_125 (by decide) ?_
    cases hF
    exact gr_zret C dX11_reads_126 rfl ⟨rfl, rfl⟩
  · rw [if_pos c41] at hF
    refine gr_sub [] [] rfl ?_
    refine gr_iconst C (v := 1) dX11_reads_121 (by decide) ?_
    refine gr_goto C 126 dX11_reads_122 (by decide) ?_
    cases hF
    exact gr_zret C dX11_reads_126 rfl ⟨rfl, rfl⟩
-- X11_fault: 8 instructions, frames 6, locals 143
set_option maxRecDepth 100000 in
set_option maxHeartbeats 4000000 in
theorem mX11_fault (l : Launch) {w : Wl} (hw : w.2.2.2 = shM) {σ : Sg}   {r : Int32} {σ' : Sg} (hF : fX11_fault σ  = some (r, σ')) : gMI l w yX11_fault wsX11_fault ({ frames := 6, cells := 0, slots := 0, locals := 143 } : Room) [.ref (w.2.2.1 0)] σ r σ' := by
  have inX11 : ∀ v ∈ u_ws RX11 TX11 32, v ∈ wsX11_fault := by decide +kernel
  have ln137 : Cond.fieldLink RX11 137 (TX11 21).1 (TX11 21).2.1 (TX11 21).2.2.1 ∈ wsX11_fault := by decide +kernel
  refine gStartI cX11_fault 1 RX11 rfl (by decide) rfl (Nat.le_of_ble_eq_true rfl) ?_
  intro X hl C
  show gG X w σ 0 [(0, .ref (w.2.2.1 0))] []
  unfold fX11_fault at hF
  refine gr_aload_n C 0 dX11_fault_0 rfl rfl ?_
  obtain ⟨r3, g2, hc1, hF⟩ := gCl_e hF
  refine gr_callVI C (n := 0) (As := []) (rest := []) 0 (mX11_reads X.2.1 hw  hc1) gX11_fault_X11_reads rfl ⟨rfl, rfl⟩ ⟨by decide, by decide⟩ rfl (Nat.le_of_ble_eq_true rfl) rfl (by decide +kernel) (scm_0 hw) rfl dX11_fault_1 ?_
  refine gr_if_eq C 12 dX11_fault_4 (by decide) (fun c4 => ?_) (fun c4 => ?_)
  · rw [if_pos c4] at hF
    refine gr_aload_n C 0 dX11_fault_12 rfl rfl ?_
    refine gr_getI C 0 21 dX11_fault_13 (scm_0 hw) rfl inX11 (by decide) ln137 rfl ?_
    cases hF
    exact gr_iret C dX11_fault_16 ⟨rfl, rfl⟩
  · rw [if_neg c4] at hF
    refine gr_sub [] [] rfl ?_
    refine gr_bipush C (v := -4) dX11_fault_7 (by decide) ?_
    refine gr_goto C 16 dX11_fault_9 (by decide) ?_
    cases hF
    exact gr_iret C dX11_fault_16 ⟨rfl, rfl⟩
-- X11_lay: 22 instructions, frames 6, locals 143
set_option maxRecDepth 100000 in
set_option maxHeartbeats 4000000 in
theorem mX11_lay (l : Launch) {w : Wl} (hw : w.2.2.2 = shM) {σ : Sg}   {r : Int32} {σ' : Sg} (hF : fX11_lay σ  = some (r, σ')) : gMI l w yX11_lay wsX11_lay ({ frames := 6, cells := 0, slots := 0, locals := 143 } : Room) [.ref (w.2.2.1 0)] σ r σ' := by
  have inX11 : ∀ v ∈ u_ws RX11 TX11 32, v ∈ wsX11_lay := by decide +kernel
  have ln85 : Cond.fieldLink RX11 85 (TX11 10).1 (TX11 10).2.1 (TX11 10).2.2.1 ∈ wsX11_lay := by decide +kernel
  have ln94 : Cond.fieldLink RX11 94 (TX11 2).1 (TX11 2).2.1 (TX11 2).2.2.1 ∈ wsX11_lay := by decide +kernel
  have ln148 : Cond.fieldLink RX11 148 (TX11 16).1 (TX11 16).2.1 (TX11 16).2.2.1 ∈ wsX11_lay := by decide +kernel
  have ln151 : Cond.fieldLink RX11 151 (TX11 17).1 (TX11 17).2.1 (TX11 17).2.2.1 ∈ wsX11_lay := by decide +kernel
  have ln154 : Cond.fieldLink RX11 154 (TX11 23).1 (TX11 23).2.1 (TX11 23).2.2.1 ∈ wsX11_lay := by decide +kernel
  refine gStartI cX11_lay 1 RX11 rfl (by decide) rfl (Nat.le_of_ble_eq_true rfl) ?_
  intro X hl C
  show gG X w σ 0 [(0, .ref (w.2.2.1 0))] []
  unfold fX11_lay at hF
  refine gr_aload_n C 0 dX11_lay_0 rfl rfl ?_
  obtain ⟨r3, g2, hc1, hF⟩ := gCl_e hF
  refine gr_callVI C (n := 0) (As := []) (rest := []) 0 (mX11_reads X.2.1 hw  hc1) gX11_lay_X11_reads rfl ⟨rfl, rfl⟩ ⟨by decide, by decide⟩ rfl (Nat.le_of_ble_eq_true rfl) rfl (by decide +kernel) (scm_0 hw) rfl dX11_lay_1 ?_
  refine gr_if_eq C 14 dX11_lay_4 (by decide) (fun c4 => ?_) (fun c4 => ?_)
  · rw [if_pos c4] at hF
    refine gr_sub [] [] rfl ?_
    refine gr_bipush C (v := -2) dX11_lay_14 (by decide) ?_
    cases hF
    exact gr_iret C dX11_lay_16 ⟨rfl, rfl⟩
  · rw [if_neg c4] at hF
    refine gr_aload_n C 0 dX11_lay_7 rfl rfl ?_
    refine gr_getI C 0 10 dX11_lay_8 (scm_0 hw) rfl inX11 (by decide) ln85 rfl ?_
    refine gr_if_ne C 17 dX11_lay_11 (by decide) (fun c5 => ?_) (fun c5 => ?_)
    · rw [if_neg c5] at hF
      refine gr_aload_n C 0 dX11_lay_17 rfl rfl ?_
      obtain ⟨g7, hc6, hF⟩ := gCv_e hF
      refine gr_callVV C (n := 0) (As := []) (rest := []) 0 (mX11_settles X.2.1 hw  hc6) gX11_lay_X11_settles rfl ⟨rfl, rfl⟩ ⟨by decide, by decide⟩ rfl (Nat.le_of_ble_eq_true rfl) rfl (by decide +kernel) (scm_0 hw) rfl dX11_lay_18 ?_
      refine gr_aload_n C 0 dX11_lay_21 rfl rfl ?_
      refine gr_iconst C (v := 0) dX11_lay_22 (by decide) ?_
      obtain ⟨g8, eg8, hF⟩ := gLet_e hF
      refine gr_putI C 0 16 dX11_lay_23 (scm_0 hw) rfl inX11 (by decide) ln148 rfl tyX11 tyX11_ok nmX11 rfl .int rfl rfl rfl ?_
      refine gr_nmS eg8 ?_
      refine gr_aload_n C 0 dX11_lay_26 rfl rfl ?_
      refine gr_iconst C (v := 0) dX11_lay_27 (by decide) ?_
      obtain ⟨g9, eg9, hF⟩ := gLet_e hF
      refine gr_putI C 0 17 dX11_lay_28 (scm_0 hw) rfl inX11 (by decide) ln151 rfl tyX11 tyX11_ok nmX11 rfl .int rfl rfl rfl ?_
      refine gr_nmS eg9 ?_
      refine gr_aload_n C 0 dX11_lay_31 rfl rfl ?_
      refine gr_iconst C (v := 0) dX11_lay_32 (by decide) ?_
      obtain ⟨g10, eg10, hF⟩ := gLet_e hF
      refine gr_putI C 0 23 dX11_lay_33 (scm_0 hw) rfl inX11 (by decide) ln154 rfl tyX11 tyX11_ok nmX11 rfl .int rfl rfl rfl ?_
      refine gr_nmS eg10 ?_
      refine gr_aload_n C 0 dX11_lay_36 rfl rfl ?_
      refine gr_getI C 0 2 dX11_lay_37 (scm_0 hw) rfl inX11 (by decide) ln94 rfl ?_
      cases hF
      exact gr_iret C dX11_lay_40 ⟨rfl, rfl⟩
    · rw [if_pos c5] at hF
      refine gr_sub [] [] rfl ?_
      refine gr_bipush C (v := -2) dX11_lay_14 (by decide) ?_
      cases hF
      exact gr_iret C dX11_lay_16 ⟨rfl, rfl⟩
-- X11_wants: 39 instructions, frames 0, locals 0
set_option maxRecDepth 100000 in
set_option maxHeartbeats 4000000 in
theorem mX11_wants (l : Launch) {w : Wl} (hw : w.2.2.2 = shM) {σ : Sg} {a0 : Int32} {a1 : Int32}  {r : Int32} {σ' : Sg} (hF : fX11_wants σ a0 a1 = some (r, σ')) : gMI l w yX11_wants wsX11_wants ({ frames := 0, cells := 0, slots := 0, locals := 0 } : Room) [.ref (w.2.2.1 0), .int a0, .int a1] σ r σ' := by
  have inX11 : ∀ v ∈ u_ws RX11 TX11 32, v ∈ wsX11_wants := by decide +kernel
  have ln7 : Cond.fieldLink RX11 7 (TX11 3).1 (TX11 3).2.1 (TX11 3).2.2.1 ∈ wsX11_wants := by decide +kernel
  have ln19 : Cond.fieldLink RX11 19 (TX11 6).1 (TX11 6).2.1 (TX11 6).2.2.1 ∈ wsX11_wants := by decide +kernel
  refine gStartI cX11_wants 4 RX11 rfl (by decide) rfl (Nat.le_of_ble_eq_true rfl) ?_
  intro X hl C
  show gG X w σ 0 [(0, .ref (w.2.2.1 0)), (1, .int a0), (2, .int a1)] []
  unfold fX11_wants at hF
  refine gr_aload_n C 0 dX11_wants_0 rfl rfl ?_
  refine gr_getR C 0 6 4 dX11_wants_1 (scm_0 hw) rfl inX11 (by decide) ln19 rfl ?_
  refine gr_iload_n C 1 dX11_wants_4 rfl rfl ?_
  obtain ⟨h2, x1, ex1, hF⟩ := gRd_e hF
  refine gr_iald C 4 8 dX11_wants_5 (scm_4 hw) h2 ?_
  refine gr_nmI ex1 ?_
  refine gr_istore_n C [(3, .int x1), (0, .ref (w.2.2.1 0)), (1, .int a0), (2, .int a1)] dX11_wants_6 rfl (by decide) rfl ?_
  refine gr_aload_n C 1 dX11_wants_7 rfl rfl ?_
  refine gr_getR C 0 3 1 dX11_wants_8 (scm_0 hw) rfl inX11 (by decide) ln7 rfl ?_
  refine gr_iload_n C 2 dX11_wants_11 rfl rfl ?_
  obtain ⟨h4, x3, ex3, hF⟩ := gRd_e hF
  refine gr_iald C 1 8 dX11_wants_12 (scm_1 hw) h4 ?_
  refine gr_nmI ex3 ?_
  refine gr_iconst C (v := 1) dX11_wants_13 (by decide) ?_
  refine gr_icmp_ne C 25 dX11_wants_14 (by decide) (fun c5 => ?_) (fun c5 => ?_)
  · rw [if_neg c5] at hF
    refine gr_sub [1, 2, 3, 0] [(0, .ref (w.2.2.1 0)), (1, .int a0), (2, .int a1), (3, .int x1)] rfl ?_
    refine gr_aload_n C 0 dX11_wants_25 rfl rfl ?_
    refine gr_getR C 0 3 1 dX11_wants_26 (scm_0 hw) rfl inX11 (by decide) ln7 rfl ?_
    refine gr_iload_n C 1 dX11_wants_29 rfl rfl ?_
    obtain ⟨h7, x6, ex6, hF⟩ := gRd_e hF
    refine gr_iald C 1 8 dX11_wants_30 (scm_1 hw) h7 ?_
    refine gr_nmI ex6 ?_
    refine gr_iconst C (v := 2) dX11_wants_31 (by decide) ?_
    refine gr_icmp_ne C 41 dX11_wants_32 (by decide) (fun c8 => ?_) (fun c8 => ?_)
    · rw [if_neg c8] at hF
      refine gr_aload_n C 0 dX11_wants_41 rfl rfl ?_
      refine gr_getR C 0 3 1 dX11_wants_42 (scm_0 hw) rfl inX11 (by decide) ln7 rfl ?_
      refine gr_iload_n C 1 dX11_wants_45 rfl rfl ?_
      obtain ⟨h10, x9, ex9, hF⟩ := gRd_e hF
      refine gr_iald C 1 8 dX11_wants_46 (scm_1 hw) h10 ?_
      refine gr_nmI ex9 ?_
      refine gr_iconst C (v := 3) dX11_wants_47 (by decide) ?_
      refine gr_icmp_ne C 59 dX11_wants_48 (by decide) (fun c11 => ?_) (fun c11 => ?_)
      · rw [if_neg c11] at hF
        refine gr_sub [3] [(3, .int x1)] rfl ?_
        refine gr_iload_n C 0 dX11_wants_59 rfl rfl ?_
        cases hF
        exact gr_iret C dX11_wants_60 ⟨rfl, rfl⟩
      · rw [if_pos c11] at hF
        refine gr_sub [2, 3] [(2, .int a1), (3, .int x1)] rfl ?_
        refine gr_iload_n C 0 dX11_wants_51 rfl rfl ?_
        refine gr_if_eq C 59 dX11_wants_52 (by decide) (fun c12 => ?_) (fun c12 => ?_)
        · rw [if_pos c12] at hF
          refine gr_sub [1] [(3, .int x1)] rfl ?_
          refine gr_iload_n C 0 dX11_wants_59 rfl rfl ?_
          cases hF
          exact gr_iret C dX11_wants_60 ⟨rfl, rfl⟩
        · rw [if_neg c12] at hF
          refine gr_sub [] [] rfl ?_
          refine gr_iconst C (v := 0) dX11_wants_55 (by decide) ?_
          refine gr_goto C 60 dX11_wants_56 (by decide) ?_
          cases hF
          exact gr_iret C dX11_wants_60 ⟨rfl, rfl⟩
    · rw [if_pos c8] at hF
      refine gr_sub [3] [(3, .int x1)] rfl ?_
      refine gr_iconst C (v := 2) dX11_wants_35 (by decide) ?_
      refine gr_iload_n C 0 dX11_wants_36 rfl rfl ?_
      refine gr_imul C dX11_wants_37 ?_
      refine gr_goto C 60 dX11_wants_38 (by decide) ?_
      refine gr_sub [] [] rfl ?_
      cases hF
      exact gr_iret C dX11_wants_60 ⟨rfl, rfl⟩
  · rw [if_pos c5] at hF
    refine gr_sub [0] [(3, .int x1)] rfl ?_
    refine gr_iload_n C 0 dX11_wants_17 rfl rfl ?_
    refine gr_iconst C (v := 2) dX11_wants_18 (by decide) ?_
    refine gr_idiv C dX11_wants_19 (by decide) ?_
    refine gr_iconst C (v := 1) dX11_wants_20 (by decide) ?_
    refine gr_iadd C dX11_wants_21 ?_
    refine gr_goto C 60 dX11_wants_22 (by decide) ?_
    refine gr_sub [] [] rfl ?_
    cases hF
    exact gr_iret C dX11_wants_60 ⟨rfl, rfl⟩
-- X11_pours: 56 instructions, frames 1, locals 23
set_option maxRecDepth 100000 in
set_option maxHeartbeats 4000000 in
theorem mX11_pours (l : Launch) {w : Wl} (hw : w.2.2.2 = shM) {σ : Sg} {a0 : Int32} {a1 : Int32} {a2 : Int32} {a3 : Int32}  {r : Int32} {σ' : Sg} (hF : fX11_pours σ a0 a1 a2 a3 = some (r, σ')) : gMI l w yX11_pours wsX11_pours ({ frames := 1, cells := 0, slots := 0, locals := 23 } : Room) [.ref (w.2.2.1 0), .int a0, .int a1, .int a2, .int a3] σ r σ' := by
  have inX11 : ∀ v ∈ u_ws RX11 TX11 32, v ∈ wsX11_pours := by decide +kernel
  have ln13 : Cond.fieldLink RX11 13 (TX11 4).1 (TX11 4).2.1 (TX11 4).2.2.1 ∈ wsX11_pours := by decide +kernel
  have ln22 : Cond.fieldLink RX11 22 (TX11 7).1 (TX11 7).2.1 (TX11 7).2.2.1 ∈ wsX11_pours := by decide +kernel
  have ln50 : Cond.fieldLink RX11 50 (TX11 26).1 (TX11 26).2.1 (TX11 26).2.2.1 ∈ wsX11_pours := by decide +kernel
  have ln94 : Cond.fieldLink RX11 94 (TX11 2).1 (TX11 2).2.1 (TX11 2).2.2.1 ∈ wsX11_pours := by decide +kernel
  refine gStartI cX11_pours 9 RX11 rfl (by decide) rfl (Nat.le_of_ble_eq_true rfl) ?_
  intro X hl C
  show gG X w σ 0 [(0, .ref (w.2.2.1 0)), (1, .int a0), (2, .int a1), (3, .int a2), (4, .int a3)] []
  unfold fX11_pours at hF
  refine gr_iload_n C 2 dX11_pours_0 rfl rfl ?_
  refine gr_iload_n C 3 dX11_pours_1 rfl rfl ?_
  obtain ⟨r3, g2, hc1, hF⟩ := gCl_e hF
  refine gr_callSI C (n := 2) (As := [.int a1, .int a2]) (rest := []) (mX11_smaller X.2.1 hw  hc1) gX11_pours_X11_smaller rfl ⟨rfl, rfl⟩ ⟨by decide, by decide⟩ rfl (Nat.le_of_ble_eq_true rfl) rfl (by decide +kernel) dX11_pours_2 ?_
  refine gr_istore C [(5, .int r3), (0, .ref (w.2.2.1 0)), (1, .int a0), (2, .int a1), (3, .int a2), (4, .int a3)] dX11_pours_5 (by decide) rfl ?_
  refine gr_iload_n C 3 dX11_pours_7 rfl rfl ?_
  refine gr_iload C 0 dX11_pours_8 rfl ?_
  refine gr_isub C dX11_pours_10 ?_
  obtain ⟨x4, ex4, hF⟩ := gLet_e hF
  refine gr_nmI ex4 ?_
  refine gr_istore C [(6, .int x4), (5, .int r3), (0, .ref (w.2.2.1 0)), (1, .int a0), (2, .int a1), (3, .int a2), (4, .int a3)] dX11_pours_11 (by decide) rfl ?_
  refine gr_iconst C (v := 0) dX11_pours_13 (by decide) ?_
  refine gr_istore C [(7, .int (0 : Int32)), (6, .int x4), (5, .int r3), (0, .ref (w.2.2.1 0)), (1, .int a0), (2, .int a1), (3, .int a2), (4, .int a3)] dX11_pours_14 (by decide) rfl ?_
  refine gr_sub [3, 4, 7, 2, 1, 0] [(0, .ref (w.2.2.1 0)), (1, .int a0), (4, .int a3), (5, .int r3), (6, .int x4), (7, .int (0 : Int32))] rfl ?_
  have L40 : ∀ (n : Nat) (x5 : Int32) (x6 : Int32) (g7 : Sg) , fX11_pours_16 a0 a3 r3 n x5 x6 g7  = some (r, σ') → gG X w g7 16 [(0, .ref (w.2.2.1 0)), (1, .int a0), (4, .int a3), (5, .int r3), (6, .int x5), (7, .int x6)] [] := by
    intro n
    induction n with
    | zero =>
      intro x5 x6 g7 hF
      rw [fX11_pours_16] at hF
      cases hF
    | succ n ih =>
      intro x5 x6 g7 hF
      rw [fX11_pours_16] at hF
      refine gr_iload C 5 dX11_pours_16 rfl ?_
      refine gr_aload_n C 0 dX11_pours_18 rfl rfl ?_
      refine gr_getI C 0 2 dX11_pours_19 (scm_0 hw) rfl inX11 (by decide) ln94 rfl ?_
      refine gr_icmp_ge C 105 dX11_pours_22 (by decide) (fun c8 => ?_) (fun c8 => ?_)
      · rw [if_pos c8] at hF
        refine gr_sub [4] [(6, .int x5)] rfl ?_
        refine gr_iload C 0 dX11_pours_105 rfl ?_
        refine gr_sub [] [] rfl ?_
        cases hF
        exact gr_iret C dX11_pours_107 ⟨rfl, rfl⟩
      · rw [if_neg c8] at hF
        refine gr_aload_n C 0 dX11_pours_25 rfl rfl ?_
        refine gr_getR C 0 7 5 dX11_pours_26 (scm_0 hw) rfl inX11 (by decide) ln22 rfl ?_
        refine gr_iload C 5 dX11_pours_29 rfl ?_
        obtain ⟨h10, x9, ex9, hF⟩ := gRd_e hF
        refine gr_iald C 5 8 dX11_pours_31 (scm_5 hw) h10 ?_
        refine gr_nmI ex9 ?_
        refine gr_istore C [(8, .int x9), (0, .ref (w.2.2.1 0)), (1, .int a0), (4, .int a3), (5, .int r3), (6, .int x5), (7, .int x6)] dX11_pours_32 (by decide) rfl ?_
        refine gr_aload_n C 1 dX11_pours_34 rfl rfl ?_
        refine gr_getR C 0 4 2 dX11_pours_35 (scm_0 hw) rfl inX11 (by decide) ln13 rfl ?_
        refine gr_iload C 0 dX11_pours_38 rfl ?_
        obtain ⟨h12, x11, ex11, hF⟩ := gRd_e hF
        refine gr_iald C 2 8 dX11_pours_40 (scm_2 hw) h12 ?_
        refine gr_nmI ex11 ?_
        refine gr_iload_n C 2 dX11_pours_41 rfl rfl ?_
        obtain ⟨K13, eK13, hF⟩ := gLet_e hF
        have JK13 : ∀ (x14 : Int32) (g15 : Sg), K13 x14 g15 = some (r, σ') → gG X w g15 99 [(0, .ref (w.2.2.1 0)), (1, .int a0), (4, .int a3), (5, .int r3), (6, .int x14), (7, .int x6)] [] := by
          intro x14 g15 hF
          rw [eK13] at hF
          try dsimp only at hF
          obtain ⟨x16, ex16, hF⟩ := gLet_e hF
          refine gr_iinc C (v := x16) 5 [(7, .int x16), (0, .ref (w.2.2.1 0)), (1, .int a0), (4, .int a3), (5, .int r3), (6, .int x14)] dX11_pours_99 rfl (by rw [ex16]; rfl) (by decide) rfl ?_
          refine gr_goto C 16 dX11_pours_102 (by decide) ?_
          refine gr_sub [1, 2, 3, 4, 5, 0] [(0, .ref (w.2.2.1 0)), (1, .int a0), (4, .int a3), (5, .int r3), (6, .int x14), (7, .int x16)] rfl ?_
          exact ih x14 x16 g15   hF
        refine gr_icmp_ne C 99 dX11_pours_42 (by decide) (fun c17 => ?_) (fun c17 => ?_)
        · rw [if_neg c17] at hF
          refine gr_sub [1, 2, 3, 4, 5, 6] [(0, .ref (w.2.2.1 0)), (1, .int a0), (4, .int a3), (5, .int r3), (6, .int x5), (7, .int x6)] rfl ?_
          exact JK13 x5 g7 hF
        · rw [if_pos c17] at hF
          refine gr_sub [1, 2, 3, 4, 5, 6, 0] [(0, .ref (w.2.2.1 0)), (1, .int a0), (4, .int a3), (5, .int r3), (6, .int x5), (7, .int x6), (8, .int x9)] rfl ?_
          refine gr_aload_n C 0 dX11_pours_45 rfl rfl ?_
          refine gr_getR C 0 26 14 dX11_pours_46 (scm_0 hw) rfl inX11 (by decide) ln50 rfl ?_
          refine gr_iload C 6 dX11_pours_49 rfl ?_
          refine gr_iload C 2 dX11_pours_51 rfl ?_
          refine gr_iload C 6 dX11_pours_53 rfl ?_
          obtain ⟨r20, g19, hc18, hF⟩ := gCl_e hF
          refine gr_callSI C (n := 2) (As := [.int a3, .int x9]) (rest := [.int x9, .ref (w.2.2.1 14)]) (mX11_has X.2.1 hw  hc18) gX11_pours_X11_has rfl ⟨rfl, rfl⟩ ⟨by decide, by decide⟩ rfl (Nat.le_of_ble_eq_true rfl) rfl (by decide +kernel) dX11_pours_55 ?_
          obtain ⟨K21, eK21, hF⟩ := gLet_e hF
          have JK21 : ∀ (x22 : Int32) (g23 : Sg), K21 x22 g23 = some (r, σ') → gG X w g23 86 [(0, .ref (w.2.2.1 0)), (1, .int a0), (4, .int a3), (5, .int r3), (6, .int x5), (7, .int x6), (8, .int x9)] [.int x22, .int x9, .ref (w.2.2.1 14)] := by
            intro x22 g23 hF
            rw [eK21] at hF
            try dsimp only at hF
            obtain ⟨h24, g25, eg25, hF⟩ := gWr_e hF
            refine gr_iast C 14 8 dX11_pours_86 (scm_14 hw) h24 ?_
            refine gr_nmS eg25 ?_
            refine gr_iload C 4 dX11_pours_87 rfl ?_
            refine gr_aload_n C 0 dX11_pours_89 rfl rfl ?_
            refine gr_getR C 0 26 14 dX11_pours_90 (scm_0 hw) rfl inX11 (by decide) ln50 rfl ?_
            refine gr_iload C 6 dX11_pours_93 rfl ?_
            obtain ⟨h27, x26, ex26, hF⟩ := gRd_e hF
            refine gr_iald C 14 8 dX11_pours_95 (scm_14 hw) h27 ?_
            refine gr_nmI ex26 ?_
            refine gr_isub C dX11_pours_96 ?_
            obtain ⟨x28, ex28, hF⟩ := gLet_e hF
            refine gr_nmI ex28 ?_
            refine gr_istore C [(6, .int x28), (0, .ref (w.2.2.1 0)), (1, .int a0), (4, .int a3), (5, .int r3), (7, .int x6), (8, .int x9)] dX11_pours_97 (by decide) rfl ?_
            refine gr_sub [1, 2, 3, 4, 0, 5] [(0, .ref (w.2.2.1 0)), (1, .int a0), (4, .int a3), (5, .int r3), (6, .int x28), (7, .int x6)] rfl ?_
            exact JK13 x28 g25 hF
          refine gr_if_eq C 85 dX11_pours_58 (by decide) (fun c29 => ?_) (fun c29 => ?_)
          · rw [if_pos c29] at hF
            refine gr_iconst C (v := 0) dX11_pours_85 (by decide) ?_
            exact JK21 (0 : Int32) g19 hF
          · rw [if_neg c29] at hF
            refine gr_iload C 4 dX11_pours_61 rfl ?_
            refine gr_aload_n C 0 dX11_pours_63 rfl rfl ?_
            refine gr_iload C 6 dX11_pours_64 rfl ?_
            refine gr_iload C 3 dX11_pours_66 rfl ?_
            obtain ⟨K30, eK30, hF⟩ := gLet_e hF
            have JK30 : ∀ (x31 : Int32) (g32 : Sg), K30 x31 g32 = some (r, σ') → gG X w g32 76 [(0, .ref (w.2.2.1 0)), (1, .int a0), (4, .int a3), (5, .int r3), (6, .int x5), (7, .int x6), (8, .int x9)] [.int x31, .int x9, .ref (w.2.2.1 0), .int x5, .int x9, .ref (w.2.2.1 14)] := by
              intro x31 g32 hF
              rw [eK30] at hF
              try dsimp only at hF
              obtain ⟨r35, g34, hc33, hF⟩ := gCl_e hF
              refine gr_callVI C (n := 2) (As := [.int x9, .int x31]) (rest := [.int x5, .int x9, .ref (w.2.2.1 14)]) 0 (mX11_wants X.2.1 hw  hc33) gX11_pours_X11_wants rfl ⟨rfl, rfl⟩ ⟨by decide, by decide⟩ rfl (Nat.le_of_ble_eq_true rfl) rfl (by decide +kernel) (scm_0 hw) rfl dX11_pours_76 ?_
              obtain ⟨r38, g37, hc36, hF⟩ := gCl_e hF
              refine gr_callSI C (n := 2) (As := [.int x5, .int r35]) (rest := [.int x9, .ref (w.2.2.1 14)]) (mX11_smaller X.2.1 hw  hc36) gX11_pours_X11_smaller rfl ⟨rfl, rfl⟩ ⟨by decide, by decide⟩ rfl (Nat.le_of_ble_eq_true rfl) rfl (by decide +kernel) dX11_pours_79 ?_
              refine gr_goto C 86 dX11_pours_82 (by decide) ?_
              exact JK21 r38 g37 hF
            refine gr_if_le C 75 dX11_pours_68 (by decide) (fun c39 => ?_) (fun c39 => ?_)
            · rw [if_pos c39] at hF
              refine gr_iconst C (v := 0) dX11_pours_75 (by decide) ?_
              exact JK30 (0 : Int32) g19 hF
            · rw [if_neg c39] at hF
              refine gr_iconst C (v := 1) dX11_pours_71 (by decide) ?_
              refine gr_goto C 76 dX11_pours_72 (by decide) ?_
              exact JK30 (1 : Int32) g19 hF
  refine L40 _ x4 (0 : Int32) g2   hF
-- X11_thereAt: 33 instructions, frames 0, locals 0
set_option maxRecDepth 100000 in
set_option maxHeartbeats 4000000 in
theorem mX11_thereAt (l : Launch) {w : Wl} (hw : w.2.2.2 = shM) {σ : Sg} {a0 : Int32} {a1 : Int32}  {r : Int32} {σ' : Sg} (hF : fX11_thereAt σ a0 a1 = some (r, σ')) : gMI l w yX11_thereAt wsX11_thereAt ({ frames := 0, cells := 0, slots := 0, locals := 0 } : Room) [.ref (w.2.2.1 0), .int a0, .int a1] σ r σ' := by
  have inX11 : ∀ v ∈ u_ws RX11 TX11 32, v ∈ wsX11_thereAt := by decide +kernel
  have ln13 : Cond.fieldLink RX11 13 (TX11 4).1 (TX11 4).2.1 (TX11 4).2.2.1 ∈ wsX11_thereAt := by decide +kernel
  have ln37 : Cond.fieldLink RX11 37 (TX11 15).1 (TX11 15).2.1 (TX11 15).2.2.1 ∈ wsX11_thereAt := by decide +kernel
  have ln94 : Cond.fieldLink RX11 94 (TX11 2).1 (TX11 2).2.1 (TX11 2).2.2.1 ∈ wsX11_thereAt := by decide +kernel
  refine gStartI cX11_thereAt 5 RX11 rfl (by decide) rfl (Nat.le_of_ble_eq_true rfl) ?_
  intro X hl C
  show gG X w σ 0 [(0, .ref (w.2.2.1 0)), (1, .int a0), (2, .int a1)] []
  unfold fX11_thereAt at hF
  refine gr_iconst C (v := 0) dX11_thereAt_0 (by decide) ?_
  refine gr_istore_n C [(3, .int (0 : Int32)), (0, .ref (w.2.2.1 0)), (1, .int a0), (2, .int a1)] dX11_thereAt_1 rfl (by decide) rfl ?_
  refine gr_iconst C (v := 0) dX11_thereAt_2 (by decide) ?_
  refine gr_istore C [(4, .int (0 : Int32)), (3, .int (0 : Int32)), (0, .ref (w.2.2.1 0)), (1, .int a0), (2, .int a1)] dX11_thereAt_3 (by decide) rfl ?_
  refine gr_sub [2, 3, 4, 1, 0] [(0, .ref (w.2.2.1 0)), (1, .int a0), (2, .int a1), (3, .int (0 : Int32)), (4, .int (0 : Int32))] rfl ?_
  have L18 : ∀ (n : Nat) (x1 : Int32) (x2 : Int32) (g3 : Sg) , fX11_thereAt_5 a0 a1 n x1 x2 g3  = some (r, σ') → gG X w g3 5 [(0, .ref (w.2.2.1 0)), (1, .int a0), (2, .int a1), (3, .int x1), (4, .int x2)] [] := by
    intro n
    induction n with
    | zero =>
      intro x1 x2 g3 hF
      rw [fX11_thereAt_5] at hF
      cases hF
    | succ n ih =>
      intro x1 x2 g3 hF
      rw [fX11_thereAt_5] at hF
      refine gr_iload C 4 dX11_thereAt_5 rfl ?_
      refine gr_aload_n C 0 dX11_thereAt_7 rfl rfl ?_
      refine gr_getI C 0 2 dX11_thereAt_8 (scm_0 hw) rfl inX11 (by decide) ln94 rfl ?_
      refine gr_icmp_ge C 54 dX11_thereAt_11 (by decide) (fun c4 => ?_) (fun c4 => ?_)
      · rw [if_pos c4] at hF
        refine gr_sub [3] [(3, .int x1)] rfl ?_
        refine gr_iload_n C 0 dX11_thereAt_54 rfl rfl ?_
        refine gr_sub [] [] rfl ?_
        cases hF
        exact gr_iret C dX11_thereAt_55 ⟨rfl, rfl⟩
      · rw [if_neg c4] at hF
        refine gr_iload_n C 3 dX11_thereAt_14 rfl rfl ?_
        refine gr_aload_n C 0 dX11_thereAt_15 rfl rfl ?_
        refine gr_getR C 0 4 2 dX11_thereAt_16 (scm_0 hw) rfl inX11 (by decide) ln13 rfl ?_
        refine gr_iload C 4 dX11_thereAt_19 rfl ?_
        obtain ⟨h6, x5, ex5, hF⟩ := gRd_e hF
        refine gr_iald C 2 8 dX11_thereAt_21 (scm_2 hw) h6 ?_
        refine gr_nmI ex5 ?_
        refine gr_iload_n C 2 dX11_thereAt_22 rfl rfl ?_
        obtain ⟨K7, eK7, hF⟩ := gLet_e hF
        have JK7 : ∀ (x8 : Int32) (g9 : Sg), K7 x8 g9 = some (r, σ') → gG X w g9 46 [(0, .ref (w.2.2.1 0)), (1, .int a0), (2, .int a1), (4, .int x2)] [.int x8, .int x1] := by
          intro x8 g9 hF
          rw [eK7] at hF
          try dsimp only at hF
          refine gr_ior C dX11_thereAt_46 ?_
          obtain ⟨x10, ex10, hF⟩ := gLet_e hF
          refine gr_nmI ex10 ?_
          refine gr_istore_n C [(3, .int x10), (0, .ref (w.2.2.1 0)), (1, .int a0), (2, .int a1), (4, .int x2)] dX11_thereAt_47 rfl (by decide) rfl ?_
          obtain ⟨x11, ex11, hF⟩ := gLet_e hF
          refine gr_iinc C (v := x11) 4 [(4, .int x11), (3, .int x10), (0, .ref (w.2.2.1 0)), (1, .int a0), (2, .int a1)] dX11_thereAt_48 rfl (by rw [ex11]; rfl) (by decide) rfl ?_
          refine gr_goto C 5 dX11_thereAt_51 (by decide) ?_
          refine gr_sub [2, 3, 4, 1, 0] [(0, .ref (w.2.2.1 0)), (1, .int a0), (2, .int a1), (3, .int x10), (4, .int x11)] rfl ?_
          exact ih x10 x11 g9   hF
        obtain ⟨K12, eK12, hF⟩ := gLet_e hF
        have JK12 : ∀  (g13 : Sg), K12  g13 = some (r, σ') → gG X w g13 45 [(0, .ref (w.2.2.1 0)), (1, .int a0), (2, .int a1), (4, .int x2)] [.int x1] := by
          intro g13 hF
          rw [eK12] at hF
          try dsimp only at hF
          refine gr_iconst C (v := 0) dX11_thereAt_45 (by decide) ?_
          exact JK7 (0 : Int32) g13 hF
        refine gr_icmp_ne C 45 dX11_thereAt_23 (by decide) (fun c14 => ?_) (fun c14 => ?_)
        · rw [if_neg c14] at hF
          refine gr_sub [0, 1, 2, 4] [(0, .ref (w.2.2.1 0)), (1, .int a0), (2, .int a1), (4, .int x2)] rfl ?_
          exact JK12  g3 hF
        · rw [if_pos c14] at hF
          refine gr_sub [0, 1, 2, 4] [(0, .ref (w.2.2.1 0)), (1, .int a0), (2, .int a1), (4, .int x2)] rfl ?_
          refine gr_aload_n C 0 dX11_thereAt_26 rfl rfl ?_
          refine gr_getR C 0 15 10 dX11_thereAt_27 (scm_0 hw) rfl inX11 (by decide) ln37 rfl ?_
          refine gr_iload_n C 1 dX11_thereAt_30 rfl rfl ?_
          refine gr_iload C 3 dX11_thereAt_31 rfl ?_
          refine gr_iadd C dX11_thereAt_33 ?_
          obtain ⟨h16, x15, ex15, hF⟩ := gRd_e hF
          refine gr_iald C 10 336 dX11_thereAt_34 (scm_10 hw) h16 ?_
          refine gr_nmI ex15 ?_
          refine gr_if_le C 45 dX11_thereAt_35 (by decide) (fun c17 => ?_) (fun c17 => ?_)
          · rw [if_pos c17] at hF
            exact JK12  g3 hF
          · rw [if_neg c17] at hF
            refine gr_iconst C (v := 1) dX11_thereAt_38 (by decide) ?_
            refine gr_iload C 3 dX11_thereAt_39 rfl ?_
            refine gr_ishl C dX11_thereAt_41 ?_
            refine gr_goto C 46 dX11_thereAt_42 (by decide) ?_
            exact JK7 ((1 : Int32) <<< (x2 &&& 31)) g3 hF
  refine L18 _ (0 : Int32) (0 : Int32) σ   hF
-- X11_leftAt: 33 instructions, frames 2, locals 51
set_option maxRecDepth 100000 in
set_option maxHeartbeats 4000000 in
theorem mX11_leftAt (l : Launch) {w : Wl} (hw : w.2.2.2 = shM) {σ : Sg} {a0 : Int32} {a1 : Int32}  {r : Int32} {σ' : Sg} (hF : fX11_leftAt σ a0 a1 = some (r, σ')) : gMI l w yX11_leftAt wsX11_leftAt ({ frames := 2, cells := 0, slots := 0, locals := 51 } : Room) [.ref (w.2.2.1 0), .int a0, .int a1] σ r σ' := by
  have inX11 : ∀ v ∈ u_ws RX11 TX11 32, v ∈ wsX11_leftAt := by decide +kernel
  have ln37 : Cond.fieldLink RX11 37 (TX11 15).1 (TX11 15).2.1 (TX11 15).2.2.1 ∈ wsX11_leftAt := by decide +kernel
  refine gStartI cX11_leftAt 3 RX11 rfl (by decide) rfl (Nat.le_of_ble_eq_true rfl) ?_
  intro X hl C
  show gG X w σ 0 [(0, .ref (w.2.2.1 0)), (1, .int a0), (2, .int a1)] []
  unfold fX11_leftAt at hF
  refine gr_aload_n C 0 dX11_leftAt_0 rfl rfl ?_
  refine gr_iload_n C 2 dX11_leftAt_1 rfl rfl ?_
  refine gr_aload_n C 0 dX11_leftAt_2 rfl rfl ?_
  refine gr_getR C 0 15 10 dX11_leftAt_3 (scm_0 hw) rfl inX11 (by decide) ln37 rfl ?_
  refine gr_iload_n C 1 dX11_leftAt_6 rfl rfl ?_
  refine gr_bipush C (v := 9) dX11_leftAt_7 (by decide) ?_
  refine gr_iadd C dX11_leftAt_9 ?_
  refine gr_iload_n C 2 dX11_leftAt_10 rfl rfl ?_
  refine gr_iadd C dX11_leftAt_11 ?_
  obtain ⟨h2, x1, ex1, hF⟩ := gRd_e hF
  refine gr_iald C 10 336 dX11_leftAt_12 (scm_10 hw) h2 ?_
  refine gr_nmI ex1 ?_
  refine gr_aload_n C 0 dX11_leftAt_13 rfl rfl ?_
  refine gr_getR C 0 15 10 dX11_leftAt_14 (scm_0 hw) rfl inX11 (by decide) ln37 rfl ?_
  refine gr_iload_n C 1 dX11_leftAt_17 rfl rfl ?_
  refine gr_bipush C (v := 18) dX11_leftAt_18 (by decide) ?_
  refine gr_iadd C dX11_leftAt_20 ?_
  refine gr_iload_n C 2 dX11_leftAt_21 rfl rfl ?_
  refine gr_iadd C dX11_leftAt_22 ?_
  obtain ⟨h4, x3, ex3, hF⟩ := gRd_e hF
  refine gr_iald C 10 336 dX11_leftAt_23 (scm_10 hw) h4 ?_
  refine gr_nmI ex3 ?_
  refine gr_aload_n C 0 dX11_leftAt_24 rfl rfl ?_
  refine gr_iload_n C 1 dX11_leftAt_25 rfl rfl ?_
  refine gr_iload_n C 2 dX11_leftAt_26 rfl rfl ?_
  obtain ⟨r7, g6, hc5, hF⟩ := gCl_e hF
  refine gr_callVI C (n := 2) (As := [.int a0, .int a1]) (rest := [.int x3, .int x1, .int a1, .ref (w.2.2.1 0)]) 0 (mX11_thereAt X.2.1 hw  hc5) gX11_leftAt_X11_thereAt rfl ⟨rfl, rfl⟩ ⟨by decide, by decide⟩ rfl (Nat.le_of_ble_eq_true rfl) rfl (by decide +kernel) (scm_0 hw) rfl dX11_leftAt_27 ?_
  refine gr_aload_n C 0 dX11_leftAt_30 rfl rfl ?_
  refine gr_getR C 0 15 10 dX11_leftAt_31 (scm_0 hw) rfl inX11 (by decide) ln37 rfl ?_
  refine gr_iload_n C 1 dX11_leftAt_34 rfl rfl ?_
  refine gr_bipush C (v := 8) dX11_leftAt_35 (by decide) ?_
  refine gr_iadd C dX11_leftAt_37 ?_
  obtain ⟨h9, x8, ex8, hF⟩ := gRd_e hF
  refine gr_iald C 10 336 dX11_leftAt_38 (scm_10 hw) h9 ?_
  refine gr_nmI ex8 ?_
  refine gr_iconst C (v := -1) dX11_leftAt_39 (by decide) ?_
  refine gr_ixor C dX11_leftAt_40 ?_
  refine gr_iand C dX11_leftAt_41 ?_
  obtain ⟨r12, g11, hc10, hF⟩ := gCl_e hF
  refine gr_callVI C (n := 4) (As := [.int a1, .int x1, .int x3, .int (r7 &&& (x8 ^^^ (-1 : Int32)))]) (rest := []) 0 (mX11_pours X.2.1 hw  hc10) gX11_leftAt_X11_pours rfl ⟨rfl, rfl⟩ ⟨by decide, by decide⟩ rfl (Nat.le_of_ble_eq_true rfl) rfl (by decide +kernel) (scm_0 hw) rfl dX11_leftAt_42 ?_
  cases hF
  exact gr_iret C dX11_leftAt_45 ⟨rfl, rfl⟩
-- X11_step: 44 instructions, frames 3, locals 73
set_option maxRecDepth 100000 in
set_option maxHeartbeats 4000000 in
theorem mX11_step (l : Launch) {w : Wl} (hw : w.2.2.2 = shM) {σ : Sg} {a0 : Int32} {a1 : Int32}  {r : Int32} {σ' : Sg} (hF : fX11_step σ a0 a1 = some (r, σ')) : gMI l w yX11_step wsX11_step ({ frames := 3, cells := 0, slots := 0, locals := 73 } : Room) [.ref (w.2.2.1 0), .int a0, .int a1] σ r σ' := by
  have inX11 : ∀ v ∈ u_ws RX11 TX11 32, v ∈ wsX11_step := by decide +kernel
  have ln37 : Cond.fieldLink RX11 37 (TX11 15).1 (TX11 15).2.1 (TX11 15).2.2.1 ∈ wsX11_step := by decide +kernel
  have k179 : Cond.constantLong RX11 179 (3) ∈ wsX11_step := by decide +kernel
  refine gStartI cX11_step 3 RX11 rfl (by decide) rfl (Nat.le_of_ble_eq_true rfl) ?_
  intro X hl C
  show gG X w σ 0 [(0, .ref (w.2.2.1 0)), (1, .int a0), (2, .int a1)] []
  unfold fX11_step at hF
  refine gr_aload_n C 0 dX11_step_0 rfl rfl ?_
  refine gr_iload_n C 1 dX11_step_1 rfl rfl ?_
  obtain ⟨r3, g2, hc1, hF⟩ := gCl_e hF
  refine gr_callVI C (n := 1) (As := [.int a0]) (rest := []) 0 (mX11_isStep X.2.1 hw  hc1) gX11_step_X11_isStep rfl ⟨rfl, rfl⟩ ⟨by decide, by decide⟩ rfl (Nat.le_of_ble_eq_true rfl) rfl (by decide +kernel) (scm_0 hw) rfl dX11_step_2 ?_
  refine gr_if_eq C 20 dX11_step_5 (by decide) (fun c4 => ?_) (fun c4 => ?_)
  · rw [if_pos c4] at hF
    refine gr_sub [] [] rfl ?_
    refine gr_iconst C (v := -1) dX11_step_20 (by decide) ?_
    cases hF
    exact gr_iret C dX11_step_21 ⟨rfl, rfl⟩
  · rw [if_neg c4] at hF
    refine gr_iload_n C 2 dX11_step_8 rfl rfl ?_
    refine gr_i2l C dX11_step_9 ?_
    refine gr_lconst C (v := 0) dX11_step_10 (by decide) ?_
    refine gr_ldc2 C (v := 3) dX11_step_11 k179 ?_
    obtain ⟨r7, g6, hc5, hF⟩ := gCl_e hF
    refine gr_callSI C (n := 3) (As := [.long (a1.toInt64), .long (0 : Int64), .long (3 : Int64)]) (rest := []) (mX11_in X.2.1 hw  hc5) gX11_step_X11_in rfl ⟨rfl, rfl⟩ ⟨by decide, by decide⟩ rfl (Nat.le_of_ble_eq_true rfl) rfl (by decide +kernel) dX11_step_14 ?_
    refine gr_if_ne C 22 dX11_step_17 (by decide) (fun c8 => ?_) (fun c8 => ?_)
    · rw [if_neg c8] at hF
      refine gr_iload_n C 2 dX11_step_22 rfl rfl ?_
      refine gr_if_ne C 38 dX11_step_23 (by decide) (fun c9 => ?_) (fun c9 => ?_)
      · rw [if_neg c9] at hF
        refine gr_iload_n C 2 dX11_step_38 rfl rfl ?_
        refine gr_iconst C (v := 1) dX11_step_39 (by decide) ?_
        refine gr_icmp_ne C 55 dX11_step_40 (by decide) (fun c10 => ?_) (fun c10 => ?_)
        · rw [if_neg c10] at hF
          refine gr_iload_n C 2 dX11_step_55 rfl rfl ?_
          refine gr_iconst C (v := 2) dX11_step_56 (by decide) ?_
          refine gr_icmp_ne C 69 dX11_step_57 (by decide) (fun c11 => ?_) (fun c11 => ?_)
          · rw [if_neg c11] at hF
            refine gr_sub [0, 1] [(0, .ref (w.2.2.1 0)), (1, .int a0)] rfl ?_
            refine gr_aload_n C 0 dX11_step_69 rfl rfl ?_
            refine gr_iconst C (v := 0) dX11_step_70 (by decide) ?_
            refine gr_iload_n C 1 dX11_step_71 rfl rfl ?_
            obtain ⟨r14, g13, hc12, hF⟩ := gCl_e hF
            refine gr_callVI C (n := 2) (As := [.int (0 : Int32), .int a0]) (rest := []) 0 (mX11_thereAt X.2.1 hw  hc12) gX11_step_X11_thereAt rfl ⟨rfl, rfl⟩ ⟨by decide, by decide⟩ rfl (Nat.le_of_ble_eq_true rfl) rfl (by decide +kernel) (scm_0 hw) rfl dX11_step_72 ?_
            cases hF
            exact gr_iret C dX11_step_75 ⟨rfl, rfl⟩
          · rw [if_pos c11] at hF
            refine gr_sub [0, 1] [(0, .ref (w.2.2.1 0)), (1, .int a0)] rfl ?_
            refine gr_aload_n C 0 dX11_step_60 rfl rfl ?_
            refine gr_iconst C (v := 0) dX11_step_61 (by decide) ?_
            refine gr_iload_n C 1 dX11_step_62 rfl rfl ?_
            obtain ⟨r17, g16, hc15, hF⟩ := gCl_e hF
            refine gr_callVI C (n := 2) (As := [.int (0 : Int32), .int a0]) (rest := []) 0 (mX11_leftAt X.2.1 hw  hc15) gX11_step_X11_leftAt rfl ⟨rfl, rfl⟩ ⟨by decide, by decide⟩ rfl (Nat.le_of_ble_eq_true rfl) rfl (by decide +kernel) (scm_0 hw) rfl dX11_step_63 ?_
            refine gr_goto C 75 dX11_step_66 (by decide) ?_
            refine gr_sub [] [] rfl ?_
            cases hF
            exact gr_iret C dX11_step_75 ⟨rfl, rfl⟩
        · rw [if_pos c10] at hF
          refine gr_sub [0, 1] [(0, .ref (w.2.2.1 0)), (1, .int a0)] rfl ?_
          refine gr_aload_n C 0 dX11_step_43 rfl rfl ?_
          refine gr_getR C 0 15 10 dX11_step_44 (scm_0 hw) rfl inX11 (by decide) ln37 rfl ?_
          refine gr_bipush C (v := 18) dX11_step_47 (by decide) ?_
          refine gr_iload_n C 1 dX11_step_49 rfl rfl ?_
          refine gr_iadd C dX11_step_50 ?_
          obtain ⟨h19, x18, ex18, hF⟩ := gRd_e hF
          refine gr_iald C 10 336 dX11_step_51 (scm_10 hw) h19 ?_
          refine gr_nmI ex18 ?_
          refine gr_goto C 75 dX11_step_52 (by decide) ?_
          refine gr_sub [] [] rfl ?_
          cases hF
          exact gr_iret C dX11_step_75 ⟨rfl, rfl⟩
      · rw [if_pos c9] at hF
        refine gr_sub [0, 1] [(0, .ref (w.2.2.1 0)), (1, .int a0)] rfl ?_
        refine gr_aload_n C 0 dX11_step_26 rfl rfl ?_
        refine gr_getR C 0 15 10 dX11_step_27 (scm_0 hw) rfl inX11 (by decide) ln37 rfl ?_
        refine gr_bipush C (v := 9) dX11_step_30 (by decide) ?_
        refine gr_iload_n C 1 dX11_step_32 rfl rfl ?_
        refine gr_iadd C dX11_step_33 ?_
        obtain ⟨h21, x20, ex20, hF⟩ := gRd_e hF
        refine gr_iald C 10 336 dX11_step_34 (scm_10 hw) h21 ?_
        refine gr_nmI ex20 ?_
        refine gr_goto C 75 dX11_step_35 (by decide) ?_
        refine gr_sub [] [] rfl ?_
        cases hF
        exact gr_iret C dX11_step_75 ⟨rfl, rfl⟩
    · rw [if_pos c8] at hF
      refine gr_sub [] [] rfl ?_
      refine gr_iconst C (v := -1) dX11_step_20 (by decide) ?_
      cases hF
      exact gr_iret C dX11_step_21 ⟨rfl, rfl⟩
