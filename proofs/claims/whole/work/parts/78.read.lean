/-! ===== the class reads a text ===== -/
theorem addY_0 {Q : Ql} {f : Nat → Nat} : addY (setQ Q 0 3 0) f = addY Q f := by
  funext a b
  unfold addY
  rw [setQ_n (a := 0) (b := 2) (by omega)]
  by_cases h : a = 0
  · rw [if_pos h, if_pos h]
    by_cases h2 : b = 2
    · rw [if_pos h2, if_pos h2]
    · rw [if_neg h2, if_neg h2]
      by_cases h3 : b = 3
      · rw [if_pos h3, if_pos h3]
      · rw [if_neg h3, if_neg h3, setQ_n (by omega)]
  · rw [if_neg h, if_neg h, setQ_n (a := a) (by omega)]
theorem plI_only {p0 : Nat} {Q : Ql} {g : Sg} (h : plI p0 Q g) : plI p0 (setQ Q 0 3 0) (setC g p0 (upd (g p0) 12 0)) := by
  obtain ⟨a1, a2, a3, a4, a5, a6, a7⟩ := h
  refine ⟨by rw [setC_s, upd_n (by decide), setQ_n (by omega)]; exact a1, by rw [setC_s, upd_n (by decide), setQ_n (by omega)]; exact a2, by rw [setC_s, upd_n (by decide), setQ_n (by omega)]; exact a3, by rw [setC_s, upd_s, setQ_s]; rfl, fun i h1 h2 y hy => ?_, fun x hx => ?_, fun x hx => by rw [setC_n (by omega)]; exact a7 x hx⟩
  · rw [setQ_n (by omega)] at hy
    rw [setC_n (by omega), setQ_n (by omega)]
    exact a5 i h1 h2 y hy
  · rw [setC_n (by omega), setC_n (by omega), setQ_n (by omega), setQ_n (by omega)]
    exact a6 x hx
theorem tkOk_0 {Q : Ql} {c k : Nat} {f : Nat → Nat} (h : c ≠ 115) : tkOk (setQ Q 0 3 0) c k f ↔ tkOk Q c k f := by
  have e1 : cnd (setQ Q 0 3 0) c ↔ cnd Q c := by
    unfold cnd
    rw [setQ_n (a := 0) (b := 2) (by omega)]
    exact ⟨fun x => ⟨fun z => absurd z h, x.2⟩, fun x => ⟨fun z => absurd z h, x.2⟩⟩
  have e2 : ∀ i, rhi (setQ Q 0 3 0) c i = rhi Q c i := by
    intro i
    unfold rhi
    rw [setQ_n (a := 0) (b := 0) (by omega)]
  unfold tkOk
  rw [e1]
  simp only [e2]
theorem f_take {p0 c k : Nat} {Q : Ql} {f : Nat → Nat} {g : Sg} (h4 : 4 ≤ p0) (hI : plI p0 Q g) (hQ : qOk Q) (hc : c ≤ 126) (hk : 1 ≤ k) (hk5 : k ≤ 5) (hf : ∀ i, i < k → g 3 i = nI (f i) ∧ f i ≤ 99) : (tkOk Q c k f → ∃ g', fX3_take g p0 (nI c) (nI k) = some (1, g') ∧ plI p0 (apQ Q c f) g' ∧ frP p0 g g') ∧ (¬ tkOk Q c k f → ∃ g', fX3_take g p0 (nI c) (nI k) = some (0, g') ∧ frP p0 g g') := by
  have eqc : ∀ m : Nat, m ≤ 200 → (nI c = nI m ↔ c = m) := fun m hm => nI_inj (by omega) (by omega)
  unfold fX3_take
  simp only [gLet, gUp_c]
  rw [show (115 : Int32) = nI 115 from rfl, show (99 : Int32) = nI 99 from rfl, show (104 : Int32) = nI 104 from rfl, show (107 : Int32) = nI 107 from rfl, show (121 : Int32) = nI 121 from rfl]
  by_cases c1 : c = 115
  · subst c1
    obtain ⟨b1, b2⟩ := f_takeSteps h4 hI hQ hk hk5 hf
    rw [if_pos rfl]
    refine ⟨fun h => ?_, fun h => ?_⟩
    · obtain ⟨g', e1, e2, e3⟩ := b1 h
      rw [e1, gCl_s, gZ_1]
      exact ⟨g', rfl, e2, e3⟩
    · rw [b2 h, gCl_s, gZ_0]
      exact ⟨g, rfl, frP_rf⟩
  rw [if_neg (by rw [eqc _ (by omega)]; exact c1)]
  have hI1 := plI_only hI
  have fr1 : frP p0 g (setC g p0 (upd (g p0) 12 0)) := frP_set (by omega)
  have hf1 : ∀ i, i < k → (setC g p0 (upd (g p0) 12 0)) 3 i = nI (f i) ∧ f i ≤ 99 := fun i hi => by rw [setC_n (by omega)]; exact hf i hi
  have q0 : (setQ Q 0 3 0) 0 0 = Q 0 0 := setQ_n (by omega)
  have q2 : (setQ Q 0 3 0) 0 2 = Q 0 2 := setQ_n (by omega)
  have hQ1 := hQ.1
  have hQ9 := hQ.2.1
  have hQ8 := hQ.2.2.2.2.1
  by_cases c2 : c = 99
  · subst c2
    obtain ⟨b1, b2⟩ := f_takeAt (c := 99) (j := 6) (m := 40) h4 hI1 (by omega) (by omega) hk hk5 hf1 (Or.inr ⟨rfl, rfl, rfl⟩)
    rw [tkOk_0 c1] at b1 b2
    rw [if_pos rfl, show (40 : Int32) = nI 40 from rfl]
    refine ⟨fun h => ?_, fun h => ?_⟩
    · obtain ⟨g', e1, e2, e3⟩ := b1 h
      rw [e1, gCl_s, gZ_1]
      exact ⟨g', rfl, e2, frP_tr fr1 e3⟩
    · rw [b2 h, gCl_s, gZ_0]
      exact ⟨_, rfl, fr1⟩
  rw [if_neg (by rw [eqc _ (by omega)]; exact c2)]
  by_cases c3 : c = 104
  · subst c3
    obtain ⟨b1, b2⟩ := f_takeHold h4 hI1 hk hk5 hf1
    rw [tkOk_0 c1] at b1 b2
    rw [if_pos rfl]
    refine ⟨fun h => ?_, fun h => ?_⟩
    · obtain ⟨g', e1, e2, e3⟩ := b1 h
      rw [e1, gCl_s, gZ_1]
      exact ⟨g', rfl, e2, frP_tr fr1 e3⟩
    · rw [b2 h, gCl_s, gZ_0]
      exact ⟨_, rfl, fr1⟩
  rw [if_neg (by rw [eqc _ (by omega)]; exact c3)]
  by_cases c4 : c = 107
  · subst c4
    obtain ⟨b1, b2⟩ := f_takeAt (c := 107) (j := 7) (m := 9) h4 hI1 (by omega) (by omega) hk hk5 hf1 (Or.inl ⟨rfl, rfl, rfl⟩)
    rw [tkOk_0 c1] at b1 b2
    rw [if_pos rfl, show (9 : Int32) = nI 9 from rfl]
    refine ⟨fun h => ?_, fun h => ?_⟩
    · obtain ⟨g', e1, e2, e3⟩ := b1 h
      rw [e1, gCl_s, gZ_1]
      exact ⟨g', rfl, e2, frP_tr fr1 e3⟩
    · rw [b2 h, gCl_s, gZ_0]
      exact ⟨_, rfl, fr1⟩
  rw [if_neg (by rw [eqc _ (by omega)]; exact c4)]
  by_cases c5 : c = 121
  · subst c5
    obtain ⟨b1, b2⟩ := f_takeY h4 hI1 setQ_s (by omega) (by omega) (by omega) hk hk5 hf1
    rw [tkOk_0 c1, addY_0] at b1
    rw [tkOk_0 c1] at b2
    rw [if_pos rfl]
    refine ⟨fun h => ?_, fun h => ?_⟩
    · obtain ⟨g', e1, e2, e3⟩ := b1 h
      rw [e1, gCl_s, gZ_1]
      exact ⟨g', rfl, e2, frP_tr fr1 e3⟩
    · rw [b2 h, gCl_s, gZ_0]
      exact ⟨_, rfl, fr1⟩
  rw [if_neg (by rw [eqc _ (by omega)]; exact c5)]
  refine ⟨fun h => ?_, fun _ => ⟨_, rfl, fr1⟩⟩
  have := h.2.1
  unfold rn at this
  rw [if_neg c1, if_neg c5, if_neg c4, if_neg c2, if_neg c3] at this
  omega
theorem qOk_ap {Q : Ql} {c k : Nat} {f : Nat → Nat} (hQ : qOk Q) (hk1 : 1 ≤ k) (h : tkOk Q c k f) : qOk (apQ Q c f) := by
  obtain ⟨a1, a2, a3, a4, a5, a6, a7, a8, a9, a10⟩ := hQ
  have h2 := h.2.1
  have h3 := h.2.2
  unfold rn at h2
  unfold apQ
  by_cases c1 : c = 115
  · subst c1
    rw [if_pos rfl] at h2 ⊢
    have h1 := h.1.1 rfl
    have r : 1 ≤ f 0 ∧ f 0 ≤ 9 := h3 0 (by omega)
    have z := a7 h1
    refine ⟨by rw [setQ_s]; exact r.1, by rw [setQ_s]; exact r.2, by rw [setQ_n (by omega)]; exact a3, by rw [setQ_n (by omega)]; exact a4, by rw [setQ_n (by omega)]; exact a5, by rw [setQ_n (by omega)]; exact a6, fun _ => ⟨by rw [setQ_n (by omega)]; exact z.1, fun x hx => by rw [setQ_n (by omega)]; exact z.2 x hx⟩, fun y hy => ?_, fun y hy h8 => ?_, fun x hx => ?_⟩
    · rw [setQ_n (by omega)] at hy
      omega
    · rw [setQ_n (by omega)] at hy
      rw [setQ_n (by omega)]
      exact a9 y hy h8
    · rw [setQ_n (by omega), setQ_n (by omega)]
      exact ⟨(a10 x hx).1, (a10 x hx).2.1, fun _ => z.2 x hx⟩
  rw [if_neg c1] at h2 ⊢
  by_cases c5 : c = 121
  · subst c5
    rw [if_pos rfl]
    obtain ⟨b1, b2, b3, b4, b5, b6, b7, b8, b9⟩ := (ok_y a1).mp h
    have e : ∀ i y, 1 ≤ i → i ≤ 5 → addY Q f i y = if y = Q 0 2 then f (i - 1) else Q i y := by
      intro i y h1 h2
      unfold addY
      rw [if_neg (by omega)]
      by_cases e : y = Q 0 2
      · rw [if_pos ⟨e, h2⟩, if_pos e]
      · rw [if_neg (by omega), if_neg e]
    have e6 : ∀ x, addY Q f 6 x = Q 6 x := fun x => by unfold addY; rw [if_neg (by decide), if_neg (by omega)]
    have e7 : ∀ x, addY Q f 7 x = Q 7 x := fun x => by unfold addY; rw [if_neg (by decide), if_neg (by omega)]
    refine ⟨a1, a2, a3, a4, b2, Nat.zero_le _, fun h => absurd (show (0 : Nat) = 1 from h) (by decide), fun y hy => ?_, fun y hy h8 => ?_, fun x hx => by rw [e6, e7]; exact a10 x hx⟩
    · have hy : y < Q 0 2 + 1 := hy
      rw [e 1 y (by omega) (by omega), e 2 y (by omega) (by omega), e 3 y (by omega) (by omega), e 4 y (by omega) (by omega), e 5 y (by omega) (by omega)]
      show _ ∧ _ < Q 0 0 ∧ _
      by_cases z : y = Q 0 2
      · rw [if_pos z, if_pos z, if_pos z, if_pos z, if_pos z]
        exact ⟨b3, b4, b5, b6, b7, b8, b9⟩
      · rw [if_neg z, if_neg z, if_neg z, if_neg z, if_neg z]
        exact a8 y (by omega)
    · have hy : Q 0 2 + 1 ≤ y := hy
      rw [e 5 y (by omega) (by omega), if_neg (by omega)]
      exact a9 y (by omega) h8
  rw [if_neg c5] at h2 ⊢
  have e30 : ∀ {i j v : Nat}, i ≠ 0 ∨ j ≠ 3 → (setQ (setQ Q 0 3 0) i j v) 0 3 = 0 := fun hh => by rw [setQ_n (by omega), setQ_s]
  by_cases c4 : c = 107
  · subst c4
    rw [if_pos rfl] at h2 ⊢
    have r0 : f 0 ≤ Q 0 0 - 1 := (h3 0 (by omega)).2
    have r1 : f 1 ≤ 9 := (h3 1 (by omega)).2
    refine ⟨by rw [setQ_n (by omega), setQ_n (by omega)]; exact a1, by rw [setQ_n (by omega), setQ_n (by omega)]; exact a2, by rw [setQ_n (by omega), setQ_n (by omega)]; exact a3, by rw [setQ_n (by omega), setQ_n (by omega)]; exact a4, by rw [setQ_n (by omega), setQ_n (by omega)]; exact a5, by rw [e30 (by omega)]; omega, fun h => by rw [e30 (by omega)] at h; exact absurd h (by decide), fun y hy => ?_, fun y hy h8 => ?_, fun x hx => ?_⟩
    · rw [setQ_n (by omega), setQ_n (by omega)] at hy
      rw [setQ_n (by omega), setQ_n (by omega), setQ_n (by omega), setQ_n (by omega), setQ_n (by omega), setQ_n (by omega), setQ_n (by omega), setQ_n (by omega), setQ_n (by omega), setQ_n (by omega), setQ_n (by omega), setQ_n (by omega)]
      exact a8 y hy
    · rw [setQ_n (by omega), setQ_n (by omega)] at hy
      rw [setQ_n (by omega), setQ_n (by omega)]
      exact a9 y hy h8
    · rw [setQ_n (a := 6) (by omega), setQ_n (a := 6) (by omega), setQ_n (a := 0) (by omega), setQ_n (a := 0) (by omega)]
      refine ⟨(a10 x hx).1, ?_, (a10 x hx).2.2⟩
      by_cases z : x = f 0
      · rw [z, setQ_s]; exact r1
      · rw [setQ_n (by omega), setQ_n (by omega)]; exact (a10 x hx).2.1
  rw [if_neg c4] at h2 ⊢
  by_cases c2 : c = 99
  · subst c2
    rw [if_pos rfl] at h2 ⊢
    have r0 : f 0 ≤ Q 0 0 - 1 := (h3 0 (by omega)).2
    have r1 : f 1 ≤ 40 := (h3 1 (by omega)).2
    refine ⟨by rw [setQ_n (by omega), setQ_n (by omega)]; exact a1, by rw [setQ_n (by omega), setQ_n (by omega)]; exact a2, by rw [setQ_n (by omega), setQ_n (by omega)]; exact a3, by rw [setQ_n (by omega), setQ_n (by omega)]; exact a4, by rw [setQ_n (by omega), setQ_n (by omega)]; exact a5, by rw [e30 (by omega)]; omega, fun h => by rw [e30 (by omega)] at h; exact absurd h (by decide), fun y hy => ?_, fun y hy h8 => ?_, fun x hx => ?_⟩
    · rw [setQ_n (by omega), setQ_n (by omega)] at hy
      rw [setQ_n (by omega), setQ_n (by omega), setQ_n (by omega), setQ_n (by omega), setQ_n (by omega), setQ_n (by omega), setQ_n (by omega), setQ_n (by omega), setQ_n (by omega), setQ_n (by omega), setQ_n (by omega), setQ_n (by omega)]
      exact a8 y hy
    · rw [setQ_n (by omega), setQ_n (by omega)] at hy
      rw [setQ_n (by omega), setQ_n (by omega)]
      exact a9 y hy h8
    · rw [setQ_n (a := 7) (by omega), setQ_n (a := 7) (by omega), setQ_n (a := 0) (by omega), setQ_n (a := 0) (by omega)]
      by_cases z : x = f 0
      · rw [z, setQ_s]; exact ⟨r1, (a10 (f 0) (by omega)).2.1, fun h => by omega⟩
      · rw [setQ_n (by omega), setQ_n (by omega)]; exact a10 x hx
  rw [if_neg c2] at h2 ⊢
  by_cases c3 : c = 104
  · subst c3
    rw [if_pos rfl] at h2
    have r : 1 ≤ f 0 ∧ f 0 ≤ 99 := h3 0 (by omega)
    refine ⟨by rw [setQ_n (by omega), setQ_n (by omega)]; exact a1, by rw [setQ_n (by omega), setQ_n (by omega)]; exact a2, by rw [setQ_s]; exact r.1, by rw [setQ_s]; exact r.2, by rw [setQ_n (by omega), setQ_n (by omega)]; exact a5, by rw [e30 (by omega)]; omega, fun h => by rw [e30 (by omega)] at h; exact absurd h (by decide), fun y hy => ?_, fun y hy h8 => ?_, fun x hx => ?_⟩
    · rw [setQ_n (by omega), setQ_n (by omega)] at hy
      rw [setQ_n (by omega), setQ_n (by omega), setQ_n (by omega), setQ_n (by omega), setQ_n (by omega), setQ_n (by omega), setQ_n (by omega), setQ_n (by omega), setQ_n (by omega), setQ_n (by omega), setQ_n (by omega), setQ_n (by omega)]
      exact a8 y hy
    · rw [setQ_n (by omega), setQ_n (by omega)] at hy
      rw [setQ_n (by omega), setQ_n (by omega)]
      exact a9 y hy h8
    · rw [setQ_n (a := 6) (by omega), setQ_n (a := 6) (by omega), setQ_n (a := 7) (by omega), setQ_n (a := 7) (by omega), setQ_n (a := 0) (by omega), setQ_n (a := 0) (by omega)]
      exact a10 x hx
  · rw [if_neg c3] at h2
    omega
