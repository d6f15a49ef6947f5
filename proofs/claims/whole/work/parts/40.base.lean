/-! ===== numbers ===== -/
theorem le_tI {x y : Int32} : x ≤ y ↔ x.toInt ≤ y.toInt := Int32.le_iff_toInt_le
theorem lt_tI {x y : Int32} : x < y ↔ x.toInt < y.toInt := Int32.lt_iff_toInt_lt
theorem eq_tI {x y : Int32} : x = y ↔ x.toInt = y.toInt := Int32.toInt_inj.symm
theorem tI_lo (x : Int32) : -2147483648 ≤ x.toInt := Int32.le_toInt x
theorem tI_hi (x : Int32) : x.toInt < 2147483648 := Int32.toInt_lt x
theorem bmod_id {z : Int} (h1 : -2147483648 ≤ z) (h2 : z < 2147483648) : z.bmod (2 ^ 32) = z := by
  rw [Int.bmod_def]
  split <;> omega
theorem tI_add {x y : Int32} (h1 : -2147483648 ≤ x.toInt + y.toInt) (h2 : x.toInt + y.toInt < 2147483648) : (x + y).toInt = x.toInt + y.toInt := by
  rw [Int32.toInt_add, bmod_id h1 h2]
theorem tI_sub {x y : Int32} (h1 : -2147483648 ≤ x.toInt - y.toInt) (h2 : x.toInt - y.toInt < 2147483648) : (x - y).toInt = x.toInt - y.toInt := by
  rw [Int32.toInt_sub, bmod_id h1 h2]
theorem tI_mul {x y : Int32} (h1 : -2147483648 ≤ x.toInt * y.toInt) (h2 : x.toInt * y.toInt < 2147483648) : (x * y).toInt = x.toInt * y.toInt := by
  rw [Int32.toInt_mul, bmod_id h1 h2]
theorem tI_nI {n : Nat} (h : n < 2147483648) : (nI n).toInt = (n : Int) := nI_toInt h
theorem nI_tI {x : Int32} {n : Nat} (h : x.toInt = (n : Int)) : x = nI n := by
  rw [eq_tI, tI_nI (by have := tI_hi x; omega), h]
theorem nI_ex {x : Int32} (h : 0 ≤ x.toInt) : ∃ n : Nat, x = nI n ∧ x.toInt = (n : Int) := ⟨x.toInt.toNat, nI_tI (by omega), by omega⟩
theorem clamp_tI (x : Int32) : x.toNatClampNeg = x.toInt.toNat := rfl
theorem nI_cl {n : Nat} (h : n < 2147483648) : (nI n).toNatClampNeg = n := nI_clamp h
theorem nI_inj {a b : Nat} (ha : a < 2147483648) (hb : b < 2147483648) : nI a = nI b ↔ a = b := nI_eq ha hb
theorem nI_leN {a b : Nat} (ha : a < 2147483648) (hb : b < 2147483648) : nI a ≤ nI b ↔ a ≤ b := nI_leI ha hb
theorem nI_ltN {a b : Nat} (ha : a < 2147483648) (hb : b < 2147483648) : nI a < nI b ↔ a < b := nI_ltI ha hb
/-! ===== the words of the programs, at places that are in range ===== -/
theorem gIn_n {i n : Nat} (h : i < n) (hn : n ≤ 1000) : gIn (nI i) n := by
  have := tI_nI (n := i) (by omega)
  constructor <;> omega
theorem gRd_n {β : Type} {i n : Nat} {f : Nat → Int32} {K : Int32 → Option β} (h : i < n) (hn : n ≤ 1000) : gRd (nI i) n f K = K (f i) := by
  unfold gRd
  rw [if_pos (gIn_n h hn), nI_cl (by omega)]
theorem gIx_n {β : Type} {i n : Nat} {K : Nat → Option β} (h : i < n) (hn : n ≤ 1000) : gIx (nI i) n K = K i := by
  unfold gIx
  rw [if_pos (gIn_n h hn), nI_cl (by omega)]
/-- a whole cell put anew -/
def setC (σ : Sg) (k : Nat) (f : Nat → Int32) : Sg := fun k' => if k' = k then f else σ k'
theorem gUp_c (σ : Sg) (k j : Nat) (v : Int32) : gUp σ k j v = setC σ k (upd (σ k) j v) := rfl
theorem setC_s {σ : Sg} {k : Nat} {f : Nat → Int32} : setC σ k f k = f := if_pos rfl
theorem setC_n {σ : Sg} {k j : Nat} {f : Nat → Int32} (h : j ≠ k) : setC σ k f j = σ j := if_neg h
theorem setC_2 {σ : Sg} {k : Nat} {f g : Nat → Int32} : setC (setC σ k f) k g = setC σ k g := by
  funext j
  unfold setC
  split <;> rfl
theorem setC_id {σ : Sg} {k : Nat} : setC σ k (σ k) = σ := by
  funext j
  unfold setC
  split
  · rename_i h; rw [h]
  · rfl
theorem upd_s {f : Nat → Int32} {j : Nat} {v : Int32} : upd f j v j = v := if_pos rfl
theorem upd_n {f : Nat → Int32} {j i : Nat} {v : Int32} (h : i ≠ j) : upd f j v i = f i := if_neg h
theorem gWr_n {β : Type} {i n : Nat} {σ : Sg} {k : Nat} {v : Int32} {K : Sg → Option β} (h : i < n) (hn : n ≤ 1000) : gWr (nI i) n σ k v K = K (setC σ k (upd (σ k) i v)) := by
  unfold gWr
  rw [if_pos (gIn_n h hn), nI_cl (by omega)]
  rfl
theorem gCl_s {β : Type} {r : Int32} {σ : Sg} {K : Int32 → Sg → Option β} : gCl (some (r, σ)) K = K r σ := rfl
theorem gCv_s {β : Type} {σ : Sg} {K : Sg → Option β} : gCv (some σ) K = K σ := rfl
theorem gLet_s {α β : Type} {x : α} {f : α → β} : gLet x f = f x := rfl
def bI (c : Prop) [Decidable c] : Int32 := if c then 1 else 0
theorem bI_t {c : Prop} [Decidable c] (h : c) : bI c = 1 := if_pos h
theorem bI_f {c : Prop} [Decidable c] (h : ¬ c) : bI c = 0 := if_neg h
theorem gZ_b {β : Type} {c : Prop} [Decidable c] {K : Option β} : gZ (bI c) K = K := by
  unfold gZ bI
  split <;> simp
theorem gZ_0 {β : Type} {K : Option β} : gZ 0 K = K := rfl
theorem gZ_1 {β : Type} {K : Option β} : gZ 1 K = K := rfl
theorem one_ne : ¬ (1 : Int32) = 0 := by decide
/-- a number is below a range, above it, or a place in it -/
theorem ix_c (x : Int32) {n : Nat} (hn : n < 2147483648) : x < 0 ∨ nI n ≤ x ∨ ∃ j : Nat, j < n ∧ x = nI j := pk_ix x hn
/-! ===== static methods ===== -/
theorem f_outside (σ : Sg) (a lo hi : Int32) : fX10_outside σ a lo hi = some (bI (a < lo ∨ hi < a), σ) := by
  unfold fX10_outside bI
  simp only [gLet]
  by_cases h1 : a < lo
  · simp [h1]
  · by_cases h2 : a ≤ hi
    · have h3 : ¬ hi < a := by rw [lt_tI]; rw [le_tI] at h2; omega
      simp [h1, h2, h3]
    · have h3 : hi < a := by rw [lt_tI]; rw [le_tI] at h2; omega
      simp [h1, h2, h3]
def bit (b : Int32) (y : Nat) : Bool := !decide ((b >>> (nI y &&& 31)) &&& 1 = 0)
theorem and1 (x : Int32) : x &&& 1 = 0 ∨ x &&& 1 = 1 := by
  obtain ⟨j, hj, e⟩ := pk_andE x (m := 1) 1 (by decide)
  rw [e]
  match j, hj with
  | 0, _ => exact Or.inl rfl
  | 1, _ => exact Or.inr rfl
theorem f_has (σ : Sg) (b : Int32) (y : Nat) : fX10_has σ b (nI y) = some (bI (bit b y = true), σ) := by
  unfold fX10_has bI bit
  by_cases h : (b >>> (nI y &&& 31)) &&& 1 = 0
  · simp [h]
  · simp [h]
theorem m_has (σ : Sg) (b : Int32) (y : Nat) : fX11_has σ b (nI y) = some (bI (bit b y = true), σ) := by
  unfold fX11_has bI bit
  rcases and1 (b >>> (nI y &&& 31)) with h | h
  · simp [h]
  · simp [h]
theorem m_smaller (σ : Sg) (a b : Int32) : fX11_smaller σ a b = some (if a < b then a else b, σ) := by
  unfold fX11_smaller
  by_cases h : a < b
  · have : ¬ b ≤ a := by rw [le_tI]; rw [lt_tI] at h; omega
    simp [h, this, gLet]
  · have : b ≤ a := by rw [le_tI]; rw [lt_tI] at h; omega
    simp [h, this, gLet]
theorem m_larger (σ : Sg) (a b : Int32) : fX11_larger σ a b = some (if a < b then b else a, σ) := by
  unfold fX11_larger
  by_cases h : a < b
  · have : ¬ b ≤ a := by rw [le_tI]; rw [lt_tI] at h; omega
    simp [h, this, gLet]
  · have : b ≤ a := by rw [le_tI]; rw [lt_tI] at h; omega
    simp [h, this, gLet]
theorem m_in (σ : Sg) (a lo hi : Int64) : fX11_in σ a lo hi = some (bI (lo ≤ a ∧ a ≤ hi), σ) := by
  unfold fX11_in bI lg_cmp
  by_cases h1 : a < lo
  · have h2 : ¬ lo ≤ a := by rw [Int64.le_iff_toInt_le]; rw [Int64.lt_iff_toInt_lt] at h1; omega
    have h3 : ¬ a > lo := by show ¬ lo < a; rw [Int64.lt_iff_toInt_lt] at h1 ⊢; omega
    have h4 : ¬ a = lo := fun e => by rw [e, Int64.lt_iff_toInt_lt] at h1; omega
    simp [h2, h3, h4]
  · have h2 : lo ≤ a := by rw [Int64.le_iff_toInt_le]; rw [Int64.lt_iff_toInt_lt] at h1; omega
    have h3 : ¬ (if a > lo then (1 : Int32) else if a = lo then 0 else -1) < 0 := by
      split
      · decide
      · rename_i h5
        have h6 : a = lo := by rw [← Int64.toInt_inj]; have h7 : ¬ lo < a := h5; rw [Int64.lt_iff_toInt_lt] at h7; rw [Int64.le_iff_toInt_le] at h2; omega
        rw [if_pos h6]
        decide
    rw [if_neg h3]
    by_cases h4 : a ≤ hi
    · have h5 : ¬ a > hi := by show ¬ hi < a; rw [Int64.le_iff_toInt_le] at h4; rw [Int64.lt_iff_toInt_lt]; omega
      have h6 : ¬ 0 < (if a > hi then (1 : Int32) else if a = hi then 0 else -1) := by
        rw [if_neg h5]
        split <;> decide
      rw [if_neg h6]
      simp [h2, h4]
    · have h5 : a > hi := by show hi < a; rw [Int64.le_iff_toInt_le] at h4; rw [Int64.lt_iff_toInt_lt]; omega
      rw [if_pos h5]
      simp [h4]
/-- the reference's range over ints -/
theorem m_inI (σ : Sg) (a lo hi : Int32) : fX11_in σ a.toInt64 lo.toInt64 hi.toInt64 = some (bI (lo ≤ a ∧ a ≤ hi), σ) := by
  rw [m_in]
  congr 2
  unfold bI
  simp only [Int32.toInt64_le]
