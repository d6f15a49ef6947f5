/-! ===== the least way of the cart, by the reference ===== -/
theorem bit_tb : ∀ i, i < 9 → ∀ S, S < 512 → bit (nI S) i = S.testBit i := by decide +kernel
theorem m_joLp {l D : Nat → Nat} {h N p : Nat} (hh : h ≤ 99) (hN : N ≤ 9) (hp : p < 512) (hl : ∀ i, l i ≤ 40) (hD : ∀ x, x < 9 → D x ≤ 40) (el : ∀ x, x < 9 → l x = ldI D h x) {t : Sg} (h0 : t 0 0 = nI N) (h1 : t 0 1 = nI h) (h10 : ∀ x, x < 9 → t 10 (9 + x) = nI (D x)) (K : Int32 → Int32 → Sg → Option (Int32 × Sg)) : ∀ (d i n : Nat), i + d = N → d < n →
    fX11_journey_7 (nI p) n (nI (LD l p i)) (nI (TP p i)) (nI i) t K = K (nI (LD l p N)) (nI (TP p N)) t := by
  intro d
  induction d with
  | zero =>
    intro i n hi hn
    match n, hn with
    | n + 1, _ =>
      have e : i = N := by omega
      rw [fX11_journey_7, h0, if_pos ((nI_leN (by omega) (by omega)).mpr (by omega)), e]
  | succ d ih =>
    intro i n hi hn
    match n, hn with
    | n + 1, hn =>
      have nx := ih (i + 1) n (by omega) (by omega)
      rw [LD, TP] at nx
      have hDi := hD i (by omega)
      rw [fX11_journey_7, h0, if_neg (by rw [nI_leN (by omega) (by omega)]; omega), m_has, bit_tb i (by omega) p hp, gCl_s]
      simp only [gLet, nI_1]
      by_cases z : p.testBit i = true
      · rw [if_pos z, if_pos z] at nx
        unfold fX11_load
        rw [bI_t z, if_neg one_ne, show (9 : Int32) = nI 9 from rfl, nI_add, gRd_n (by omega) (by decide), h10 i (by omega), m_smaller, gCl_s, gCl_s, h1, m_has, bit_tb i (by omega) p hp, gCl_s, bI_t z, if_neg one_ne, show (if nI h < nI (D i) then nI h else nI (D i)) = nI (l i) by
          rw [el i (by omega)]
          unfold ldI
          by_cases w : h < D i
          · rw [if_pos ((nI_ltN (by omega) (by omega)).mpr w), if_pos w]
          · rw [if_neg (by rw [nI_ltN (by omega) (by omega)]; exact w), if_neg w], nI_add]
        exact nx
      · rw [if_neg z, if_neg z] at nx
        rw [bI_f z, if_pos rfl, m_has, bit_tb i (by omega) p hp, gCl_s, bI_f z, if_pos rfl, show (0 : Int32) = nI 0 from rfl, nI_add]
        exact nx
theorem m_journey {l D : Nat → Nat} {h N p : Nat} (hh : h ≤ 99) (hN : N ≤ 9) (hp : p < 2 ^ N) (hl : ∀ i, l i ≤ 40) (hD : ∀ x, x < 9 → D x ≤ 40) (el : ∀ x, x < 9 → l x = ldI D h x) {t : Sg} (h0 : t 0 0 = nI N) (h1 : t 0 1 = nI h) (h10 : ∀ x, x < 9 → t 10 (9 + x) = nI (D x)) : fX11_journey t (nI p) = some (if LD l p 9 ≤ h then nI (2 * TP p 9) else -4, t) := by
  have := LD_b hl (S := p) N
  have := TP_le (S := p) N
  unfold fX11_journey
  rw [show (0 : Int32) = nI 0 from rfl]
  have lp := fun K => m_joLp hh hN (pow_512 hp hN) hl hD el h0 h1 h10 K N 0 gN (by omega) (by unfold gN; omega)
  rw [show LD l p 0 = 0 from rfl, show TP p 0 = 0 from rfl] at lp
  rw [lp, h1, LD_9 hp hN, TP_9 hp hN, show (2 : Int32) = nI 2 from rfl, pk_mul]
  by_cases z : LD l p N ≤ h
  · rw [if_pos ((nI_leN (by omega) (by omega)).mpr z), if_pos z]
  · rw [if_neg (by rw [nI_leN (by omega) (by omega)]; exact z), if_neg z]
/-- one cell of the ways put anew -/
def fr15 (set : Nat) (t t' : Sg) : Prop := (∀ k, k ≠ 15 → t' k = t k) ∧ ∀ j, j ≠ set → t' 15 j = t 15 j
theorem m_rpLp {l D : Nat → Nat} {h N all set : Nat} (hh : h ≤ 99) (hN : N ≤ 9) (hset : set < 2 ^ N) (hl : ∀ i, l i ≤ 40) (hD : ∀ x, x < 9 → D x ≤ 40) (el : ∀ x, x < 9 → l x = ldI D h x) (F : Nat → Nat) (K : Sg → Option (Int32 × Sg)) : ∀ (n p : Nat) (t : Sg), p < n → sb p set → t 0 0 = nI N → t 0 1 = nI h → (∀ x, x < 9 → t 10 (9 + x) = nI (D x)) →
    ∃ t', fX11_round_68 (nI set) n (nI p) t K = K t' ∧ fr15 set t t' ∧ (sb set all → (∀ S, S < set → sb S all → t 15 S = nI (F S) ∧ F S ≤ 162) → ∀ least, least ≤ 10000 → t 15 set = nI least → t' 15 set = nI (mlp (fun b => decide (LD l b 9 ≤ h)) (fun b => F (dif set b) + 2 * TP b 9) set n p least)) := by
  have h512 := pow_512 hset hN
  intro n
  induction n with
  | zero => intro p t h; omega
  | succ n ih =>
    intro p t hn hps h0 h1 h10
    have hpl := sb_le hps
    rw [fX11_round_68]
    by_cases z : p = 0
    · rw [if_pos (by rw [z]; rfl)]
      refine ⟨t, rfl, ⟨fun _ _ => rfl, fun _ _ => rfl⟩, fun _ _ least _ hv => ?_⟩
      rw [mlp, if_pos z]
      exact hv
    · have hap := and_pred (n := set) z
      have hTP := TP_le (S := p) 9
      have hdl := sb_le (sb_dif (n := set) (a := p))
      rw [if_neg (nI_nle (by omega) (by omega)), m_journey hh hN (by omega) hl hD el h0 h1 h10, gCl_s]
      simp only [gLet]
      have stp : ∀ v : Int32, (sb set all → (∀ S, S < set → sb S all → t 15 S = nI (F S) ∧ F S ≤ 162) → ∀ least, least ≤ 10000 → t 15 set = nI least → v = nI (if decide (LD l p 9 ≤ h) = true then (if F (dif set p) + 2 * TP p 9 < least then F (dif set p) + 2 * TP p 9 else least) else least)) →
          ∃ t', gWr (nI set) 512 t 15 v (fun g41 => fX11_round_68 (nI set) n ((nI p - 1) &&& nI set) g41 K) = K t' ∧ fr15 set t t' ∧ (sb set all → (∀ S, S < set → sb S all → t 15 S = nI (F S) ∧ F S ≤ 162) → ∀ least, least ≤ 10000 → t 15 set = nI least → t' 15 set = nI (mlp (fun b => decide (LD l b 9 ≤ h)) (fun b => F (dif set b) + 2 * TP b 9) set (n + 1) p least)) := by
        intro v hv
        rw [gWr_n h512 (by decide), sub1 (by omega), nI_and]
        obtain ⟨t2, k1, ⟨k2, k3⟩, k4⟩ := ih ((p - 1) &&& set) (setC t 15 (upd (t 15) set v)) (by omega) sb_and (by rw [setC_n (by decide)]; exact h0) (by rw [setC_n (by decide)]; exact h1) (fun x hx => by rw [setC_n (by decide)]; exact h10 x hx)
        refine ⟨t2, k1, ⟨fun k hk => by rw [k2 k hk, setC_n hk], fun j hj => by rw [k3 j hj, setC_s, upd_n hj]⟩, fun ha hF least hle hlt => ?_⟩
        rw [mlp, if_neg z]
        exact k4 ha (fun S hS hs => by rw [setC_s, upd_n (by omega)]; exact hF S hS hs) _ (by split <;> (try split) <;> omega) (by rw [setC_s, upd_s]; exact hv ha hF least hle hlt)
      by_cases o : LD l p 9 ≤ h
      · rw [if_pos o, if_pos (nI_pos' (by omega)), gRd_n h512 (by decide), nI_dif (by omega), gRd_n (by omega) (by decide), m_smaller, gCl_s]
        refine stp _ (fun ha hF least hle hlt => ?_)
        have hd := dif_lt hps z
        obtain ⟨f1, f2⟩ := hF (dif set p) hd (sb_tr sb_dif ha)
        rw [hlt, f1, nI_add, if_pos (show decide (LD l p 9 ≤ h) = true by simpa using o)]
        by_cases w : least < F (dif set p) + 2 * TP p 9
        · rw [if_pos ((nI_ltN (by omega) (by omega)).mpr w), if_neg (by omega)]
        · rw [if_neg (by rw [nI_ltN (by omega) (by omega)]; exact w)]
          by_cases w2 : F (dif set p) + 2 * TP p 9 < least
          · rw [if_pos w2]
          · rw [if_neg w2, show least = F (dif set p) + 2 * TP p 9 by omega]
      · rw [if_neg o, if_neg (by decide), gRd_n h512 (by decide)]
        refine stp _ (fun ha hF least hle hlt => ?_)
        rw [hlt, if_neg (show ¬ decide (LD l p 9 ≤ h) = true by simpa using o)]
theorem wi_0 {x : Nat} : wi 0 x = 2 ^ x := by unfold wi; exact Nat.zero_or _
theorem pow_inj_lt {a b : Nat} (h : 2 ^ a < 2 ^ b) : a < b := (Nat.pow_lt_pow_iff_right (by decide)).mp h
theorem m_rdLp {l D : Nat → Nat} {h N all : Nat} (hh : h ≤ 99) (hN : N ≤ 9) (hall : all < 2 ^ N) (hl : ∀ i, l i ≤ 40) (hlh : ∀ i, l i ≤ h) (hD : ∀ x, x < 9 → D x ≤ 40) (el : ∀ x, x < 9 → l x = ldI D h x) : ∀ (d set n : Nat) (t : Sg) (F : Nat → Nat), set + d = all + 1 → d < n → t 0 0 = nI N → t 0 1 = nI h → (∀ x, x < 9 → t 10 (9 + x) = nI (D x)) → (set = 0 → F 0 = 0) → (0 < set → goodR l h F all set) → (∀ S, S < set → sb S all → t 15 S = nI (F S) ∧ ∀ y, y ≤ 9 → S < 2 ^ y → F S ≤ 18 * y) →
    ∃ t' F', fX11_round_42 (nI all) n (nI set) t = some (nI (F' all), t') ∧ (∀ k, k ≠ 15 → t' k = t k) ∧ goodR l h F' all (all + 1) := by
  have h512 := pow_512 hall hN
  intro d
  induction d with
  | zero =>
    intro set n t F hs hn h0 h1 h10 hz hg hI
    match n, hn with
    | n + 1, _ =>
      have e : set = all + 1 := by omega
      rw [fX11_round_42, if_pos ((nI_ltN (by omega) (by omega)).mpr (by omega)), gRd_n h512 (by decide), (hI all (by omega) sb_rf).1]
      exact ⟨t, F, rfl, fun _ _ => rfl, by rw [← e]; exact hg (by omega)⟩
  | succ d ih =>
    intro set n t F hs hn h0 h1 h10 hz hg hI
    match n, hn with
    | n + 1, hn =>
      rw [fX11_round_42, if_neg (by rw [nI_ltN (by omega) (by omega)]; omega)]
      simp only [gLet, nI_1]
      have hq : 600 ≤ gN := by unfold gN; omega
      generalize gN = qN at hq ⊢
      have hin : sb (set &&& all) set := by
        rw [Nat.and_comm]; exact sb_and
      have hle := sb_le hin
      have stp : ∀ init : Nat, init ≤ 10000 → (set = 0 → init = 0) → (set ≠ 0 → init = 9999) → ∃ t' F', gWr (nI set) 512 t 15 (nI init) (fun g28 => fX11_round_68 (nI set) qN (nI set &&& nI all) g28 (fun g55 => fX11_round_42 (nI all) n (nI (set + 1)) g55)) = some (nI (F' all), t') ∧ (∀ k, k ≠ 15 → t' k = t k) ∧ goodR l h F' all (all + 1) := by
        intro init hi1 hi2 hi3
        rw [gWr_n (by omega) (by decide), nI_and]
        have lp := fun K => m_rpLp (all := all) hh hN (by omega : set < 2 ^ N) hl hD el F K qN (set &&& all) (setC t 15 (upd (t 15) set (nI init))) (by omega) hin (by rw [setC_n (by decide)]; exact h0) (by rw [setC_n (by decide)]; exact h1) (fun x hx => by rw [setC_n (by decide)]; exact h10 x hx)
        obtain ⟨t1, a1, ⟨a2, a3⟩, a4⟩ := lp _
        rw [a1]
        have fr : ∀ k, k ≠ 15 → t1 k = t k := fun k hk => by rw [a2 k hk, setC_n hk]
        have fr2 : ∀ S, S < set → t1 15 S = t 15 S := fun S hS => by rw [a3 S (by omega), setC_s, upd_n (by omega)]
        by_cases hsa : sb set all
        · have e : set &&& all = set := hsa
          have val := a4 hsa (fun S hS hs => by
            rw [setC_s, upd_n (by omega)]
            exact ⟨(hI S hS hs).1, (hI S hS hs).2 9 (by omega) (by omega)⟩) init (by omega) (by rw [setC_s, upd_s])
          rw [e] at val
          obtain ⟨G', p1, p2⟩ : ∃ G' : Nat → Nat, G' set = mlp (fun b => decide (LD l b 9 ≤ h)) (fun b => F (dif set b) + 2 * TP b 9) set qN set init ∧ ∀ S, S ≠ set → G' S = F S := ⟨fun S => if S = set then mlp (fun b => decide (LD l b 9 ≤ h)) (fun b => F (dif set b) + 2 * TP b 9) set qN set init else F S, if_pos rfl, fun S h => if_neg h⟩
          obtain ⟨t2, F2, k1, k2, k3⟩ := ih (set + 1) n t1 G' (by omega) (by omega) (by rw [fr 0 (by decide)]; exact h0) (by rw [fr 0 (by decide)]; exact h1) (fun x hx => by rw [fr 10 (by decide)]; exact h10 x hx) (fun h => by omega) (fun _ => by
            refine ⟨?_, fun S hS hs h0S => ?_⟩
            · by_cases z : set = 0
              · rw [show qN = (qN - 1) + 1 by omega, mlp, if_pos z, hi2 z, z] at p1
                exact p1
              · rw [p2 0 (by omega)]
                exact (hg (by omega)).1
            · by_cases z : S = set
              · subst z
                rw [p1]
                have dn : ∀ p, sb p S → p ≠ 0 → dif S p ≠ S := fun p h1 h2 => by have := dif_lt h1 h2; omega
                refine ⟨fun p h1 h2 h3 => ?_, ?_⟩
                · rw [p2 _ (dn p h1 h2)]
                  exact mlp_all _ _ (show S < 2 ^ N by omega) qN S init (by omega) sb_rf p h1 h2 (sb_le h1) (by simpa using h3)
                · rcases mlp_at (fun b => decide (LD l b 9 ≤ h)) (fun b => F (dif S b) + 2 * TP b 9) S qN S init sb_rf with hE | ⟨b, b1, b2, b3, b4⟩
                  · exfalso
                    obtain ⟨x, x9, x1, x2⟩ := top_of 9 S h0S (by have : (2 : Nat) ^ 9 = 512 := rfl; omega)
                    have p2 := Nat.two_pow_pos x
                    have sp : sb (2 ^ x) S := sb_t.mpr (fun i hi => by
                      rw [Nat.testBit_two_pow] at hi
                      have : x = i := by simpa using hi
                      rw [← this]; exact tb_of x1 x2)
                    have ld : LD l (2 ^ x) 9 = l x := by
                      rw [← wi_0, LD_wi p2 x9, LD_0, Nat.zero_add]
                    have tp : TP (2 ^ x) 9 = x + 1 := by rw [← wi_0, TP_wi p2 x9]
                    have := mlp_all (fun b => decide (LD l b 9 ≤ h)) (fun b => F (dif S b) + 2 * TP b 9) (show S < 2 ^ N by omega) qN S init (by omega) sb_rf (2 ^ x) sp (by omega) (sb_le sp) (by rw [ld]; simpa using hlh x)
                    rw [hE, hi3 h0S, tp] at this
                    have hb := (hI (dif S (2 ^ x)) (dif_lt sp (by omega)) (sb_tr sb_dif hsa)).2 x (by omega) (dif_top x2)
                    omega
                  · rw [b4]
                    exact ⟨b, b1, b2, by simpa using b3, by rw [p2 _ (dn b b1 b2)]⟩
              · have hS' : S < set := by omega
                have G := (hg (by omega)).2 S hS' hs h0S
                have dn : ∀ p, dif S p ≠ set := fun p => by have := sb_le (sb_dif (n := S) (a := p)); omega
                rw [p2 _ z]
                refine ⟨fun p h1 h2 h3 => by rw [p2 _ (dn p)]; exact G.1 p h1 h2 h3, ?_⟩
                obtain ⟨p, h1, h2, h3, h4⟩ := G.2
                exact ⟨p, h1, h2, h3, by rw [p2 _ (dn p)]; exact h4⟩) (fun S hS hs => by
            by_cases z : S = set
            · subst z
              rw [p1, val]
              refine ⟨rfl, fun y hy hSy => ?_⟩
              by_cases z0 : S = 0
              · refine Nat.le_trans (mlp_le _ _ _ _ _ _) ?_
                rw [hi2 z0]; omega
              · obtain ⟨x, x9, x1, x2⟩ := top_of 9 S z0 (by have : (2 : Nat) ^ 9 = 512 := rfl; omega)
                have p2 := Nat.two_pow_pos x
                have sp : sb (2 ^ x) S := sb_t.mpr (fun i hi => by
                  rw [Nat.testBit_two_pow] at hi
                  have : x = i := by simpa using hi
                  rw [← this]; exact tb_of x1 x2)
                have ld : LD l (2 ^ x) 9 = l x := by
                  rw [← wi_0, LD_wi p2 x9, LD_0, Nat.zero_add]
                have tp : TP (2 ^ x) 9 = x + 1 := by rw [← wi_0, TP_wi p2 x9]
                have := mlp_all (fun b => decide (LD l b 9 ≤ h)) (fun b => F (dif S b) + 2 * TP b 9) (show S < 2 ^ N by omega) qN S init (by omega) sb_rf (2 ^ x) sp (by omega) (sb_le sp) (by rw [ld]; simpa using hlh x)
                rw [tp] at this
                have hb := (hI (dif S (2 ^ x)) (dif_lt sp (by omega)) (sb_tr sb_dif hsa)).2 x (by omega) (dif_top x2)
                have hxy : x < y := pow_inj_lt (by omega)
                omega
            · rw [p2 _ z, fr2 S (by omega)]
              exact hI S (by omega) hs)
          exact ⟨t2, F2, k1, fun k hk => by rw [k2 k hk, fr k hk], k3⟩
        · have s0 : set ≠ 0 := fun h => hsa (by rw [h]; exact sb_0)
          obtain ⟨t2, F2, k1, k2, k3⟩ := ih (set + 1) n t1 F (by omega) (by omega) (by rw [fr 0 (by decide)]; exact h0) (by rw [fr 0 (by decide)]; exact h1) (fun x hx => by rw [fr 10 (by decide)]; exact h10 x hx) (fun h => by omega) (fun _ => by
            have G := hg (by omega)
            refine ⟨G.1, fun S hS hs h0S => ?_⟩
            have : S ≠ set := fun h => hsa (by rw [← h]; exact hs)
            exact G.2 S (by omega) hs h0S) (fun S hS hs => by
            have : S ≠ set := fun h => hsa (by rw [← h]; exact hs)
            rw [fr2 S (by omega)]
            exact hI S (by omega) hs)
          exact ⟨t2, F2, k1, fun k hk => by rw [k2 k hk, fr k hk], k3⟩
      by_cases z : set = 0
      · rw [if_pos (by rw [z]; rfl), show (0 : Int32) = nI 0 from rfl]
        exact stp 0 (by omega) (fun _ => rfl) (fun h => absurd z h)
      · rw [if_neg (nI_ne0 (by omega) (by omega))]
        rw [show (9999 : Int32) = nI 9999 from rfl]
        exact stp 9999 (by omega) (fun h => absurd h z) (fun _ => rfl)
theorem m_raLp {D : Nat → Nat} {N : Nat} (hN : N ≤ 9) (hD : ∀ x, x < 9 → D x ≤ 40) {t : Sg} (h0 : t 0 0 = nI N) (h10 : ∀ x, x < 9 → t 10 (9 + x) = nI (D x)) (K : Int32 → Sg → Option (Int32 × Sg)) : ∀ (d i n : Nat), i + d = N → d < n → fX11_round_4 n (nI (DU D i)) (nI i) t K = K (nI (DU D N)) t := by
  intro d
  induction d with
  | zero =>
    intro i n hi hn
    match n, hn with
    | n + 1, _ =>
      have e : i = N := by omega
      rw [fX11_round_4, h0, if_pos ((nI_leN (by omega) (by omega)).mpr (by omega)), e]
  | succ d ih =>
    intro i n hi hn
    match n, hn with
    | n + 1, hn =>
      have nx := ih (i + 1) n (by omega) (by omega)
      have hDi := hD i (by omega)
      rw [DU] at nx
      rw [fX11_round_4, h0, if_neg (by rw [nI_leN (by omega) (by omega)]; omega), show (9 : Int32) = nI 9 from rfl, nI_add, gRd_n (by omega) (by decide), h10 i (by omega)]
      simp only [gLet, nI_1]
      by_cases z : D i = 0
      · rw [if_pos z] at nx
        rw [z, if_pos (by rfl), or_0]
        exact nx
      · rw [if_neg z] at nx
        rw [if_neg (nI_nle (by omega) (by omega)), shl_n i (by omega), nI_or]
        exact nx
theorem DU_N {D : Nat → Nat} {N : Nat} (h : ∀ x, N ≤ x → x < 9 → D x = 0) : ∀ d, N + d ≤ 9 → DU D (N + d) = DU D N
  | 0, _ => rfl
  | d + 1, hd => by rw [show N + (d + 1) = N + d + 1 by omega, DU, if_pos (h (N + d) (by omega) (by omega)), DU_N h d (by omega)]
theorem al_round {P : Pl} {h : Int32} {S : Sd} {u : Nat} {U : Nat → Sd} {v : Nat} {V : Nat → Sd} {g t : Sg} (R : Rl P h S u U v V g t) : alike (fX10_round g) (fX11_round t) := by
  have R' := R
  obtain ⟨⟨hp, hh, vS, -⟩, ⟨hP, hPh⟩, ⟨hM, hMh⟩, hc, hm, -, -, -, -, z1, z2⟩ := R
  have h9 := hp.2.2.2.1
  obtain ⟨hn, rfl, hn2⟩ := nI_ex (x := h) (by have := hh.1; omega)
  have hn99 : hn ≤ 99 := by have := hh.2; omega
  obtain ⟨D, hDe⟩ : ∃ D : Nat → Nat, ∀ x, x < 9 → S (9 + x) = nI (D x) ∧ D x ≤ 40 := ⟨fun x => (S (9 + x)).toInt.toNat, fun x hx => by
    have h1 := vS.2.2.2.1 x hx
    exact ⟨nI_tI (by have := h1.1; dsimp only; omega), by have := h1.1; have := h1.2; dsimp only; omega⟩⟩
  have hD : ∀ x, x < 9 → D x ≤ 40 := fun x hx => (hDe x hx).2
  have hD0 : ∀ x, pS P ≤ x → x < 9 → D x = 0 := fun x h1 h2 => by
    have e := vS.2.2.2.2.1 x h1 h2
    rw [(hDe x h2).1] at e
    have := hD x h2
    exact (nI_inj (b := 0) (by omega) (by omega)).mp e
  have hl : ∀ i, (fun i => if i < 9 then ldI D hn i else 0) i ≤ 40 := fun i => by
    dsimp only
    split
    · rename_i hi; exact ldI_b (hD i hi)
    · omega
  have hlh : ∀ i, (fun i => if i < 9 then ldI D hn i else 0) i ≤ hn := fun i => by
    dsimp only
    split
    · exact ldI_h
    · omega
  have el : ∀ i, i < 9 → (fun i => if i < 9 then ldI D hn i else 0) i = ldI D hn i := fun i hi => by
    dsimp only
    rw [if_pos hi]
  generalize (fun i => if i < 9 then ldI D hn i else 0) = l at hl hlh el
  have lt := DU_lt D (pS P)
  have e9 : DU D 9 = DU D (pS P) := by
    have := DU_N hD0 (9 - pS P) (by omega)
    rw [show pS P + (9 - pS P) = 9 by omega] at this
    exact this
  obtain ⟨g1, a1, a2, a3, a4⟩ := f_lwAll hn99 hl hD el 9 0 gN g (by omega) (by unfold gN; omega) (fun y hy => by rw [show g 25 y = S (9 + y) from hc.2.2.1 y hy]; exact (hDe y hy).1) (fun T hT => by
    have : T = 0 := by have := sb_le hT; rw [show DU D 0 = 0 from rfl] at this; omega
    rw [this, LD_0, z1, z2, WW_9 (x := 0) (by decide) (by decide)]
    exact ⟨rfl, rfl⟩)
  have m10 : ∀ x, x < 9 → t 10 (9 + x) = nI (D x) := fun x hx => by
    have := hm (9 + x) (by omega)
    rw [Nat.zero_add] at this
    rw [this]; exact (hDe x hx).1
  have b := fun K => m_raLp h9 hD hM.1 m10 K (pS P) 0 gN (by omega) (by unfold gN; omega)
  obtain ⟨t1, F, c1, c2, c3⟩ := m_rdLp hn99 h9 lt hl hlh hD el (DU D (pS P) + 1) 0 gN t (fun _ => 0) (by omega) (by have := pow_512 lt h9; unfold gN; omega) hM.1 hMh m10 (fun _ => rfl) (fun h => absurd h (by omega)) (fun T hT => absurd hT (by omega))
  have w := WW_good (l := l) (h := hn) (fun x _ => hlh x) (DU D (pS P))
  have w2 : goodR l hn (WW l hn 9) (DU D (pS P)) (DU D (pS P) + 1) := ⟨w.1, fun T hT => w.2 T (by have := pow_512 lt h9; omega)⟩
  have eq := goodR_eq w2 c3 (S := DU D (pS P)) (by omega) sb_rf
  unfold fX10_round fX11_round fX0_leastWay
  rw [hPh, show (0 : Int32) = nI 0 from rfl]
  rw [show DU D 0 = 0 from rfl] at a1 b
  rw [a1, gCl_s, b, c1, e9, eq]
  exact alike_q R' rfl rfl ⟨fun k hk => a2 k (fun e => hk (by unfold scC; omega)) (fun e => hk (by unfold scC; omega)), a3, a4⟩ ⟨fun k hk => c2 k (by omega), fun j _ => by rw [c2 10 (by decide)], fun j _ => by rw [c2 0 (by decide)]⟩
