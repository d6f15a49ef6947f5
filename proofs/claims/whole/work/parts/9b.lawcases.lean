/-! ===== the law: a case each ===== -/
/-- the law's own walk -/
def cCL (X : CX) (D : va_G) (cA : Nat → ClassId) : Prop := cC X D cA cL_law RL wsL_law 4 9 364 600000 7302250
def lvL (i : Nat) (a2 a1 b : Nat) : List (Nat × Value) := [(3, .int (nI i)), (2, .ref a2), (1, .ref a1), (0, .ref b)]
set_option maxHeartbeats 1000000 in
theorem lw_c0 {X : CX} {D : va_G} {cA : Nat → ClassId} (C : cCL X D cA) {b L i k n : Nat} {xs : Nat → Int32} {ad ad2 : Nat → Nat} (S : cS X b L xs) (hL : L ≤ 320) (hi : i + 5 ≤ L) (hc : k ≤ 600000 ∧ n ≤ 7302250) {g t : Sg} (hR : Rx g t) (K : ∀ g2 t2, Rx g2 t2 → cG X D (gWs (D, cA, ad, shC) g2 ++ gWs (D, cA, ad2, shM) t2) k n 877 (lvL i (ad2 0) (ad 0) b) []) : cG X D (gWs (D, cA, ad, shC) g ++ gWs (D, cA, ad2, shM) t) k n 156 (lvL i (ad2 0) (ad 0) b) [] := by
  obtain ⟨P, h, S1, u, U, v, V, hRl⟩ := hR
  obtain ⟨r, g2, t2, e1, e2, hR2⟩ := al_write hRl (xs (i + 1))
  refine cr_aload_n C 2 dL_law_156 rfl rfl ?_
  refine cr_aload_n C 3 dL_law_157 rfl rfl ?_
  refine cr_iload_n C 0 dL_law_158 rfl rfl ?_
  refine cr_iconst C (v := nI 1) dL_law_159 rfl ?_
  refine cr_iadd C dL_law_160 ?_
  rw [nI_add]
  refine cr_sld C S (show i + 1 < L by omega) hL dL_law_161 ?_
  refine cr_sw2 ?_
  refine cr_callVI (w := (D, cA, ad, shC)) C 0 (nA := 1) (As := [.int (xs (i + 1))]) (rest := []) (mX10_write X.2.1 (w := (D, cA, ad, shC)) rfl e1) gL_law_X10_write rfl ⟨rfl, rfl⟩ ⟨Nat.le_of_ble_eq_true rfl, Nat.le_of_ble_eq_true rfl⟩ rfl (Nat.le_of_ble_eq_true rfl) rfl (by decide +kernel) (sc_0 rfl) rfl hc dL_law_162 ?_
  refine cr_aload_n C 1 dL_law_165 rfl rfl ?_
  refine cr_aload_n C 3 dL_law_166 rfl rfl ?_
  refine cr_iload_n C 0 dL_law_167 rfl rfl ?_
  refine cr_iconst C (v := nI 1) dL_law_168 rfl ?_
  refine cr_iadd C dL_law_169 ?_
  rw [nI_add]
  refine cr_sld C S (show i + 1 < L by omega) hL dL_law_170 ?_
  refine cr_sw2 ?_
  refine cr_callVI (w := (D, cA, ad2, shM)) C 0 (nA := 1) (As := [.int (xs (i + 1))]) (rest := [.int r]) (mX11_write X.2.1 (w := (D, cA, ad2, shM)) rfl e2) gL_law_X11_write rfl ⟨rfl, rfl⟩ ⟨Nat.le_of_ble_eq_true rfl, Nat.le_of_ble_eq_true rfl⟩ rfl (Nat.le_of_ble_eq_true rfl) rfl (by decide +kernel) (scm_0 rfl) rfl hc dL_law_171 ?_
  exact cr_icmp_eq C 877 dL_law_174 (by decide) (fun _ => K g2 t2 hR2) (fun h => absurd rfl h)
set_option maxHeartbeats 1000000 in
theorem lw_c1 {X : CX} {D : va_G} {cA : Nat → ClassId} (C : cCL X D cA) {b L i k n : Nat} {xs : Nat → Int32} {ad ad2 : Nat → Nat} (S : cS X b L xs) (hL : L ≤ 320) (hi : i + 5 ≤ L) (hc : k ≤ 600000 ∧ n ≤ 7302250) {g t : Sg} (hR : Rx g t) (K : ∀ g2 t2, Rx g2 t2 → cG X D (gWs (D, cA, ad, shC) g2 ++ gWs (D, cA, ad2, shM) t2) k n 877 (lvL i (ad2 0) (ad 0) b) []) : cG X D (gWs (D, cA, ad, shC) g ++ gWs (D, cA, ad2, shM) t) k n 179 (lvL i (ad2 0) (ad 0) b) [] := by
  obtain ⟨P, h, S1, u, U, v, V, hRl⟩ := hR
  obtain ⟨r, g2, t2, e1, e2, hR2⟩ := al_wipe hRl 
  refine cr_aload_n C 2 dL_law_179 rfl rfl ?_
  refine cr_sw2 ?_
  refine cr_callVI (w := (D, cA, ad, shC)) C 0 (nA := 0) (As := []) (rest := []) (mX10_wipe X.2.1 (w := (D, cA, ad, shC)) rfl e1) gL_law_X10_wipe rfl ⟨rfl, rfl⟩ ⟨Nat.le_of_ble_eq_true rfl, Nat.le_of_ble_eq_true rfl⟩ rfl (Nat.le_of_ble_eq_true rfl) rfl (by decide +kernel) (sc_0 rfl) rfl hc dL_law_180 ?_
  refine cr_aload_n C 1 dL_law_183 rfl rfl ?_
  refine cr_sw2 ?_
  refine cr_callVI (w := (D, cA, ad2, shM)) C 0 (nA := 0) (As := []) (rest := [.int r]) (mX11_wipe X.2.1 (w := (D, cA, ad2, shM)) rfl e2) gL_law_X11_wipe rfl ⟨rfl, rfl⟩ ⟨Nat.le_of_ble_eq_true rfl, Nat.le_of_ble_eq_true rfl⟩ rfl (Nat.le_of_ble_eq_true rfl) rfl (by decide +kernel) (scm_0 rfl) rfl hc dL_law_184 ?_
  exact cr_icmp_eq C 877 dL_law_187 (by decide) (fun _ => K g2 t2 hR2) (fun h => absurd rfl h)
set_option maxHeartbeats 1000000 in
theorem lw_c2 {X : CX} {D : va_G} {cA : Nat → ClassId} (C : cCL X D cA) {b L i k n : Nat} {xs : Nat → Int32} {ad ad2 : Nat → Nat} (S : cS X b L xs) (hL : L ≤ 320) (hi : i + 5 ≤ L) (hc : k ≤ 600000 ∧ n ≤ 7302250) {g t : Sg} (hR : Rx g t) (K : ∀ g2 t2, Rx g2 t2 → cG X D (gWs (D, cA, ad, shC) g2 ++ gWs (D, cA, ad2, shM) t2) k n 877 (lvL i (ad2 0) (ad 0) b) []) : cG X D (gWs (D, cA, ad, shC) g ++ gWs (D, cA, ad2, shM) t) k n 192 (lvL i (ad2 0) (ad 0) b) [] := by
  obtain ⟨P, h, S1, u, U, v, V, hRl⟩ := hR
  obtain ⟨r, g2, t2, e1, e2, hR2⟩ := al_fault hRl 
  refine cr_aload_n C 2 dL_law_192 rfl rfl ?_
  refine cr_sw2 ?_
  refine cr_callVI (w := (D, cA, ad, shC)) C 0 (nA := 0) (As := []) (rest := []) (mX10_fault X.2.1 (w := (D, cA, ad, shC)) rfl e1) gL_law_X10_fault rfl ⟨rfl, rfl⟩ ⟨Nat.le_of_ble_eq_true rfl, Nat.le_of_ble_eq_true rfl⟩ rfl (Nat.le_of_ble_eq_true rfl) rfl (by decide +kernel) (sc_0 rfl) rfl hc dL_law_193 ?_
  refine cr_aload_n C 1 dL_law_196 rfl rfl ?_
  refine cr_sw2 ?_
  refine cr_callVI (w := (D, cA, ad2, shM)) C 0 (nA := 0) (As := []) (rest := [.int r]) (mX11_fault X.2.1 (w := (D, cA, ad2, shM)) rfl e2) gL_law_X11_fault rfl ⟨rfl, rfl⟩ ⟨Nat.le_of_ble_eq_true rfl, Nat.le_of_ble_eq_true rfl⟩ rfl (Nat.le_of_ble_eq_true rfl) rfl (by decide +kernel) (scm_0 rfl) rfl hc dL_law_197 ?_
  exact cr_icmp_eq C 877 dL_law_200 (by decide) (fun _ => K g2 t2 hR2) (fun h => absurd rfl h)
set_option maxHeartbeats 1000000 in
theorem lw_c3 {X : CX} {D : va_G} {cA : Nat → ClassId} (C : cCL X D cA) {b L i k n : Nat} {xs : Nat → Int32} {ad ad2 : Nat → Nat} (S : cS X b L xs) (hL : L ≤ 320) (hi : i + 5 ≤ L) (hc : k ≤ 600000 ∧ n ≤ 7302250) {g t : Sg} (hR : Rx g t) (K : ∀ g2 t2, Rx g2 t2 → cG X D (gWs (D, cA, ad, shC) g2 ++ gWs (D, cA, ad2, shM) t2) k n 877 (lvL i (ad2 0) (ad 0) b) []) : cG X D (gWs (D, cA, ad, shC) g ++ gWs (D, cA, ad2, shM) t) k n 205 (lvL i (ad2 0) (ad 0) b) [] := by
  obtain ⟨P, h, S1, u, U, v, V, hRl⟩ := hR
  obtain ⟨r, g2, t2, e1, e2, hR2⟩ := al_lay hRl 
  refine cr_aload_n C 2 dL_law_205 rfl rfl ?_
  refine cr_sw2 ?_
  refine cr_callVI (w := (D, cA, ad, shC)) C 0 (nA := 0) (As := []) (rest := []) (mX10_lay X.2.1 (w := (D, cA, ad, shC)) rfl e1) gL_law_X10_lay rfl ⟨rfl, rfl⟩ ⟨Nat.le_of_ble_eq_true rfl, Nat.le_of_ble_eq_true rfl⟩ rfl (Nat.le_of_ble_eq_true rfl) rfl (by decide +kernel) (sc_0 rfl) rfl hc dL_law_206 ?_
  refine cr_aload_n C 1 dL_law_209 rfl rfl ?_
  refine cr_sw2 ?_
  refine cr_callVI (w := (D, cA, ad2, shM)) C 0 (nA := 0) (As := []) (rest := [.int r]) (mX11_lay X.2.1 (w := (D, cA, ad2, shM)) rfl e2) gL_law_X11_lay rfl ⟨rfl, rfl⟩ ⟨Nat.le_of_ble_eq_true rfl, Nat.le_of_ble_eq_true rfl⟩ rfl (Nat.le_of_ble_eq_true rfl) rfl (by decide +kernel) (scm_0 rfl) rfl hc dL_law_210 ?_
  exact cr_icmp_eq C 877 dL_law_213 (by decide) (fun _ => K g2 t2 hR2) (fun h => absurd rfl h)
set_option maxHeartbeats 1000000 in
theorem lw_c4 {X : CX} {D : va_G} {cA : Nat → ClassId} (C : cCL X D cA) {b L i k n : Nat} {xs : Nat → Int32} {ad ad2 : Nat → Nat} (S : cS X b L xs) (hL : L ≤ 320) (hi : i + 5 ≤ L) (hc : k ≤ 600000 ∧ n ≤ 7302250) {g t : Sg} (hR : Rx g t) (K : ∀ g2 t2, Rx g2 t2 → cG X D (gWs (D, cA, ad, shC) g2 ++ gWs (D, cA, ad2, shM) t2) k n 877 (lvL i (ad2 0) (ad 0) b) []) : cG X D (gWs (D, cA, ad, shC) g ++ gWs (D, cA, ad2, shM) t) k n 218 (lvL i (ad2 0) (ad 0) b) [] := by
  obtain ⟨P, h, S1, u, U, v, V, hRl⟩ := hR
  obtain ⟨r, g2, t2, e1, e2, hR2⟩ := al_step hRl (xs (i + 1)) (xs (i + 2))
  refine cr_aload_n C 2 dL_law_218 rfl rfl ?_
  refine cr_aload_n C 3 dL_law_219 rfl rfl ?_
  refine cr_iload_n C 0 dL_law_220 rfl rfl ?_
  refine cr_iconst C (v := nI 1) dL_law_221 rfl ?_
  refine cr_iadd C dL_law_222 ?_
  rw [nI_add]
  refine cr_sld C S (show i + 1 < L by omega) hL dL_law_223 ?_
  refine cr_aload_n C 3 dL_law_224 rfl rfl ?_
  refine cr_iload_n C 0 dL_law_225 rfl rfl ?_
  refine cr_iconst C (v := nI 2) dL_law_226 rfl ?_
  refine cr_iadd C dL_law_227 ?_
  rw [nI_add]
  refine cr_sld C S (show i + 2 < L by omega) hL dL_law_228 ?_
  refine cr_sw2 ?_
  refine cr_callVI (w := (D, cA, ad, shC)) C 0 (nA := 2) (As := [.int (xs (i + 1)), .int (xs (i + 2))]) (rest := []) (mX10_step X.2.1 (w := (D, cA, ad, shC)) rfl e1) gL_law_X10_step rfl ⟨rfl, rfl⟩ ⟨Nat.le_of_ble_eq_true rfl, Nat.le_of_ble_eq_true rfl⟩ rfl (Nat.le_of_ble_eq_true rfl) rfl (by decide +kernel) (sc_0 rfl) rfl hc dL_law_229 ?_
  refine cr_aload_n C 1 dL_law_232 rfl rfl ?_
  refine cr_aload_n C 3 dL_law_233 rfl rfl ?_
  refine cr_iload_n C 0 dL_law_234 rfl rfl ?_
  refine cr_iconst C (v := nI 1) dL_law_235 rfl ?_
  refine cr_iadd C dL_law_236 ?_
  rw [nI_add]
  refine cr_sld C S (show i + 1 < L by omega) hL dL_law_237 ?_
  refine cr_aload_n C 3 dL_law_238 rfl rfl ?_
  refine cr_iload_n C 0 dL_law_239 rfl rfl ?_
  refine cr_iconst C (v := nI 2) dL_law_240 rfl ?_
  refine cr_iadd C dL_law_241 ?_
  rw [nI_add]
  refine cr_sld C S (show i + 2 < L by omega) hL dL_law_242 ?_
  refine cr_sw2 ?_
  refine cr_callVI (w := (D, cA, ad2, shM)) C 0 (nA := 2) (As := [.int (xs (i + 1)), .int (xs (i + 2))]) (rest := [.int r]) (mX11_step X.2.1 (w := (D, cA, ad2, shM)) rfl e2) gL_law_X11_step rfl ⟨rfl, rfl⟩ ⟨Nat.le_of_ble_eq_true rfl, Nat.le_of_ble_eq_true rfl⟩ rfl (Nat.le_of_ble_eq_true rfl) rfl (by decide +kernel) (scm_0 rfl) rfl hc dL_law_243 ?_
  exact cr_icmp_eq C 877 dL_law_246 (by decide) (fun _ => K g2 t2 hR2) (fun h => absurd rfl h)
set_option maxHeartbeats 1000000 in
theorem lw_c5 {X : CX} {D : va_G} {cA : Nat → ClassId} (C : cCL X D cA) {b L i k n : Nat} {xs : Nat → Int32} {ad ad2 : Nat → Nat} (S : cS X b L xs) (hL : L ≤ 320) (hi : i + 5 ≤ L) (hc : k ≤ 600000 ∧ n ≤ 7302250) {g t : Sg} (hR : Rx g t) (K : ∀ g2 t2, Rx g2 t2 → cG X D (gWs (D, cA, ad, shC) g2 ++ gWs (D, cA, ad2, shM) t2) k n 877 (lvL i (ad2 0) (ad 0) b) []) : cG X D (gWs (D, cA, ad, shC) g ++ gWs (D, cA, ad2, shM) t) k n 251 (lvL i (ad2 0) (ad 0) b) [] := by
  obtain ⟨P, h, S1, u, U, v, V, hRl⟩ := hR
  obtain ⟨r, g2, t2, e1, e2, hR2⟩ := al_younger hRl (xs (i + 1)) (xs (i + 2))
  refine cr_aload_n C 2 dL_law_251 rfl rfl ?_
  refine cr_aload_n C 3 dL_law_252 rfl rfl ?_
  refine cr_iload_n C 0 dL_law_253 rfl rfl ?_
  refine cr_iconst C (v := nI 1) dL_law_254 rfl ?_
  refine cr_iadd C dL_law_255 ?_
  rw [nI_add]
  refine cr_sld C S (show i + 1 < L by omega) hL dL_law_256 ?_
  refine cr_aload_n C 3 dL_law_257 rfl rfl ?_
  refine cr_iload_n C 0 dL_law_258 rfl rfl ?_
  refine cr_iconst C (v := nI 2) dL_law_259 rfl ?_
  refine cr_iadd C dL_law_260 ?_
  rw [nI_add]
  refine cr_sld C S (show i + 2 < L by omega) hL dL_law_261 ?_
  refine cr_sw2 ?_
  refine cr_callVI (w := (D, cA, ad, shC)) C 0 (nA := 2) (As := [.int (xs (i + 1)), .int (xs (i + 2))]) (rest := []) (mX10_younger X.2.1 (w := (D, cA, ad, shC)) rfl e1) gL_law_X10_younger rfl ⟨rfl, rfl⟩ ⟨Nat.le_of_ble_eq_true rfl, Nat.le_of_ble_eq_true rfl⟩ rfl (Nat.le_of_ble_eq_true rfl) rfl (by decide +kernel) (sc_0 rfl) rfl hc dL_law_262 ?_
  refine cr_aload_n C 1 dL_law_265 rfl rfl ?_
  refine cr_aload_n C 3 dL_law_266 rfl rfl ?_
  refine cr_iload_n C 0 dL_law_267 rfl rfl ?_
  refine cr_iconst C (v := nI 1) dL_law_268 rfl ?_
  refine cr_iadd C dL_law_269 ?_
  rw [nI_add]
  refine cr_sld C S (show i + 1 < L by omega) hL dL_law_270 ?_
  refine cr_aload_n C 3 dL_law_271 rfl rfl ?_
  refine cr_iload_n C 0 dL_law_272 rfl rfl ?_
  refine cr_iconst C (v := nI 2) dL_law_273 rfl ?_
  refine cr_iadd C dL_law_274 ?_
  rw [nI_add]
  refine cr_sld C S (show i + 2 < L by omega) hL dL_law_275 ?_
  refine cr_sw2 ?_
  refine cr_callVI (w := (D, cA, ad2, shM)) C 0 (nA := 2) (As := [.int (xs (i + 1)), .int (xs (i + 2))]) (rest := [.int r]) (mX11_younger X.2.1 (w := (D, cA, ad2, shM)) rfl e2) gL_law_X11_younger rfl ⟨rfl, rfl⟩ ⟨Nat.le_of_ble_eq_true rfl, Nat.le_of_ble_eq_true rfl⟩ rfl (Nat.le_of_ble_eq_true rfl) rfl (by decide +kernel) (scm_0 rfl) rfl hc dL_law_276 ?_
  exact cr_icmp_eq C 877 dL_law_279 (by decide) (fun _ => K g2 t2 hR2) (fun h => absurd rfl h)
set_option maxHeartbeats 1000000 in
theorem lw_c6 {X : CX} {D : va_G} {cA : Nat → ClassId} (C : cCL X D cA) {b L i k n : Nat} {xs : Nat → Int32} {ad ad2 : Nat → Nat} (S : cS X b L xs) (hL : L ≤ 320) (hi : i + 5 ≤ L) (hc : k ≤ 600000 ∧ n ≤ 7302250) {g t : Sg} (hR : Rx g t) (K : ∀ g2 t2, Rx g2 t2 → cG X D (gWs (D, cA, ad, shC) g2 ++ gWs (D, cA, ad2, shM) t2) k n 877 (lvL i (ad2 0) (ad 0) b) []) : cG X D (gWs (D, cA, ad, shC) g ++ gWs (D, cA, ad2, shM) t) k n 284 (lvL i (ad2 0) (ad 0) b) [] := by
  obtain ⟨P, h, S1, u, U, v, V, hRl⟩ := hR
  obtain ⟨r, g2, t2, e1, e2, hR2⟩ := al_pass hRl (xs (i + 1))
  refine cr_aload_n C 2 dL_law_284 rfl rfl ?_
  refine cr_aload_n C 3 dL_law_285 rfl rfl ?_
  refine cr_iload_n C 0 dL_law_286 rfl rfl ?_
  refine cr_iconst C (v := nI 1) dL_law_287 rfl ?_
  refine cr_iadd C dL_law_288 ?_
  rw [nI_add]
  refine cr_sld C S (show i + 1 < L by omega) hL dL_law_289 ?_
  refine cr_sw2 ?_
  refine cr_callVI (w := (D, cA, ad, shC)) C 0 (nA := 1) (As := [.int (xs (i + 1))]) (rest := []) (mX10_pass X.2.1 (w := (D, cA, ad, shC)) rfl e1) gL_law_X10_pass rfl ⟨rfl, rfl⟩ ⟨Nat.le_of_ble_eq_true rfl, Nat.le_of_ble_eq_true rfl⟩ rfl (Nat.le_of_ble_eq_true rfl) rfl (by decide +kernel) (sc_0 rfl) rfl hc dL_law_290 ?_
  refine cr_aload_n C 1 dL_law_293 rfl rfl ?_
  refine cr_aload_n C 3 dL_law_294 rfl rfl ?_
  refine cr_iload_n C 0 dL_law_295 rfl rfl ?_
  refine cr_iconst C (v := nI 1) dL_law_296 rfl ?_
  refine cr_iadd C dL_law_297 ?_
  rw [nI_add]
  refine cr_sld C S (show i + 1 < L by omega) hL dL_law_298 ?_
  refine cr_sw2 ?_
  refine cr_callVI (w := (D, cA, ad2, shM)) C 0 (nA := 1) (As := [.int (xs (i + 1))]) (rest := [.int r]) (mX11_pass X.2.1 (w := (D, cA, ad2, shM)) rfl e2) gL_law_X11_pass rfl ⟨rfl, rfl⟩ ⟨Nat.le_of_ble_eq_true rfl, Nat.le_of_ble_eq_true rfl⟩ rfl (Nat.le_of_ble_eq_true rfl) rfl (by decide +kernel) (scm_0 rfl) rfl hc dL_law_299 ?_
  exact cr_icmp_eq C 877 dL_law_302 (by decide) (fun _ => K g2 t2 hR2) (fun h => absurd rfl h)
set_option maxHeartbeats 1000000 in
theorem lw_c7 {X : CX} {D : va_G} {cA : Nat → ClassId} (C : cCL X D cA) {b L i k n : Nat} {xs : Nat → Int32} {ad ad2 : Nat → Nat} (S : cS X b L xs) (hL : L ≤ 320) (hi : i + 5 ≤ L) (hc : k ≤ 600000 ∧ n ≤ 7302250) {g t : Sg} (hR : Rx g t) (K : ∀ g2 t2, Rx g2 t2 → cG X D (gWs (D, cA, ad, shC) g2 ++ gWs (D, cA, ad2, shM) t2) k n 877 (lvL i (ad2 0) (ad 0) b) []) : cG X D (gWs (D, cA, ad, shC) g ++ gWs (D, cA, ad2, shM) t) k n 307 (lvL i (ad2 0) (ad 0) b) [] := by
  obtain ⟨P, h, S1, u, U, v, V, hRl⟩ := hR
  obtain ⟨r, g2, t2, e1, e2, hR2⟩ := al_put hRl (xs (i + 1)) (xs (i + 2))
  refine cr_aload_n C 2 dL_law_307 rfl rfl ?_
  refine cr_aload_n C 3 dL_law_308 rfl rfl ?_
  refine cr_iload_n C 0 dL_law_309 rfl rfl ?_
  refine cr_iconst C (v := nI 1) dL_law_310 rfl ?_
  refine cr_iadd C dL_law_311 ?_
  rw [nI_add]
  refine cr_sld C S (show i + 1 < L by omega) hL dL_law_312 ?_
  refine cr_aload_n C 3 dL_law_313 rfl rfl ?_
  refine cr_iload_n C 0 dL_law_314 rfl rfl ?_
  refine cr_iconst C (v := nI 2) dL_law_315 rfl ?_
  refine cr_iadd C dL_law_316 ?_
  rw [nI_add]
  refine cr_sld C S (show i + 2 < L by omega) hL dL_law_317 ?_
  refine cr_sw2 ?_
  refine cr_callVI (w := (D, cA, ad, shC)) C 0 (nA := 2) (As := [.int (xs (i + 1)), .int (xs (i + 2))]) (rest := []) (mX10_put X.2.1 (w := (D, cA, ad, shC)) rfl e1) gL_law_X10_put rfl ⟨rfl, rfl⟩ ⟨Nat.le_of_ble_eq_true rfl, Nat.le_of_ble_eq_true rfl⟩ rfl (Nat.le_of_ble_eq_true rfl) rfl (by decide +kernel) (sc_0 rfl) rfl hc dL_law_318 ?_
  refine cr_aload_n C 1 dL_law_321 rfl rfl ?_
  refine cr_aload_n C 3 dL_law_322 rfl rfl ?_
  refine cr_iload_n C 0 dL_law_323 rfl rfl ?_
  refine cr_iconst C (v := nI 1) dL_law_324 rfl ?_
  refine cr_iadd C dL_law_325 ?_
  rw [nI_add]
  refine cr_sld C S (show i + 1 < L by omega) hL dL_law_326 ?_
  refine cr_aload_n C 3 dL_law_327 rfl rfl ?_
  refine cr_iload_n C 0 dL_law_328 rfl rfl ?_
  refine cr_iconst C (v := nI 2) dL_law_329 rfl ?_
  refine cr_iadd C dL_law_330 ?_
  rw [nI_add]
  refine cr_sld C S (show i + 2 < L by omega) hL dL_law_331 ?_
  refine cr_sw2 ?_
  refine cr_callVI (w := (D, cA, ad2, shM)) C 0 (nA := 2) (As := [.int (xs (i + 1)), .int (xs (i + 2))]) (rest := [.int r]) (mX11_put X.2.1 (w := (D, cA, ad2, shM)) rfl e2) gL_law_X11_put rfl ⟨rfl, rfl⟩ ⟨Nat.le_of_ble_eq_true rfl, Nat.le_of_ble_eq_true rfl⟩ rfl (Nat.le_of_ble_eq_true rfl) rfl (by decide +kernel) (scm_0 rfl) rfl hc dL_law_332 ?_
  exact cr_icmp_eq C 877 dL_law_335 (by decide) (fun _ => K g2 t2 hR2) (fun h => absurd rfl h)
set_option maxHeartbeats 1000000 in
theorem lw_c8 {X : CX} {D : va_G} {cA : Nat → ClassId} (C : cCL X D cA) {b L i k n : Nat} {xs : Nat → Int32} {ad ad2 : Nat → Nat} (S : cS X b L xs) (hL : L ≤ 320) (hi : i + 5 ≤ L) (hc : k ≤ 600000 ∧ n ≤ 7302250) {g t : Sg} (hR : Rx g t) (K : ∀ g2 t2, Rx g2 t2 → cG X D (gWs (D, cA, ad, shC) g2 ++ gWs (D, cA, ad2, shM) t2) k n 877 (lvL i (ad2 0) (ad 0) b) []) : cG X D (gWs (D, cA, ad, shC) g ++ gWs (D, cA, ad2, shM) t) k n 340 (lvL i (ad2 0) (ad 0) b) [] := by
  obtain ⟨P, h, S1, u, U, v, V, hRl⟩ := hR
  obtain ⟨r, g2, t2, e1, e2, hR2⟩ := al_quarrel hRl (xs (i + 1)) (xs (i + 2))
  refine cr_aload_n C 2 dL_law_340 rfl rfl ?_
  refine cr_aload_n C 3 dL_law_341 rfl rfl ?_
  refine cr_iload_n C 0 dL_law_342 rfl rfl ?_
  refine cr_iconst C (v := nI 1) dL_law_343 rfl ?_
  refine cr_iadd C dL_law_344 ?_
  rw [nI_add]
  refine cr_sld C S (show i + 1 < L by omega) hL dL_law_345 ?_
  refine cr_aload_n C 3 dL_law_346 rfl rfl ?_
  refine cr_iload_n C 0 dL_law_347 rfl rfl ?_
  refine cr_iconst C (v := nI 2) dL_law_348 rfl ?_
  refine cr_iadd C dL_law_349 ?_
  rw [nI_add]
  refine cr_sld C S (show i + 2 < L by omega) hL dL_law_350 ?_
  refine cr_sw2 ?_
  refine cr_callVI (w := (D, cA, ad, shC)) C 0 (nA := 2) (As := [.int (xs (i + 1)), .int (xs (i + 2))]) (rest := []) (mX10_quarrel X.2.1 (w := (D, cA, ad, shC)) rfl e1) gL_law_X10_quarrel rfl ⟨rfl, rfl⟩ ⟨Nat.le_of_ble_eq_true rfl, Nat.le_of_ble_eq_true rfl⟩ rfl (Nat.le_of_ble_eq_true rfl) rfl (by decide +kernel) (sc_0 rfl) rfl hc dL_law_351 ?_
  refine cr_aload_n C 1 dL_law_354 rfl rfl ?_
  refine cr_aload_n C 3 dL_law_355 rfl rfl ?_
  refine cr_iload_n C 0 dL_law_356 rfl rfl ?_
  refine cr_iconst C (v := nI 1) dL_law_357 rfl ?_
  refine cr_iadd C dL_law_358 ?_
  rw [nI_add]
  refine cr_sld C S (show i + 1 < L by omega) hL dL_law_359 ?_
  refine cr_aload_n C 3 dL_law_360 rfl rfl ?_
  refine cr_iload_n C 0 dL_law_361 rfl rfl ?_
  refine cr_iconst C (v := nI 2) dL_law_362 rfl ?_
  refine cr_iadd C dL_law_363 ?_
  rw [nI_add]
  refine cr_sld C S (show i + 2 < L by omega) hL dL_law_364 ?_
  refine cr_sw2 ?_
  refine cr_callVI (w := (D, cA, ad2, shM)) C 0 (nA := 2) (As := [.int (xs (i + 1)), .int (xs (i + 2))]) (rest := [.int r]) (mX11_quarrel X.2.1 (w := (D, cA, ad2, shM)) rfl e2) gL_law_X11_quarrel rfl ⟨rfl, rfl⟩ ⟨Nat.le_of_ble_eq_true rfl, Nat.le_of_ble_eq_true rfl⟩ rfl (Nat.le_of_ble_eq_true rfl) rfl (by decide +kernel) (scm_0 rfl) rfl hc dL_law_365 ?_
  exact cr_icmp_eq C 877 dL_law_368 (by decide) (fun _ => K g2 t2 hR2) (fun h => absurd rfl h)
set_option maxHeartbeats 1000000 in
theorem lw_c9 {X : CX} {D : va_G} {cA : Nat → ClassId} (C : cCL X D cA) {b L i k n : Nat} {xs : Nat → Int32} {ad ad2 : Nat → Nat} (S : cS X b L xs) (hL : L ≤ 320) (hi : i + 5 ≤ L) (hc : k ≤ 600000 ∧ n ≤ 7302250) {g t : Sg} (hR : Rx g t) (K : ∀ g2 t2, Rx g2 t2 → cG X D (gWs (D, cA, ad, shC) g2 ++ gWs (D, cA, ad2, shM) t2) k n 877 (lvL i (ad2 0) (ad 0) b) []) : cG X D (gWs (D, cA, ad, shC) g ++ gWs (D, cA, ad2, shM) t) k n 373 (lvL i (ad2 0) (ad 0) b) [] := by
  obtain ⟨P, h, S1, u, U, v, V, hRl⟩ := hR
  obtain ⟨r, g2, t2, e1, e2, hR2⟩ := al_cats hRl (xs (i + 1)) (xs (i + 2))
  refine cr_aload_n C 2 dL_law_373 rfl rfl ?_
  refine cr_aload_n C 3 dL_law_374 rfl rfl ?_
  refine cr_iload_n C 0 dL_law_375 rfl rfl ?_
  refine cr_iconst C (v := nI 1) dL_law_376 rfl ?_
  refine cr_iadd C dL_law_377 ?_
  rw [nI_add]
  refine cr_sld C S (show i + 1 < L by omega) hL dL_law_378 ?_
  refine cr_aload_n C 3 dL_law_379 rfl rfl ?_
  refine cr_iload_n C 0 dL_law_380 rfl rfl ?_
  refine cr_iconst C (v := nI 2) dL_law_381 rfl ?_
  refine cr_iadd C dL_law_382 ?_
  rw [nI_add]
  refine cr_sld C S (show i + 2 < L by omega) hL dL_law_383 ?_
  refine cr_sw2 ?_
  refine cr_callVI (w := (D, cA, ad, shC)) C 0 (nA := 2) (As := [.int (xs (i + 1)), .int (xs (i + 2))]) (rest := []) (mX10_cats X.2.1 (w := (D, cA, ad, shC)) rfl e1) gL_law_X10_cats rfl ⟨rfl, rfl⟩ ⟨Nat.le_of_ble_eq_true rfl, Nat.le_of_ble_eq_true rfl⟩ rfl (Nat.le_of_ble_eq_true rfl) rfl (by decide +kernel) (sc_0 rfl) rfl hc dL_law_384 ?_
  refine cr_aload_n C 1 dL_law_387 rfl rfl ?_
  refine cr_aload_n C 3 dL_law_388 rfl rfl ?_
  refine cr_iload_n C 0 dL_law_389 rfl rfl ?_
  refine cr_iconst C (v := nI 1) dL_law_390 rfl ?_
  refine cr_iadd C dL_law_391 ?_
  rw [nI_add]
  refine cr_sld C S (show i + 1 < L by omega) hL dL_law_392 ?_
  refine cr_aload_n C 3 dL_law_393 rfl rfl ?_
  refine cr_iload_n C 0 dL_law_394 rfl rfl ?_
  refine cr_iconst C (v := nI 2) dL_law_395 rfl ?_
  refine cr_iadd C dL_law_396 ?_
  rw [nI_add]
  refine cr_sld C S (show i + 2 < L by omega) hL dL_law_397 ?_
  refine cr_sw2 ?_
  refine cr_callVI (w := (D, cA, ad2, shM)) C 0 (nA := 2) (As := [.int (xs (i + 1)), .int (xs (i + 2))]) (rest := [.int r]) (mX11_cats X.2.1 (w := (D, cA, ad2, shM)) rfl e2) gL_law_X11_cats rfl ⟨rfl, rfl⟩ ⟨Nat.le_of_ble_eq_true rfl, Nat.le_of_ble_eq_true rfl⟩ rfl (Nat.le_of_ble_eq_true rfl) rfl (by decide +kernel) (scm_0 rfl) rfl hc dL_law_398 ?_
  exact cr_icmp_eq C 877 dL_law_401 (by decide) (fun _ => K g2 t2 hR2) (fun h => absurd rfl h)
set_option maxHeartbeats 1000000 in
theorem lw_c10 {X : CX} {D : va_G} {cA : Nat → ClassId} (C : cCL X D cA) {b L i k n : Nat} {xs : Nat → Int32} {ad ad2 : Nat → Nat} (S : cS X b L xs) (hL : L ≤ 320) (hi : i + 5 ≤ L) (hc : k ≤ 600000 ∧ n ≤ 7302250) {g t : Sg} (hR : Rx g t) (K : ∀ g2 t2, Rx g2 t2 → cG X D (gWs (D, cA, ad, shC) g2 ++ gWs (D, cA, ad2, shM) t2) k n 877 (lvL i (ad2 0) (ad 0) b) []) : cG X D (gWs (D, cA, ad, shC) g ++ gWs (D, cA, ad2, shM) t) k n 406 (lvL i (ad2 0) (ad 0) b) [] := by
  obtain ⟨P, h, S1, u, U, v, V, hRl⟩ := hR
  obtain ⟨r, g2, t2, e1, e2, hR2⟩ := al_undo hRl 
  refine cr_aload_n C 2 dL_law_406 rfl rfl ?_
  refine cr_sw2 ?_
  refine cr_callVI (w := (D, cA, ad, shC)) C 0 (nA := 0) (As := []) (rest := []) (mX10_undo X.2.1 (w := (D, cA, ad, shC)) rfl e1) gL_law_X10_undo rfl ⟨rfl, rfl⟩ ⟨Nat.le_of_ble_eq_true rfl, Nat.le_of_ble_eq_true rfl⟩ rfl (Nat.le_of_ble_eq_true rfl) rfl (by decide +kernel) (sc_0 rfl) rfl hc dL_law_407 ?_
  refine cr_aload_n C 1 dL_law_410 rfl rfl ?_
  refine cr_sw2 ?_
  refine cr_callVI (w := (D, cA, ad2, shM)) C 0 (nA := 0) (As := []) (rest := [.int r]) (mX11_undo X.2.1 (w := (D, cA, ad2, shM)) rfl e2) gL_law_X11_undo rfl ⟨rfl, rfl⟩ ⟨Nat.le_of_ble_eq_true rfl, Nat.le_of_ble_eq_true rfl⟩ rfl (Nat.le_of_ble_eq_true rfl) rfl (by decide +kernel) (scm_0 rfl) rfl hc dL_law_411 ?_
  exact cr_icmp_eq C 877 dL_law_414 (by decide) (fun _ => K g2 t2 hR2) (fun h => absurd rfl h)
set_option maxHeartbeats 1000000 in
theorem lw_c11 {X : CX} {D : va_G} {cA : Nat → ClassId} (C : cCL X D cA) {b L i k n : Nat} {xs : Nat → Int32} {ad ad2 : Nat → Nat} (S : cS X b L xs) (hL : L ≤ 320) (hi : i + 5 ≤ L) (hc : k ≤ 600000 ∧ n ≤ 7302250) {g t : Sg} (hR : Rx g t) (K : ∀ g2 t2, Rx g2 t2 → cG X D (gWs (D, cA, ad, shC) g2 ++ gWs (D, cA, ad2, shM) t2) k n 877 (lvL i (ad2 0) (ad 0) b) []) : cG X D (gWs (D, cA, ad, shC) g ++ gWs (D, cA, ad2, shM) t) k n 419 (lvL i (ad2 0) (ad 0) b) [] := by
  obtain ⟨P, h, S1, u, U, v, V, hRl⟩ := hR
  obtain ⟨r, g2, t2, e1, e2, hR2⟩ := al_behind hRl (xs (i + 1)) (xs (i + 2))
  refine cr_aload_n C 2 dL_law_419 rfl rfl ?_
  refine cr_aload_n C 3 dL_law_420 rfl rfl ?_
  refine cr_iload_n C 0 dL_law_421 rfl rfl ?_
  refine cr_iconst C (v := nI 1) dL_law_422 rfl ?_
  refine cr_iadd C dL_law_423 ?_
  rw [nI_add]
  refine cr_sld C S (show i + 1 < L by omega) hL dL_law_424 ?_
  refine cr_aload_n C 3 dL_law_425 rfl rfl ?_
  refine cr_iload_n C 0 dL_law_426 rfl rfl ?_
  refine cr_iconst C (v := nI 2) dL_law_427 rfl ?_
  refine cr_iadd C dL_law_428 ?_
  rw [nI_add]
  refine cr_sld C S (show i + 2 < L by omega) hL dL_law_429 ?_
  refine cr_sw2 ?_
  refine cr_callVI (w := (D, cA, ad, shC)) C 0 (nA := 2) (As := [.int (xs (i + 1)), .int (xs (i + 2))]) (rest := []) (mX10_behind X.2.1 (w := (D, cA, ad, shC)) rfl e1) gL_law_X10_behind rfl ⟨rfl, rfl⟩ ⟨Nat.le_of_ble_eq_true rfl, Nat.le_of_ble_eq_true rfl⟩ rfl (Nat.le_of_ble_eq_true rfl) rfl (by decide +kernel) (sc_0 rfl) rfl hc dL_law_430 ?_
  refine cr_aload_n C 1 dL_law_433 rfl rfl ?_
  refine cr_aload_n C 3 dL_law_434 rfl rfl ?_
  refine cr_iload_n C 0 dL_law_435 rfl rfl ?_
  refine cr_iconst C (v := nI 1) dL_law_436 rfl ?_
  refine cr_iadd C dL_law_437 ?_
  rw [nI_add]
  refine cr_sld C S (show i + 1 < L by omega) hL dL_law_438 ?_
  refine cr_aload_n C 3 dL_law_439 rfl rfl ?_
  refine cr_iload_n C 0 dL_law_440 rfl rfl ?_
  refine cr_iconst C (v := nI 2) dL_law_441 rfl ?_
  refine cr_iadd C dL_law_442 ?_
  rw [nI_add]
  refine cr_sld C S (show i + 2 < L by omega) hL dL_law_443 ?_
  refine cr_sw2 ?_
  refine cr_callVI (w := (D, cA, ad2, shM)) C 0 (nA := 2) (As := [.int (xs (i + 1)), .int (xs (i + 2))]) (rest := [.int r]) (mX11_behind X.2.1 (w := (D, cA, ad2, shM)) rfl e2) gL_law_X11_behind rfl ⟨rfl, rfl⟩ ⟨Nat.le_of_ble_eq_true rfl, Nat.le_of_ble_eq_true rfl⟩ rfl (Nat.le_of_ble_eq_true rfl) rfl (by decide +kernel) (scm_0 rfl) rfl hc dL_law_444 ?_
  exact cr_icmp_eq C 877 dL_law_447 (by decide) (fun _ => K g2 t2 hR2) (fun h => absurd rfl h)
set_option maxHeartbeats 1000000 in
theorem lw_c12 {X : CX} {D : va_G} {cA : Nat → ClassId} (C : cCL X D cA) {b L i k n : Nat} {xs : Nat → Int32} {ad ad2 : Nat → Nat} (S : cS X b L xs) (hL : L ≤ 320) (hi : i + 5 ≤ L) (hc : k ≤ 600000 ∧ n ≤ 7302250) {g t : Sg} (hR : Rx g t) (K : ∀ g2 t2, Rx g2 t2 → cG X D (gWs (D, cA, ad, shC) g2 ++ gWs (D, cA, ad2, shM) t2) k n 877 (lvL i (ad2 0) (ad 0) b) []) : cG X D (gWs (D, cA, ad, shC) g ++ gWs (D, cA, ad2, shM) t) k n 452 (lvL i (ad2 0) (ad 0) b) [] := by
  obtain ⟨P, h, S1, u, U, v, V, hRl⟩ := hR
  obtain ⟨r, g2, t2, e1, e2, hR2⟩ := al_goes hRl (xs (i + 1))
  refine cr_aload_n C 2 dL_law_452 rfl rfl ?_
  refine cr_aload_n C 3 dL_law_453 rfl rfl ?_
  refine cr_iload_n C 0 dL_law_454 rfl rfl ?_
  refine cr_iconst C (v := nI 1) dL_law_455 rfl ?_
  refine cr_iadd C dL_law_456 ?_
  rw [nI_add]
  refine cr_sld C S (show i + 1 < L by omega) hL dL_law_457 ?_
  refine cr_sw2 ?_
  refine cr_callVI (w := (D, cA, ad, shC)) C 0 (nA := 1) (As := [.int (xs (i + 1))]) (rest := []) (mX10_goes X.2.1 (w := (D, cA, ad, shC)) rfl e1) gL_law_X10_goes rfl ⟨rfl, rfl⟩ ⟨Nat.le_of_ble_eq_true rfl, Nat.le_of_ble_eq_true rfl⟩ rfl (Nat.le_of_ble_eq_true rfl) rfl (by decide +kernel) (sc_0 rfl) rfl hc dL_law_458 ?_
  refine cr_aload_n C 1 dL_law_461 rfl rfl ?_
  refine cr_aload_n C 3 dL_law_462 rfl rfl ?_
  refine cr_iload_n C 0 dL_law_463 rfl rfl ?_
  refine cr_iconst C (v := nI 1) dL_law_464 rfl ?_
  refine cr_iadd C dL_law_465 ?_
  rw [nI_add]
  refine cr_sld C S (show i + 1 < L by omega) hL dL_law_466 ?_
  refine cr_sw2 ?_
  refine cr_callVI (w := (D, cA, ad2, shM)) C 0 (nA := 1) (As := [.int (xs (i + 1))]) (rest := [.int r]) (mX11_goes X.2.1 (w := (D, cA, ad2, shM)) rfl e2) gL_law_X11_goes rfl ⟨rfl, rfl⟩ ⟨Nat.le_of_ble_eq_true rfl, Nat.le_of_ble_eq_true rfl⟩ rfl (Nat.le_of_ble_eq_true rfl) rfl (by decide +kernel) (scm_0 rfl) rfl hc dL_law_467 ?_
  exact cr_icmp_eq C 877 dL_law_470 (by decide) (fun _ => K g2 t2 hR2) (fun h => absurd rfl h)
set_option maxHeartbeats 1000000 in
theorem lw_c13 {X : CX} {D : va_G} {cA : Nat → ClassId} (C : cCL X D cA) {b L i k n : Nat} {xs : Nat → Int32} {ad ad2 : Nat → Nat} (S : cS X b L xs) (hL : L ≤ 320) (hi : i + 5 ≤ L) (hc : k ≤ 600000 ∧ n ≤ 7302250) {g t : Sg} (hR : Rx g t) (K : ∀ g2 t2, Rx g2 t2 → cG X D (gWs (D, cA, ad, shC) g2 ++ gWs (D, cA, ad2, shM) t2) k n 877 (lvL i (ad2 0) (ad 0) b) []) : cG X D (gWs (D, cA, ad, shC) g ++ gWs (D, cA, ad2, shM) t) k n 475 (lvL i (ad2 0) (ad 0) b) [] := by
  obtain ⟨P, h, S1, u, U, v, V, hRl⟩ := hR
  obtain ⟨r, g2, t2, e1, e2, hR2⟩ := al_least hRl (xs (i + 1)) (xs (i + 2))
  refine cr_aload_n C 2 dL_law_475 rfl rfl ?_
  refine cr_aload_n C 3 dL_law_476 rfl rfl ?_
  refine cr_iload_n C 0 dL_law_477 rfl rfl ?_
  refine cr_iconst C (v := nI 1) dL_law_478 rfl ?_
  refine cr_iadd C dL_law_479 ?_
  rw [nI_add]
  refine cr_sld C S (show i + 1 < L by omega) hL dL_law_480 ?_
  refine cr_aload_n C 3 dL_law_481 rfl rfl ?_
  refine cr_iload_n C 0 dL_law_482 rfl rfl ?_
  refine cr_iconst C (v := nI 2) dL_law_483 rfl ?_
  refine cr_iadd C dL_law_484 ?_
  rw [nI_add]
  refine cr_sld C S (show i + 2 < L by omega) hL dL_law_485 ?_
  refine cr_sw2 ?_
  refine cr_callVI (w := (D, cA, ad, shC)) C 0 (nA := 2) (As := [.int (xs (i + 1)), .int (xs (i + 2))]) (rest := []) (mX10_least X.2.1 (w := (D, cA, ad, shC)) rfl e1) gL_law_X10_least rfl ⟨rfl, rfl⟩ ⟨Nat.le_of_ble_eq_true rfl, Nat.le_of_ble_eq_true rfl⟩ rfl (Nat.le_of_ble_eq_true rfl) rfl (by decide +kernel) (sc_0 rfl) rfl hc dL_law_486 ?_
  refine cr_aload_n C 1 dL_law_489 rfl rfl ?_
  refine cr_aload_n C 3 dL_law_490 rfl rfl ?_
  refine cr_iload_n C 0 dL_law_491 rfl rfl ?_
  refine cr_iconst C (v := nI 1) dL_law_492 rfl ?_
  refine cr_iadd C dL_law_493 ?_
  rw [nI_add]
  refine cr_sld C S (show i + 1 < L by omega) hL dL_law_494 ?_
  refine cr_aload_n C 3 dL_law_495 rfl rfl ?_
  refine cr_iload_n C 0 dL_law_496 rfl rfl ?_
  refine cr_iconst C (v := nI 2) dL_law_497 rfl ?_
  refine cr_iadd C dL_law_498 ?_
  rw [nI_add]
  refine cr_sld C S (show i + 2 < L by omega) hL dL_law_499 ?_
  refine cr_sw2 ?_
  refine cr_callVI (w := (D, cA, ad2, shM)) C 0 (nA := 2) (As := [.int (xs (i + 1)), .int (xs (i + 2))]) (rest := [.int r]) (mX11_least X.2.1 (w := (D, cA, ad2, shM)) rfl e2) gL_law_X11_least rfl ⟨rfl, rfl⟩ ⟨Nat.le_of_ble_eq_true rfl, Nat.le_of_ble_eq_true rfl⟩ rfl (Nat.le_of_ble_eq_true rfl) rfl (by decide +kernel) (scm_0 rfl) rfl hc dL_law_500 ?_
  exact cr_icmp_eq C 877 dL_law_503 (by decide) (fun _ => K g2 t2 hR2) (fun h => absurd rfl h)
set_option maxHeartbeats 1000000 in
theorem lw_c14 {X : CX} {D : va_G} {cA : Nat → ClassId} (C : cCL X D cA) {b L i k n : Nat} {xs : Nat → Int32} {ad ad2 : Nat → Nat} (S : cS X b L xs) (hL : L ≤ 320) (hi : i + 5 ≤ L) (hc : k ≤ 600000 ∧ n ≤ 7302250) {g t : Sg} (hR : Rx g t) (K : ∀ g2 t2, Rx g2 t2 → cG X D (gWs (D, cA, ad, shC) g2 ++ gWs (D, cA, ad2, shM) t2) k n 877 (lvL i (ad2 0) (ad 0) b) []) : cG X D (gWs (D, cA, ad, shC) g ++ gWs (D, cA, ad2, shM) t) k n 508 (lvL i (ad2 0) (ad 0) b) [] := by
  obtain ⟨P, h, S1, u, U, v, V, hRl⟩ := hR
  obtain ⟨r, g2, t2, e1, e2, hR2⟩ := al_round hRl 
  refine cr_aload_n C 2 dL_law_508 rfl rfl ?_
  refine cr_sw2 ?_
  refine cr_callVI (w := (D, cA, ad, shC)) C 0 (nA := 0) (As := []) (rest := []) (mX10_round X.2.1 (w := (D, cA, ad, shC)) rfl e1) gL_law_X10_round rfl ⟨rfl, rfl⟩ ⟨Nat.le_of_ble_eq_true rfl, Nat.le_of_ble_eq_true rfl⟩ rfl (Nat.le_of_ble_eq_true rfl) rfl (by decide +kernel) (sc_0 rfl) rfl hc dL_law_509 ?_
  refine cr_aload_n C 1 dL_law_512 rfl rfl ?_
  refine cr_sw2 ?_
  refine cr_callVI (w := (D, cA, ad2, shM)) C 0 (nA := 0) (As := []) (rest := [.int r]) (mX11_round X.2.1 (w := (D, cA, ad2, shM)) rfl e2) gL_law_X11_round rfl ⟨rfl, rfl⟩ ⟨Nat.le_of_ble_eq_true rfl, Nat.le_of_ble_eq_true rfl⟩ rfl (Nat.le_of_ble_eq_true rfl) rfl (by decide +kernel) (scm_0 rfl) rfl hc dL_law_513 ?_
  exact cr_icmp_eq C 877 dL_law_516 (by decide) (fun _ => K g2 t2 hR2) (fun h => absurd rfl h)
set_option maxHeartbeats 1000000 in
theorem lw_c15 {X : CX} {D : va_G} {cA : Nat → ClassId} (C : cCL X D cA) {b L i k n : Nat} {xs : Nat → Int32} {ad ad2 : Nat → Nat} (S : cS X b L xs) (hL : L ≤ 320) (hi : i + 5 ≤ L) (hc : k ≤ 600000 ∧ n ≤ 7302250) {g t : Sg} (hR : Rx g t) (K : ∀ g2 t2, Rx g2 t2 → cG X D (gWs (D, cA, ad, shC) g2 ++ gWs (D, cA, ad2, shM) t2) k n 877 (lvL i (ad2 0) (ad 0) b) []) : cG X D (gWs (D, cA, ad, shC) g ++ gWs (D, cA, ad2, shM) t) k n 521 (lvL i (ad2 0) (ad 0) b) [] := by
  obtain ⟨P, h, S1, u, U, v, V, hRl⟩ := hR
  obtain ⟨r, g2, t2, e1, e2, hR2⟩ := al_best hRl (xs (i + 1)) (xs (i + 2)) (xs (i + 3))
  refine cr_aload_n C 2 dL_law_521 rfl rfl ?_
  refine cr_aload_n C 3 dL_law_522 rfl rfl ?_
  refine cr_iload_n C 0 dL_law_523 rfl rfl ?_
  refine cr_iconst C (v := nI 1) dL_law_524 rfl ?_
  refine cr_iadd C dL_law_525 ?_
  rw [nI_add]
  refine cr_sld C S (show i + 1 < L by omega) hL dL_law_526 ?_
  refine cr_aload_n C 3 dL_law_527 rfl rfl ?_
  refine cr_iload_n C 0 dL_law_528 rfl rfl ?_
  refine cr_iconst C (v := nI 2) dL_law_529 rfl ?_
  refine cr_iadd C dL_law_530 ?_
  rw [nI_add]
  refine cr_sld C S (show i + 2 < L by omega) hL dL_law_531 ?_
  refine cr_aload_n C 3 dL_law_532 rfl rfl ?_
  refine cr_iload_n C 0 dL_law_533 rfl rfl ?_
  refine cr_iconst C (v := nI 3) dL_law_534 rfl ?_
  refine cr_iadd C dL_law_535 ?_
  rw [nI_add]
  refine cr_sld C S (show i + 3 < L by omega) hL dL_law_536 ?_
  refine cr_sw2 ?_
  refine cr_callVI (w := (D, cA, ad, shC)) C 0 (nA := 3) (As := [.int (xs (i + 1)), .int (xs (i + 2)), .int (xs (i + 3))]) (rest := []) (mX10_best X.2.1 (w := (D, cA, ad, shC)) rfl e1) gL_law_X10_best rfl ⟨rfl, rfl⟩ ⟨Nat.le_of_ble_eq_true rfl, Nat.le_of_ble_eq_true rfl⟩ rfl (Nat.le_of_ble_eq_true rfl) rfl (by decide +kernel) (sc_0 rfl) rfl hc dL_law_537 ?_
  refine cr_aload_n C 1 dL_law_540 rfl rfl ?_
  refine cr_aload_n C 3 dL_law_541 rfl rfl ?_
  refine cr_iload_n C 0 dL_law_542 rfl rfl ?_
  refine cr_iconst C (v := nI 1) dL_law_543 rfl ?_
  refine cr_iadd C dL_law_544 ?_
  rw [nI_add]
  refine cr_sld C S (show i + 1 < L by omega) hL dL_law_545 ?_
  refine cr_aload_n C 3 dL_law_546 rfl rfl ?_
  refine cr_iload_n C 0 dL_law_547 rfl rfl ?_
  refine cr_iconst C (v := nI 2) dL_law_548 rfl ?_
  refine cr_iadd C dL_law_549 ?_
  rw [nI_add]
  refine cr_sld C S (show i + 2 < L by omega) hL dL_law_550 ?_
  refine cr_aload_n C 3 dL_law_551 rfl rfl ?_
  refine cr_iload_n C 0 dL_law_552 rfl rfl ?_
  refine cr_iconst C (v := nI 3) dL_law_553 rfl ?_
  refine cr_iadd C dL_law_554 ?_
  rw [nI_add]
  refine cr_sld C S (show i + 3 < L by omega) hL dL_law_555 ?_
  refine cr_sw2 ?_
  refine cr_callVI (w := (D, cA, ad2, shM)) C 0 (nA := 3) (As := [.int (xs (i + 1)), .int (xs (i + 2)), .int (xs (i + 3))]) (rest := [.int r]) (mX11_best X.2.1 (w := (D, cA, ad2, shM)) rfl e2) gL_law_X11_best rfl ⟨rfl, rfl⟩ ⟨Nat.le_of_ble_eq_true rfl, Nat.le_of_ble_eq_true rfl⟩ rfl (Nat.le_of_ble_eq_true rfl) rfl (by decide +kernel) (scm_0 rfl) rfl hc dL_law_556 ?_
  exact cr_icmp_eq C 877 dL_law_559 (by decide) (fun _ => K g2 t2 hR2) (fun h => absurd rfl h)
set_option maxHeartbeats 1000000 in
theorem lw_c16 {X : CX} {D : va_G} {cA : Nat → ClassId} (C : cCL X D cA) {b L i k n : Nat} {xs : Nat → Int32} {ad ad2 : Nat → Nat} (S : cS X b L xs) (hL : L ≤ 320) (hi : i + 5 ≤ L) (hc : k ≤ 600000 ∧ n ≤ 7302250) {g t : Sg} (hR : Rx g t) (K : ∀ g2 t2, Rx g2 t2 → cG X D (gWs (D, cA, ad, shC) g2 ++ gWs (D, cA, ad2, shM) t2) k n 877 (lvL i (ad2 0) (ad 0) b) []) : cG X D (gWs (D, cA, ad, shC) g ++ gWs (D, cA, ad2, shM) t) k n 564 (lvL i (ad2 0) (ad 0) b) [] := by
  obtain ⟨P, h, S1, u, U, v, V, hRl⟩ := hR
  obtain ⟨r, g2, t2, e1, e2, hR2⟩ := al_help hRl (xs (i + 1))
  refine cr_aload_n C 2 dL_law_564 rfl rfl ?_
  refine cr_aload_n C 3 dL_law_565 rfl rfl ?_
  refine cr_iload_n C 0 dL_law_566 rfl rfl ?_
  refine cr_iconst C (v := nI 1) dL_law_567 rfl ?_
  refine cr_iadd C dL_law_568 ?_
  rw [nI_add]
  refine cr_sld C S (show i + 1 < L by omega) hL dL_law_569 ?_
  refine cr_sw2 ?_
  refine cr_callVI (w := (D, cA, ad, shC)) C 0 (nA := 1) (As := [.int (xs (i + 1))]) (rest := []) (mX10_help X.2.1 (w := (D, cA, ad, shC)) rfl e1) gL_law_X10_help rfl ⟨rfl, rfl⟩ ⟨Nat.le_of_ble_eq_true rfl, Nat.le_of_ble_eq_true rfl⟩ rfl (Nat.le_of_ble_eq_true rfl) rfl (by decide +kernel) (sc_0 rfl) rfl hc dL_law_570 ?_
  refine cr_aload_n C 1 dL_law_573 rfl rfl ?_
  refine cr_aload_n C 3 dL_law_574 rfl rfl ?_
  refine cr_iload_n C 0 dL_law_575 rfl rfl ?_
  refine cr_iconst C (v := nI 1) dL_law_576 rfl ?_
  refine cr_iadd C dL_law_577 ?_
  rw [nI_add]
  refine cr_sld C S (show i + 1 < L by omega) hL dL_law_578 ?_
  refine cr_sw2 ?_
  refine cr_callVI (w := (D, cA, ad2, shM)) C 0 (nA := 1) (As := [.int (xs (i + 1))]) (rest := [.int r]) (mX11_help X.2.1 (w := (D, cA, ad2, shM)) rfl e2) gL_law_X11_help rfl ⟨rfl, rfl⟩ ⟨Nat.le_of_ble_eq_true rfl, Nat.le_of_ble_eq_true rfl⟩ rfl (Nat.le_of_ble_eq_true rfl) rfl (by decide +kernel) (scm_0 rfl) rfl hc dL_law_579 ?_
  exact cr_icmp_eq C 877 dL_law_582 (by decide) (fun _ => K g2 t2 hR2) (fun h => absurd rfl h)
set_option maxHeartbeats 1000000 in
theorem lw_c17 {X : CX} {D : va_G} {cA : Nat → ClassId} (C : cCL X D cA) {b L i k n : Nat} {xs : Nat → Int32} {ad ad2 : Nat → Nat} (S : cS X b L xs) (hL : L ≤ 320) (hi : i + 5 ≤ L) (hc : k ≤ 600000 ∧ n ≤ 7302250) {g t : Sg} (hR : Rx g t) (K : ∀ g2 t2, Rx g2 t2 → cG X D (gWs (D, cA, ad, shC) g2 ++ gWs (D, cA, ad2, shM) t2) k n 877 (lvL i (ad2 0) (ad 0) b) []) : cG X D (gWs (D, cA, ad, shC) g ++ gWs (D, cA, ad2, shM) t) k n 587 (lvL i (ad2 0) (ad 0) b) [] := by
  obtain ⟨P, h, S1, u, U, v, V, hRl⟩ := hR
  obtain ⟨r, g2, t2, e1, e2, hR2⟩ := al_see hRl (xs (i + 1)) (xs (i + 2))
  refine cr_aload_n C 2 dL_law_587 rfl rfl ?_
  refine cr_aload_n C 3 dL_law_588 rfl rfl ?_
  refine cr_iload_n C 0 dL_law_589 rfl rfl ?_
  refine cr_iconst C (v := nI 1) dL_law_590 rfl ?_
  refine cr_iadd C dL_law_591 ?_
  rw [nI_add]
  refine cr_sld C S (show i + 1 < L by omega) hL dL_law_592 ?_
  refine cr_aload_n C 3 dL_law_593 rfl rfl ?_
  refine cr_iload_n C 0 dL_law_594 rfl rfl ?_
  refine cr_iconst C (v := nI 2) dL_law_595 rfl ?_
  refine cr_iadd C dL_law_596 ?_
  rw [nI_add]
  refine cr_sld C S (show i + 2 < L by omega) hL dL_law_597 ?_
  refine cr_sw2 ?_
  refine cr_callVI (w := (D, cA, ad, shC)) C 0 (nA := 2) (As := [.int (xs (i + 1)), .int (xs (i + 2))]) (rest := []) (mX10_see X.2.1 (w := (D, cA, ad, shC)) rfl e1) gL_law_X10_see rfl ⟨rfl, rfl⟩ ⟨Nat.le_of_ble_eq_true rfl, Nat.le_of_ble_eq_true rfl⟩ rfl (Nat.le_of_ble_eq_true rfl) rfl (by decide +kernel) (sc_0 rfl) rfl hc dL_law_598 ?_
  refine cr_aload_n C 1 dL_law_601 rfl rfl ?_
  refine cr_aload_n C 3 dL_law_602 rfl rfl ?_
  refine cr_iload_n C 0 dL_law_603 rfl rfl ?_
  refine cr_iconst C (v := nI 1) dL_law_604 rfl ?_
  refine cr_iadd C dL_law_605 ?_
  rw [nI_add]
  refine cr_sld C S (show i + 1 < L by omega) hL dL_law_606 ?_
  refine cr_aload_n C 3 dL_law_607 rfl rfl ?_
  refine cr_iload_n C 0 dL_law_608 rfl rfl ?_
  refine cr_iconst C (v := nI 2) dL_law_609 rfl ?_
  refine cr_iadd C dL_law_610 ?_
  rw [nI_add]
  refine cr_sld C S (show i + 2 < L by omega) hL dL_law_611 ?_
  refine cr_sw2 ?_
  refine cr_callVI (w := (D, cA, ad2, shM)) C 0 (nA := 2) (As := [.int (xs (i + 1)), .int (xs (i + 2))]) (rest := [.int r]) (mX11_see X.2.1 (w := (D, cA, ad2, shM)) rfl e2) gL_law_X11_see rfl ⟨rfl, rfl⟩ ⟨Nat.le_of_ble_eq_true rfl, Nat.le_of_ble_eq_true rfl⟩ rfl (Nat.le_of_ble_eq_true rfl) rfl (by decide +kernel) (scm_0 rfl) rfl hc dL_law_612 ?_
  exact cr_icmp_eq C 877 dL_law_615 (by decide) (fun _ => K g2 t2 hR2) (fun h => absurd rfl h)
set_option maxHeartbeats 1000000 in
theorem lw_c18 {X : CX} {D : va_G} {cA : Nat → ClassId} (C : cCL X D cA) {b L i k n : Nat} {xs : Nat → Int32} {ad ad2 : Nat → Nat} (S : cS X b L xs) (hL : L ≤ 320) (hi : i + 5 ≤ L) (hc : k ≤ 600000 ∧ n ≤ 7302250) {g t : Sg} (hR : Rx g t) (K : ∀ g2 t2, Rx g2 t2 → cG X D (gWs (D, cA, ad, shC) g2 ++ gWs (D, cA, ad2, shM) t2) k n 877 (lvL i (ad2 0) (ad 0) b) []) : cG X D (gWs (D, cA, ad, shC) g ++ gWs (D, cA, ad2, shM) t) k n 620 (lvL i (ad2 0) (ad 0) b) [] := by
  obtain ⟨P, h, S1, u, U, v, V, hRl⟩ := hR
  obtain ⟨r, g2, t2, e1, e2, hR2⟩ := al_forget hRl 
  refine cr_aload_n C 2 dL_law_620 rfl rfl ?_
  refine cr_sw2 ?_
  refine cr_callVI (w := (D, cA, ad, shC)) C 0 (nA := 0) (As := []) (rest := []) (mX10_forget X.2.1 (w := (D, cA, ad, shC)) rfl e1) gL_law_X10_forget rfl ⟨rfl, rfl⟩ ⟨Nat.le_of_ble_eq_true rfl, Nat.le_of_ble_eq_true rfl⟩ rfl (Nat.le_of_ble_eq_true rfl) rfl (by decide +kernel) (sc_0 rfl) rfl hc dL_law_621 ?_
  refine cr_aload_n C 1 dL_law_624 rfl rfl ?_
  refine cr_sw2 ?_
  refine cr_callVI (w := (D, cA, ad2, shM)) C 0 (nA := 0) (As := []) (rest := [.int r]) (mX11_forget X.2.1 (w := (D, cA, ad2, shM)) rfl e2) gL_law_X11_forget rfl ⟨rfl, rfl⟩ ⟨Nat.le_of_ble_eq_true rfl, Nat.le_of_ble_eq_true rfl⟩ rfl (Nat.le_of_ble_eq_true rfl) rfl (by decide +kernel) (scm_0 rfl) rfl hc dL_law_625 ?_
  exact cr_icmp_eq C 877 dL_law_628 (by decide) (fun _ => K g2 t2 hR2) (fun h => absurd rfl h)
set_option maxHeartbeats 1000000 in
theorem lw_c19 {X : CX} {D : va_G} {cA : Nat → ClassId} (C : cCL X D cA) {b L i k n : Nat} {xs : Nat → Int32} {ad ad2 : Nat → Nat} (S : cS X b L xs) (hL : L ≤ 320) (hi : i + 5 ≤ L) (hc : k ≤ 600000 ∧ n ≤ 7302250) {g t : Sg} (hR : Rx g t) (K : ∀ g2 t2, Rx g2 t2 → cG X D (gWs (D, cA, ad, shC) g2 ++ gWs (D, cA, ad2, shM) t2) k n 877 (lvL i (ad2 0) (ad 0) b) []) : cG X D (gWs (D, cA, ad, shC) g ++ gWs (D, cA, ad2, shM) t) k n 633 (lvL i (ad2 0) (ad 0) b) [] := by
  obtain ⟨P, h, S1, u, U, v, V, hRl⟩ := hR
  obtain ⟨r, g2, t2, e1, e2, hR2⟩ := al_within hRl (xs (i + 1)) (xs (i + 2))
  refine cr_aload_n C 2 dL_law_633 rfl rfl ?_
  refine cr_aload_n C 3 dL_law_634 rfl rfl ?_
  refine cr_iload_n C 0 dL_law_635 rfl rfl ?_
  refine cr_iconst C (v := nI 1) dL_law_636 rfl ?_
  refine cr_iadd C dL_law_637 ?_
  rw [nI_add]
  refine cr_sld C S (show i + 1 < L by omega) hL dL_law_638 ?_
  refine cr_aload_n C 3 dL_law_639 rfl rfl ?_
  refine cr_iload_n C 0 dL_law_640 rfl rfl ?_
  refine cr_iconst C (v := nI 2) dL_law_641 rfl ?_
  refine cr_iadd C dL_law_642 ?_
  rw [nI_add]
  refine cr_sld C S (show i + 2 < L by omega) hL dL_law_643 ?_
  refine cr_sw2 ?_
  refine cr_callVI (w := (D, cA, ad, shC)) C 0 (nA := 2) (As := [.int (xs (i + 1)), .int (xs (i + 2))]) (rest := []) (mX10_within X.2.1 (w := (D, cA, ad, shC)) rfl e1) gL_law_X10_within rfl ⟨rfl, rfl⟩ ⟨Nat.le_of_ble_eq_true rfl, Nat.le_of_ble_eq_true rfl⟩ rfl (Nat.le_of_ble_eq_true rfl) rfl (by decide +kernel) (sc_0 rfl) rfl hc dL_law_644 ?_
  refine cr_aload_n C 1 dL_law_647 rfl rfl ?_
  refine cr_aload_n C 3 dL_law_648 rfl rfl ?_
  refine cr_iload_n C 0 dL_law_649 rfl rfl ?_
  refine cr_iconst C (v := nI 1) dL_law_650 rfl ?_
  refine cr_iadd C dL_law_651 ?_
  rw [nI_add]
  refine cr_sld C S (show i + 1 < L by omega) hL dL_law_652 ?_
  refine cr_aload_n C 3 dL_law_653 rfl rfl ?_
  refine cr_iload_n C 0 dL_law_654 rfl rfl ?_
  refine cr_iconst C (v := nI 2) dL_law_655 rfl ?_
  refine cr_iadd C dL_law_656 ?_
  rw [nI_add]
  refine cr_sld C S (show i + 2 < L by omega) hL dL_law_657 ?_
  refine cr_sw2 ?_
  refine cr_callVI (w := (D, cA, ad2, shM)) C 0 (nA := 2) (As := [.int (xs (i + 1)), .int (xs (i + 2))]) (rest := [.int r]) (mX11_within X.2.1 (w := (D, cA, ad2, shM)) rfl e2) gL_law_X11_within rfl ⟨rfl, rfl⟩ ⟨Nat.le_of_ble_eq_true rfl, Nat.le_of_ble_eq_true rfl⟩ rfl (Nat.le_of_ble_eq_true rfl) rfl (by decide +kernel) (scm_0 rfl) rfl hc dL_law_658 ?_
  exact cr_icmp_eq C 877 dL_law_661 (by decide) (fun _ => K g2 t2 hR2) (fun h => absurd rfl h)
set_option maxHeartbeats 1000000 in
theorem lw_c20 {X : CX} {D : va_G} {cA : Nat → ClassId} (C : cCL X D cA) {b L i k n : Nat} {xs : Nat → Int32} {ad ad2 : Nat → Nat} (S : cS X b L xs) (hL : L ≤ 320) (hi : i + 5 ≤ L) (hc : k ≤ 600000 ∧ n ≤ 7302250) {g t : Sg} (hR : Rx g t) (K : ∀ g2 t2, Rx g2 t2 → cG X D (gWs (D, cA, ad, shC) g2 ++ gWs (D, cA, ad2, shM) t2) k n 877 (lvL i (ad2 0) (ad 0) b) []) : cG X D (gWs (D, cA, ad, shC) g ++ gWs (D, cA, ad2, shM) t) k n 666 (lvL i (ad2 0) (ad 0) b) [] := by
  obtain ⟨P, h, S1, u, U, v, V, hRl⟩ := hR
  obtain ⟨r, g2, t2, e1, e2, hR2⟩ := al_isCats hRl (xs (i + 1))
  refine cr_aload_n C 2 dL_law_666 rfl rfl ?_
  refine cr_aload_n C 3 dL_law_667 rfl rfl ?_
  refine cr_iload_n C 0 dL_law_668 rfl rfl ?_
  refine cr_iconst C (v := nI 1) dL_law_669 rfl ?_
  refine cr_iadd C dL_law_670 ?_
  rw [nI_add]
  refine cr_sld C S (show i + 1 < L by omega) hL dL_law_671 ?_
  refine cr_sw2 ?_
  refine cr_callVI (w := (D, cA, ad, shC)) C 0 (nA := 1) (As := [.int (xs (i + 1))]) (rest := []) (mX10_isCats X.2.1 (w := (D, cA, ad, shC)) rfl e1) gL_law_X10_isCats rfl ⟨rfl, rfl⟩ ⟨Nat.le_of_ble_eq_true rfl, Nat.le_of_ble_eq_true rfl⟩ rfl (Nat.le_of_ble_eq_true rfl) rfl (by decide +kernel) (sc_0 rfl) rfl hc dL_law_672 ?_
  refine cr_aload_n C 1 dL_law_675 rfl rfl ?_
  refine cr_aload_n C 3 dL_law_676 rfl rfl ?_
  refine cr_iload_n C 0 dL_law_677 rfl rfl ?_
  refine cr_iconst C (v := nI 1) dL_law_678 rfl ?_
  refine cr_iadd C dL_law_679 ?_
  rw [nI_add]
  refine cr_sld C S (show i + 1 < L by omega) hL dL_law_680 ?_
  refine cr_sw2 ?_
  refine cr_callVI (w := (D, cA, ad2, shM)) C 0 (nA := 1) (As := [.int (xs (i + 1))]) (rest := [.int r]) (mX11_isCats X.2.1 (w := (D, cA, ad2, shM)) rfl e2) gL_law_X11_isCats rfl ⟨rfl, rfl⟩ ⟨Nat.le_of_ble_eq_true rfl, Nat.le_of_ble_eq_true rfl⟩ rfl (Nat.le_of_ble_eq_true rfl) rfl (by decide +kernel) (scm_0 rfl) rfl hc dL_law_681 ?_
  exact cr_icmp_eq C 877 dL_law_684 (by decide) (fun _ => K g2 t2 hR2) (fun h => absurd rfl h)
set_option maxHeartbeats 1000000 in
theorem lw_c21 {X : CX} {D : va_G} {cA : Nat → ClassId} (C : cCL X D cA) {b L i k n : Nat} {xs : Nat → Int32} {ad ad2 : Nat → Nat} (S : cS X b L xs) (hL : L ≤ 320) (hi : i + 5 ≤ L) (hc : k ≤ 600000 ∧ n ≤ 7302250) {g t : Sg} (hR : Rx g t) (K : ∀ g2 t2, Rx g2 t2 → cG X D (gWs (D, cA, ad, shC) g2 ++ gWs (D, cA, ad2, shM) t2) k n 877 (lvL i (ad2 0) (ad 0) b) []) : cG X D (gWs (D, cA, ad, shC) g ++ gWs (D, cA, ad2, shM) t) k n 689 (lvL i (ad2 0) (ad 0) b) [] := by
  obtain ⟨P, h, S1, u, U, v, V, hRl⟩ := hR
  obtain ⟨r, g2, t2, e1, e2, hR2⟩ := al_was hRl (xs (i + 1)) (xs (i + 2)) (xs (i + 3))
  refine cr_aload_n C 2 dL_law_689 rfl rfl ?_
  refine cr_aload_n C 3 dL_law_690 rfl rfl ?_
  refine cr_iload_n C 0 dL_law_691 rfl rfl ?_
  refine cr_iconst C (v := nI 1) dL_law_692 rfl ?_
  refine cr_iadd C dL_law_693 ?_
  rw [nI_add]
  refine cr_sld C S (show i + 1 < L by omega) hL dL_law_694 ?_
  refine cr_aload_n C 3 dL_law_695 rfl rfl ?_
  refine cr_iload_n C 0 dL_law_696 rfl rfl ?_
  refine cr_iconst C (v := nI 2) dL_law_697 rfl ?_
  refine cr_iadd C dL_law_698 ?_
  rw [nI_add]
  refine cr_sld C S (show i + 2 < L by omega) hL dL_law_699 ?_
  refine cr_aload_n C 3 dL_law_700 rfl rfl ?_
  refine cr_iload_n C 0 dL_law_701 rfl rfl ?_
  refine cr_iconst C (v := nI 3) dL_law_702 rfl ?_
  refine cr_iadd C dL_law_703 ?_
  rw [nI_add]
  refine cr_sld C S (show i + 3 < L by omega) hL dL_law_704 ?_
  refine cr_sw2 ?_
  refine cr_callVI (w := (D, cA, ad, shC)) C 0 (nA := 3) (As := [.int (xs (i + 1)), .int (xs (i + 2)), .int (xs (i + 3))]) (rest := []) (mX10_was X.2.1 (w := (D, cA, ad, shC)) rfl e1) gL_law_X10_was rfl ⟨rfl, rfl⟩ ⟨Nat.le_of_ble_eq_true rfl, Nat.le_of_ble_eq_true rfl⟩ rfl (Nat.le_of_ble_eq_true rfl) rfl (by decide +kernel) (sc_0 rfl) rfl hc dL_law_705 ?_
  refine cr_aload_n C 1 dL_law_708 rfl rfl ?_
  refine cr_aload_n C 3 dL_law_709 rfl rfl ?_
  refine cr_iload_n C 0 dL_law_710 rfl rfl ?_
  refine cr_iconst C (v := nI 1) dL_law_711 rfl ?_
  refine cr_iadd C dL_law_712 ?_
  rw [nI_add]
  refine cr_sld C S (show i + 1 < L by omega) hL dL_law_713 ?_
  refine cr_aload_n C 3 dL_law_714 rfl rfl ?_
  refine cr_iload_n C 0 dL_law_715 rfl rfl ?_
  refine cr_iconst C (v := nI 2) dL_law_716 rfl ?_
  refine cr_iadd C dL_law_717 ?_
  rw [nI_add]
  refine cr_sld C S (show i + 2 < L by omega) hL dL_law_718 ?_
  refine cr_aload_n C 3 dL_law_719 rfl rfl ?_
  refine cr_iload_n C 0 dL_law_720 rfl rfl ?_
  refine cr_iconst C (v := nI 3) dL_law_721 rfl ?_
  refine cr_iadd C dL_law_722 ?_
  rw [nI_add]
  refine cr_sld C S (show i + 3 < L by omega) hL dL_law_723 ?_
  refine cr_sw2 ?_
  refine cr_callVI (w := (D, cA, ad2, shM)) C 0 (nA := 3) (As := [.int (xs (i + 1)), .int (xs (i + 2)), .int (xs (i + 3))]) (rest := [.int r]) (mX11_was X.2.1 (w := (D, cA, ad2, shM)) rfl e2) gL_law_X11_was rfl ⟨rfl, rfl⟩ ⟨Nat.le_of_ble_eq_true rfl, Nat.le_of_ble_eq_true rfl⟩ rfl (Nat.le_of_ble_eq_true rfl) rfl (by decide +kernel) (scm_0 rfl) rfl hc dL_law_724 ?_
  exact cr_icmp_eq C 877 dL_law_727 (by decide) (fun _ => K g2 t2 hR2) (fun h => absurd rfl h)
set_option maxHeartbeats 1000000 in
theorem lw_c22 {X : CX} {D : va_G} {cA : Nat → ClassId} (C : cCL X D cA) {b L i k n : Nat} {xs : Nat → Int32} {ad ad2 : Nat → Nat} (S : cS X b L xs) (hL : L ≤ 320) (hi : i + 5 ≤ L) (hc : k ≤ 600000 ∧ n ≤ 7302250) {g t : Sg} (hR : Rx g t) (K : ∀ g2 t2, Rx g2 t2 → cG X D (gWs (D, cA, ad, shC) g2 ++ gWs (D, cA, ad2, shM) t2) k n 877 (lvL i (ad2 0) (ad 0) b) []) : cG X D (gWs (D, cA, ad, shC) g ++ gWs (D, cA, ad2, shM) t) k n 732 (lvL i (ad2 0) (ad 0) b) [] := by
  obtain ⟨P, h, S1, u, U, v, V, hRl⟩ := hR
  obtain ⟨r, g2, t2, e1, e2, hR2⟩ := al_snows hRl (xs (i + 1)) (xs (i + 2)) (xs (i + 3)) (xs (i + 4))
  refine cr_aload_n C 2 dL_law_732 rfl rfl ?_
  refine cr_aload_n C 3 dL_law_733 rfl rfl ?_
  refine cr_iload_n C 0 dL_law_734 rfl rfl ?_
  refine cr_iconst C (v := nI 1) dL_law_735 rfl ?_
  refine cr_iadd C dL_law_736 ?_
  rw [nI_add]
  refine cr_sld C S (show i + 1 < L by omega) hL dL_law_737 ?_
  refine cr_aload_n C 3 dL_law_738 rfl rfl ?_
  refine cr_iload_n C 0 dL_law_739 rfl rfl ?_
  refine cr_iconst C (v := nI 2) dL_law_740 rfl ?_
  refine cr_iadd C dL_law_741 ?_
  rw [nI_add]
  refine cr_sld C S (show i + 2 < L by omega) hL dL_law_742 ?_
  refine cr_aload_n C 3 dL_law_743 rfl rfl ?_
  refine cr_iload_n C 0 dL_law_744 rfl rfl ?_
  refine cr_iconst C (v := nI 3) dL_law_745 rfl ?_
  refine cr_iadd C dL_law_746 ?_
  rw [nI_add]
  refine cr_sld C S (show i + 3 < L by omega) hL dL_law_747 ?_
  refine cr_aload_n C 3 dL_law_748 rfl rfl ?_
  refine cr_iload_n C 0 dL_law_749 rfl rfl ?_
  refine cr_iconst C (v := nI 4) dL_law_750 rfl ?_
  refine cr_iadd C dL_law_751 ?_
  rw [nI_add]
  refine cr_sld C S (show i + 4 < L by omega) hL dL_law_752 ?_
  refine cr_sw2 ?_
  refine cr_callVI (w := (D, cA, ad, shC)) C 0 (nA := 4) (As := [.int (xs (i + 1)), .int (xs (i + 2)), .int (xs (i + 3)), .int (xs (i + 4))]) (rest := []) (mX10_snows X.2.1 (w := (D, cA, ad, shC)) rfl e1) gL_law_X10_snows rfl ⟨rfl, rfl⟩ ⟨Nat.le_of_ble_eq_true rfl, Nat.le_of_ble_eq_true rfl⟩ rfl (Nat.le_of_ble_eq_true rfl) rfl (by decide +kernel) (sc_0 rfl) rfl hc dL_law_753 ?_
  refine cr_aload_n C 1 dL_law_756 rfl rfl ?_
  refine cr_aload_n C 3 dL_law_757 rfl rfl ?_
  refine cr_iload_n C 0 dL_law_758 rfl rfl ?_
  refine cr_iconst C (v := nI 1) dL_law_759 rfl ?_
  refine cr_iadd C dL_law_760 ?_
  rw [nI_add]
  refine cr_sld C S (show i + 1 < L by omega) hL dL_law_761 ?_
  refine cr_aload_n C 3 dL_law_762 rfl rfl ?_
  refine cr_iload_n C 0 dL_law_763 rfl rfl ?_
  refine cr_iconst C (v := nI 2) dL_law_764 rfl ?_
  refine cr_iadd C dL_law_765 ?_
  rw [nI_add]
  refine cr_sld C S (show i + 2 < L by omega) hL dL_law_766 ?_
  refine cr_aload_n C 3 dL_law_767 rfl rfl ?_
  refine cr_iload_n C 0 dL_law_768 rfl rfl ?_
  refine cr_iconst C (v := nI 3) dL_law_769 rfl ?_
  refine cr_iadd C dL_law_770 ?_
  rw [nI_add]
  refine cr_sld C S (show i + 3 < L by omega) hL dL_law_771 ?_
  refine cr_aload_n C 3 dL_law_772 rfl rfl ?_
  refine cr_iload_n C 0 dL_law_773 rfl rfl ?_
  refine cr_iconst C (v := nI 4) dL_law_774 rfl ?_
  refine cr_iadd C dL_law_775 ?_
  rw [nI_add]
  refine cr_sld C S (show i + 4 < L by omega) hL dL_law_776 ?_
  refine cr_sw2 ?_
  refine cr_callVI (w := (D, cA, ad2, shM)) C 0 (nA := 4) (As := [.int (xs (i + 1)), .int (xs (i + 2)), .int (xs (i + 3)), .int (xs (i + 4))]) (rest := [.int r]) (mX11_snows X.2.1 (w := (D, cA, ad2, shM)) rfl e2) gL_law_X11_snows rfl ⟨rfl, rfl⟩ ⟨Nat.le_of_ble_eq_true rfl, Nat.le_of_ble_eq_true rfl⟩ rfl (Nat.le_of_ble_eq_true rfl) rfl (by decide +kernel) (scm_0 rfl) rfl hc dL_law_777 ?_
  exact cr_icmp_eq C 877 dL_law_780 (by decide) (fun _ => K g2 t2 hR2) (fun h => absurd rfl h)
set_option maxHeartbeats 1000000 in
theorem lw_c23 {X : CX} {D : va_G} {cA : Nat → ClassId} (C : cCL X D cA) {b L i k n : Nat} {xs : Nat → Int32} {ad ad2 : Nat → Nat} (S : cS X b L xs) (hL : L ≤ 320) (hi : i + 5 ≤ L) (hc : k ≤ 600000 ∧ n ≤ 7302250) {g t : Sg} (hR : Rx g t) (K : ∀ g2 t2, Rx g2 t2 → cG X D (gWs (D, cA, ad, shC) g2 ++ gWs (D, cA, ad2, shM) t2) k n 877 (lvL i (ad2 0) (ad 0) b) []) : cG X D (gWs (D, cA, ad, shC) g ++ gWs (D, cA, ad2, shM) t) k n 785 (lvL i (ad2 0) (ad 0) b) [] := by
  obtain ⟨P, h, S1, u, U, v, V, hRl⟩ := hR
  obtain ⟨r, g2, t2, e1, e2, hR2⟩ := al_year hRl (xs (i + 1)) (xs (i + 2)) (xs (i + 3))
  refine cr_aload_n C 2 dL_law_785 rfl rfl ?_
  refine cr_aload_n C 3 dL_law_786 rfl rfl ?_
  refine cr_iload_n C 0 dL_law_787 rfl rfl ?_
  refine cr_iconst C (v := nI 1) dL_law_788 rfl ?_
  refine cr_iadd C dL_law_789 ?_
  rw [nI_add]
  refine cr_sld C S (show i + 1 < L by omega) hL dL_law_790 ?_
  refine cr_aload_n C 3 dL_law_791 rfl rfl ?_
  refine cr_iload_n C 0 dL_law_792 rfl rfl ?_
  refine cr_iconst C (v := nI 2) dL_law_793 rfl ?_
  refine cr_iadd C dL_law_794 ?_
  rw [nI_add]
  refine cr_sld C S (show i + 2 < L by omega) hL dL_law_795 ?_
  refine cr_aload_n C 3 dL_law_796 rfl rfl ?_
  refine cr_iload_n C 0 dL_law_797 rfl rfl ?_
  refine cr_iconst C (v := nI 3) dL_law_798 rfl ?_
  refine cr_iadd C dL_law_799 ?_
  rw [nI_add]
  refine cr_sld C S (show i + 3 < L by omega) hL dL_law_800 ?_
  refine cr_sw2 ?_
  refine cr_callVI (w := (D, cA, ad, shC)) C 0 (nA := 3) (As := [.int (xs (i + 1)), .int (xs (i + 2)), .int (xs (i + 3))]) (rest := []) (mX10_year X.2.1 (w := (D, cA, ad, shC)) rfl e1) gL_law_X10_year rfl ⟨rfl, rfl⟩ ⟨Nat.le_of_ble_eq_true rfl, Nat.le_of_ble_eq_true rfl⟩ rfl (Nat.le_of_ble_eq_true rfl) rfl (by decide +kernel) (sc_0 rfl) rfl hc dL_law_801 ?_
  refine cr_aload_n C 1 dL_law_804 rfl rfl ?_
  refine cr_aload_n C 3 dL_law_805 rfl rfl ?_
  refine cr_iload_n C 0 dL_law_806 rfl rfl ?_
  refine cr_iconst C (v := nI 1) dL_law_807 rfl ?_
  refine cr_iadd C dL_law_808 ?_
  rw [nI_add]
  refine cr_sld C S (show i + 1 < L by omega) hL dL_law_809 ?_
  refine cr_aload_n C 3 dL_law_810 rfl rfl ?_
  refine cr_iload_n C 0 dL_law_811 rfl rfl ?_
  refine cr_iconst C (v := nI 2) dL_law_812 rfl ?_
  refine cr_iadd C dL_law_813 ?_
  rw [nI_add]
  refine cr_sld C S (show i + 2 < L by omega) hL dL_law_814 ?_
  refine cr_aload_n C 3 dL_law_815 rfl rfl ?_
  refine cr_iload_n C 0 dL_law_816 rfl rfl ?_
  refine cr_iconst C (v := nI 3) dL_law_817 rfl ?_
  refine cr_iadd C dL_law_818 ?_
  rw [nI_add]
  refine cr_sld C S (show i + 3 < L by omega) hL dL_law_819 ?_
  refine cr_sw2 ?_
  refine cr_callVI (w := (D, cA, ad2, shM)) C 0 (nA := 3) (As := [.int (xs (i + 1)), .int (xs (i + 2)), .int (xs (i + 3))]) (rest := [.int r]) (mX11_year X.2.1 (w := (D, cA, ad2, shM)) rfl e2) gL_law_X11_year rfl ⟨rfl, rfl⟩ ⟨Nat.le_of_ble_eq_true rfl, Nat.le_of_ble_eq_true rfl⟩ rfl (Nat.le_of_ble_eq_true rfl) rfl (by decide +kernel) (scm_0 rfl) rfl hc dL_law_820 ?_
  exact cr_icmp_eq C 877 dL_law_823 (by decide) (fun _ => K g2 t2 hR2) (fun h => absurd rfl h)
set_option maxHeartbeats 1000000 in
theorem lw_c24 {X : CX} {D : va_G} {cA : Nat → ClassId} (C : cCL X D cA) {b L i k n : Nat} {xs : Nat → Int32} {ad ad2 : Nat → Nat} (S : cS X b L xs) (hL : L ≤ 320) (hi : i + 5 ≤ L) (hc : k ≤ 600000 ∧ n ≤ 7302250) {g t : Sg} (hR : Rx g t) (K : ∀ g2 t2, Rx g2 t2 → cG X D (gWs (D, cA, ad, shC) g2 ++ gWs (D, cA, ad2, shM) t2) k n 877 (lvL i (ad2 0) (ad 0) b) []) : cG X D (gWs (D, cA, ad, shC) g ++ gWs (D, cA, ad2, shM) t) k n 828 (lvL i (ad2 0) (ad 0) b) [] := by
  obtain ⟨P, h, S1, u, U, v, V, hRl⟩ := hR
  obtain ⟨r, g2, t2, e1, e2, hR2⟩ := al_keep hRl 
  refine cr_aload_n C 2 dL_law_828 rfl rfl ?_
  refine cr_sw2 ?_
  refine cr_callVI (w := (D, cA, ad, shC)) C 0 (nA := 0) (As := []) (rest := []) (mX10_keep X.2.1 (w := (D, cA, ad, shC)) rfl e1) gL_law_X10_keep rfl ⟨rfl, rfl⟩ ⟨Nat.le_of_ble_eq_true rfl, Nat.le_of_ble_eq_true rfl⟩ rfl (Nat.le_of_ble_eq_true rfl) rfl (by decide +kernel) (sc_0 rfl) rfl hc dL_law_829 ?_
  refine cr_aload_n C 1 dL_law_832 rfl rfl ?_
  refine cr_sw2 ?_
  refine cr_callVI (w := (D, cA, ad2, shM)) C 0 (nA := 0) (As := []) (rest := [.int r]) (mX11_keep X.2.1 (w := (D, cA, ad2, shM)) rfl e2) gL_law_X11_keep rfl ⟨rfl, rfl⟩ ⟨Nat.le_of_ble_eq_true rfl, Nat.le_of_ble_eq_true rfl⟩ rfl (Nat.le_of_ble_eq_true rfl) rfl (by decide +kernel) (scm_0 rfl) rfl hc dL_law_833 ?_
  exact cr_icmp_eq C 877 dL_law_836 (by decide) (fun _ => K g2 t2 hR2) (fun h => absurd rfl h)
set_option maxHeartbeats 1000000 in
theorem lw_c25 {X : CX} {D : va_G} {cA : Nat → ClassId} (C : cCL X D cA) {b L i k n : Nat} {xs : Nat → Int32} {ad ad2 : Nat → Nat} (S : cS X b L xs) (hL : L ≤ 320) (hi : i + 5 ≤ L) (hc : k ≤ 600000 ∧ n ≤ 7302250) {g t : Sg} (hR : Rx g t) (K : ∀ g2 t2, Rx g2 t2 → cG X D (gWs (D, cA, ad, shC) g2 ++ gWs (D, cA, ad2, shM) t2) k n 877 (lvL i (ad2 0) (ad 0) b) []) : cG X D (gWs (D, cA, ad, shC) g ++ gWs (D, cA, ad2, shM) t) k n 841 (lvL i (ad2 0) (ad 0) b) [] := by
  obtain ⟨P, h, S1, u, U, v, V, hRl⟩ := hR
  obtain ⟨r, g2, t2, e1, e2, hR2⟩ := al_back hRl 
  refine cr_aload_n C 2 dL_law_841 rfl rfl ?_
  refine cr_sw2 ?_
  refine cr_callVI (w := (D, cA, ad, shC)) C 0 (nA := 0) (As := []) (rest := []) (mX10_back X.2.1 (w := (D, cA, ad, shC)) rfl e1) gL_law_X10_back rfl ⟨rfl, rfl⟩ ⟨Nat.le_of_ble_eq_true rfl, Nat.le_of_ble_eq_true rfl⟩ rfl (Nat.le_of_ble_eq_true rfl) rfl (by decide +kernel) (sc_0 rfl) rfl hc dL_law_842 ?_
  refine cr_aload_n C 1 dL_law_845 rfl rfl ?_
  refine cr_sw2 ?_
  refine cr_callVI (w := (D, cA, ad2, shM)) C 0 (nA := 0) (As := []) (rest := [.int r]) (mX11_back X.2.1 (w := (D, cA, ad2, shM)) rfl e2) gL_law_X11_back rfl ⟨rfl, rfl⟩ ⟨Nat.le_of_ble_eq_true rfl, Nat.le_of_ble_eq_true rfl⟩ rfl (Nat.le_of_ble_eq_true rfl) rfl (by decide +kernel) (scm_0 rfl) rfl hc dL_law_846 ?_
  exact cr_icmp_eq C 877 dL_law_849 (by decide) (fun _ => K g2 t2 hR2) (fun h => absurd rfl h)
set_option maxHeartbeats 1000000 in
theorem lw_c26 {X : CX} {D : va_G} {cA : Nat → ClassId} (C : cCL X D cA) {b L i k n : Nat} {xs : Nat → Int32} {ad ad2 : Nat → Nat} (S : cS X b L xs) (hL : L ≤ 320) (hi : i + 5 ≤ L) (hc : k ≤ 600000 ∧ n ≤ 7302250) {g t : Sg} (hR : Rx g t) (K : ∀ g2 t2, Rx g2 t2 → cG X D (gWs (D, cA, ad, shC) g2 ++ gWs (D, cA, ad2, shM) t2) k n 877 (lvL i (ad2 0) (ad 0) b) []) : cG X D (gWs (D, cA, ad, shC) g ++ gWs (D, cA, ad2, shM) t) k n 854 (lvL i (ad2 0) (ad 0) b) [] := by
  obtain ⟨P, h, S1, u, U, v, V, hRl⟩ := hR
  obtain ⟨r, g2, t2, e1, e2, hR2⟩ := al_count hRl (xs (i + 1))
  refine cr_aload_n C 2 dL_law_854 rfl rfl ?_
  refine cr_aload_n C 3 dL_law_855 rfl rfl ?_
  refine cr_iload_n C 0 dL_law_856 rfl rfl ?_
  refine cr_iconst C (v := nI 1) dL_law_857 rfl ?_
  refine cr_iadd C dL_law_858 ?_
  rw [nI_add]
  refine cr_sld C S (show i + 1 < L by omega) hL dL_law_859 ?_
  refine cr_sw2 ?_
  refine cr_callVI (w := (D, cA, ad, shC)) C 0 (nA := 1) (As := [.int (xs (i + 1))]) (rest := []) (mX10_count X.2.1 (w := (D, cA, ad, shC)) rfl e1) gL_law_X10_count rfl ⟨rfl, rfl⟩ ⟨Nat.le_of_ble_eq_true rfl, Nat.le_of_ble_eq_true rfl⟩ rfl (Nat.le_of_ble_eq_true rfl) rfl (by decide +kernel) (sc_0 rfl) rfl hc dL_law_860 ?_
  refine cr_aload_n C 1 dL_law_863 rfl rfl ?_
  refine cr_aload_n C 3 dL_law_864 rfl rfl ?_
  refine cr_iload_n C 0 dL_law_865 rfl rfl ?_
  refine cr_iconst C (v := nI 1) dL_law_866 rfl ?_
  refine cr_iadd C dL_law_867 ?_
  rw [nI_add]
  refine cr_sld C S (show i + 1 < L by omega) hL dL_law_868 ?_
  refine cr_sw2 ?_
  refine cr_callVI (w := (D, cA, ad2, shM)) C 0 (nA := 1) (As := [.int (xs (i + 1))]) (rest := [.int r]) (mX11_count X.2.1 (w := (D, cA, ad2, shM)) rfl e2) gL_law_X11_count rfl ⟨rfl, rfl⟩ ⟨Nat.le_of_ble_eq_true rfl, Nat.le_of_ble_eq_true rfl⟩ rfl (Nat.le_of_ble_eq_true rfl) rfl (by decide +kernel) (scm_0 rfl) rfl hc dL_law_869 ?_
  exact cr_icmp_eq C 877 dL_law_872 (by decide) (fun _ => K g2 t2 hR2) (fun h => absurd rfl h)
