set_option maxHeartbeats 4000000 in
set_option maxRecDepth 100000 in
theorem lc_0 {p : Program} {l : Launch} {e : Env} {s : State} {m : MethodId} {below : List Frame} {meth : Method} {c : Code} {G : Gd} {b Ln B : Nat} {xs : Nat → Int32} {R : Sto → Sto → Prop} (X : Cx p s m #[Value.ref b] c cL_law 4 RL G) (hX : va_X b Ln xs s s.heap) (hbl : b < s.heap.size) (hB : s.heap.size ≤ B) {n : Nat} (hn : n + 6 ≤ Ln) (hLn : Ln ≤ 3072) (E : ∀ x1 x2 x3 : Int32, Sim R (f_X7_row x1 x2 x3) (f_X8_row x1 x2 x3)) {σ τ : Sto} (hR : R σ τ) {H : Heap} {locs : List Loc} (hH : HX G layX B σ H) (hM : HX G layM (B + 238) τ H) (hS : va_S (fun q => s.heap.size ≤ q) s.heap H locs) {ls : Array Slot} (hl : lv_has ls 4 [(0, .ref b), (1, .ref (B + 0)), (2, .ref (B + 238 + 0)), (3, .int (nI n))]) {Q : State → Prop} (kk : ∀ (σ1 τ1 : Sto) (H1 : Heap) (locs1 : List Loc), R σ1 τ1 → HX G layX B σ1 H1 → HX G layM (B + 238) τ1 H1 → va_S (fun q => s.heap.size ≤ q) s.heap H1 locs1 → W p l e room_1 s m #[Value.ref b] below meth c H1 locs1 600000 7302250 Q (F0 m 1164 ls [])) : W p l e room_1 s m #[Value.ref b] below meth c H locs 600000 7302250 Q (F0 m 192 ls []) := by
  obtain ⟨r, σ1, τ1, e1, e2, hR1⟩ := E (xs (nI n + 1).toNatClampNeg) (xs (nI n + 2).toNatClampNeg) (xs (nI n + 3).toNatClampNeg) σ τ hR
  have hbA : ¬ (fun q : Nat => s.heap.size ≤ q) b := Nat.not_le.mpr hbl
  have hi1 : vp_in (nI n + 1) Ln := by
    rw [show (nI n + 1 : Int32) = nI (n + 1) from nI_add n 1]
    exact vp_in_nI (by omega) (by omega)
  have hi2 : vp_in (nI n + 2) Ln := by
    rw [show (nI n + 2 : Int32) = nI (n + 2) from nI_add n 2]
    exact vp_in_nI (by omega) (by omega)
  have hi3 : vp_in (nI n + 3) Ln := by
    rw [show (nI n + 3 : Int32) = nI (n + 3) from nI_add n 3]
    exact vp_in_nI (by omega) (by omega)
  refine lv_aload_n X.1 X.2.1 dL_law_192 rfl (lv_at hl 1 rfl) ?_
  refine lv_aload_n X.1 X.2.1 dL_law_193 rfl (lv_at hl 0 rfl) ?_
  refine lv_iload_n X.1 X.2.1 dL_law_194 rfl (lv_at hl 3 rfl) ?_
  refine lv_iconst (v := 1) X.1 X.2.1 dL_law_195 (by decide) ?_
  refine lv_iadd X.1 X.2.1 dL_law_196 ?_
  refine va_sld X.1 X.2.1 hX hbl hbA hS hi1 dL_law_197 ?_
  refine lv_aload_n X.1 X.2.1 dL_law_198 rfl (lv_at hl 0 rfl) ?_
  refine lv_iload_n X.1 X.2.1 dL_law_199 rfl (lv_at hl 3 rfl) ?_
  refine lv_iconst (v := 2) X.1 X.2.1 dL_law_200 (by decide) ?_
  refine lv_iadd X.1 X.2.1 dL_law_201 ?_
  refine va_sld X.1 X.2.1 hX hbl hbA hS hi2 dL_law_202 ?_
  refine lv_aload_n X.1 X.2.1 dL_law_203 rfl (lv_at hl 0 rfl) ?_
  refine lv_iload_n X.1 X.2.1 dL_law_204 rfl (lv_at hl 3 rfl) ?_
  refine lv_iconst (v := 3) X.1 X.2.1 dL_law_205 (by decide) ?_
  refine lv_iadd X.1 X.2.1 dL_law_206 ?_
  refine va_sld X.1 X.2.1 hX hbl hbA hS hi3 dL_law_207 ?_
  refine g_lwi (As := [.int (xs (nI n + 1).toNatClampNeg), .int (xs (nI n + 2).toNatClampNeg), .int (xs (nI n + 3).toNatClampNeg)]) X hH hS hB (c_X7_row l G B (xs (nI n + 1).toNatClampNeg) (xs (nI n + 2).toNatClampNeg) (xs (nI n + 3).toNatClampNeg) σ σ1 r e1) kw_RL_13 kX7 kx_0 (by decide) rfl hl (Nat.le_of_ble_eq_true rfl) rfl dL_law_208 (fun H1 locs hH1 hS hk1 => ?_)
  have hM1 := hM.frame (L := layX) (B := B) (Or.inl (Nat.le_refl _)) hk1
  refine lv_aload_n X.1 X.2.1 dL_law_211 rfl (lv_at hl 2 rfl) ?_
  refine lv_aload_n X.1 X.2.1 dL_law_212 rfl (lv_at hl 0 rfl) ?_
  refine lv_iload_n X.1 X.2.1 dL_law_213 rfl (lv_at hl 3 rfl) ?_
  refine lv_iconst (v := 1) X.1 X.2.1 dL_law_214 (by decide) ?_
  refine lv_iadd X.1 X.2.1 dL_law_215 ?_
  refine va_sld X.1 X.2.1 hX hbl hbA hS hi1 dL_law_216 ?_
  refine lv_aload_n X.1 X.2.1 dL_law_217 rfl (lv_at hl 0 rfl) ?_
  refine lv_iload_n X.1 X.2.1 dL_law_218 rfl (lv_at hl 3 rfl) ?_
  refine lv_iconst (v := 2) X.1 X.2.1 dL_law_219 (by decide) ?_
  refine lv_iadd X.1 X.2.1 dL_law_220 ?_
  refine va_sld X.1 X.2.1 hX hbl hbA hS hi2 dL_law_221 ?_
  refine lv_aload_n X.1 X.2.1 dL_law_222 rfl (lv_at hl 0 rfl) ?_
  refine lv_iload_n X.1 X.2.1 dL_law_223 rfl (lv_at hl 3 rfl) ?_
  refine lv_iconst (v := 3) X.1 X.2.1 dL_law_224 (by decide) ?_
  refine lv_iadd X.1 X.2.1 dL_law_225 ?_
  refine va_sld X.1 X.2.1 hX hbl hbA hS hi3 dL_law_226 ?_
  refine g_lwi (As := [.int (xs (nI n + 1).toNatClampNeg), .int (xs (nI n + 2).toNatClampNeg), .int (xs (nI n + 3).toNatClampNeg)]) X hM1 hS (Nat.le_trans hB (Nat.le_add_right _ _)) (c_X8_row l G (B + 238) (xs (nI n + 1).toNatClampNeg) (xs (nI n + 2).toNatClampNeg) (xs (nI n + 3).toNatClampNeg) τ τ1 r e2) kw_RL_17 kX8 km_0 (by decide) rfl hl (Nat.le_of_ble_eq_true rfl) rfl dL_law_227 (fun H2 locs hM2 hS hk2 => ?_)
  have hH2 := hH1.frame (L := layM) (B := B + 238) (Or.inr (Nat.le_refl _)) hk2
  refine lv_icmp_eq (tgt := 1164) X.1 X.2.1 dL_law_230 (by decide) (fun _ => ?_) (fun q => absurd rfl q)
  exact kk σ1 τ1 H2 _ hR1 hH2 hM2 hS
set_option maxHeartbeats 4000000 in
set_option maxRecDepth 100000 in
theorem lc_1 {p : Program} {l : Launch} {e : Env} {s : State} {m : MethodId} {below : List Frame} {meth : Method} {c : Code} {G : Gd} {b Ln B : Nat} {xs : Nat → Int32} {R : Sto → Sto → Prop} (X : Cx p s m #[Value.ref b] c cL_law 4 RL G) (hX : va_X b Ln xs s s.heap) (hbl : b < s.heap.size) (hB : s.heap.size ≤ B) {n : Nat} (hn : n + 6 ≤ Ln) (hLn : Ln ≤ 3072) (E : ∀ x1 x2 x3 : Int32, Sim R (f_X7_set x1 x2 x3) (f_X8_set x1 x2 x3)) {σ τ : Sto} (hR : R σ τ) {H : Heap} {locs : List Loc} (hH : HX G layX B σ H) (hM : HX G layM (B + 238) τ H) (hS : va_S (fun q => s.heap.size ≤ q) s.heap H locs) {ls : Array Slot} (hl : lv_has ls 4 [(0, .ref b), (1, .ref (B + 0)), (2, .ref (B + 238 + 0)), (3, .int (nI n))]) {Q : State → Prop} (kk : ∀ (σ1 τ1 : Sto) (H1 : Heap) (locs1 : List Loc), R σ1 τ1 → HX G layX B σ1 H1 → HX G layM (B + 238) τ1 H1 → va_S (fun q => s.heap.size ≤ q) s.heap H1 locs1 → W p l e room_1 s m #[Value.ref b] below meth c H1 locs1 600000 7302250 Q (F0 m 1164 ls [])) : W p l e room_1 s m #[Value.ref b] below meth c H locs 600000 7302250 Q (F0 m 235 ls []) := by
  obtain ⟨r, σ1, τ1, e1, e2, hR1⟩ := E (xs (nI n + 1).toNatClampNeg) (xs (nI n + 2).toNatClampNeg) (xs (nI n + 3).toNatClampNeg) σ τ hR
  have hbA : ¬ (fun q : Nat => s.heap.size ≤ q) b := Nat.not_le.mpr hbl
  have hi1 : vp_in (nI n + 1) Ln := by
    rw [show (nI n + 1 : Int32) = nI (n + 1) from nI_add n 1]
    exact vp_in_nI (by omega) (by omega)
  have hi2 : vp_in (nI n + 2) Ln := by
    rw [show (nI n + 2 : Int32) = nI (n + 2) from nI_add n 2]
    exact vp_in_nI (by omega) (by omega)
  have hi3 : vp_in (nI n + 3) Ln := by
    rw [show (nI n + 3 : Int32) = nI (n + 3) from nI_add n 3]
    exact vp_in_nI (by omega) (by omega)
  refine lv_aload_n X.1 X.2.1 dL_law_235 rfl (lv_at hl 1 rfl) ?_
  refine lv_aload_n X.1 X.2.1 dL_law_236 rfl (lv_at hl 0 rfl) ?_
  refine lv_iload_n X.1 X.2.1 dL_law_237 rfl (lv_at hl 3 rfl) ?_
  refine lv_iconst (v := 1) X.1 X.2.1 dL_law_238 (by decide) ?_
  refine lv_iadd X.1 X.2.1 dL_law_239 ?_
  refine va_sld X.1 X.2.1 hX hbl hbA hS hi1 dL_law_240 ?_
  refine lv_aload_n X.1 X.2.1 dL_law_241 rfl (lv_at hl 0 rfl) ?_
  refine lv_iload_n X.1 X.2.1 dL_law_242 rfl (lv_at hl 3 rfl) ?_
  refine lv_iconst (v := 2) X.1 X.2.1 dL_law_243 (by decide) ?_
  refine lv_iadd X.1 X.2.1 dL_law_244 ?_
  refine va_sld X.1 X.2.1 hX hbl hbA hS hi2 dL_law_245 ?_
  refine lv_aload_n X.1 X.2.1 dL_law_246 rfl (lv_at hl 0 rfl) ?_
  refine lv_iload_n X.1 X.2.1 dL_law_247 rfl (lv_at hl 3 rfl) ?_
  refine lv_iconst (v := 3) X.1 X.2.1 dL_law_248 (by decide) ?_
  refine lv_iadd X.1 X.2.1 dL_law_249 ?_
  refine va_sld X.1 X.2.1 hX hbl hbA hS hi3 dL_law_250 ?_
  refine g_lwi (As := [.int (xs (nI n + 1).toNatClampNeg), .int (xs (nI n + 2).toNatClampNeg), .int (xs (nI n + 3).toNatClampNeg)]) X hH hS hB (c_X7_set l G B (xs (nI n + 1).toNatClampNeg) (xs (nI n + 2).toNatClampNeg) (xs (nI n + 3).toNatClampNeg) σ σ1 r e1) kw_RL_18 kX7 kx_0 (by decide) rfl hl (Nat.le_of_ble_eq_true rfl) rfl dL_law_251 (fun H1 locs hH1 hS hk1 => ?_)
  have hM1 := hM.frame (L := layX) (B := B) (Or.inl (Nat.le_refl _)) hk1
  refine lv_aload_n X.1 X.2.1 dL_law_254 rfl (lv_at hl 2 rfl) ?_
  refine lv_aload_n X.1 X.2.1 dL_law_255 rfl (lv_at hl 0 rfl) ?_
  refine lv_iload_n X.1 X.2.1 dL_law_256 rfl (lv_at hl 3 rfl) ?_
  refine lv_iconst (v := 1) X.1 X.2.1 dL_law_257 (by decide) ?_
  refine lv_iadd X.1 X.2.1 dL_law_258 ?_
  refine va_sld X.1 X.2.1 hX hbl hbA hS hi1 dL_law_259 ?_
  refine lv_aload_n X.1 X.2.1 dL_law_260 rfl (lv_at hl 0 rfl) ?_
  refine lv_iload_n X.1 X.2.1 dL_law_261 rfl (lv_at hl 3 rfl) ?_
  refine lv_iconst (v := 2) X.1 X.2.1 dL_law_262 (by decide) ?_
  refine lv_iadd X.1 X.2.1 dL_law_263 ?_
  refine va_sld X.1 X.2.1 hX hbl hbA hS hi2 dL_law_264 ?_
  refine lv_aload_n X.1 X.2.1 dL_law_265 rfl (lv_at hl 0 rfl) ?_
  refine lv_iload_n X.1 X.2.1 dL_law_266 rfl (lv_at hl 3 rfl) ?_
  refine lv_iconst (v := 3) X.1 X.2.1 dL_law_267 (by decide) ?_
  refine lv_iadd X.1 X.2.1 dL_law_268 ?_
  refine va_sld X.1 X.2.1 hX hbl hbA hS hi3 dL_law_269 ?_
  refine g_lwi (As := [.int (xs (nI n + 1).toNatClampNeg), .int (xs (nI n + 2).toNatClampNeg), .int (xs (nI n + 3).toNatClampNeg)]) X hM1 hS (Nat.le_trans hB (Nat.le_add_right _ _)) (c_X8_set l G (B + 238) (xs (nI n + 1).toNatClampNeg) (xs (nI n + 2).toNatClampNeg) (xs (nI n + 3).toNatClampNeg) τ τ1 r e2) kw_RL_21 kX8 km_0 (by decide) rfl hl (Nat.le_of_ble_eq_true rfl) rfl dL_law_270 (fun H2 locs hM2 hS hk2 => ?_)
  have hH2 := hH1.frame (L := layM) (B := B + 238) (Or.inr (Nat.le_refl _)) hk2
  refine lv_icmp_eq (tgt := 1164) X.1 X.2.1 dL_law_273 (by decide) (fun _ => ?_) (fun q => absurd rfl q)
  exact kk σ1 τ1 H2 _ hR1 hH2 hM2 hS
set_option maxHeartbeats 4000000 in
set_option maxRecDepth 100000 in
theorem lc_2 {p : Program} {l : Launch} {e : Env} {s : State} {m : MethodId} {below : List Frame} {meth : Method} {c : Code} {G : Gd} {b Ln B : Nat} {xs : Nat → Int32} {R : Sto → Sto → Prop} (X : Cx p s m #[Value.ref b] c cL_law 4 RL G) (hX : va_X b Ln xs s s.heap) (hbl : b < s.heap.size) (hB : s.heap.size ≤ B) {n : Nat} (hn : n + 6 ≤ Ln) (hLn : Ln ≤ 3072) (E : ∀ x1 x2 x3 x4 x5 : Int32, Sim R (f_X7_copy x1 x2 x3 x4 x5) (f_X8_copy x1 x2 x3 x4 x5)) {σ τ : Sto} (hR : R σ τ) {H : Heap} {locs : List Loc} (hH : HX G layX B σ H) (hM : HX G layM (B + 238) τ H) (hS : va_S (fun q => s.heap.size ≤ q) s.heap H locs) {ls : Array Slot} (hl : lv_has ls 4 [(0, .ref b), (1, .ref (B + 0)), (2, .ref (B + 238 + 0)), (3, .int (nI n))]) {Q : State → Prop} (kk : ∀ (σ1 τ1 : Sto) (H1 : Heap) (locs1 : List Loc), R σ1 τ1 → HX G layX B σ1 H1 → HX G layM (B + 238) τ1 H1 → va_S (fun q => s.heap.size ≤ q) s.heap H1 locs1 → W p l e room_1 s m #[Value.ref b] below meth c H1 locs1 600000 7302250 Q (F0 m 1164 ls [])) : W p l e room_1 s m #[Value.ref b] below meth c H locs 600000 7302250 Q (F0 m 278 ls []) := by
  obtain ⟨r, σ1, τ1, e1, e2, hR1⟩ := E (xs (nI n + 1).toNatClampNeg) (xs (nI n + 2).toNatClampNeg) (xs (nI n + 3).toNatClampNeg) (xs (nI n + 4).toNatClampNeg) (xs (nI n + 5).toNatClampNeg) σ τ hR
  have hbA : ¬ (fun q : Nat => s.heap.size ≤ q) b := Nat.not_le.mpr hbl
  have hi1 : vp_in (nI n + 1) Ln := by
    rw [show (nI n + 1 : Int32) = nI (n + 1) from nI_add n 1]
    exact vp_in_nI (by omega) (by omega)
  have hi2 : vp_in (nI n + 2) Ln := by
    rw [show (nI n + 2 : Int32) = nI (n + 2) from nI_add n 2]
    exact vp_in_nI (by omega) (by omega)
  have hi3 : vp_in (nI n + 3) Ln := by
    rw [show (nI n + 3 : Int32) = nI (n + 3) from nI_add n 3]
    exact vp_in_nI (by omega) (by omega)
  have hi4 : vp_in (nI n + 4) Ln := by
    rw [show (nI n + 4 : Int32) = nI (n + 4) from nI_add n 4]
    exact vp_in_nI (by omega) (by omega)
  have hi5 : vp_in (nI n + 5) Ln := by
    rw [show (nI n + 5 : Int32) = nI (n + 5) from nI_add n 5]
    exact vp_in_nI (by omega) (by omega)
  refine lv_aload_n X.1 X.2.1 dL_law_278 rfl (lv_at hl 1 rfl) ?_
  refine lv_aload_n X.1 X.2.1 dL_law_279 rfl (lv_at hl 0 rfl) ?_
  refine lv_iload_n X.1 X.2.1 dL_law_280 rfl (lv_at hl 3 rfl) ?_
  refine lv_iconst (v := 1) X.1 X.2.1 dL_law_281 (by decide) ?_
  refine lv_iadd X.1 X.2.1 dL_law_282 ?_
  refine va_sld X.1 X.2.1 hX hbl hbA hS hi1 dL_law_283 ?_
  refine lv_aload_n X.1 X.2.1 dL_law_284 rfl (lv_at hl 0 rfl) ?_
  refine lv_iload_n X.1 X.2.1 dL_law_285 rfl (lv_at hl 3 rfl) ?_
  refine lv_iconst (v := 2) X.1 X.2.1 dL_law_286 (by decide) ?_
  refine lv_iadd X.1 X.2.1 dL_law_287 ?_
  refine va_sld X.1 X.2.1 hX hbl hbA hS hi2 dL_law_288 ?_
  refine lv_aload_n X.1 X.2.1 dL_law_289 rfl (lv_at hl 0 rfl) ?_
  refine lv_iload_n X.1 X.2.1 dL_law_290 rfl (lv_at hl 3 rfl) ?_
  refine lv_iconst (v := 3) X.1 X.2.1 dL_law_291 (by decide) ?_
  refine lv_iadd X.1 X.2.1 dL_law_292 ?_
  refine va_sld X.1 X.2.1 hX hbl hbA hS hi3 dL_law_293 ?_
  refine lv_aload_n X.1 X.2.1 dL_law_294 rfl (lv_at hl 0 rfl) ?_
  refine lv_iload_n X.1 X.2.1 dL_law_295 rfl (lv_at hl 3 rfl) ?_
  refine lv_iconst (v := 4) X.1 X.2.1 dL_law_296 (by decide) ?_
  refine lv_iadd X.1 X.2.1 dL_law_297 ?_
  refine va_sld X.1 X.2.1 hX hbl hbA hS hi4 dL_law_298 ?_
  refine lv_aload_n X.1 X.2.1 dL_law_299 rfl (lv_at hl 0 rfl) ?_
  refine lv_iload_n X.1 X.2.1 dL_law_300 rfl (lv_at hl 3 rfl) ?_
  refine lv_iconst (v := 5) X.1 X.2.1 dL_law_301 (by decide) ?_
  refine lv_iadd X.1 X.2.1 dL_law_302 ?_
  refine va_sld X.1 X.2.1 hX hbl hbA hS hi5 dL_law_303 ?_
  refine g_lwi (As := [.int (xs (nI n + 1).toNatClampNeg), .int (xs (nI n + 2).toNatClampNeg), .int (xs (nI n + 3).toNatClampNeg), .int (xs (nI n + 4).toNatClampNeg), .int (xs (nI n + 5).toNatClampNeg)]) X hH hS hB (c_X7_copy l G B (xs (nI n + 1).toNatClampNeg) (xs (nI n + 2).toNatClampNeg) (xs (nI n + 3).toNatClampNeg) (xs (nI n + 4).toNatClampNeg) (xs (nI n + 5).toNatClampNeg) σ σ1 r e1) kw_RL_22 kX7 kx_0 (by decide) rfl hl (Nat.le_of_ble_eq_true rfl) rfl dL_law_304 (fun H1 locs hH1 hS hk1 => ?_)
  have hM1 := hM.frame (L := layX) (B := B) (Or.inl (Nat.le_refl _)) hk1
  refine lv_aload_n X.1 X.2.1 dL_law_307 rfl (lv_at hl 2 rfl) ?_
  refine lv_aload_n X.1 X.2.1 dL_law_308 rfl (lv_at hl 0 rfl) ?_
  refine lv_iload_n X.1 X.2.1 dL_law_309 rfl (lv_at hl 3 rfl) ?_
  refine lv_iconst (v := 1) X.1 X.2.1 dL_law_310 (by decide) ?_
  refine lv_iadd X.1 X.2.1 dL_law_311 ?_
  refine va_sld X.1 X.2.1 hX hbl hbA hS hi1 dL_law_312 ?_
  refine lv_aload_n X.1 X.2.1 dL_law_313 rfl (lv_at hl 0 rfl) ?_
  refine lv_iload_n X.1 X.2.1 dL_law_314 rfl (lv_at hl 3 rfl) ?_
  refine lv_iconst (v := 2) X.1 X.2.1 dL_law_315 (by decide) ?_
  refine lv_iadd X.1 X.2.1 dL_law_316 ?_
  refine va_sld X.1 X.2.1 hX hbl hbA hS hi2 dL_law_317 ?_
  refine lv_aload_n X.1 X.2.1 dL_law_318 rfl (lv_at hl 0 rfl) ?_
  refine lv_iload_n X.1 X.2.1 dL_law_319 rfl (lv_at hl 3 rfl) ?_
  refine lv_iconst (v := 3) X.1 X.2.1 dL_law_320 (by decide) ?_
  refine lv_iadd X.1 X.2.1 dL_law_321 ?_
  refine va_sld X.1 X.2.1 hX hbl hbA hS hi3 dL_law_322 ?_
  refine lv_aload_n X.1 X.2.1 dL_law_323 rfl (lv_at hl 0 rfl) ?_
  refine lv_iload_n X.1 X.2.1 dL_law_324 rfl (lv_at hl 3 rfl) ?_
  refine lv_iconst (v := 4) X.1 X.2.1 dL_law_325 (by decide) ?_
  refine lv_iadd X.1 X.2.1 dL_law_326 ?_
  refine va_sld X.1 X.2.1 hX hbl hbA hS hi4 dL_law_327 ?_
  refine lv_aload_n X.1 X.2.1 dL_law_328 rfl (lv_at hl 0 rfl) ?_
  refine lv_iload_n X.1 X.2.1 dL_law_329 rfl (lv_at hl 3 rfl) ?_
  refine lv_iconst (v := 5) X.1 X.2.1 dL_law_330 (by decide) ?_
  refine lv_iadd X.1 X.2.1 dL_law_331 ?_
  refine va_sld X.1 X.2.1 hX hbl hbA hS hi5 dL_law_332 ?_
  refine g_lwi (As := [.int (xs (nI n + 1).toNatClampNeg), .int (xs (nI n + 2).toNatClampNeg), .int (xs (nI n + 3).toNatClampNeg), .int (xs (nI n + 4).toNatClampNeg), .int (xs (nI n + 5).toNatClampNeg)]) X hM1 hS (Nat.le_trans hB (Nat.le_add_right _ _)) (c_X8_copy l G (B + 238) (xs (nI n + 1).toNatClampNeg) (xs (nI n + 2).toNatClampNeg) (xs (nI n + 3).toNatClampNeg) (xs (nI n + 4).toNatClampNeg) (xs (nI n + 5).toNatClampNeg) τ τ1 r e2) kw_RL_26 kX8 km_0 (by decide) rfl hl (Nat.le_of_ble_eq_true rfl) rfl dL_law_333 (fun H2 locs hM2 hS hk2 => ?_)
  have hH2 := hH1.frame (L := layM) (B := B + 238) (Or.inr (Nat.le_refl _)) hk2
  refine lv_icmp_eq (tgt := 1164) X.1 X.2.1 dL_law_336 (by decide) (fun _ => ?_) (fun q => absurd rfl q)
  exact kk σ1 τ1 H2 _ hR1 hH2 hM2 hS
set_option maxHeartbeats 4000000 in
set_option maxRecDepth 100000 in
theorem lc_3 {p : Program} {l : Launch} {e : Env} {s : State} {m : MethodId} {below : List Frame} {meth : Method} {c : Code} {G : Gd} {b Ln B : Nat} {xs : Nat → Int32} {R : Sto → Sto → Prop} (X : Cx p s m #[Value.ref b] c cL_law 4 RL G) (hX : va_X b Ln xs s s.heap) (hbl : b < s.heap.size) (hB : s.heap.size ≤ B) {n : Nat} (hn : n + 6 ≤ Ln) (hLn : Ln ≤ 3072) (E : ∀ x1 : Int32, Sim R (f_X7_drop x1) (f_X8_drop x1)) {σ τ : Sto} (hR : R σ τ) {H : Heap} {locs : List Loc} (hH : HX G layX B σ H) (hM : HX G layM (B + 238) τ H) (hS : va_S (fun q => s.heap.size ≤ q) s.heap H locs) {ls : Array Slot} (hl : lv_has ls 4 [(0, .ref b), (1, .ref (B + 0)), (2, .ref (B + 238 + 0)), (3, .int (nI n))]) {Q : State → Prop} (kk : ∀ (σ1 τ1 : Sto) (H1 : Heap) (locs1 : List Loc), R σ1 τ1 → HX G layX B σ1 H1 → HX G layM (B + 238) τ1 H1 → va_S (fun q => s.heap.size ≤ q) s.heap H1 locs1 → W p l e room_1 s m #[Value.ref b] below meth c H1 locs1 600000 7302250 Q (F0 m 1164 ls [])) : W p l e room_1 s m #[Value.ref b] below meth c H locs 600000 7302250 Q (F0 m 341 ls []) := by
  obtain ⟨r, σ1, τ1, e1, e2, hR1⟩ := E (xs (nI n + 1).toNatClampNeg) σ τ hR
  have hbA : ¬ (fun q : Nat => s.heap.size ≤ q) b := Nat.not_le.mpr hbl
  have hi1 : vp_in (nI n + 1) Ln := by
    rw [show (nI n + 1 : Int32) = nI (n + 1) from nI_add n 1]
    exact vp_in_nI (by omega) (by omega)
  refine lv_aload_n X.1 X.2.1 dL_law_341 rfl (lv_at hl 1 rfl) ?_
  refine lv_aload_n X.1 X.2.1 dL_law_342 rfl (lv_at hl 0 rfl) ?_
  refine lv_iload_n X.1 X.2.1 dL_law_343 rfl (lv_at hl 3 rfl) ?_
  refine lv_iconst (v := 1) X.1 X.2.1 dL_law_344 (by decide) ?_
  refine lv_iadd X.1 X.2.1 dL_law_345 ?_
  refine va_sld X.1 X.2.1 hX hbl hbA hS hi1 dL_law_346 ?_
  refine g_lwi (As := [.int (xs (nI n + 1).toNatClampNeg)]) X hH hS hB (c_X7_drop l G B (xs (nI n + 1).toNatClampNeg) σ σ1 r e1) kw_RL_27 kX7 kx_0 (by decide) rfl hl (Nat.le_of_ble_eq_true rfl) rfl dL_law_347 (fun H1 locs hH1 hS hk1 => ?_)
  have hM1 := hM.frame (L := layX) (B := B) (Or.inl (Nat.le_refl _)) hk1
  refine lv_aload_n X.1 X.2.1 dL_law_350 rfl (lv_at hl 2 rfl) ?_
  refine lv_aload_n X.1 X.2.1 dL_law_351 rfl (lv_at hl 0 rfl) ?_
  refine lv_iload_n X.1 X.2.1 dL_law_352 rfl (lv_at hl 3 rfl) ?_
  refine lv_iconst (v := 1) X.1 X.2.1 dL_law_353 (by decide) ?_
  refine lv_iadd X.1 X.2.1 dL_law_354 ?_
  refine va_sld X.1 X.2.1 hX hbl hbA hS hi1 dL_law_355 ?_
  refine g_lwi (As := [.int (xs (nI n + 1).toNatClampNeg)]) X hM1 hS (Nat.le_trans hB (Nat.le_add_right _ _)) (c_X8_drop l G (B + 238) (xs (nI n + 1).toNatClampNeg) τ τ1 r e2) kw_RL_31 kX8 km_0 (by decide) rfl hl (Nat.le_of_ble_eq_true rfl) rfl dL_law_356 (fun H2 locs hM2 hS hk2 => ?_)
  have hH2 := hH1.frame (L := layM) (B := B + 238) (Or.inr (Nat.le_refl _)) hk2
  refine lv_icmp_eq (tgt := 1164) X.1 X.2.1 dL_law_359 (by decide) (fun _ => ?_) (fun q => absurd rfl q)
  exact kk σ1 τ1 H2 _ hR1 hH2 hM2 hS
set_option maxHeartbeats 4000000 in
set_option maxRecDepth 100000 in
theorem lc_4 {p : Program} {l : Launch} {e : Env} {s : State} {m : MethodId} {below : List Frame} {meth : Method} {c : Code} {G : Gd} {b Ln B : Nat} {xs : Nat → Int32} {R : Sto → Sto → Prop} (X : Cx p s m #[Value.ref b] c cL_law 4 RL G) (hX : va_X b Ln xs s s.heap) (hbl : b < s.heap.size) (hB : s.heap.size ≤ B) {n : Nat} (hn : n + 6 ≤ Ln) (hLn : Ln ≤ 3072) (E : ∀ x1 : Int32, Sim R (f_X7_feed x1) (f_X8_feed x1)) {σ τ : Sto} (hR : R σ τ) {H : Heap} {locs : List Loc} (hH : HX G layX B σ H) (hM : HX G layM (B + 238) τ H) (hS : va_S (fun q => s.heap.size ≤ q) s.heap H locs) {ls : Array Slot} (hl : lv_has ls 4 [(0, .ref b), (1, .ref (B + 0)), (2, .ref (B + 238 + 0)), (3, .int (nI n))]) {Q : State → Prop} (kk : ∀ (σ1 τ1 : Sto) (H1 : Heap) (locs1 : List Loc), R σ1 τ1 → HX G layX B σ1 H1 → HX G layM (B + 238) τ1 H1 → va_S (fun q => s.heap.size ≤ q) s.heap H1 locs1 → W p l e room_1 s m #[Value.ref b] below meth c H1 locs1 600000 7302250 Q (F0 m 1164 ls [])) : W p l e room_1 s m #[Value.ref b] below meth c H locs 600000 7302250 Q (F0 m 364 ls []) := by
  obtain ⟨r, σ1, τ1, e1, e2, hR1⟩ := E (xs (nI n + 1).toNatClampNeg) σ τ hR
  have hbA : ¬ (fun q : Nat => s.heap.size ≤ q) b := Nat.not_le.mpr hbl
  have hi1 : vp_in (nI n + 1) Ln := by
    rw [show (nI n + 1 : Int32) = nI (n + 1) from nI_add n 1]
    exact vp_in_nI (by omega) (by omega)
  refine lv_aload_n X.1 X.2.1 dL_law_364 rfl (lv_at hl 1 rfl) ?_
  refine lv_aload_n X.1 X.2.1 dL_law_365 rfl (lv_at hl 0 rfl) ?_
  refine lv_iload_n X.1 X.2.1 dL_law_366 rfl (lv_at hl 3 rfl) ?_
  refine lv_iconst (v := 1) X.1 X.2.1 dL_law_367 (by decide) ?_
  refine lv_iadd X.1 X.2.1 dL_law_368 ?_
  refine va_sld X.1 X.2.1 hX hbl hbA hS hi1 dL_law_369 ?_
  refine g_lwi (As := [.int (xs (nI n + 1).toNatClampNeg)]) X hH hS hB (c_X7_feed l G B (xs (nI n + 1).toNatClampNeg) σ σ1 r e1) kw_RL_32 kX7 kx_0 (by decide) rfl hl (Nat.le_of_ble_eq_true rfl) rfl dL_law_370 (fun H1 locs hH1 hS hk1 => ?_)
  have hM1 := hM.frame (L := layX) (B := B) (Or.inl (Nat.le_refl _)) hk1
  refine lv_aload_n X.1 X.2.1 dL_law_373 rfl (lv_at hl 2 rfl) ?_
  refine lv_aload_n X.1 X.2.1 dL_law_374 rfl (lv_at hl 0 rfl) ?_
  refine lv_iload_n X.1 X.2.1 dL_law_375 rfl (lv_at hl 3 rfl) ?_
  refine lv_iconst (v := 1) X.1 X.2.1 dL_law_376 (by decide) ?_
  refine lv_iadd X.1 X.2.1 dL_law_377 ?_
  refine va_sld X.1 X.2.1 hX hbl hbA hS hi1 dL_law_378 ?_
  refine g_lwi (As := [.int (xs (nI n + 1).toNatClampNeg)]) X hM1 hS (Nat.le_trans hB (Nat.le_add_right _ _)) (c_X8_feed l G (B + 238) (xs (nI n + 1).toNatClampNeg) τ τ1 r e2) kw_RL_35 kX8 km_0 (by decide) rfl hl (Nat.le_of_ble_eq_true rfl) rfl dL_law_379 (fun H2 locs hM2 hS hk2 => ?_)
  have hH2 := hH1.frame (L := layM) (B := B + 238) (Or.inr (Nat.le_refl _)) hk2
  refine lv_icmp_eq (tgt := 1164) X.1 X.2.1 dL_law_382 (by decide) (fun _ => ?_) (fun q => absurd rfl q)
  exact kk σ1 τ1 H2 _ hR1 hH2 hM2 hS
set_option maxHeartbeats 4000000 in
set_option maxRecDepth 100000 in
theorem lc_5 {p : Program} {l : Launch} {e : Env} {s : State} {m : MethodId} {below : List Frame} {meth : Method} {c : Code} {G : Gd} {b Ln B : Nat} {xs : Nat → Int32} {R : Sto → Sto → Prop} (X : Cx p s m #[Value.ref b] c cL_law 4 RL G) (hX : va_X b Ln xs s s.heap) (hbl : b < s.heap.size) (hB : s.heap.size ≤ B) {n : Nat} (hn : n + 6 ≤ Ln) (hLn : Ln ≤ 3072) (E : Sim R (f_X7_formula) (f_X8_formula)) {σ τ : Sto} (hR : R σ τ) {H : Heap} {locs : List Loc} (hH : HX G layX B σ H) (hM : HX G layM (B + 238) τ H) (hS : va_S (fun q => s.heap.size ≤ q) s.heap H locs) {ls : Array Slot} (hl : lv_has ls 4 [(0, .ref b), (1, .ref (B + 0)), (2, .ref (B + 238 + 0)), (3, .int (nI n))]) {Q : State → Prop} (kk : ∀ (σ1 τ1 : Sto) (H1 : Heap) (locs1 : List Loc), R σ1 τ1 → HX G layX B σ1 H1 → HX G layM (B + 238) τ1 H1 → va_S (fun q => s.heap.size ≤ q) s.heap H1 locs1 → W p l e room_1 s m #[Value.ref b] below meth c H1 locs1 600000 7302250 Q (F0 m 1164 ls [])) : W p l e room_1 s m #[Value.ref b] below meth c H locs 600000 7302250 Q (F0 m 387 ls []) := by
  obtain ⟨r, σ1, τ1, e1, e2, hR1⟩ := E σ τ hR
  have hbA : ¬ (fun q : Nat => s.heap.size ≤ q) b := Nat.not_le.mpr hbl
  refine lv_aload_n X.1 X.2.1 dL_law_387 rfl (lv_at hl 1 rfl) ?_
  refine g_lwi (As := []) X hH hS hB (c_X7_formula l G B σ σ1 r e1) kw_RL_36 kX7 kx_0 (by decide) rfl hl (Nat.le_of_ble_eq_true rfl) rfl dL_law_388 (fun H1 locs hH1 hS hk1 => ?_)
  have hM1 := hM.frame (L := layX) (B := B) (Or.inl (Nat.le_refl _)) hk1
  refine lv_aload_n X.1 X.2.1 dL_law_391 rfl (lv_at hl 2 rfl) ?_
  refine g_lwi (As := []) X hM1 hS (Nat.le_trans hB (Nat.le_add_right _ _)) (c_X8_formula l G (B + 238) τ τ1 r e2) kw_RL_40 kX8 km_0 (by decide) rfl hl (Nat.le_of_ble_eq_true rfl) rfl dL_law_392 (fun H2 locs hM2 hS hk2 => ?_)
  have hH2 := hH1.frame (L := layM) (B := B + 238) (Or.inr (Nat.le_refl _)) hk2
  refine lv_icmp_eq (tgt := 1164) X.1 X.2.1 dL_law_395 (by decide) (fun _ => ?_) (fun q => absurd rfl q)
  exact kk σ1 τ1 H2 _ hR1 hH2 hM2 hS
set_option maxHeartbeats 4000000 in
set_option maxRecDepth 100000 in
theorem lc_6 {p : Program} {l : Launch} {e : Env} {s : State} {m : MethodId} {below : List Frame} {meth : Method} {c : Code} {G : Gd} {b Ln B : Nat} {xs : Nat → Int32} {R : Sto → Sto → Prop} (X : Cx p s m #[Value.ref b] c cL_law 4 RL G) (hX : va_X b Ln xs s s.heap) (hbl : b < s.heap.size) (hB : s.heap.size ≤ B) {n : Nat} (hn : n + 6 ≤ Ln) (hLn : Ln ≤ 3072) (E : Sim R (f_X7_fault) (f_X8_fault)) {σ τ : Sto} (hR : R σ τ) {H : Heap} {locs : List Loc} (hH : HX G layX B σ H) (hM : HX G layM (B + 238) τ H) (hS : va_S (fun q => s.heap.size ≤ q) s.heap H locs) {ls : Array Slot} (hl : lv_has ls 4 [(0, .ref b), (1, .ref (B + 0)), (2, .ref (B + 238 + 0)), (3, .int (nI n))]) {Q : State → Prop} (kk : ∀ (σ1 τ1 : Sto) (H1 : Heap) (locs1 : List Loc), R σ1 τ1 → HX G layX B σ1 H1 → HX G layM (B + 238) τ1 H1 → va_S (fun q => s.heap.size ≤ q) s.heap H1 locs1 → W p l e room_1 s m #[Value.ref b] below meth c H1 locs1 600000 7302250 Q (F0 m 1164 ls [])) : W p l e room_1 s m #[Value.ref b] below meth c H locs 600000 7302250 Q (F0 m 400 ls []) := by
  obtain ⟨r, σ1, τ1, e1, e2, hR1⟩ := E σ τ hR
  have hbA : ¬ (fun q : Nat => s.heap.size ≤ q) b := Nat.not_le.mpr hbl
  refine lv_aload_n X.1 X.2.1 dL_law_400 rfl (lv_at hl 1 rfl) ?_
  refine g_lwi (As := []) X hH hS hB (c_X7_fault l G B σ σ1 r e1) kw_RL_41 kX7 kx_0 (by decide) rfl hl (Nat.le_of_ble_eq_true rfl) rfl dL_law_401 (fun H1 locs hH1 hS hk1 => ?_)
  have hM1 := hM.frame (L := layX) (B := B) (Or.inl (Nat.le_refl _)) hk1
  refine lv_aload_n X.1 X.2.1 dL_law_404 rfl (lv_at hl 2 rfl) ?_
  refine g_lwi (As := []) X hM1 hS (Nat.le_trans hB (Nat.le_add_right _ _)) (c_X8_fault l G (B + 238) τ τ1 r e2) kw_RL_44 kX8 km_0 (by decide) rfl hl (Nat.le_of_ble_eq_true rfl) rfl dL_law_405 (fun H2 locs hM2 hS hk2 => ?_)
  have hH2 := hH1.frame (L := layM) (B := B + 238) (Or.inr (Nat.le_refl _)) hk2
  refine lv_icmp_eq (tgt := 1164) X.1 X.2.1 dL_law_408 (by decide) (fun _ => ?_) (fun q => absurd rfl q)
  exact kk σ1 τ1 H2 _ hR1 hH2 hM2 hS
set_option maxHeartbeats 4000000 in
set_option maxRecDepth 100000 in
theorem lc_7 {p : Program} {l : Launch} {e : Env} {s : State} {m : MethodId} {below : List Frame} {meth : Method} {c : Code} {G : Gd} {b Ln B : Nat} {xs : Nat → Int32} {R : Sto → Sto → Prop} (X : Cx p s m #[Value.ref b] c cL_law 4 RL G) (hX : va_X b Ln xs s s.heap) (hbl : b < s.heap.size) (hB : s.heap.size ≤ B) {n : Nat} (hn : n + 6 ≤ Ln) (hLn : Ln ≤ 3072) (E : ∀ x1 x2 : Int32, Sim R (f_X7_plus x1 x2) (f_X8_plus x1 x2)) {σ τ : Sto} (hR : R σ τ) {H : Heap} {locs : List Loc} (hH : HX G layX B σ H) (hM : HX G layM (B + 238) τ H) (hS : va_S (fun q => s.heap.size ≤ q) s.heap H locs) {ls : Array Slot} (hl : lv_has ls 4 [(0, .ref b), (1, .ref (B + 0)), (2, .ref (B + 238 + 0)), (3, .int (nI n))]) {Q : State → Prop} (kk : ∀ (σ1 τ1 : Sto) (H1 : Heap) (locs1 : List Loc), R σ1 τ1 → HX G layX B σ1 H1 → HX G layM (B + 238) τ1 H1 → va_S (fun q => s.heap.size ≤ q) s.heap H1 locs1 → W p l e room_1 s m #[Value.ref b] below meth c H1 locs1 600000 7302250 Q (F0 m 1164 ls [])) : W p l e room_1 s m #[Value.ref b] below meth c H locs 600000 7302250 Q (F0 m 413 ls []) := by
  obtain ⟨r, σ1, τ1, e1, e2, hR1⟩ := E (xs (nI n + 1).toNatClampNeg) (xs (nI n + 2).toNatClampNeg) σ τ hR
  have hbA : ¬ (fun q : Nat => s.heap.size ≤ q) b := Nat.not_le.mpr hbl
  have hi1 : vp_in (nI n + 1) Ln := by
    rw [show (nI n + 1 : Int32) = nI (n + 1) from nI_add n 1]
    exact vp_in_nI (by omega) (by omega)
  have hi2 : vp_in (nI n + 2) Ln := by
    rw [show (nI n + 2 : Int32) = nI (n + 2) from nI_add n 2]
    exact vp_in_nI (by omega) (by omega)
  refine lv_aload_n X.1 X.2.1 dL_law_413 rfl (lv_at hl 1 rfl) ?_
  refine lv_aload_n X.1 X.2.1 dL_law_414 rfl (lv_at hl 0 rfl) ?_
  refine lv_iload_n X.1 X.2.1 dL_law_415 rfl (lv_at hl 3 rfl) ?_
  refine lv_iconst (v := 1) X.1 X.2.1 dL_law_416 (by decide) ?_
  refine lv_iadd X.1 X.2.1 dL_law_417 ?_
  refine va_sld X.1 X.2.1 hX hbl hbA hS hi1 dL_law_418 ?_
  refine lv_aload_n X.1 X.2.1 dL_law_419 rfl (lv_at hl 0 rfl) ?_
  refine lv_iload_n X.1 X.2.1 dL_law_420 rfl (lv_at hl 3 rfl) ?_
  refine lv_iconst (v := 2) X.1 X.2.1 dL_law_421 (by decide) ?_
  refine lv_iadd X.1 X.2.1 dL_law_422 ?_
  refine va_sld X.1 X.2.1 hX hbl hbA hS hi2 dL_law_423 ?_
  refine g_lwi (As := [.int (xs (nI n + 1).toNatClampNeg), .int (xs (nI n + 2).toNatClampNeg)]) X hH hS hB (c_X7_plus l G B (xs (nI n + 1).toNatClampNeg) (xs (nI n + 2).toNatClampNeg) σ σ1 r e1) kw_RL_45 kX7 kx_0 (by decide) rfl hl (Nat.le_of_ble_eq_true rfl) rfl dL_law_424 (fun H1 locs hH1 hS hk1 => ?_)
  have hM1 := hM.frame (L := layX) (B := B) (Or.inl (Nat.le_refl _)) hk1
  refine lv_aload_n X.1 X.2.1 dL_law_427 rfl (lv_at hl 2 rfl) ?_
  refine lv_aload_n X.1 X.2.1 dL_law_428 rfl (lv_at hl 0 rfl) ?_
  refine lv_iload_n X.1 X.2.1 dL_law_429 rfl (lv_at hl 3 rfl) ?_
  refine lv_iconst (v := 1) X.1 X.2.1 dL_law_430 (by decide) ?_
  refine lv_iadd X.1 X.2.1 dL_law_431 ?_
  refine va_sld X.1 X.2.1 hX hbl hbA hS hi1 dL_law_432 ?_
  refine lv_aload_n X.1 X.2.1 dL_law_433 rfl (lv_at hl 0 rfl) ?_
  refine lv_iload_n X.1 X.2.1 dL_law_434 rfl (lv_at hl 3 rfl) ?_
  refine lv_iconst (v := 2) X.1 X.2.1 dL_law_435 (by decide) ?_
  refine lv_iadd X.1 X.2.1 dL_law_436 ?_
  refine va_sld X.1 X.2.1 hX hbl hbA hS hi2 dL_law_437 ?_
  refine g_lwi (As := [.int (xs (nI n + 1).toNatClampNeg), .int (xs (nI n + 2).toNatClampNeg)]) X hM1 hS (Nat.le_trans hB (Nat.le_add_right _ _)) (c_X8_plus l G (B + 238) (xs (nI n + 1).toNatClampNeg) (xs (nI n + 2).toNatClampNeg) τ τ1 r e2) kw_RL_49 kX8 km_0 (by decide) rfl hl (Nat.le_of_ble_eq_true rfl) rfl dL_law_438 (fun H2 locs hM2 hS hk2 => ?_)
  have hH2 := hH1.frame (L := layM) (B := B + 238) (Or.inr (Nat.le_refl _)) hk2
  refine lv_icmp_eq (tgt := 1164) X.1 X.2.1 dL_law_441 (by decide) (fun _ => ?_) (fun q => absurd rfl q)
  exact kk σ1 τ1 H2 _ hR1 hH2 hM2 hS
set_option maxHeartbeats 4000000 in
set_option maxRecDepth 100000 in
theorem lc_8 {p : Program} {l : Launch} {e : Env} {s : State} {m : MethodId} {below : List Frame} {meth : Method} {c : Code} {G : Gd} {b Ln B : Nat} {xs : Nat → Int32} {R : Sto → Sto → Prop} (X : Cx p s m #[Value.ref b] c cL_law 4 RL G) (hX : va_X b Ln xs s s.heap) (hbl : b < s.heap.size) (hB : s.heap.size ≤ B) {n : Nat} (hn : n + 6 ≤ Ln) (hLn : Ln ≤ 3072) (E : ∀ x1 x2 : Int32, Sim R (f_X7_times x1 x2) (f_X8_times x1 x2)) {σ τ : Sto} (hR : R σ τ) {H : Heap} {locs : List Loc} (hH : HX G layX B σ H) (hM : HX G layM (B + 238) τ H) (hS : va_S (fun q => s.heap.size ≤ q) s.heap H locs) {ls : Array Slot} (hl : lv_has ls 4 [(0, .ref b), (1, .ref (B + 0)), (2, .ref (B + 238 + 0)), (3, .int (nI n))]) {Q : State → Prop} (kk : ∀ (σ1 τ1 : Sto) (H1 : Heap) (locs1 : List Loc), R σ1 τ1 → HX G layX B σ1 H1 → HX G layM (B + 238) τ1 H1 → va_S (fun q => s.heap.size ≤ q) s.heap H1 locs1 → W p l e room_1 s m #[Value.ref b] below meth c H1 locs1 600000 7302250 Q (F0 m 1164 ls [])) : W p l e room_1 s m #[Value.ref b] below meth c H locs 600000 7302250 Q (F0 m 446 ls []) := by
  obtain ⟨r, σ1, τ1, e1, e2, hR1⟩ := E (xs (nI n + 1).toNatClampNeg) (xs (nI n + 2).toNatClampNeg) σ τ hR
  have hbA : ¬ (fun q : Nat => s.heap.size ≤ q) b := Nat.not_le.mpr hbl
  have hi1 : vp_in (nI n + 1) Ln := by
    rw [show (nI n + 1 : Int32) = nI (n + 1) from nI_add n 1]
    exact vp_in_nI (by omega) (by omega)
  have hi2 : vp_in (nI n + 2) Ln := by
    rw [show (nI n + 2 : Int32) = nI (n + 2) from nI_add n 2]
    exact vp_in_nI (by omega) (by omega)
  refine lv_aload_n X.1 X.2.1 dL_law_446 rfl (lv_at hl 1 rfl) ?_
  refine lv_aload_n X.1 X.2.1 dL_law_447 rfl (lv_at hl 0 rfl) ?_
  refine lv_iload_n X.1 X.2.1 dL_law_448 rfl (lv_at hl 3 rfl) ?_
  refine lv_iconst (v := 1) X.1 X.2.1 dL_law_449 (by decide) ?_
  refine lv_iadd X.1 X.2.1 dL_law_450 ?_
  refine va_sld X.1 X.2.1 hX hbl hbA hS hi1 dL_law_451 ?_
  refine lv_aload_n X.1 X.2.1 dL_law_452 rfl (lv_at hl 0 rfl) ?_
  refine lv_iload_n X.1 X.2.1 dL_law_453 rfl (lv_at hl 3 rfl) ?_
  refine lv_iconst (v := 2) X.1 X.2.1 dL_law_454 (by decide) ?_
  refine lv_iadd X.1 X.2.1 dL_law_455 ?_
  refine va_sld X.1 X.2.1 hX hbl hbA hS hi2 dL_law_456 ?_
  refine g_lwi (As := [.int (xs (nI n + 1).toNatClampNeg), .int (xs (nI n + 2).toNatClampNeg)]) X hH hS hB (c_X7_times l G B (xs (nI n + 1).toNatClampNeg) (xs (nI n + 2).toNatClampNeg) σ σ1 r e1) kw_RL_50 kX7 kx_0 (by decide) rfl hl (Nat.le_of_ble_eq_true rfl) rfl dL_law_457 (fun H1 locs hH1 hS hk1 => ?_)
  have hM1 := hM.frame (L := layX) (B := B) (Or.inl (Nat.le_refl _)) hk1
  refine lv_aload_n X.1 X.2.1 dL_law_460 rfl (lv_at hl 2 rfl) ?_
  refine lv_aload_n X.1 X.2.1 dL_law_461 rfl (lv_at hl 0 rfl) ?_
  refine lv_iload_n X.1 X.2.1 dL_law_462 rfl (lv_at hl 3 rfl) ?_
  refine lv_iconst (v := 1) X.1 X.2.1 dL_law_463 (by decide) ?_
  refine lv_iadd X.1 X.2.1 dL_law_464 ?_
  refine va_sld X.1 X.2.1 hX hbl hbA hS hi1 dL_law_465 ?_
  refine lv_aload_n X.1 X.2.1 dL_law_466 rfl (lv_at hl 0 rfl) ?_
  refine lv_iload_n X.1 X.2.1 dL_law_467 rfl (lv_at hl 3 rfl) ?_
  refine lv_iconst (v := 2) X.1 X.2.1 dL_law_468 (by decide) ?_
  refine lv_iadd X.1 X.2.1 dL_law_469 ?_
  refine va_sld X.1 X.2.1 hX hbl hbA hS hi2 dL_law_470 ?_
  refine g_lwi (As := [.int (xs (nI n + 1).toNatClampNeg), .int (xs (nI n + 2).toNatClampNeg)]) X hM1 hS (Nat.le_trans hB (Nat.le_add_right _ _)) (c_X8_times l G (B + 238) (xs (nI n + 1).toNatClampNeg) (xs (nI n + 2).toNatClampNeg) τ τ1 r e2) kw_RL_53 kX8 km_0 (by decide) rfl hl (Nat.le_of_ble_eq_true rfl) rfl dL_law_471 (fun H2 locs hM2 hS hk2 => ?_)
  have hH2 := hH1.frame (L := layM) (B := B + 238) (Or.inr (Nat.le_refl _)) hk2
  refine lv_icmp_eq (tgt := 1164) X.1 X.2.1 dL_law_474 (by decide) (fun _ => ?_) (fun q => absurd rfl q)
  exact kk σ1 τ1 H2 _ hR1 hH2 hM2 hS
set_option maxHeartbeats 4000000 in
set_option maxRecDepth 100000 in
theorem lc_9 {p : Program} {l : Launch} {e : Env} {s : State} {m : MethodId} {below : List Frame} {meth : Method} {c : Code} {G : Gd} {b Ln B : Nat} {xs : Nat → Int32} {R : Sto → Sto → Prop} (X : Cx p s m #[Value.ref b] c cL_law 4 RL G) (hX : va_X b Ln xs s s.heap) (hbl : b < s.heap.size) (hB : s.heap.size ≤ B) {n : Nat} (hn : n + 6 ≤ Ln) (hLn : Ln ≤ 3072) (E : ∀ x1 x2 : Int32, Sim R (f_X7_split x1 x2) (f_X8_split x1 x2)) {σ τ : Sto} (hR : R σ τ) {H : Heap} {locs : List Loc} (hH : HX G layX B σ H) (hM : HX G layM (B + 238) τ H) (hS : va_S (fun q => s.heap.size ≤ q) s.heap H locs) {ls : Array Slot} (hl : lv_has ls 4 [(0, .ref b), (1, .ref (B + 0)), (2, .ref (B + 238 + 0)), (3, .int (nI n))]) {Q : State → Prop} (kk : ∀ (σ1 τ1 : Sto) (H1 : Heap) (locs1 : List Loc), R σ1 τ1 → HX G layX B σ1 H1 → HX G layM (B + 238) τ1 H1 → va_S (fun q => s.heap.size ≤ q) s.heap H1 locs1 → W p l e room_1 s m #[Value.ref b] below meth c H1 locs1 600000 7302250 Q (F0 m 1164 ls [])) : W p l e room_1 s m #[Value.ref b] below meth c H locs 600000 7302250 Q (F0 m 479 ls []) := by
  obtain ⟨r, σ1, τ1, e1, e2, hR1⟩ := E (xs (nI n + 1).toNatClampNeg) (xs (nI n + 2).toNatClampNeg) σ τ hR
  have hbA : ¬ (fun q : Nat => s.heap.size ≤ q) b := Nat.not_le.mpr hbl
  have hi1 : vp_in (nI n + 1) Ln := by
    rw [show (nI n + 1 : Int32) = nI (n + 1) from nI_add n 1]
    exact vp_in_nI (by omega) (by omega)
  have hi2 : vp_in (nI n + 2) Ln := by
    rw [show (nI n + 2 : Int32) = nI (n + 2) from nI_add n 2]
    exact vp_in_nI (by omega) (by omega)
  refine lv_aload_n X.1 X.2.1 dL_law_479 rfl (lv_at hl 1 rfl) ?_
  refine lv_aload_n X.1 X.2.1 dL_law_480 rfl (lv_at hl 0 rfl) ?_
  refine lv_iload_n X.1 X.2.1 dL_law_481 rfl (lv_at hl 3 rfl) ?_
  refine lv_iconst (v := 1) X.1 X.2.1 dL_law_482 (by decide) ?_
  refine lv_iadd X.1 X.2.1 dL_law_483 ?_
  refine va_sld X.1 X.2.1 hX hbl hbA hS hi1 dL_law_484 ?_
  refine lv_aload_n X.1 X.2.1 dL_law_485 rfl (lv_at hl 0 rfl) ?_
  refine lv_iload_n X.1 X.2.1 dL_law_486 rfl (lv_at hl 3 rfl) ?_
  refine lv_iconst (v := 2) X.1 X.2.1 dL_law_487 (by decide) ?_
  refine lv_iadd X.1 X.2.1 dL_law_488 ?_
  refine va_sld X.1 X.2.1 hX hbl hbA hS hi2 dL_law_489 ?_
  refine g_lwi (As := [.int (xs (nI n + 1).toNatClampNeg), .int (xs (nI n + 2).toNatClampNeg)]) X hH hS hB (c_X7_split l G B (xs (nI n + 1).toNatClampNeg) (xs (nI n + 2).toNatClampNeg) σ σ1 r e1) kw_RL_54 kX7 kx_0 (by decide) rfl hl (Nat.le_of_ble_eq_true rfl) rfl dL_law_490 (fun H1 locs hH1 hS hk1 => ?_)
  have hM1 := hM.frame (L := layX) (B := B) (Or.inl (Nat.le_refl _)) hk1
  refine lv_aload_n X.1 X.2.1 dL_law_493 rfl (lv_at hl 2 rfl) ?_
  refine lv_aload_n X.1 X.2.1 dL_law_494 rfl (lv_at hl 0 rfl) ?_
  refine lv_iload_n X.1 X.2.1 dL_law_495 rfl (lv_at hl 3 rfl) ?_
  refine lv_iconst (v := 1) X.1 X.2.1 dL_law_496 (by decide) ?_
  refine lv_iadd X.1 X.2.1 dL_law_497 ?_
  refine va_sld X.1 X.2.1 hX hbl hbA hS hi1 dL_law_498 ?_
  refine lv_aload_n X.1 X.2.1 dL_law_499 rfl (lv_at hl 0 rfl) ?_
  refine lv_iload_n X.1 X.2.1 dL_law_500 rfl (lv_at hl 3 rfl) ?_
  refine lv_iconst (v := 2) X.1 X.2.1 dL_law_501 (by decide) ?_
  refine lv_iadd X.1 X.2.1 dL_law_502 ?_
  refine va_sld X.1 X.2.1 hX hbl hbA hS hi2 dL_law_503 ?_
  refine g_lwi (As := [.int (xs (nI n + 1).toNatClampNeg), .int (xs (nI n + 2).toNatClampNeg)]) X hM1 hS (Nat.le_trans hB (Nat.le_add_right _ _)) (c_X8_split l G (B + 238) (xs (nI n + 1).toNatClampNeg) (xs (nI n + 2).toNatClampNeg) τ τ1 r e2) kw_RL_57 kX8 km_0 (by decide) rfl hl (Nat.le_of_ble_eq_true rfl) rfl dL_law_504 (fun H2 locs hM2 hS hk2 => ?_)
  have hH2 := hH1.frame (L := layM) (B := B + 238) (Or.inr (Nat.le_refl _)) hk2
  refine lv_icmp_eq (tgt := 1164) X.1 X.2.1 dL_law_507 (by decide) (fun _ => ?_) (fun q => absurd rfl q)
  exact kk σ1 τ1 H2 _ hR1 hH2 hM2 hS
set_option maxHeartbeats 4000000 in
set_option maxRecDepth 100000 in
theorem lc_10 {p : Program} {l : Launch} {e : Env} {s : State} {m : MethodId} {below : List Frame} {meth : Method} {c : Code} {G : Gd} {b Ln B : Nat} {xs : Nat → Int32} {R : Sto → Sto → Prop} (X : Cx p s m #[Value.ref b] c cL_law 4 RL G) (hX : va_X b Ln xs s s.heap) (hbl : b < s.heap.size) (hB : s.heap.size ≤ B) {n : Nat} (hn : n + 6 ≤ Ln) (hLn : Ln ≤ 3072) (E : ∀ x1 : Int32, Sim R (f_X7_saturate x1) (f_X8_saturate x1)) {σ τ : Sto} (hR : R σ τ) {H : Heap} {locs : List Loc} (hH : HX G layX B σ H) (hM : HX G layM (B + 238) τ H) (hS : va_S (fun q => s.heap.size ≤ q) s.heap H locs) {ls : Array Slot} (hl : lv_has ls 4 [(0, .ref b), (1, .ref (B + 0)), (2, .ref (B + 238 + 0)), (3, .int (nI n))]) {Q : State → Prop} (kk : ∀ (σ1 τ1 : Sto) (H1 : Heap) (locs1 : List Loc), R σ1 τ1 → HX G layX B σ1 H1 → HX G layM (B + 238) τ1 H1 → va_S (fun q => s.heap.size ≤ q) s.heap H1 locs1 → W p l e room_1 s m #[Value.ref b] below meth c H1 locs1 600000 7302250 Q (F0 m 1164 ls [])) : W p l e room_1 s m #[Value.ref b] below meth c H locs 600000 7302250 Q (F0 m 512 ls []) := by
  obtain ⟨r, σ1, τ1, e1, e2, hR1⟩ := E (xs (nI n + 1).toNatClampNeg) σ τ hR
  have hbA : ¬ (fun q : Nat => s.heap.size ≤ q) b := Nat.not_le.mpr hbl
  have hi1 : vp_in (nI n + 1) Ln := by
    rw [show (nI n + 1 : Int32) = nI (n + 1) from nI_add n 1]
    exact vp_in_nI (by omega) (by omega)
  refine lv_aload_n X.1 X.2.1 dL_law_512 rfl (lv_at hl 1 rfl) ?_
  refine lv_aload_n X.1 X.2.1 dL_law_513 rfl (lv_at hl 0 rfl) ?_
  refine lv_iload_n X.1 X.2.1 dL_law_514 rfl (lv_at hl 3 rfl) ?_
  refine lv_iconst (v := 1) X.1 X.2.1 dL_law_515 (by decide) ?_
  refine lv_iadd X.1 X.2.1 dL_law_516 ?_
  refine va_sld X.1 X.2.1 hX hbl hbA hS hi1 dL_law_517 ?_
  refine g_lwi (As := [.int (xs (nI n + 1).toNatClampNeg)]) X hH hS hB (c_X7_saturate l G B (xs (nI n + 1).toNatClampNeg) σ σ1 r e1) kw_RL_58 kX7 kx_0 (by decide) rfl hl (Nat.le_of_ble_eq_true rfl) rfl dL_law_518 (fun H1 locs hH1 hS hk1 => ?_)
  have hM1 := hM.frame (L := layX) (B := B) (Or.inl (Nat.le_refl _)) hk1
  refine lv_aload_n X.1 X.2.1 dL_law_521 rfl (lv_at hl 2 rfl) ?_
  refine lv_aload_n X.1 X.2.1 dL_law_522 rfl (lv_at hl 0 rfl) ?_
  refine lv_iload_n X.1 X.2.1 dL_law_523 rfl (lv_at hl 3 rfl) ?_
  refine lv_iconst (v := 1) X.1 X.2.1 dL_law_524 (by decide) ?_
  refine lv_iadd X.1 X.2.1 dL_law_525 ?_
  refine va_sld X.1 X.2.1 hX hbl hbA hS hi1 dL_law_526 ?_
  refine g_lwi (As := [.int (xs (nI n + 1).toNatClampNeg)]) X hM1 hS (Nat.le_trans hB (Nat.le_add_right _ _)) (c_X8_saturate l G (B + 238) (xs (nI n + 1).toNatClampNeg) τ τ1 r e2) kw_RL_61 kX8 km_0 (by decide) rfl hl (Nat.le_of_ble_eq_true rfl) rfl dL_law_527 (fun H2 locs hM2 hS hk2 => ?_)
  have hH2 := hH1.frame (L := layM) (B := B + 238) (Or.inr (Nat.le_refl _)) hk2
  refine lv_icmp_eq (tgt := 1164) X.1 X.2.1 dL_law_530 (by decide) (fun _ => ?_) (fun q => absurd rfl q)
  exact kk σ1 τ1 H2 _ hR1 hH2 hM2 hS
set_option maxHeartbeats 4000000 in
set_option maxRecDepth 100000 in
theorem lc_11 {p : Program} {l : Launch} {e : Env} {s : State} {m : MethodId} {below : List Frame} {meth : Method} {c : Code} {G : Gd} {b Ln B : Nat} {xs : Nat → Int32} {R : Sto → Sto → Prop} (X : Cx p s m #[Value.ref b] c cL_law 4 RL G) (hX : va_X b Ln xs s s.heap) (hbl : b < s.heap.size) (hB : s.heap.size ≤ B) {n : Nat} (hn : n + 6 ≤ Ln) (hLn : Ln ≤ 3072) (E : ∀ x1 x2 : Int32, Sim R (f_X7_weaken x1 x2) (f_X8_weaken x1 x2)) {σ τ : Sto} (hR : R σ τ) {H : Heap} {locs : List Loc} (hH : HX G layX B σ H) (hM : HX G layM (B + 238) τ H) (hS : va_S (fun q => s.heap.size ≤ q) s.heap H locs) {ls : Array Slot} (hl : lv_has ls 4 [(0, .ref b), (1, .ref (B + 0)), (2, .ref (B + 238 + 0)), (3, .int (nI n))]) {Q : State → Prop} (kk : ∀ (σ1 τ1 : Sto) (H1 : Heap) (locs1 : List Loc), R σ1 τ1 → HX G layX B σ1 H1 → HX G layM (B + 238) τ1 H1 → va_S (fun q => s.heap.size ≤ q) s.heap H1 locs1 → W p l e room_1 s m #[Value.ref b] below meth c H1 locs1 600000 7302250 Q (F0 m 1164 ls [])) : W p l e room_1 s m #[Value.ref b] below meth c H locs 600000 7302250 Q (F0 m 535 ls []) := by
  obtain ⟨r, σ1, τ1, e1, e2, hR1⟩ := E (xs (nI n + 1).toNatClampNeg) (xs (nI n + 2).toNatClampNeg) σ τ hR
  have hbA : ¬ (fun q : Nat => s.heap.size ≤ q) b := Nat.not_le.mpr hbl
  have hi1 : vp_in (nI n + 1) Ln := by
    rw [show (nI n + 1 : Int32) = nI (n + 1) from nI_add n 1]
    exact vp_in_nI (by omega) (by omega)
  have hi2 : vp_in (nI n + 2) Ln := by
    rw [show (nI n + 2 : Int32) = nI (n + 2) from nI_add n 2]
    exact vp_in_nI (by omega) (by omega)
  refine lv_aload_n X.1 X.2.1 dL_law_535 rfl (lv_at hl 1 rfl) ?_
  refine lv_aload_n X.1 X.2.1 dL_law_536 rfl (lv_at hl 0 rfl) ?_
  refine lv_iload_n X.1 X.2.1 dL_law_537 rfl (lv_at hl 3 rfl) ?_
  refine lv_iconst (v := 1) X.1 X.2.1 dL_law_538 (by decide) ?_
  refine lv_iadd X.1 X.2.1 dL_law_539 ?_
  refine va_sld X.1 X.2.1 hX hbl hbA hS hi1 dL_law_540 ?_
  refine lv_aload_n X.1 X.2.1 dL_law_541 rfl (lv_at hl 0 rfl) ?_
  refine lv_iload_n X.1 X.2.1 dL_law_542 rfl (lv_at hl 3 rfl) ?_
  refine lv_iconst (v := 2) X.1 X.2.1 dL_law_543 (by decide) ?_
  refine lv_iadd X.1 X.2.1 dL_law_544 ?_
  refine va_sld X.1 X.2.1 hX hbl hbA hS hi2 dL_law_545 ?_
  refine g_lwi (As := [.int (xs (nI n + 1).toNatClampNeg), .int (xs (nI n + 2).toNatClampNeg)]) X hH hS hB (c_X7_weaken l G B (xs (nI n + 1).toNatClampNeg) (xs (nI n + 2).toNatClampNeg) σ σ1 r e1) kw_RL_62 kX7 kx_0 (by decide) rfl hl (Nat.le_of_ble_eq_true rfl) rfl dL_law_546 (fun H1 locs hH1 hS hk1 => ?_)
  have hM1 := hM.frame (L := layX) (B := B) (Or.inl (Nat.le_refl _)) hk1
  refine lv_aload_n X.1 X.2.1 dL_law_549 rfl (lv_at hl 2 rfl) ?_
  refine lv_aload_n X.1 X.2.1 dL_law_550 rfl (lv_at hl 0 rfl) ?_
  refine lv_iload_n X.1 X.2.1 dL_law_551 rfl (lv_at hl 3 rfl) ?_
  refine lv_iconst (v := 1) X.1 X.2.1 dL_law_552 (by decide) ?_
  refine lv_iadd X.1 X.2.1 dL_law_553 ?_
  refine va_sld X.1 X.2.1 hX hbl hbA hS hi1 dL_law_554 ?_
  refine lv_aload_n X.1 X.2.1 dL_law_555 rfl (lv_at hl 0 rfl) ?_
  refine lv_iload_n X.1 X.2.1 dL_law_556 rfl (lv_at hl 3 rfl) ?_
  refine lv_iconst (v := 2) X.1 X.2.1 dL_law_557 (by decide) ?_
  refine lv_iadd X.1 X.2.1 dL_law_558 ?_
  refine va_sld X.1 X.2.1 hX hbl hbA hS hi2 dL_law_559 ?_
  refine g_lwi (As := [.int (xs (nI n + 1).toNatClampNeg), .int (xs (nI n + 2).toNatClampNeg)]) X hM1 hS (Nat.le_trans hB (Nat.le_add_right _ _)) (c_X8_weaken l G (B + 238) (xs (nI n + 1).toNatClampNeg) (xs (nI n + 2).toNatClampNeg) τ τ1 r e2) kw_RL_65 kX8 km_0 (by decide) rfl hl (Nat.le_of_ble_eq_true rfl) rfl dL_law_560 (fun H2 locs hM2 hS hk2 => ?_)
  have hH2 := hH1.frame (L := layM) (B := B + 238) (Or.inr (Nat.le_refl _)) hk2
  refine lv_icmp_eq (tgt := 1164) X.1 X.2.1 dL_law_563 (by decide) (fun _ => ?_) (fun q => absurd rfl q)
  exact kk σ1 τ1 H2 _ hR1 hH2 hM2 hS
set_option maxHeartbeats 4000000 in
set_option maxRecDepth 100000 in
theorem lc_12 {p : Program} {l : Launch} {e : Env} {s : State} {m : MethodId} {below : List Frame} {meth : Method} {c : Code} {G : Gd} {b Ln B : Nat} {xs : Nat → Int32} {R : Sto → Sto → Prop} (X : Cx p s m #[Value.ref b] c cL_law 4 RL G) (hX : va_X b Ln xs s s.heap) (hbl : b < s.heap.size) (hB : s.heap.size ≤ B) {n : Nat} (hn : n + 6 ≤ Ln) (hLn : Ln ≤ 3072) (E : ∀ x1 x2 : Int32, Sim R (f_X7_axiom x1 x2) (f_X8_axiom x1 x2)) {σ τ : Sto} (hR : R σ τ) {H : Heap} {locs : List Loc} (hH : HX G layX B σ H) (hM : HX G layM (B + 238) τ H) (hS : va_S (fun q => s.heap.size ≤ q) s.heap H locs) {ls : Array Slot} (hl : lv_has ls 4 [(0, .ref b), (1, .ref (B + 0)), (2, .ref (B + 238 + 0)), (3, .int (nI n))]) {Q : State → Prop} (kk : ∀ (σ1 τ1 : Sto) (H1 : Heap) (locs1 : List Loc), R σ1 τ1 → HX G layX B σ1 H1 → HX G layM (B + 238) τ1 H1 → va_S (fun q => s.heap.size ≤ q) s.heap H1 locs1 → W p l e room_1 s m #[Value.ref b] below meth c H1 locs1 600000 7302250 Q (F0 m 1164 ls [])) : W p l e room_1 s m #[Value.ref b] below meth c H locs 600000 7302250 Q (F0 m 568 ls []) := by
  obtain ⟨r, σ1, τ1, e1, e2, hR1⟩ := E (xs (nI n + 1).toNatClampNeg) (xs (nI n + 2).toNatClampNeg) σ τ hR
  have hbA : ¬ (fun q : Nat => s.heap.size ≤ q) b := Nat.not_le.mpr hbl
  have hi1 : vp_in (nI n + 1) Ln := by
    rw [show (nI n + 1 : Int32) = nI (n + 1) from nI_add n 1]
    exact vp_in_nI (by omega) (by omega)
  have hi2 : vp_in (nI n + 2) Ln := by
    rw [show (nI n + 2 : Int32) = nI (n + 2) from nI_add n 2]
    exact vp_in_nI (by omega) (by omega)
  refine lv_aload_n X.1 X.2.1 dL_law_568 rfl (lv_at hl 1 rfl) ?_
  refine lv_aload_n X.1 X.2.1 dL_law_569 rfl (lv_at hl 0 rfl) ?_
  refine lv_iload_n X.1 X.2.1 dL_law_570 rfl (lv_at hl 3 rfl) ?_
  refine lv_iconst (v := 1) X.1 X.2.1 dL_law_571 (by decide) ?_
  refine lv_iadd X.1 X.2.1 dL_law_572 ?_
  refine va_sld X.1 X.2.1 hX hbl hbA hS hi1 dL_law_573 ?_
  refine lv_aload_n X.1 X.2.1 dL_law_574 rfl (lv_at hl 0 rfl) ?_
  refine lv_iload_n X.1 X.2.1 dL_law_575 rfl (lv_at hl 3 rfl) ?_
  refine lv_iconst (v := 2) X.1 X.2.1 dL_law_576 (by decide) ?_
  refine lv_iadd X.1 X.2.1 dL_law_577 ?_
  refine va_sld X.1 X.2.1 hX hbl hbA hS hi2 dL_law_578 ?_
  refine g_lwi (As := [.int (xs (nI n + 1).toNatClampNeg), .int (xs (nI n + 2).toNatClampNeg)]) X hH hS hB (c_X7_axiom l G B (xs (nI n + 1).toNatClampNeg) (xs (nI n + 2).toNatClampNeg) σ σ1 r e1) kw_RL_66 kX7 kx_0 (by decide) rfl hl (Nat.le_of_ble_eq_true rfl) rfl dL_law_579 (fun H1 locs hH1 hS hk1 => ?_)
  have hM1 := hM.frame (L := layX) (B := B) (Or.inl (Nat.le_refl _)) hk1
  refine lv_aload_n X.1 X.2.1 dL_law_582 rfl (lv_at hl 2 rfl) ?_
  refine lv_aload_n X.1 X.2.1 dL_law_583 rfl (lv_at hl 0 rfl) ?_
  refine lv_iload_n X.1 X.2.1 dL_law_584 rfl (lv_at hl 3 rfl) ?_
  refine lv_iconst (v := 1) X.1 X.2.1 dL_law_585 (by decide) ?_
  refine lv_iadd X.1 X.2.1 dL_law_586 ?_
  refine va_sld X.1 X.2.1 hX hbl hbA hS hi1 dL_law_587 ?_
  refine lv_aload_n X.1 X.2.1 dL_law_588 rfl (lv_at hl 0 rfl) ?_
  refine lv_iload_n X.1 X.2.1 dL_law_589 rfl (lv_at hl 3 rfl) ?_
  refine lv_iconst (v := 2) X.1 X.2.1 dL_law_590 (by decide) ?_
  refine lv_iadd X.1 X.2.1 dL_law_591 ?_
  refine va_sld X.1 X.2.1 hX hbl hbA hS hi2 dL_law_592 ?_
  refine g_lwi (As := [.int (xs (nI n + 1).toNatClampNeg), .int (xs (nI n + 2).toNatClampNeg)]) X hM1 hS (Nat.le_trans hB (Nat.le_add_right _ _)) (c_X8_axiom l G (B + 238) (xs (nI n + 1).toNatClampNeg) (xs (nI n + 2).toNatClampNeg) τ τ1 r e2) kw_RL_69 kX8 km_0 (by decide) rfl hl (Nat.le_of_ble_eq_true rfl) rfl dL_law_593 (fun H2 locs hM2 hS hk2 => ?_)
  have hH2 := hH1.frame (L := layM) (B := B + 238) (Or.inr (Nat.le_refl _)) hk2
  refine lv_icmp_eq (tgt := 1164) X.1 X.2.1 dL_law_596 (by decide) (fun _ => ?_) (fun q => absurd rfl q)
  exact kk σ1 τ1 H2 _ hR1 hH2 hM2 hS
set_option maxHeartbeats 4000000 in
set_option maxRecDepth 100000 in
theorem lc_13 {p : Program} {l : Launch} {e : Env} {s : State} {m : MethodId} {below : List Frame} {meth : Method} {c : Code} {G : Gd} {b Ln B : Nat} {xs : Nat → Int32} {R : Sto → Sto → Prop} (X : Cx p s m #[Value.ref b] c cL_law 4 RL G) (hX : va_X b Ln xs s s.heap) (hbl : b < s.heap.size) (hB : s.heap.size ≤ B) {n : Nat} (hn : n + 6 ≤ Ln) (hLn : Ln ≤ 3072) (E : Sim R (f_X7_claim) (f_X8_claim)) {σ τ : Sto} (hR : R σ τ) {H : Heap} {locs : List Loc} (hH : HX G layX B σ H) (hM : HX G layM (B + 238) τ H) (hS : va_S (fun q => s.heap.size ≤ q) s.heap H locs) {ls : Array Slot} (hl : lv_has ls 4 [(0, .ref b), (1, .ref (B + 0)), (2, .ref (B + 238 + 0)), (3, .int (nI n))]) {Q : State → Prop} (kk : ∀ (σ1 τ1 : Sto) (H1 : Heap) (locs1 : List Loc), R σ1 τ1 → HX G layX B σ1 H1 → HX G layM (B + 238) τ1 H1 → va_S (fun q => s.heap.size ≤ q) s.heap H1 locs1 → W p l e room_1 s m #[Value.ref b] below meth c H1 locs1 600000 7302250 Q (F0 m 1164 ls [])) : W p l e room_1 s m #[Value.ref b] below meth c H locs 600000 7302250 Q (F0 m 601 ls []) := by
  obtain ⟨r, σ1, τ1, e1, e2, hR1⟩ := E σ τ hR
  have hbA : ¬ (fun q : Nat => s.heap.size ≤ q) b := Nat.not_le.mpr hbl
  refine lv_aload_n X.1 X.2.1 dL_law_601 rfl (lv_at hl 1 rfl) ?_
  refine g_lwi (As := []) X hH hS hB (c_X7_claim l G B σ σ1 r e1) kw_RL_70 kX7 kx_0 (by decide) rfl hl (Nat.le_of_ble_eq_true rfl) rfl dL_law_602 (fun H1 locs hH1 hS hk1 => ?_)
  have hM1 := hM.frame (L := layX) (B := B) (Or.inl (Nat.le_refl _)) hk1
  refine lv_aload_n X.1 X.2.1 dL_law_605 rfl (lv_at hl 2 rfl) ?_
  refine g_lwi (As := []) X hM1 hS (Nat.le_trans hB (Nat.le_add_right _ _)) (c_X8_claim l G (B + 238) τ τ1 r e2) kw_RL_73 kX8 km_0 (by decide) rfl hl (Nat.le_of_ble_eq_true rfl) rfl dL_law_606 (fun H2 locs hM2 hS hk2 => ?_)
  have hH2 := hH1.frame (L := layM) (B := B + 238) (Or.inr (Nat.le_refl _)) hk2
  refine lv_icmp_eq (tgt := 1164) X.1 X.2.1 dL_law_609 (by decide) (fun _ => ?_) (fun q => absurd rfl q)
  exact kk σ1 τ1 H2 _ hR1 hH2 hM2 hS
set_option maxHeartbeats 4000000 in
set_option maxRecDepth 100000 in
theorem lc_14 {p : Program} {l : Launch} {e : Env} {s : State} {m : MethodId} {below : List Frame} {meth : Method} {c : Code} {G : Gd} {b Ln B : Nat} {xs : Nat → Int32} {R : Sto → Sto → Prop} (X : Cx p s m #[Value.ref b] c cL_law 4 RL G) (hX : va_X b Ln xs s s.heap) (hbl : b < s.heap.size) (hB : s.heap.size ≤ B) {n : Nat} (hn : n + 6 ≤ Ln) (hLn : Ln ≤ 3072) (E : ∀ x1 : Int32, Sim R (f_X7_witness x1) (f_X8_witness x1)) {σ τ : Sto} (hR : R σ τ) {H : Heap} {locs : List Loc} (hH : HX G layX B σ H) (hM : HX G layM (B + 238) τ H) (hS : va_S (fun q => s.heap.size ≤ q) s.heap H locs) {ls : Array Slot} (hl : lv_has ls 4 [(0, .ref b), (1, .ref (B + 0)), (2, .ref (B + 238 + 0)), (3, .int (nI n))]) {Q : State → Prop} (kk : ∀ (σ1 τ1 : Sto) (H1 : Heap) (locs1 : List Loc), R σ1 τ1 → HX G layX B σ1 H1 → HX G layM (B + 238) τ1 H1 → va_S (fun q => s.heap.size ≤ q) s.heap H1 locs1 → W p l e room_1 s m #[Value.ref b] below meth c H1 locs1 600000 7302250 Q (F0 m 1164 ls [])) : W p l e room_1 s m #[Value.ref b] below meth c H locs 600000 7302250 Q (F0 m 614 ls []) := by
  obtain ⟨r, σ1, τ1, e1, e2, hR1⟩ := E (xs (nI n + 1).toNatClampNeg) σ τ hR
  have hbA : ¬ (fun q : Nat => s.heap.size ≤ q) b := Nat.not_le.mpr hbl
  have hi1 : vp_in (nI n + 1) Ln := by
    rw [show (nI n + 1 : Int32) = nI (n + 1) from nI_add n 1]
    exact vp_in_nI (by omega) (by omega)
  refine lv_aload_n X.1 X.2.1 dL_law_614 rfl (lv_at hl 1 rfl) ?_
  refine lv_aload_n X.1 X.2.1 dL_law_615 rfl (lv_at hl 0 rfl) ?_
  refine lv_iload_n X.1 X.2.1 dL_law_616 rfl (lv_at hl 3 rfl) ?_
  refine lv_iconst (v := 1) X.1 X.2.1 dL_law_617 (by decide) ?_
  refine lv_iadd X.1 X.2.1 dL_law_618 ?_
  refine va_sld X.1 X.2.1 hX hbl hbA hS hi1 dL_law_619 ?_
  refine g_lwi (As := [.int (xs (nI n + 1).toNatClampNeg)]) X hH hS hB (c_X7_witness l G B (xs (nI n + 1).toNatClampNeg) σ σ1 r e1) kw_RL_74 kX7 kx_0 (by decide) rfl hl (Nat.le_of_ble_eq_true rfl) rfl dL_law_620 (fun H1 locs hH1 hS hk1 => ?_)
  have hM1 := hM.frame (L := layX) (B := B) (Or.inl (Nat.le_refl _)) hk1
  refine lv_aload_n X.1 X.2.1 dL_law_623 rfl (lv_at hl 2 rfl) ?_
  refine lv_aload_n X.1 X.2.1 dL_law_624 rfl (lv_at hl 0 rfl) ?_
  refine lv_iload_n X.1 X.2.1 dL_law_625 rfl (lv_at hl 3 rfl) ?_
  refine lv_iconst (v := 1) X.1 X.2.1 dL_law_626 (by decide) ?_
  refine lv_iadd X.1 X.2.1 dL_law_627 ?_
  refine va_sld X.1 X.2.1 hX hbl hbA hS hi1 dL_law_628 ?_
  refine g_lwi (As := [.int (xs (nI n + 1).toNatClampNeg)]) X hM1 hS (Nat.le_trans hB (Nat.le_add_right _ _)) (c_X8_witness l G (B + 238) (xs (nI n + 1).toNatClampNeg) τ τ1 r e2) kw_RL_77 kX8 km_0 (by decide) rfl hl (Nat.le_of_ble_eq_true rfl) rfl dL_law_629 (fun H2 locs hM2 hS hk2 => ?_)
  have hH2 := hH1.frame (L := layM) (B := B + 238) (Or.inr (Nat.le_refl _)) hk2
  refine lv_icmp_eq (tgt := 1164) X.1 X.2.1 dL_law_632 (by decide) (fun _ => ?_) (fun q => absurd rfl q)
  exact kk σ1 τ1 H2 _ hR1 hH2 hM2 hS
set_option maxHeartbeats 4000000 in
set_option maxRecDepth 100000 in
theorem lc_15 {p : Program} {l : Launch} {e : Env} {s : State} {m : MethodId} {below : List Frame} {meth : Method} {c : Code} {G : Gd} {b Ln B : Nat} {xs : Nat → Int32} {R : Sto → Sto → Prop} (X : Cx p s m #[Value.ref b] c cL_law 4 RL G) (hX : va_X b Ln xs s s.heap) (hbl : b < s.heap.size) (hB : s.heap.size ≤ B) {n : Nat} (hn : n + 6 ≤ Ln) (hLn : Ln ≤ 3072) (E : ∀ x1 : Int32, Sim R (f_X7_solution x1) (f_X8_solution x1)) {σ τ : Sto} (hR : R σ τ) {H : Heap} {locs : List Loc} (hH : HX G layX B σ H) (hM : HX G layM (B + 238) τ H) (hS : va_S (fun q => s.heap.size ≤ q) s.heap H locs) {ls : Array Slot} (hl : lv_has ls 4 [(0, .ref b), (1, .ref (B + 0)), (2, .ref (B + 238 + 0)), (3, .int (nI n))]) {Q : State → Prop} (kk : ∀ (σ1 τ1 : Sto) (H1 : Heap) (locs1 : List Loc), R σ1 τ1 → HX G layX B σ1 H1 → HX G layM (B + 238) τ1 H1 → va_S (fun q => s.heap.size ≤ q) s.heap H1 locs1 → W p l e room_1 s m #[Value.ref b] below meth c H1 locs1 600000 7302250 Q (F0 m 1164 ls [])) : W p l e room_1 s m #[Value.ref b] below meth c H locs 600000 7302250 Q (F0 m 637 ls []) := by
  obtain ⟨r, σ1, τ1, e1, e2, hR1⟩ := E (xs (nI n + 1).toNatClampNeg) σ τ hR
  have hbA : ¬ (fun q : Nat => s.heap.size ≤ q) b := Nat.not_le.mpr hbl
  have hi1 : vp_in (nI n + 1) Ln := by
    rw [show (nI n + 1 : Int32) = nI (n + 1) from nI_add n 1]
    exact vp_in_nI (by omega) (by omega)
  refine lv_aload_n X.1 X.2.1 dL_law_637 rfl (lv_at hl 1 rfl) ?_
  refine lv_aload_n X.1 X.2.1 dL_law_638 rfl (lv_at hl 0 rfl) ?_
  refine lv_iload_n X.1 X.2.1 dL_law_639 rfl (lv_at hl 3 rfl) ?_
  refine lv_iconst (v := 1) X.1 X.2.1 dL_law_640 (by decide) ?_
  refine lv_iadd X.1 X.2.1 dL_law_641 ?_
  refine va_sld X.1 X.2.1 hX hbl hbA hS hi1 dL_law_642 ?_
  refine g_lwi (As := [.int (xs (nI n + 1).toNatClampNeg)]) X hH hS hB (c_X7_solution l G B (xs (nI n + 1).toNatClampNeg) σ σ1 r e1) kw_RL_78 kX7 kx_0 (by decide) rfl hl (Nat.le_of_ble_eq_true rfl) rfl dL_law_643 (fun H1 locs hH1 hS hk1 => ?_)
  have hM1 := hM.frame (L := layX) (B := B) (Or.inl (Nat.le_refl _)) hk1
  refine lv_aload_n X.1 X.2.1 dL_law_646 rfl (lv_at hl 2 rfl) ?_
  refine lv_aload_n X.1 X.2.1 dL_law_647 rfl (lv_at hl 0 rfl) ?_
  refine lv_iload_n X.1 X.2.1 dL_law_648 rfl (lv_at hl 3 rfl) ?_
  refine lv_iconst (v := 1) X.1 X.2.1 dL_law_649 (by decide) ?_
  refine lv_iadd X.1 X.2.1 dL_law_650 ?_
  refine va_sld X.1 X.2.1 hX hbl hbA hS hi1 dL_law_651 ?_
  refine g_lwi (As := [.int (xs (nI n + 1).toNatClampNeg)]) X hM1 hS (Nat.le_trans hB (Nat.le_add_right _ _)) (c_X8_solution l G (B + 238) (xs (nI n + 1).toNatClampNeg) τ τ1 r e2) kw_RL_81 kX8 km_0 (by decide) rfl hl (Nat.le_of_ble_eq_true rfl) rfl dL_law_652 (fun H2 locs hM2 hS hk2 => ?_)
  have hH2 := hH1.frame (L := layM) (B := B + 238) (Or.inr (Nat.le_refl _)) hk2
  refine lv_icmp_eq (tgt := 1164) X.1 X.2.1 dL_law_655 (by decide) (fun _ => ?_) (fun q => absurd rfl q)
  exact kk σ1 τ1 H2 _ hR1 hH2 hM2 hS
set_option maxHeartbeats 4000000 in
set_option maxRecDepth 100000 in
theorem lc_16 {p : Program} {l : Launch} {e : Env} {s : State} {m : MethodId} {below : List Frame} {meth : Method} {c : Code} {G : Gd} {b Ln B : Nat} {xs : Nat → Int32} {R : Sto → Sto → Prop} (X : Cx p s m #[Value.ref b] c cL_law 4 RL G) (hX : va_X b Ln xs s s.heap) (hbl : b < s.heap.size) (hB : s.heap.size ≤ B) {n : Nat} (hn : n + 6 ≤ Ln) (hLn : Ln ≤ 3072) (E : ∀ x1 : Int32, Sim R (f_X7_remove x1) (f_X8_remove x1)) {σ τ : Sto} (hR : R σ τ) {H : Heap} {locs : List Loc} (hH : HX G layX B σ H) (hM : HX G layM (B + 238) τ H) (hS : va_S (fun q => s.heap.size ≤ q) s.heap H locs) {ls : Array Slot} (hl : lv_has ls 4 [(0, .ref b), (1, .ref (B + 0)), (2, .ref (B + 238 + 0)), (3, .int (nI n))]) {Q : State → Prop} (kk : ∀ (σ1 τ1 : Sto) (H1 : Heap) (locs1 : List Loc), R σ1 τ1 → HX G layX B σ1 H1 → HX G layM (B + 238) τ1 H1 → va_S (fun q => s.heap.size ≤ q) s.heap H1 locs1 → W p l e room_1 s m #[Value.ref b] below meth c H1 locs1 600000 7302250 Q (F0 m 1164 ls [])) : W p l e room_1 s m #[Value.ref b] below meth c H locs 600000 7302250 Q (F0 m 660 ls []) := by
  obtain ⟨r, σ1, τ1, e1, e2, hR1⟩ := E (xs (nI n + 1).toNatClampNeg) σ τ hR
  have hbA : ¬ (fun q : Nat => s.heap.size ≤ q) b := Nat.not_le.mpr hbl
  have hi1 : vp_in (nI n + 1) Ln := by
    rw [show (nI n + 1 : Int32) = nI (n + 1) from nI_add n 1]
    exact vp_in_nI (by omega) (by omega)
  refine lv_aload_n X.1 X.2.1 dL_law_660 rfl (lv_at hl 1 rfl) ?_
  refine lv_aload_n X.1 X.2.1 dL_law_661 rfl (lv_at hl 0 rfl) ?_
  refine lv_iload_n X.1 X.2.1 dL_law_662 rfl (lv_at hl 3 rfl) ?_
  refine lv_iconst (v := 1) X.1 X.2.1 dL_law_663 (by decide) ?_
  refine lv_iadd X.1 X.2.1 dL_law_664 ?_
  refine va_sld X.1 X.2.1 hX hbl hbA hS hi1 dL_law_665 ?_
  refine g_lwi (As := [.int (xs (nI n + 1).toNatClampNeg)]) X hH hS hB (c_X7_remove l G B (xs (nI n + 1).toNatClampNeg) σ σ1 r e1) kw_RL_82 kX7 kx_0 (by decide) rfl hl (Nat.le_of_ble_eq_true rfl) rfl dL_law_666 (fun H1 locs hH1 hS hk1 => ?_)
  have hM1 := hM.frame (L := layX) (B := B) (Or.inl (Nat.le_refl _)) hk1
  refine lv_aload_n X.1 X.2.1 dL_law_669 rfl (lv_at hl 2 rfl) ?_
  refine lv_aload_n X.1 X.2.1 dL_law_670 rfl (lv_at hl 0 rfl) ?_
  refine lv_iload_n X.1 X.2.1 dL_law_671 rfl (lv_at hl 3 rfl) ?_
  refine lv_iconst (v := 1) X.1 X.2.1 dL_law_672 (by decide) ?_
  refine lv_iadd X.1 X.2.1 dL_law_673 ?_
  refine va_sld X.1 X.2.1 hX hbl hbA hS hi1 dL_law_674 ?_
  refine g_lwi (As := [.int (xs (nI n + 1).toNatClampNeg)]) X hM1 hS (Nat.le_trans hB (Nat.le_add_right _ _)) (c_X8_remove l G (B + 238) (xs (nI n + 1).toNatClampNeg) τ τ1 r e2) kw_RL_85 kX8 km_0 (by decide) rfl hl (Nat.le_of_ble_eq_true rfl) rfl dL_law_675 (fun H2 locs hM2 hS hk2 => ?_)
  have hH2 := hH1.frame (L := layM) (B := B + 238) (Or.inr (Nat.le_refl _)) hk2
  refine lv_icmp_eq (tgt := 1164) X.1 X.2.1 dL_law_678 (by decide) (fun _ => ?_) (fun q => absurd rfl q)
  exact kk σ1 τ1 H2 _ hR1 hH2 hM2 hS
set_option maxHeartbeats 4000000 in
set_option maxRecDepth 100000 in
theorem lc_17 {p : Program} {l : Launch} {e : Env} {s : State} {m : MethodId} {below : List Frame} {meth : Method} {c : Code} {G : Gd} {b Ln B : Nat} {xs : Nat → Int32} {R : Sto → Sto → Prop} (X : Cx p s m #[Value.ref b] c cL_law 4 RL G) (hX : va_X b Ln xs s s.heap) (hbl : b < s.heap.size) (hB : s.heap.size ≤ B) {n : Nat} (hn : n + 6 ≤ Ln) (hLn : Ln ≤ 3072) (E : Sim R (f_X7_undo) (f_X8_undo)) {σ τ : Sto} (hR : R σ τ) {H : Heap} {locs : List Loc} (hH : HX G layX B σ H) (hM : HX G layM (B + 238) τ H) (hS : va_S (fun q => s.heap.size ≤ q) s.heap H locs) {ls : Array Slot} (hl : lv_has ls 4 [(0, .ref b), (1, .ref (B + 0)), (2, .ref (B + 238 + 0)), (3, .int (nI n))]) {Q : State → Prop} (kk : ∀ (σ1 τ1 : Sto) (H1 : Heap) (locs1 : List Loc), R σ1 τ1 → HX G layX B σ1 H1 → HX G layM (B + 238) τ1 H1 → va_S (fun q => s.heap.size ≤ q) s.heap H1 locs1 → W p l e room_1 s m #[Value.ref b] below meth c H1 locs1 600000 7302250 Q (F0 m 1164 ls [])) : W p l e room_1 s m #[Value.ref b] below meth c H locs 600000 7302250 Q (F0 m 683 ls []) := by
  obtain ⟨r, σ1, τ1, e1, e2, hR1⟩ := E σ τ hR
  have hbA : ¬ (fun q : Nat => s.heap.size ≤ q) b := Nat.not_le.mpr hbl
  refine lv_aload_n X.1 X.2.1 dL_law_683 rfl (lv_at hl 1 rfl) ?_
  refine g_lwi (As := []) X hH hS hB (c_X7_undo l G B σ σ1 r e1) kw_RL_86 kX7 kx_0 (by decide) rfl hl (Nat.le_of_ble_eq_true rfl) rfl dL_law_684 (fun H1 locs hH1 hS hk1 => ?_)
  have hM1 := hM.frame (L := layX) (B := B) (Or.inl (Nat.le_refl _)) hk1
  refine lv_aload_n X.1 X.2.1 dL_law_687 rfl (lv_at hl 2 rfl) ?_
  refine g_lwi (As := []) X hM1 hS (Nat.le_trans hB (Nat.le_add_right _ _)) (c_X8_undo l G (B + 238) τ τ1 r e2) kw_RL_89 kX8 km_0 (by decide) rfl hl (Nat.le_of_ble_eq_true rfl) rfl dL_law_688 (fun H2 locs hM2 hS hk2 => ?_)
  have hH2 := hH1.frame (L := layM) (B := B + 238) (Or.inr (Nat.le_refl _)) hk2
  refine lv_icmp_eq (tgt := 1164) X.1 X.2.1 dL_law_691 (by decide) (fun _ => ?_) (fun q => absurd rfl q)
  exact kk σ1 τ1 H2 _ hR1 hH2 hM2 hS
set_option maxHeartbeats 4000000 in
set_option maxRecDepth 100000 in
theorem lc_18 {p : Program} {l : Launch} {e : Env} {s : State} {m : MethodId} {below : List Frame} {meth : Method} {c : Code} {G : Gd} {b Ln B : Nat} {xs : Nat → Int32} {R : Sto → Sto → Prop} (X : Cx p s m #[Value.ref b] c cL_law 4 RL G) (hX : va_X b Ln xs s s.heap) (hbl : b < s.heap.size) (hB : s.heap.size ≤ B) {n : Nat} (hn : n + 6 ≤ Ln) (hLn : Ln ≤ 3072) (E : ∀ x1 : Int32, Sim R (f_X7_degree x1) (f_X8_degree x1)) {σ τ : Sto} (hR : R σ τ) {H : Heap} {locs : List Loc} (hH : HX G layX B σ H) (hM : HX G layM (B + 238) τ H) (hS : va_S (fun q => s.heap.size ≤ q) s.heap H locs) {ls : Array Slot} (hl : lv_has ls 4 [(0, .ref b), (1, .ref (B + 0)), (2, .ref (B + 238 + 0)), (3, .int (nI n))]) {Q : State → Prop} (kk : ∀ (σ1 τ1 : Sto) (H1 : Heap) (locs1 : List Loc), R σ1 τ1 → HX G layX B σ1 H1 → HX G layM (B + 238) τ1 H1 → va_S (fun q => s.heap.size ≤ q) s.heap H1 locs1 → W p l e room_1 s m #[Value.ref b] below meth c H1 locs1 600000 7302250 Q (F0 m 1164 ls [])) : W p l e room_1 s m #[Value.ref b] below meth c H locs 600000 7302250 Q (F0 m 696 ls []) := by
  obtain ⟨r, σ1, τ1, e1, e2, hR1⟩ := E (xs (nI n + 1).toNatClampNeg) σ τ hR
  have hbA : ¬ (fun q : Nat => s.heap.size ≤ q) b := Nat.not_le.mpr hbl
  have hi1 : vp_in (nI n + 1) Ln := by
    rw [show (nI n + 1 : Int32) = nI (n + 1) from nI_add n 1]
    exact vp_in_nI (by omega) (by omega)
  refine lv_aload_n X.1 X.2.1 dL_law_696 rfl (lv_at hl 1 rfl) ?_
  refine lv_aload_n X.1 X.2.1 dL_law_697 rfl (lv_at hl 0 rfl) ?_
  refine lv_iload_n X.1 X.2.1 dL_law_698 rfl (lv_at hl 3 rfl) ?_
  refine lv_iconst (v := 1) X.1 X.2.1 dL_law_699 (by decide) ?_
  refine lv_iadd X.1 X.2.1 dL_law_700 ?_
  refine va_sld X.1 X.2.1 hX hbl hbA hS hi1 dL_law_701 ?_
  refine g_lwl (As := [.int (xs (nI n + 1).toNatClampNeg)]) X hH hS hB (c_X7_degree l G B (xs (nI n + 1).toNatClampNeg) σ σ1 r e1) kw_RL_90 kX7 kx_0 (by decide) rfl hl (Nat.le_of_ble_eq_true rfl) rfl dL_law_702 (fun H1 locs hH1 hS hk1 => ?_)
  have hM1 := hM.frame (L := layX) (B := B) (Or.inl (Nat.le_refl _)) hk1
  refine lv_aload_n X.1 X.2.1 dL_law_705 rfl (lv_at hl 2 rfl) ?_
  refine lv_aload_n X.1 X.2.1 dL_law_706 rfl (lv_at hl 0 rfl) ?_
  refine lv_iload_n X.1 X.2.1 dL_law_707 rfl (lv_at hl 3 rfl) ?_
  refine lv_iconst (v := 1) X.1 X.2.1 dL_law_708 (by decide) ?_
  refine lv_iadd X.1 X.2.1 dL_law_709 ?_
  refine va_sld X.1 X.2.1 hX hbl hbA hS hi1 dL_law_710 ?_
  refine g_lwl (As := [.int (xs (nI n + 1).toNatClampNeg)]) X hM1 hS (Nat.le_trans hB (Nat.le_add_right _ _)) (c_X8_degree l G (B + 238) (xs (nI n + 1).toNatClampNeg) τ τ1 r e2) kw_RL_94 kX8 km_0 (by decide) rfl hl (Nat.le_of_ble_eq_true rfl) rfl dL_law_711 (fun H2 locs hM2 hS hk2 => ?_)
  have hH2 := hH1.frame (L := layM) (B := B + 238) (Or.inr (Nat.le_refl _)) hk2
  refine g_leq (tgt := 1164) X dL_law_714 dL_law_715 (by decide) (fun _ => ?_) (fun q => absurd rfl q)
  exact kk σ1 τ1 H2 _ hR1 hH2 hM2 hS
set_option maxHeartbeats 4000000 in
set_option maxRecDepth 100000 in
theorem lc_19 {p : Program} {l : Launch} {e : Env} {s : State} {m : MethodId} {below : List Frame} {meth : Method} {c : Code} {G : Gd} {b Ln B : Nat} {xs : Nat → Int32} {R : Sto → Sto → Prop} (X : Cx p s m #[Value.ref b] c cL_law 4 RL G) (hX : va_X b Ln xs s s.heap) (hbl : b < s.heap.size) (hB : s.heap.size ≤ B) {n : Nat} (hn : n + 6 ≤ Ln) (hLn : Ln ≤ 3072) (E : ∀ x1 x2 : Int32, Sim R (f_X7_coefficient x1 x2) (f_X8_coefficient x1 x2)) {σ τ : Sto} (hR : R σ τ) {H : Heap} {locs : List Loc} (hH : HX G layX B σ H) (hM : HX G layM (B + 238) τ H) (hS : va_S (fun q => s.heap.size ≤ q) s.heap H locs) {ls : Array Slot} (hl : lv_has ls 4 [(0, .ref b), (1, .ref (B + 0)), (2, .ref (B + 238 + 0)), (3, .int (nI n))]) {Q : State → Prop} (kk : ∀ (σ1 τ1 : Sto) (H1 : Heap) (locs1 : List Loc), R σ1 τ1 → HX G layX B σ1 H1 → HX G layM (B + 238) τ1 H1 → va_S (fun q => s.heap.size ≤ q) s.heap H1 locs1 → W p l e room_1 s m #[Value.ref b] below meth c H1 locs1 600000 7302250 Q (F0 m 1164 ls [])) : W p l e room_1 s m #[Value.ref b] below meth c H locs 600000 7302250 Q (F0 m 720 ls []) := by
  obtain ⟨r, σ1, τ1, e1, e2, hR1⟩ := E (xs (nI n + 1).toNatClampNeg) (xs (nI n + 2).toNatClampNeg) σ τ hR
  have hbA : ¬ (fun q : Nat => s.heap.size ≤ q) b := Nat.not_le.mpr hbl
  have hi1 : vp_in (nI n + 1) Ln := by
    rw [show (nI n + 1 : Int32) = nI (n + 1) from nI_add n 1]
    exact vp_in_nI (by omega) (by omega)
  have hi2 : vp_in (nI n + 2) Ln := by
    rw [show (nI n + 2 : Int32) = nI (n + 2) from nI_add n 2]
    exact vp_in_nI (by omega) (by omega)
  refine lv_aload_n X.1 X.2.1 dL_law_720 rfl (lv_at hl 1 rfl) ?_
  refine lv_aload_n X.1 X.2.1 dL_law_721 rfl (lv_at hl 0 rfl) ?_
  refine lv_iload_n X.1 X.2.1 dL_law_722 rfl (lv_at hl 3 rfl) ?_
  refine lv_iconst (v := 1) X.1 X.2.1 dL_law_723 (by decide) ?_
  refine lv_iadd X.1 X.2.1 dL_law_724 ?_
  refine va_sld X.1 X.2.1 hX hbl hbA hS hi1 dL_law_725 ?_
  refine lv_aload_n X.1 X.2.1 dL_law_726 rfl (lv_at hl 0 rfl) ?_
  refine lv_iload_n X.1 X.2.1 dL_law_727 rfl (lv_at hl 3 rfl) ?_
  refine lv_iconst (v := 2) X.1 X.2.1 dL_law_728 (by decide) ?_
  refine lv_iadd X.1 X.2.1 dL_law_729 ?_
  refine va_sld X.1 X.2.1 hX hbl hbA hS hi2 dL_law_730 ?_
  refine g_lwl (As := [.int (xs (nI n + 1).toNatClampNeg), .int (xs (nI n + 2).toNatClampNeg)]) X hH hS hB (c_X7_coefficient l G B (xs (nI n + 1).toNatClampNeg) (xs (nI n + 2).toNatClampNeg) σ σ1 r e1) kw_RL_95 kX7 kx_0 (by decide) rfl hl (Nat.le_of_ble_eq_true rfl) rfl dL_law_731 (fun H1 locs hH1 hS hk1 => ?_)
  have hM1 := hM.frame (L := layX) (B := B) (Or.inl (Nat.le_refl _)) hk1
  refine lv_aload_n X.1 X.2.1 dL_law_734 rfl (lv_at hl 2 rfl) ?_
  refine lv_aload_n X.1 X.2.1 dL_law_735 rfl (lv_at hl 0 rfl) ?_
  refine lv_iload_n X.1 X.2.1 dL_law_736 rfl (lv_at hl 3 rfl) ?_
  refine lv_iconst (v := 1) X.1 X.2.1 dL_law_737 (by decide) ?_
  refine lv_iadd X.1 X.2.1 dL_law_738 ?_
  refine va_sld X.1 X.2.1 hX hbl hbA hS hi1 dL_law_739 ?_
  refine lv_aload_n X.1 X.2.1 dL_law_740 rfl (lv_at hl 0 rfl) ?_
  refine lv_iload_n X.1 X.2.1 dL_law_741 rfl (lv_at hl 3 rfl) ?_
  refine lv_iconst (v := 2) X.1 X.2.1 dL_law_742 (by decide) ?_
  refine lv_iadd X.1 X.2.1 dL_law_743 ?_
  refine va_sld X.1 X.2.1 hX hbl hbA hS hi2 dL_law_744 ?_
  refine g_lwl (As := [.int (xs (nI n + 1).toNatClampNeg), .int (xs (nI n + 2).toNatClampNeg)]) X hM1 hS (Nat.le_trans hB (Nat.le_add_right _ _)) (c_X8_coefficient l G (B + 238) (xs (nI n + 1).toNatClampNeg) (xs (nI n + 2).toNatClampNeg) τ τ1 r e2) kw_RL_99 kX8 km_0 (by decide) rfl hl (Nat.le_of_ble_eq_true rfl) rfl dL_law_745 (fun H2 locs hM2 hS hk2 => ?_)
  have hH2 := hH1.frame (L := layM) (B := B + 238) (Or.inr (Nat.le_refl _)) hk2
  refine g_leq (tgt := 1164) X dL_law_748 dL_law_749 (by decide) (fun _ => ?_) (fun q => absurd rfl q)
  exact kk σ1 τ1 H2 _ hR1 hH2 hM2 hS
set_option maxHeartbeats 4000000 in
set_option maxRecDepth 100000 in
theorem lc_20 {p : Program} {l : Launch} {e : Env} {s : State} {m : MethodId} {below : List Frame} {meth : Method} {c : Code} {G : Gd} {b Ln B : Nat} {xs : Nat → Int32} {R : Sto → Sto → Prop} (X : Cx p s m #[Value.ref b] c cL_law 4 RL G) (hX : va_X b Ln xs s s.heap) (hbl : b < s.heap.size) (hB : s.heap.size ≤ B) {n : Nat} (hn : n + 6 ≤ Ln) (hLn : Ln ≤ 3072) (E : ∀ x1 : Int32, Sim R (f_X7_sum x1) (f_X8_sum x1)) {σ τ : Sto} (hR : R σ τ) {H : Heap} {locs : List Loc} (hH : HX G layX B σ H) (hM : HX G layM (B + 238) τ H) (hS : va_S (fun q => s.heap.size ≤ q) s.heap H locs) {ls : Array Slot} (hl : lv_has ls 4 [(0, .ref b), (1, .ref (B + 0)), (2, .ref (B + 238 + 0)), (3, .int (nI n))]) {Q : State → Prop} (kk : ∀ (σ1 τ1 : Sto) (H1 : Heap) (locs1 : List Loc), R σ1 τ1 → HX G layX B σ1 H1 → HX G layM (B + 238) τ1 H1 → va_S (fun q => s.heap.size ≤ q) s.heap H1 locs1 → W p l e room_1 s m #[Value.ref b] below meth c H1 locs1 600000 7302250 Q (F0 m 1164 ls [])) : W p l e room_1 s m #[Value.ref b] below meth c H locs 600000 7302250 Q (F0 m 754 ls []) := by
  obtain ⟨r, σ1, τ1, e1, e2, hR1⟩ := E (xs (nI n + 1).toNatClampNeg) σ τ hR
  have hbA : ¬ (fun q : Nat => s.heap.size ≤ q) b := Nat.not_le.mpr hbl
  have hi1 : vp_in (nI n + 1) Ln := by
    rw [show (nI n + 1 : Int32) = nI (n + 1) from nI_add n 1]
    exact vp_in_nI (by omega) (by omega)
  refine lv_aload_n X.1 X.2.1 dL_law_754 rfl (lv_at hl 1 rfl) ?_
  refine lv_aload_n X.1 X.2.1 dL_law_755 rfl (lv_at hl 0 rfl) ?_
  refine lv_iload_n X.1 X.2.1 dL_law_756 rfl (lv_at hl 3 rfl) ?_
  refine lv_iconst (v := 1) X.1 X.2.1 dL_law_757 (by decide) ?_
  refine lv_iadd X.1 X.2.1 dL_law_758 ?_
  refine va_sld X.1 X.2.1 hX hbl hbA hS hi1 dL_law_759 ?_
  refine g_lwl (As := [.int (xs (nI n + 1).toNatClampNeg)]) X hH hS hB (c_X7_sum l G B (xs (nI n + 1).toNatClampNeg) σ σ1 r e1) kw_RL_100 kX7 kx_0 (by decide) rfl hl (Nat.le_of_ble_eq_true rfl) rfl dL_law_760 (fun H1 locs hH1 hS hk1 => ?_)
  have hM1 := hM.frame (L := layX) (B := B) (Or.inl (Nat.le_refl _)) hk1
  refine lv_aload_n X.1 X.2.1 dL_law_763 rfl (lv_at hl 2 rfl) ?_
  refine lv_aload_n X.1 X.2.1 dL_law_764 rfl (lv_at hl 0 rfl) ?_
  refine lv_iload_n X.1 X.2.1 dL_law_765 rfl (lv_at hl 3 rfl) ?_
  refine lv_iconst (v := 1) X.1 X.2.1 dL_law_766 (by decide) ?_
  refine lv_iadd X.1 X.2.1 dL_law_767 ?_
  refine va_sld X.1 X.2.1 hX hbl hbA hS hi1 dL_law_768 ?_
  refine g_lwl (As := [.int (xs (nI n + 1).toNatClampNeg)]) X hM1 hS (Nat.le_trans hB (Nat.le_add_right _ _)) (c_X8_sum l G (B + 238) (xs (nI n + 1).toNatClampNeg) τ τ1 r e2) kw_RL_103 kX8 km_0 (by decide) rfl hl (Nat.le_of_ble_eq_true rfl) rfl dL_law_769 (fun H2 locs hM2 hS hk2 => ?_)
  have hH2 := hH1.frame (L := layM) (B := B + 238) (Or.inr (Nat.le_refl _)) hk2
  refine g_leq (tgt := 1164) X dL_law_772 dL_law_773 (by decide) (fun _ => ?_) (fun q => absurd rfl q)
  exact kk σ1 τ1 H2 _ hR1 hH2 hM2 hS
set_option maxHeartbeats 4000000 in
set_option maxRecDepth 100000 in
theorem lc_21 {p : Program} {l : Launch} {e : Env} {s : State} {m : MethodId} {below : List Frame} {meth : Method} {c : Code} {G : Gd} {b Ln B : Nat} {xs : Nat → Int32} {R : Sto → Sto → Prop} (X : Cx p s m #[Value.ref b] c cL_law 4 RL G) (hX : va_X b Ln xs s s.heap) (hbl : b < s.heap.size) (hB : s.heap.size ≤ B) {n : Nat} (hn : n + 6 ≤ Ln) (hLn : Ln ≤ 3072) (E : ∀ x1 x2 x3 : Int32, Sim R (f_X7_slack x1 x2 x3) (f_X8_slack x1 x2 x3)) {σ τ : Sto} (hR : R σ τ) {H : Heap} {locs : List Loc} (hH : HX G layX B σ H) (hM : HX G layM (B + 238) τ H) (hS : va_S (fun q => s.heap.size ≤ q) s.heap H locs) {ls : Array Slot} (hl : lv_has ls 4 [(0, .ref b), (1, .ref (B + 0)), (2, .ref (B + 238 + 0)), (3, .int (nI n))]) {Q : State → Prop} (kk : ∀ (σ1 τ1 : Sto) (H1 : Heap) (locs1 : List Loc), R σ1 τ1 → HX G layX B σ1 H1 → HX G layM (B + 238) τ1 H1 → va_S (fun q => s.heap.size ≤ q) s.heap H1 locs1 → W p l e room_1 s m #[Value.ref b] below meth c H1 locs1 600000 7302250 Q (F0 m 1164 ls [])) : W p l e room_1 s m #[Value.ref b] below meth c H locs 600000 7302250 Q (F0 m 778 ls []) := by
  obtain ⟨r, σ1, τ1, e1, e2, hR1⟩ := E (xs (nI n + 1).toNatClampNeg) (xs (nI n + 2).toNatClampNeg) (xs (nI n + 3).toNatClampNeg) σ τ hR
  have hbA : ¬ (fun q : Nat => s.heap.size ≤ q) b := Nat.not_le.mpr hbl
  have hi1 : vp_in (nI n + 1) Ln := by
    rw [show (nI n + 1 : Int32) = nI (n + 1) from nI_add n 1]
    exact vp_in_nI (by omega) (by omega)
  have hi2 : vp_in (nI n + 2) Ln := by
    rw [show (nI n + 2 : Int32) = nI (n + 2) from nI_add n 2]
    exact vp_in_nI (by omega) (by omega)
  have hi3 : vp_in (nI n + 3) Ln := by
    rw [show (nI n + 3 : Int32) = nI (n + 3) from nI_add n 3]
    exact vp_in_nI (by omega) (by omega)
  refine lv_aload_n X.1 X.2.1 dL_law_778 rfl (lv_at hl 1 rfl) ?_
  refine lv_aload_n X.1 X.2.1 dL_law_779 rfl (lv_at hl 0 rfl) ?_
  refine lv_iload_n X.1 X.2.1 dL_law_780 rfl (lv_at hl 3 rfl) ?_
  refine lv_iconst (v := 1) X.1 X.2.1 dL_law_781 (by decide) ?_
  refine lv_iadd X.1 X.2.1 dL_law_782 ?_
  refine va_sld X.1 X.2.1 hX hbl hbA hS hi1 dL_law_783 ?_
  refine lv_aload_n X.1 X.2.1 dL_law_784 rfl (lv_at hl 0 rfl) ?_
  refine lv_iload_n X.1 X.2.1 dL_law_785 rfl (lv_at hl 3 rfl) ?_
  refine lv_iconst (v := 2) X.1 X.2.1 dL_law_786 (by decide) ?_
  refine lv_iadd X.1 X.2.1 dL_law_787 ?_
  refine va_sld X.1 X.2.1 hX hbl hbA hS hi2 dL_law_788 ?_
  refine lv_aload_n X.1 X.2.1 dL_law_789 rfl (lv_at hl 0 rfl) ?_
  refine lv_iload_n X.1 X.2.1 dL_law_790 rfl (lv_at hl 3 rfl) ?_
  refine lv_iconst (v := 3) X.1 X.2.1 dL_law_791 (by decide) ?_
  refine lv_iadd X.1 X.2.1 dL_law_792 ?_
  refine va_sld X.1 X.2.1 hX hbl hbA hS hi3 dL_law_793 ?_
  refine g_lwl (As := [.int (xs (nI n + 1).toNatClampNeg), .int (xs (nI n + 2).toNatClampNeg), .int (xs (nI n + 3).toNatClampNeg)]) X hH hS hB (c_X7_slack l G B (xs (nI n + 1).toNatClampNeg) (xs (nI n + 2).toNatClampNeg) (xs (nI n + 3).toNatClampNeg) σ σ1 r e1) kw_RL_104 kX7 kx_0 (by decide) rfl hl (Nat.le_of_ble_eq_true rfl) rfl dL_law_794 (fun H1 locs hH1 hS hk1 => ?_)
  have hM1 := hM.frame (L := layX) (B := B) (Or.inl (Nat.le_refl _)) hk1
  refine lv_aload_n X.1 X.2.1 dL_law_797 rfl (lv_at hl 2 rfl) ?_
  refine lv_aload_n X.1 X.2.1 dL_law_798 rfl (lv_at hl 0 rfl) ?_
  refine lv_iload_n X.1 X.2.1 dL_law_799 rfl (lv_at hl 3 rfl) ?_
  refine lv_iconst (v := 1) X.1 X.2.1 dL_law_800 (by decide) ?_
  refine lv_iadd X.1 X.2.1 dL_law_801 ?_
  refine va_sld X.1 X.2.1 hX hbl hbA hS hi1 dL_law_802 ?_
  refine lv_aload_n X.1 X.2.1 dL_law_803 rfl (lv_at hl 0 rfl) ?_
  refine lv_iload_n X.1 X.2.1 dL_law_804 rfl (lv_at hl 3 rfl) ?_
  refine lv_iconst (v := 2) X.1 X.2.1 dL_law_805 (by decide) ?_
  refine lv_iadd X.1 X.2.1 dL_law_806 ?_
  refine va_sld X.1 X.2.1 hX hbl hbA hS hi2 dL_law_807 ?_
  refine lv_aload_n X.1 X.2.1 dL_law_808 rfl (lv_at hl 0 rfl) ?_
  refine lv_iload_n X.1 X.2.1 dL_law_809 rfl (lv_at hl 3 rfl) ?_
  refine lv_iconst (v := 3) X.1 X.2.1 dL_law_810 (by decide) ?_
  refine lv_iadd X.1 X.2.1 dL_law_811 ?_
  refine va_sld X.1 X.2.1 hX hbl hbA hS hi3 dL_law_812 ?_
  refine g_lwl (As := [.int (xs (nI n + 1).toNatClampNeg), .int (xs (nI n + 2).toNatClampNeg), .int (xs (nI n + 3).toNatClampNeg)]) X hM1 hS (Nat.le_trans hB (Nat.le_add_right _ _)) (c_X8_slack l G (B + 238) (xs (nI n + 1).toNatClampNeg) (xs (nI n + 2).toNatClampNeg) (xs (nI n + 3).toNatClampNeg) τ τ1 r e2) kw_RL_108 kX8 km_0 (by decide) rfl hl (Nat.le_of_ble_eq_true rfl) rfl dL_law_813 (fun H2 locs hM2 hS hk2 => ?_)
  have hH2 := hH1.frame (L := layM) (B := B + 238) (Or.inr (Nat.le_refl _)) hk2
  refine g_leq (tgt := 1164) X dL_law_816 dL_law_817 (by decide) (fun _ => ?_) (fun q => absurd rfl q)
  exact kk σ1 τ1 H2 _ hR1 hH2 hM2 hS
set_option maxHeartbeats 4000000 in
set_option maxRecDepth 100000 in
theorem lc_22 {p : Program} {l : Launch} {e : Env} {s : State} {m : MethodId} {below : List Frame} {meth : Method} {c : Code} {G : Gd} {b Ln B : Nat} {xs : Nat → Int32} {R : Sto → Sto → Prop} (X : Cx p s m #[Value.ref b] c cL_law 4 RL G) (hX : va_X b Ln xs s s.heap) (hbl : b < s.heap.size) (hB : s.heap.size ≤ B) {n : Nat} (hn : n + 6 ≤ Ln) (hLn : Ln ≤ 3072) (E : ∀ x1 x2 x3 : Int32, Sim R (f_X7_forced x1 x2 x3) (f_X8_forced x1 x2 x3)) {σ τ : Sto} (hR : R σ τ) {H : Heap} {locs : List Loc} (hH : HX G layX B σ H) (hM : HX G layM (B + 238) τ H) (hS : va_S (fun q => s.heap.size ≤ q) s.heap H locs) {ls : Array Slot} (hl : lv_has ls 4 [(0, .ref b), (1, .ref (B + 0)), (2, .ref (B + 238 + 0)), (3, .int (nI n))]) {Q : State → Prop} (kk : ∀ (σ1 τ1 : Sto) (H1 : Heap) (locs1 : List Loc), R σ1 τ1 → HX G layX B σ1 H1 → HX G layM (B + 238) τ1 H1 → va_S (fun q => s.heap.size ≤ q) s.heap H1 locs1 → W p l e room_1 s m #[Value.ref b] below meth c H1 locs1 600000 7302250 Q (F0 m 1164 ls [])) : W p l e room_1 s m #[Value.ref b] below meth c H locs 600000 7302250 Q (F0 m 822 ls []) := by
  obtain ⟨r, σ1, τ1, e1, e2, hR1⟩ := E (xs (nI n + 1).toNatClampNeg) (xs (nI n + 2).toNatClampNeg) (xs (nI n + 3).toNatClampNeg) σ τ hR
  have hbA : ¬ (fun q : Nat => s.heap.size ≤ q) b := Nat.not_le.mpr hbl
  have hi1 : vp_in (nI n + 1) Ln := by
    rw [show (nI n + 1 : Int32) = nI (n + 1) from nI_add n 1]
    exact vp_in_nI (by omega) (by omega)
  have hi2 : vp_in (nI n + 2) Ln := by
    rw [show (nI n + 2 : Int32) = nI (n + 2) from nI_add n 2]
    exact vp_in_nI (by omega) (by omega)
  have hi3 : vp_in (nI n + 3) Ln := by
    rw [show (nI n + 3 : Int32) = nI (n + 3) from nI_add n 3]
    exact vp_in_nI (by omega) (by omega)
  refine lv_aload_n X.1 X.2.1 dL_law_822 rfl (lv_at hl 1 rfl) ?_
  refine lv_aload_n X.1 X.2.1 dL_law_823 rfl (lv_at hl 0 rfl) ?_
  refine lv_iload_n X.1 X.2.1 dL_law_824 rfl (lv_at hl 3 rfl) ?_
  refine lv_iconst (v := 1) X.1 X.2.1 dL_law_825 (by decide) ?_
  refine lv_iadd X.1 X.2.1 dL_law_826 ?_
  refine va_sld X.1 X.2.1 hX hbl hbA hS hi1 dL_law_827 ?_
  refine lv_aload_n X.1 X.2.1 dL_law_828 rfl (lv_at hl 0 rfl) ?_
  refine lv_iload_n X.1 X.2.1 dL_law_829 rfl (lv_at hl 3 rfl) ?_
  refine lv_iconst (v := 2) X.1 X.2.1 dL_law_830 (by decide) ?_
  refine lv_iadd X.1 X.2.1 dL_law_831 ?_
  refine va_sld X.1 X.2.1 hX hbl hbA hS hi2 dL_law_832 ?_
  refine lv_aload_n X.1 X.2.1 dL_law_833 rfl (lv_at hl 0 rfl) ?_
  refine lv_iload_n X.1 X.2.1 dL_law_834 rfl (lv_at hl 3 rfl) ?_
  refine lv_iconst (v := 3) X.1 X.2.1 dL_law_835 (by decide) ?_
  refine lv_iadd X.1 X.2.1 dL_law_836 ?_
  refine va_sld X.1 X.2.1 hX hbl hbA hS hi3 dL_law_837 ?_
  refine g_lwi (As := [.int (xs (nI n + 1).toNatClampNeg), .int (xs (nI n + 2).toNatClampNeg), .int (xs (nI n + 3).toNatClampNeg)]) X hH hS hB (c_X7_forced l G B (xs (nI n + 1).toNatClampNeg) (xs (nI n + 2).toNatClampNeg) (xs (nI n + 3).toNatClampNeg) σ σ1 r e1) kw_RL_109 kX7 kx_0 (by decide) rfl hl (Nat.le_of_ble_eq_true rfl) rfl dL_law_838 (fun H1 locs hH1 hS hk1 => ?_)
  have hM1 := hM.frame (L := layX) (B := B) (Or.inl (Nat.le_refl _)) hk1
  refine lv_aload_n X.1 X.2.1 dL_law_841 rfl (lv_at hl 2 rfl) ?_
  refine lv_aload_n X.1 X.2.1 dL_law_842 rfl (lv_at hl 0 rfl) ?_
  refine lv_iload_n X.1 X.2.1 dL_law_843 rfl (lv_at hl 3 rfl) ?_
  refine lv_iconst (v := 1) X.1 X.2.1 dL_law_844 (by decide) ?_
  refine lv_iadd X.1 X.2.1 dL_law_845 ?_
  refine va_sld X.1 X.2.1 hX hbl hbA hS hi1 dL_law_846 ?_
  refine lv_aload_n X.1 X.2.1 dL_law_847 rfl (lv_at hl 0 rfl) ?_
  refine lv_iload_n X.1 X.2.1 dL_law_848 rfl (lv_at hl 3 rfl) ?_
  refine lv_iconst (v := 2) X.1 X.2.1 dL_law_849 (by decide) ?_
  refine lv_iadd X.1 X.2.1 dL_law_850 ?_
  refine va_sld X.1 X.2.1 hX hbl hbA hS hi2 dL_law_851 ?_
  refine lv_aload_n X.1 X.2.1 dL_law_852 rfl (lv_at hl 0 rfl) ?_
  refine lv_iload_n X.1 X.2.1 dL_law_853 rfl (lv_at hl 3 rfl) ?_
  refine lv_iconst (v := 3) X.1 X.2.1 dL_law_854 (by decide) ?_
  refine lv_iadd X.1 X.2.1 dL_law_855 ?_
  refine va_sld X.1 X.2.1 hX hbl hbA hS hi3 dL_law_856 ?_
  refine g_lwi (As := [.int (xs (nI n + 1).toNatClampNeg), .int (xs (nI n + 2).toNatClampNeg), .int (xs (nI n + 3).toNatClampNeg)]) X hM1 hS (Nat.le_trans hB (Nat.le_add_right _ _)) (c_X8_forced l G (B + 238) (xs (nI n + 1).toNatClampNeg) (xs (nI n + 2).toNatClampNeg) (xs (nI n + 3).toNatClampNeg) τ τ1 r e2) kw_RL_112 kX8 km_0 (by decide) rfl hl (Nat.le_of_ble_eq_true rfl) rfl dL_law_857 (fun H2 locs hM2 hS hk2 => ?_)
  have hH2 := hH1.frame (L := layM) (B := B + 238) (Or.inr (Nat.le_refl _)) hk2
  refine lv_icmp_eq (tgt := 1164) X.1 X.2.1 dL_law_860 (by decide) (fun _ => ?_) (fun q => absurd rfl q)
  exact kk σ1 τ1 H2 _ hR1 hH2 hM2 hS
set_option maxHeartbeats 4000000 in
set_option maxRecDepth 100000 in
theorem lc_23 {p : Program} {l : Launch} {e : Env} {s : State} {m : MethodId} {below : List Frame} {meth : Method} {c : Code} {G : Gd} {b Ln B : Nat} {xs : Nat → Int32} {R : Sto → Sto → Prop} (X : Cx p s m #[Value.ref b] c cL_law 4 RL G) (hX : va_X b Ln xs s s.heap) (hbl : b < s.heap.size) (hB : s.heap.size ≤ B) {n : Nat} (hn : n + 6 ≤ Ln) (hLn : Ln ≤ 3072) (E : ∀ x1 : Int32, Sim R (f_X7_solutions x1) (f_X8_solutions x1)) {σ τ : Sto} (hR : R σ τ) {H : Heap} {locs : List Loc} (hH : HX G layX B σ H) (hM : HX G layM (B + 238) τ H) (hS : va_S (fun q => s.heap.size ≤ q) s.heap H locs) {ls : Array Slot} (hl : lv_has ls 4 [(0, .ref b), (1, .ref (B + 0)), (2, .ref (B + 238 + 0)), (3, .int (nI n))]) {Q : State → Prop} (kk : ∀ (σ1 τ1 : Sto) (H1 : Heap) (locs1 : List Loc), R σ1 τ1 → HX G layX B σ1 H1 → HX G layM (B + 238) τ1 H1 → va_S (fun q => s.heap.size ≤ q) s.heap H1 locs1 → W p l e room_1 s m #[Value.ref b] below meth c H1 locs1 600000 7302250 Q (F0 m 1164 ls [])) : W p l e room_1 s m #[Value.ref b] below meth c H locs 600000 7302250 Q (F0 m 865 ls []) := by
  obtain ⟨r, σ1, τ1, e1, e2, hR1⟩ := E (xs (nI n + 1).toNatClampNeg) σ τ hR
  have hbA : ¬ (fun q : Nat => s.heap.size ≤ q) b := Nat.not_le.mpr hbl
  have hi1 : vp_in (nI n + 1) Ln := by
    rw [show (nI n + 1 : Int32) = nI (n + 1) from nI_add n 1]
    exact vp_in_nI (by omega) (by omega)
  refine lv_aload_n X.1 X.2.1 dL_law_865 rfl (lv_at hl 1 rfl) ?_
  refine lv_aload_n X.1 X.2.1 dL_law_866 rfl (lv_at hl 0 rfl) ?_
  refine lv_iload_n X.1 X.2.1 dL_law_867 rfl (lv_at hl 3 rfl) ?_
  refine lv_iconst (v := 1) X.1 X.2.1 dL_law_868 (by decide) ?_
  refine lv_iadd X.1 X.2.1 dL_law_869 ?_
  refine va_sld X.1 X.2.1 hX hbl hbA hS hi1 dL_law_870 ?_
  refine g_lwi (As := [.int (xs (nI n + 1).toNatClampNeg)]) X hH hS hB (c_X7_solutions l G B (xs (nI n + 1).toNatClampNeg) σ σ1 r e1) kw_RL_113 kX7 kx_0 (by decide) rfl hl (Nat.le_of_ble_eq_true rfl) rfl dL_law_871 (fun H1 locs hH1 hS hk1 => ?_)
  have hM1 := hM.frame (L := layX) (B := B) (Or.inl (Nat.le_refl _)) hk1
  refine lv_aload_n X.1 X.2.1 dL_law_874 rfl (lv_at hl 2 rfl) ?_
  refine lv_aload_n X.1 X.2.1 dL_law_875 rfl (lv_at hl 0 rfl) ?_
  refine lv_iload_n X.1 X.2.1 dL_law_876 rfl (lv_at hl 3 rfl) ?_
  refine lv_iconst (v := 1) X.1 X.2.1 dL_law_877 (by decide) ?_
  refine lv_iadd X.1 X.2.1 dL_law_878 ?_
  refine va_sld X.1 X.2.1 hX hbl hbA hS hi1 dL_law_879 ?_
  refine g_lwi (As := [.int (xs (nI n + 1).toNatClampNeg)]) X hM1 hS (Nat.le_trans hB (Nat.le_add_right _ _)) (c_X8_solutions l G (B + 238) (xs (nI n + 1).toNatClampNeg) τ τ1 r e2) kw_RL_116 kX8 km_0 (by decide) rfl hl (Nat.le_of_ble_eq_true rfl) rfl dL_law_880 (fun H2 locs hM2 hS hk2 => ?_)
  have hH2 := hH1.frame (L := layM) (B := B + 238) (Or.inr (Nat.le_refl _)) hk2
  refine lv_icmp_eq (tgt := 1164) X.1 X.2.1 dL_law_883 (by decide) (fun _ => ?_) (fun q => absurd rfl q)
  exact kk σ1 τ1 H2 _ hR1 hH2 hM2 hS
set_option maxHeartbeats 4000000 in
set_option maxRecDepth 100000 in
theorem lc_24 {p : Program} {l : Launch} {e : Env} {s : State} {m : MethodId} {below : List Frame} {meth : Method} {c : Code} {G : Gd} {b Ln B : Nat} {xs : Nat → Int32} {R : Sto → Sto → Prop} (X : Cx p s m #[Value.ref b] c cL_law 4 RL G) (hX : va_X b Ln xs s s.heap) (hbl : b < s.heap.size) (hB : s.heap.size ≤ B) {n : Nat} (hn : n + 6 ≤ Ln) (hLn : Ln ≤ 3072) (E : ∀ x1 : Int32, Sim R (f_X7_holds x1) (f_X8_holds x1)) {σ τ : Sto} (hR : R σ τ) {H : Heap} {locs : List Loc} (hH : HX G layX B σ H) (hM : HX G layM (B + 238) τ H) (hS : va_S (fun q => s.heap.size ≤ q) s.heap H locs) {ls : Array Slot} (hl : lv_has ls 4 [(0, .ref b), (1, .ref (B + 0)), (2, .ref (B + 238 + 0)), (3, .int (nI n))]) {Q : State → Prop} (kk : ∀ (σ1 τ1 : Sto) (H1 : Heap) (locs1 : List Loc), R σ1 τ1 → HX G layX B σ1 H1 → HX G layM (B + 238) τ1 H1 → va_S (fun q => s.heap.size ≤ q) s.heap H1 locs1 → W p l e room_1 s m #[Value.ref b] below meth c H1 locs1 600000 7302250 Q (F0 m 1164 ls [])) : W p l e room_1 s m #[Value.ref b] below meth c H locs 600000 7302250 Q (F0 m 888 ls []) := by
  obtain ⟨r, σ1, τ1, e1, e2, hR1⟩ := E (xs (nI n + 1).toNatClampNeg) σ τ hR
  have hbA : ¬ (fun q : Nat => s.heap.size ≤ q) b := Nat.not_le.mpr hbl
  have hi1 : vp_in (nI n + 1) Ln := by
    rw [show (nI n + 1 : Int32) = nI (n + 1) from nI_add n 1]
    exact vp_in_nI (by omega) (by omega)
  refine lv_aload_n X.1 X.2.1 dL_law_888 rfl (lv_at hl 1 rfl) ?_
  refine lv_aload_n X.1 X.2.1 dL_law_889 rfl (lv_at hl 0 rfl) ?_
  refine lv_iload_n X.1 X.2.1 dL_law_890 rfl (lv_at hl 3 rfl) ?_
  refine lv_iconst (v := 1) X.1 X.2.1 dL_law_891 (by decide) ?_
  refine lv_iadd X.1 X.2.1 dL_law_892 ?_
  refine va_sld X.1 X.2.1 hX hbl hbA hS hi1 dL_law_893 ?_
  refine g_lwi (As := [.int (xs (nI n + 1).toNatClampNeg)]) X hH hS hB (c_X7_holds l G B (xs (nI n + 1).toNatClampNeg) σ σ1 r e1) kw_RL_117 kX7 kx_0 (by decide) rfl hl (Nat.le_of_ble_eq_true rfl) rfl dL_law_894 (fun H1 locs hH1 hS hk1 => ?_)
  have hM1 := hM.frame (L := layX) (B := B) (Or.inl (Nat.le_refl _)) hk1
  refine lv_aload_n X.1 X.2.1 dL_law_897 rfl (lv_at hl 2 rfl) ?_
  refine lv_aload_n X.1 X.2.1 dL_law_898 rfl (lv_at hl 0 rfl) ?_
  refine lv_iload_n X.1 X.2.1 dL_law_899 rfl (lv_at hl 3 rfl) ?_
  refine lv_iconst (v := 1) X.1 X.2.1 dL_law_900 (by decide) ?_
  refine lv_iadd X.1 X.2.1 dL_law_901 ?_
  refine va_sld X.1 X.2.1 hX hbl hbA hS hi1 dL_law_902 ?_
  refine g_lwi (As := [.int (xs (nI n + 1).toNatClampNeg)]) X hM1 hS (Nat.le_trans hB (Nat.le_add_right _ _)) (c_X8_holds l G (B + 238) (xs (nI n + 1).toNatClampNeg) τ τ1 r e2) kw_RL_120 kX8 km_0 (by decide) rfl hl (Nat.le_of_ble_eq_true rfl) rfl dL_law_903 (fun H2 locs hM2 hS hk2 => ?_)
  have hH2 := hH1.frame (L := layM) (B := B + 238) (Or.inr (Nat.le_refl _)) hk2
  refine lv_icmp_eq (tgt := 1164) X.1 X.2.1 dL_law_906 (by decide) (fun _ => ?_) (fun q => absurd rfl q)
  exact kk σ1 τ1 H2 _ hR1 hH2 hM2 hS
set_option maxHeartbeats 4000000 in
set_option maxRecDepth 100000 in
theorem lc_25 {p : Program} {l : Launch} {e : Env} {s : State} {m : MethodId} {below : List Frame} {meth : Method} {c : Code} {G : Gd} {b Ln B : Nat} {xs : Nat → Int32} {R : Sto → Sto → Prop} (X : Cx p s m #[Value.ref b] c cL_law 4 RL G) (hX : va_X b Ln xs s s.heap) (hbl : b < s.heap.size) (hB : s.heap.size ≤ B) {n : Nat} (hn : n + 6 ≤ Ln) (hLn : Ln ≤ 3072) (E : ∀ x1 : Int32, Sim R (f_X7_follows x1) (f_X8_follows x1)) {σ τ : Sto} (hR : R σ τ) {H : Heap} {locs : List Loc} (hH : HX G layX B σ H) (hM : HX G layM (B + 238) τ H) (hS : va_S (fun q => s.heap.size ≤ q) s.heap H locs) {ls : Array Slot} (hl : lv_has ls 4 [(0, .ref b), (1, .ref (B + 0)), (2, .ref (B + 238 + 0)), (3, .int (nI n))]) {Q : State → Prop} (kk : ∀ (σ1 τ1 : Sto) (H1 : Heap) (locs1 : List Loc), R σ1 τ1 → HX G layX B σ1 H1 → HX G layM (B + 238) τ1 H1 → va_S (fun q => s.heap.size ≤ q) s.heap H1 locs1 → W p l e room_1 s m #[Value.ref b] below meth c H1 locs1 600000 7302250 Q (F0 m 1164 ls [])) : W p l e room_1 s m #[Value.ref b] below meth c H locs 600000 7302250 Q (F0 m 911 ls []) := by
  obtain ⟨r, σ1, τ1, e1, e2, hR1⟩ := E (xs (nI n + 1).toNatClampNeg) σ τ hR
  have hbA : ¬ (fun q : Nat => s.heap.size ≤ q) b := Nat.not_le.mpr hbl
  have hi1 : vp_in (nI n + 1) Ln := by
    rw [show (nI n + 1 : Int32) = nI (n + 1) from nI_add n 1]
    exact vp_in_nI (by omega) (by omega)
  refine lv_aload_n X.1 X.2.1 dL_law_911 rfl (lv_at hl 1 rfl) ?_
  refine lv_aload_n X.1 X.2.1 dL_law_912 rfl (lv_at hl 0 rfl) ?_
  refine lv_iload_n X.1 X.2.1 dL_law_913 rfl (lv_at hl 3 rfl) ?_
  refine lv_iconst (v := 1) X.1 X.2.1 dL_law_914 (by decide) ?_
  refine lv_iadd X.1 X.2.1 dL_law_915 ?_
  refine va_sld X.1 X.2.1 hX hbl hbA hS hi1 dL_law_916 ?_
  refine g_lwi (As := [.int (xs (nI n + 1).toNatClampNeg)]) X hH hS hB (c_X7_follows l G B (xs (nI n + 1).toNatClampNeg) σ σ1 r e1) kw_RL_121 kX7 kx_0 (by decide) rfl hl (Nat.le_of_ble_eq_true rfl) rfl dL_law_917 (fun H1 locs hH1 hS hk1 => ?_)
  have hM1 := hM.frame (L := layX) (B := B) (Or.inl (Nat.le_refl _)) hk1
  refine lv_aload_n X.1 X.2.1 dL_law_920 rfl (lv_at hl 2 rfl) ?_
  refine lv_aload_n X.1 X.2.1 dL_law_921 rfl (lv_at hl 0 rfl) ?_
  refine lv_iload_n X.1 X.2.1 dL_law_922 rfl (lv_at hl 3 rfl) ?_
  refine lv_iconst (v := 1) X.1 X.2.1 dL_law_923 (by decide) ?_
  refine lv_iadd X.1 X.2.1 dL_law_924 ?_
  refine va_sld X.1 X.2.1 hX hbl hbA hS hi1 dL_law_925 ?_
  refine g_lwi (As := [.int (xs (nI n + 1).toNatClampNeg)]) X hM1 hS (Nat.le_trans hB (Nat.le_add_right _ _)) (c_X8_follows l G (B + 238) (xs (nI n + 1).toNatClampNeg) τ τ1 r e2) kw_RL_124 kX8 km_0 (by decide) rfl hl (Nat.le_of_ble_eq_true rfl) rfl dL_law_926 (fun H2 locs hM2 hS hk2 => ?_)
  have hH2 := hH1.frame (L := layM) (B := B + 238) (Or.inr (Nat.le_refl _)) hk2
  refine lv_icmp_eq (tgt := 1164) X.1 X.2.1 dL_law_929 (by decide) (fun _ => ?_) (fun q => absurd rfl q)
  exact kk σ1 τ1 H2 _ hR1 hH2 hM2 hS
set_option maxHeartbeats 4000000 in
set_option maxRecDepth 100000 in
theorem lc_26 {p : Program} {l : Launch} {e : Env} {s : State} {m : MethodId} {below : List Frame} {meth : Method} {c : Code} {G : Gd} {b Ln B : Nat} {xs : Nat → Int32} {R : Sto → Sto → Prop} (X : Cx p s m #[Value.ref b] c cL_law 4 RL G) (hX : va_X b Ln xs s s.heap) (hbl : b < s.heap.size) (hB : s.heap.size ≤ B) {n : Nat} (hn : n + 6 ≤ Ln) (hLn : Ln ≤ 3072) (E : Sim R (f_X7_verdict) (f_X8_verdict)) {σ τ : Sto} (hR : R σ τ) {H : Heap} {locs : List Loc} (hH : HX G layX B σ H) (hM : HX G layM (B + 238) τ H) (hS : va_S (fun q => s.heap.size ≤ q) s.heap H locs) {ls : Array Slot} (hl : lv_has ls 4 [(0, .ref b), (1, .ref (B + 0)), (2, .ref (B + 238 + 0)), (3, .int (nI n))]) {Q : State → Prop} (kk : ∀ (σ1 τ1 : Sto) (H1 : Heap) (locs1 : List Loc), R σ1 τ1 → HX G layX B σ1 H1 → HX G layM (B + 238) τ1 H1 → va_S (fun q => s.heap.size ≤ q) s.heap H1 locs1 → W p l e room_1 s m #[Value.ref b] below meth c H1 locs1 600000 7302250 Q (F0 m 1164 ls [])) : W p l e room_1 s m #[Value.ref b] below meth c H locs 600000 7302250 Q (F0 m 934 ls []) := by
  obtain ⟨r, σ1, τ1, e1, e2, hR1⟩ := E σ τ hR
  have hbA : ¬ (fun q : Nat => s.heap.size ≤ q) b := Nat.not_le.mpr hbl
  refine lv_aload_n X.1 X.2.1 dL_law_934 rfl (lv_at hl 1 rfl) ?_
  refine g_lwi (As := []) X hH hS hB (c_X7_verdict l G B σ σ1 r e1) kw_RL_125 kX7 kx_0 (by decide) rfl hl (Nat.le_of_ble_eq_true rfl) rfl dL_law_935 (fun H1 locs hH1 hS hk1 => ?_)
  have hM1 := hM.frame (L := layX) (B := B) (Or.inl (Nat.le_refl _)) hk1
  refine lv_aload_n X.1 X.2.1 dL_law_938 rfl (lv_at hl 2 rfl) ?_
  refine g_lwi (As := []) X hM1 hS (Nat.le_trans hB (Nat.le_add_right _ _)) (c_X8_verdict l G (B + 238) τ τ1 r e2) kw_RL_128 kX8 km_0 (by decide) rfl hl (Nat.le_of_ble_eq_true rfl) rfl dL_law_939 (fun H2 locs hM2 hS hk2 => ?_)
  have hH2 := hH1.frame (L := layM) (B := B + 238) (Or.inr (Nat.le_refl _)) hk2
  refine lv_icmp_eq (tgt := 1164) X.1 X.2.1 dL_law_942 (by decide) (fun _ => ?_) (fun q => absurd rfl q)
  exact kk σ1 τ1 H2 _ hR1 hH2 hM2 hS
set_option maxHeartbeats 4000000 in
set_option maxRecDepth 100000 in
theorem lc_27 {p : Program} {l : Launch} {e : Env} {s : State} {m : MethodId} {below : List Frame} {meth : Method} {c : Code} {G : Gd} {b Ln B : Nat} {xs : Nat → Int32} {R : Sto → Sto → Prop} (X : Cx p s m #[Value.ref b] c cL_law 4 RL G) (hX : va_X b Ln xs s s.heap) (hbl : b < s.heap.size) (hB : s.heap.size ≤ B) {n : Nat} (hn : n + 6 ≤ Ln) (hLn : Ln ≤ 3072) (E : ∀ x1 : Int32, Sim R (f_X7_price x1) (f_X8_price x1)) {σ τ : Sto} (hR : R σ τ) {H : Heap} {locs : List Loc} (hH : HX G layX B σ H) (hM : HX G layM (B + 238) τ H) (hS : va_S (fun q => s.heap.size ≤ q) s.heap H locs) {ls : Array Slot} (hl : lv_has ls 4 [(0, .ref b), (1, .ref (B + 0)), (2, .ref (B + 238 + 0)), (3, .int (nI n))]) {Q : State → Prop} (kk : ∀ (σ1 τ1 : Sto) (H1 : Heap) (locs1 : List Loc), R σ1 τ1 → HX G layX B σ1 H1 → HX G layM (B + 238) τ1 H1 → va_S (fun q => s.heap.size ≤ q) s.heap H1 locs1 → W p l e room_1 s m #[Value.ref b] below meth c H1 locs1 600000 7302250 Q (F0 m 1164 ls [])) : W p l e room_1 s m #[Value.ref b] below meth c H locs 600000 7302250 Q (F0 m 947 ls []) := by
  obtain ⟨r, σ1, τ1, e1, e2, hR1⟩ := E (xs (nI n + 1).toNatClampNeg) σ τ hR
  have hbA : ¬ (fun q : Nat => s.heap.size ≤ q) b := Nat.not_le.mpr hbl
  have hi1 : vp_in (nI n + 1) Ln := by
    rw [show (nI n + 1 : Int32) = nI (n + 1) from nI_add n 1]
    exact vp_in_nI (by omega) (by omega)
  refine lv_aload_n X.1 X.2.1 dL_law_947 rfl (lv_at hl 1 rfl) ?_
  refine lv_aload_n X.1 X.2.1 dL_law_948 rfl (lv_at hl 0 rfl) ?_
  refine lv_iload_n X.1 X.2.1 dL_law_949 rfl (lv_at hl 3 rfl) ?_
  refine lv_iconst (v := 1) X.1 X.2.1 dL_law_950 (by decide) ?_
  refine lv_iadd X.1 X.2.1 dL_law_951 ?_
  refine va_sld X.1 X.2.1 hX hbl hbA hS hi1 dL_law_952 ?_
  refine g_lwi (As := [.int (xs (nI n + 1).toNatClampNeg)]) X hH hS hB (c_X7_price l G B (xs (nI n + 1).toNatClampNeg) σ σ1 r e1) kw_RL_129 kX7 kx_0 (by decide) rfl hl (Nat.le_of_ble_eq_true rfl) rfl dL_law_953 (fun H1 locs hH1 hS hk1 => ?_)
  have hM1 := hM.frame (L := layX) (B := B) (Or.inl (Nat.le_refl _)) hk1
  refine lv_aload_n X.1 X.2.1 dL_law_956 rfl (lv_at hl 2 rfl) ?_
  refine lv_aload_n X.1 X.2.1 dL_law_957 rfl (lv_at hl 0 rfl) ?_
  refine lv_iload_n X.1 X.2.1 dL_law_958 rfl (lv_at hl 3 rfl) ?_
  refine lv_iconst (v := 1) X.1 X.2.1 dL_law_959 (by decide) ?_
  refine lv_iadd X.1 X.2.1 dL_law_960 ?_
  refine va_sld X.1 X.2.1 hX hbl hbA hS hi1 dL_law_961 ?_
  refine g_lwi (As := [.int (xs (nI n + 1).toNatClampNeg)]) X hM1 hS (Nat.le_trans hB (Nat.le_add_right _ _)) (c_X8_price l G (B + 238) (xs (nI n + 1).toNatClampNeg) τ τ1 r e2) kw_RL_132 kX8 km_0 (by decide) rfl hl (Nat.le_of_ble_eq_true rfl) rfl dL_law_962 (fun H2 locs hM2 hS hk2 => ?_)
  have hH2 := hH1.frame (L := layM) (B := B + 238) (Or.inr (Nat.le_refl _)) hk2
  refine lv_icmp_eq (tgt := 1164) X.1 X.2.1 dL_law_965 (by decide) (fun _ => ?_) (fun q => absurd rfl q)
  exact kk σ1 τ1 H2 _ hR1 hH2 hM2 hS
set_option maxHeartbeats 4000000 in
set_option maxRecDepth 100000 in
theorem lc_28 {p : Program} {l : Launch} {e : Env} {s : State} {m : MethodId} {below : List Frame} {meth : Method} {c : Code} {G : Gd} {b Ln B : Nat} {xs : Nat → Int32} {R : Sto → Sto → Prop} (X : Cx p s m #[Value.ref b] c cL_law 4 RL G) (hX : va_X b Ln xs s s.heap) (hbl : b < s.heap.size) (hB : s.heap.size ≤ B) {n : Nat} (hn : n + 6 ≤ Ln) (hLn : Ln ≤ 3072) (E : ∀ x1 : Int32, Sim R (f_X7_image x1) (f_X8_image x1)) {σ τ : Sto} (hR : R σ τ) {H : Heap} {locs : List Loc} (hH : HX G layX B σ H) (hM : HX G layM (B + 238) τ H) (hS : va_S (fun q => s.heap.size ≤ q) s.heap H locs) {ls : Array Slot} (hl : lv_has ls 4 [(0, .ref b), (1, .ref (B + 0)), (2, .ref (B + 238 + 0)), (3, .int (nI n))]) {Q : State → Prop} (kk : ∀ (σ1 τ1 : Sto) (H1 : Heap) (locs1 : List Loc), R σ1 τ1 → HX G layX B σ1 H1 → HX G layM (B + 238) τ1 H1 → va_S (fun q => s.heap.size ≤ q) s.heap H1 locs1 → W p l e room_1 s m #[Value.ref b] below meth c H1 locs1 600000 7302250 Q (F0 m 1164 ls [])) : W p l e room_1 s m #[Value.ref b] below meth c H locs 600000 7302250 Q (F0 m 970 ls []) := by
  obtain ⟨r, σ1, τ1, e1, e2, hR1⟩ := E (xs (nI n + 1).toNatClampNeg) σ τ hR
  have hbA : ¬ (fun q : Nat => s.heap.size ≤ q) b := Nat.not_le.mpr hbl
  have hi1 : vp_in (nI n + 1) Ln := by
    rw [show (nI n + 1 : Int32) = nI (n + 1) from nI_add n 1]
    exact vp_in_nI (by omega) (by omega)
  refine lv_aload_n X.1 X.2.1 dL_law_970 rfl (lv_at hl 1 rfl) ?_
  refine lv_aload_n X.1 X.2.1 dL_law_971 rfl (lv_at hl 0 rfl) ?_
  refine lv_iload_n X.1 X.2.1 dL_law_972 rfl (lv_at hl 3 rfl) ?_
  refine lv_iconst (v := 1) X.1 X.2.1 dL_law_973 (by decide) ?_
  refine lv_iadd X.1 X.2.1 dL_law_974 ?_
  refine va_sld X.1 X.2.1 hX hbl hbA hS hi1 dL_law_975 ?_
  refine g_lwi (As := [.int (xs (nI n + 1).toNatClampNeg)]) X hH hS hB (c_X7_image l G B (xs (nI n + 1).toNatClampNeg) σ σ1 r e1) kw_RL_133 kX7 kx_0 (by decide) rfl hl (Nat.le_of_ble_eq_true rfl) rfl dL_law_976 (fun H1 locs hH1 hS hk1 => ?_)
  have hM1 := hM.frame (L := layX) (B := B) (Or.inl (Nat.le_refl _)) hk1
  refine lv_aload_n X.1 X.2.1 dL_law_979 rfl (lv_at hl 2 rfl) ?_
  refine lv_aload_n X.1 X.2.1 dL_law_980 rfl (lv_at hl 0 rfl) ?_
  refine lv_iload_n X.1 X.2.1 dL_law_981 rfl (lv_at hl 3 rfl) ?_
  refine lv_iconst (v := 1) X.1 X.2.1 dL_law_982 (by decide) ?_
  refine lv_iadd X.1 X.2.1 dL_law_983 ?_
  refine va_sld X.1 X.2.1 hX hbl hbA hS hi1 dL_law_984 ?_
  refine g_lwi (As := [.int (xs (nI n + 1).toNatClampNeg)]) X hM1 hS (Nat.le_trans hB (Nat.le_add_right _ _)) (c_X8_image l G (B + 238) (xs (nI n + 1).toNatClampNeg) τ τ1 r e2) kw_RL_136 kX8 km_0 (by decide) rfl hl (Nat.le_of_ble_eq_true rfl) rfl dL_law_985 (fun H2 locs hM2 hS hk2 => ?_)
  have hH2 := hH1.frame (L := layM) (B := B + 238) (Or.inr (Nat.le_refl _)) hk2
  refine lv_icmp_eq (tgt := 1164) X.1 X.2.1 dL_law_988 (by decide) (fun _ => ?_) (fun q => absurd rfl q)
  exact kk σ1 τ1 H2 _ hR1 hH2 hM2 hS
set_option maxHeartbeats 4000000 in
set_option maxRecDepth 100000 in
theorem lc_29 {p : Program} {l : Launch} {e : Env} {s : State} {m : MethodId} {below : List Frame} {meth : Method} {c : Code} {G : Gd} {b Ln B : Nat} {xs : Nat → Int32} {R : Sto → Sto → Prop} (X : Cx p s m #[Value.ref b] c cL_law 4 RL G) (hX : va_X b Ln xs s s.heap) (hbl : b < s.heap.size) (hB : s.heap.size ≤ B) {n : Nat} (hn : n + 6 ≤ Ln) (hLn : Ln ≤ 3072) (E : ∀ x1 : Int32, Sim R (f_X7_restore x1) (f_X8_restore x1)) {σ τ : Sto} (hR : R σ τ) {H : Heap} {locs : List Loc} (hH : HX G layX B σ H) (hM : HX G layM (B + 238) τ H) (hS : va_S (fun q => s.heap.size ≤ q) s.heap H locs) {ls : Array Slot} (hl : lv_has ls 4 [(0, .ref b), (1, .ref (B + 0)), (2, .ref (B + 238 + 0)), (3, .int (nI n))]) {Q : State → Prop} (kk : ∀ (σ1 τ1 : Sto) (H1 : Heap) (locs1 : List Loc), R σ1 τ1 → HX G layX B σ1 H1 → HX G layM (B + 238) τ1 H1 → va_S (fun q => s.heap.size ≤ q) s.heap H1 locs1 → W p l e room_1 s m #[Value.ref b] below meth c H1 locs1 600000 7302250 Q (F0 m 1164 ls [])) : W p l e room_1 s m #[Value.ref b] below meth c H locs 600000 7302250 Q (F0 m 993 ls []) := by
  obtain ⟨r, σ1, τ1, e1, e2, hR1⟩ := E (xs (nI n + 1).toNatClampNeg) σ τ hR
  have hbA : ¬ (fun q : Nat => s.heap.size ≤ q) b := Nat.not_le.mpr hbl
  have hi1 : vp_in (nI n + 1) Ln := by
    rw [show (nI n + 1 : Int32) = nI (n + 1) from nI_add n 1]
    exact vp_in_nI (by omega) (by omega)
  refine lv_aload_n X.1 X.2.1 dL_law_993 rfl (lv_at hl 1 rfl) ?_
  refine lv_aload_n X.1 X.2.1 dL_law_994 rfl (lv_at hl 0 rfl) ?_
  refine lv_iload_n X.1 X.2.1 dL_law_995 rfl (lv_at hl 3 rfl) ?_
  refine lv_iconst (v := 1) X.1 X.2.1 dL_law_996 (by decide) ?_
  refine lv_iadd X.1 X.2.1 dL_law_997 ?_
  refine va_sld X.1 X.2.1 hX hbl hbA hS hi1 dL_law_998 ?_
  refine g_lwi (As := [.int (xs (nI n + 1).toNatClampNeg)]) X hH hS hB (c_X7_restore l G B (xs (nI n + 1).toNatClampNeg) σ σ1 r e1) kw_RL_137 kX7 kx_0 (by decide) rfl hl (Nat.le_of_ble_eq_true rfl) rfl dL_law_999 (fun H1 locs hH1 hS hk1 => ?_)
  have hM1 := hM.frame (L := layX) (B := B) (Or.inl (Nat.le_refl _)) hk1
  refine lv_aload_n X.1 X.2.1 dL_law_1002 rfl (lv_at hl 2 rfl) ?_
  refine lv_aload_n X.1 X.2.1 dL_law_1003 rfl (lv_at hl 0 rfl) ?_
  refine lv_iload_n X.1 X.2.1 dL_law_1004 rfl (lv_at hl 3 rfl) ?_
  refine lv_iconst (v := 1) X.1 X.2.1 dL_law_1005 (by decide) ?_
  refine lv_iadd X.1 X.2.1 dL_law_1006 ?_
  refine va_sld X.1 X.2.1 hX hbl hbA hS hi1 dL_law_1007 ?_
  refine g_lwi (As := [.int (xs (nI n + 1).toNatClampNeg)]) X hM1 hS (Nat.le_trans hB (Nat.le_add_right _ _)) (c_X8_restore l G (B + 238) (xs (nI n + 1).toNatClampNeg) τ τ1 r e2) kw_RL_140 kX8 km_0 (by decide) rfl hl (Nat.le_of_ble_eq_true rfl) rfl dL_law_1008 (fun H2 locs hM2 hS hk2 => ?_)
  have hH2 := hH1.frame (L := layM) (B := B + 238) (Or.inr (Nat.le_refl _)) hk2
  refine lv_icmp_eq (tgt := 1164) X.1 X.2.1 dL_law_1011 (by decide) (fun _ => ?_) (fun q => absurd rfl q)
  exact kk σ1 τ1 H2 _ hR1 hH2 hM2 hS
set_option maxHeartbeats 4000000 in
set_option maxRecDepth 100000 in
theorem lc_30 {p : Program} {l : Launch} {e : Env} {s : State} {m : MethodId} {below : List Frame} {meth : Method} {c : Code} {G : Gd} {b Ln B : Nat} {xs : Nat → Int32} {R : Sto → Sto → Prop} (X : Cx p s m #[Value.ref b] c cL_law 4 RL G) (hX : va_X b Ln xs s s.heap) (hbl : b < s.heap.size) (hB : s.heap.size ≤ B) {n : Nat} (hn : n + 6 ≤ Ln) (hLn : Ln ≤ 3072) (E : ∀ x1 : Int32, Sim R (f_X7_kind x1) (f_X8_kind x1)) {σ τ : Sto} (hR : R σ τ) {H : Heap} {locs : List Loc} (hH : HX G layX B σ H) (hM : HX G layM (B + 238) τ H) (hS : va_S (fun q => s.heap.size ≤ q) s.heap H locs) {ls : Array Slot} (hl : lv_has ls 4 [(0, .ref b), (1, .ref (B + 0)), (2, .ref (B + 238 + 0)), (3, .int (nI n))]) {Q : State → Prop} (kk : ∀ (σ1 τ1 : Sto) (H1 : Heap) (locs1 : List Loc), R σ1 τ1 → HX G layX B σ1 H1 → HX G layM (B + 238) τ1 H1 → va_S (fun q => s.heap.size ≤ q) s.heap H1 locs1 → W p l e room_1 s m #[Value.ref b] below meth c H1 locs1 600000 7302250 Q (F0 m 1164 ls [])) : W p l e room_1 s m #[Value.ref b] below meth c H locs 600000 7302250 Q (F0 m 1016 ls []) := by
  obtain ⟨r, σ1, τ1, e1, e2, hR1⟩ := E (xs (nI n + 1).toNatClampNeg) σ τ hR
  have hbA : ¬ (fun q : Nat => s.heap.size ≤ q) b := Nat.not_le.mpr hbl
  have hi1 : vp_in (nI n + 1) Ln := by
    rw [show (nI n + 1 : Int32) = nI (n + 1) from nI_add n 1]
    exact vp_in_nI (by omega) (by omega)
  refine lv_aload_n X.1 X.2.1 dL_law_1016 rfl (lv_at hl 1 rfl) ?_
  refine lv_aload_n X.1 X.2.1 dL_law_1017 rfl (lv_at hl 0 rfl) ?_
  refine lv_iload_n X.1 X.2.1 dL_law_1018 rfl (lv_at hl 3 rfl) ?_
  refine lv_iconst (v := 1) X.1 X.2.1 dL_law_1019 (by decide) ?_
  refine lv_iadd X.1 X.2.1 dL_law_1020 ?_
  refine va_sld X.1 X.2.1 hX hbl hbA hS hi1 dL_law_1021 ?_
  refine g_lwi (As := [.int (xs (nI n + 1).toNatClampNeg)]) X hH hS hB (c_X7_kind l G B (xs (nI n + 1).toNatClampNeg) σ σ1 r e1) kw_RL_141 kX7 kx_0 (by decide) rfl hl (Nat.le_of_ble_eq_true rfl) rfl dL_law_1022 (fun H1 locs hH1 hS hk1 => ?_)
  have hM1 := hM.frame (L := layX) (B := B) (Or.inl (Nat.le_refl _)) hk1
  refine lv_aload_n X.1 X.2.1 dL_law_1025 rfl (lv_at hl 2 rfl) ?_
  refine lv_aload_n X.1 X.2.1 dL_law_1026 rfl (lv_at hl 0 rfl) ?_
  refine lv_iload_n X.1 X.2.1 dL_law_1027 rfl (lv_at hl 3 rfl) ?_
  refine lv_iconst (v := 1) X.1 X.2.1 dL_law_1028 (by decide) ?_
  refine lv_iadd X.1 X.2.1 dL_law_1029 ?_
  refine va_sld X.1 X.2.1 hX hbl hbA hS hi1 dL_law_1030 ?_
  refine g_lwi (As := [.int (xs (nI n + 1).toNatClampNeg)]) X hM1 hS (Nat.le_trans hB (Nat.le_add_right _ _)) (c_X8_kind l G (B + 238) (xs (nI n + 1).toNatClampNeg) τ τ1 r e2) kw_RL_144 kX8 km_0 (by decide) rfl hl (Nat.le_of_ble_eq_true rfl) rfl dL_law_1031 (fun H2 locs hM2 hS hk2 => ?_)
  have hH2 := hH1.frame (L := layM) (B := B + 238) (Or.inr (Nat.le_refl _)) hk2
  refine lv_icmp_eq (tgt := 1164) X.1 X.2.1 dL_law_1034 (by decide) (fun _ => ?_) (fun q => absurd rfl q)
  exact kk σ1 τ1 H2 _ hR1 hH2 hM2 hS
set_option maxHeartbeats 4000000 in
set_option maxRecDepth 100000 in
theorem lc_31 {p : Program} {l : Launch} {e : Env} {s : State} {m : MethodId} {below : List Frame} {meth : Method} {c : Code} {G : Gd} {b Ln B : Nat} {xs : Nat → Int32} {R : Sto → Sto → Prop} (X : Cx p s m #[Value.ref b] c cL_law 4 RL G) (hX : va_X b Ln xs s s.heap) (hbl : b < s.heap.size) (hB : s.heap.size ≤ B) {n : Nat} (hn : n + 6 ≤ Ln) (hLn : Ln ≤ 3072) (E : ∀ x1 x2 : Int32, Sim R (f_X7_as x1 x2) (f_X8_as x1 x2)) {σ τ : Sto} (hR : R σ τ) {H : Heap} {locs : List Loc} (hH : HX G layX B σ H) (hM : HX G layM (B + 238) τ H) (hS : va_S (fun q => s.heap.size ≤ q) s.heap H locs) {ls : Array Slot} (hl : lv_has ls 4 [(0, .ref b), (1, .ref (B + 0)), (2, .ref (B + 238 + 0)), (3, .int (nI n))]) {Q : State → Prop} (kk : ∀ (σ1 τ1 : Sto) (H1 : Heap) (locs1 : List Loc), R σ1 τ1 → HX G layX B σ1 H1 → HX G layM (B + 238) τ1 H1 → va_S (fun q => s.heap.size ≤ q) s.heap H1 locs1 → W p l e room_1 s m #[Value.ref b] below meth c H1 locs1 600000 7302250 Q (F0 m 1164 ls [])) : W p l e room_1 s m #[Value.ref b] below meth c H locs 600000 7302250 Q (F0 m 1039 ls []) := by
  obtain ⟨r, σ1, τ1, e1, e2, hR1⟩ := E (xs (nI n + 1).toNatClampNeg) (xs (nI n + 2).toNatClampNeg) σ τ hR
  have hbA : ¬ (fun q : Nat => s.heap.size ≤ q) b := Nat.not_le.mpr hbl
  have hi1 : vp_in (nI n + 1) Ln := by
    rw [show (nI n + 1 : Int32) = nI (n + 1) from nI_add n 1]
    exact vp_in_nI (by omega) (by omega)
  have hi2 : vp_in (nI n + 2) Ln := by
    rw [show (nI n + 2 : Int32) = nI (n + 2) from nI_add n 2]
    exact vp_in_nI (by omega) (by omega)
  refine lv_aload_n X.1 X.2.1 dL_law_1039 rfl (lv_at hl 1 rfl) ?_
  refine lv_aload_n X.1 X.2.1 dL_law_1040 rfl (lv_at hl 0 rfl) ?_
  refine lv_iload_n X.1 X.2.1 dL_law_1041 rfl (lv_at hl 3 rfl) ?_
  refine lv_iconst (v := 1) X.1 X.2.1 dL_law_1042 (by decide) ?_
  refine lv_iadd X.1 X.2.1 dL_law_1043 ?_
  refine va_sld X.1 X.2.1 hX hbl hbA hS hi1 dL_law_1044 ?_
  refine lv_aload_n X.1 X.2.1 dL_law_1045 rfl (lv_at hl 0 rfl) ?_
  refine lv_iload_n X.1 X.2.1 dL_law_1046 rfl (lv_at hl 3 rfl) ?_
  refine lv_iconst (v := 2) X.1 X.2.1 dL_law_1047 (by decide) ?_
  refine lv_iadd X.1 X.2.1 dL_law_1048 ?_
  refine va_sld X.1 X.2.1 hX hbl hbA hS hi2 dL_law_1049 ?_
  refine g_lwi (As := [.int (xs (nI n + 1).toNatClampNeg), .int (xs (nI n + 2).toNatClampNeg)]) X hH hS hB (c_X7_as l G B (xs (nI n + 1).toNatClampNeg) (xs (nI n + 2).toNatClampNeg) σ σ1 r e1) kw_RL_145 kX7 kx_0 (by decide) rfl hl (Nat.le_of_ble_eq_true rfl) rfl dL_law_1050 (fun H1 locs hH1 hS hk1 => ?_)
  have hM1 := hM.frame (L := layX) (B := B) (Or.inl (Nat.le_refl _)) hk1
  refine lv_aload_n X.1 X.2.1 dL_law_1053 rfl (lv_at hl 2 rfl) ?_
  refine lv_aload_n X.1 X.2.1 dL_law_1054 rfl (lv_at hl 0 rfl) ?_
  refine lv_iload_n X.1 X.2.1 dL_law_1055 rfl (lv_at hl 3 rfl) ?_
  refine lv_iconst (v := 1) X.1 X.2.1 dL_law_1056 (by decide) ?_
  refine lv_iadd X.1 X.2.1 dL_law_1057 ?_
  refine va_sld X.1 X.2.1 hX hbl hbA hS hi1 dL_law_1058 ?_
  refine lv_aload_n X.1 X.2.1 dL_law_1059 rfl (lv_at hl 0 rfl) ?_
  refine lv_iload_n X.1 X.2.1 dL_law_1060 rfl (lv_at hl 3 rfl) ?_
  refine lv_iconst (v := 2) X.1 X.2.1 dL_law_1061 (by decide) ?_
  refine lv_iadd X.1 X.2.1 dL_law_1062 ?_
  refine va_sld X.1 X.2.1 hX hbl hbA hS hi2 dL_law_1063 ?_
  refine g_lwi (As := [.int (xs (nI n + 1).toNatClampNeg), .int (xs (nI n + 2).toNatClampNeg)]) X hM1 hS (Nat.le_trans hB (Nat.le_add_right _ _)) (c_X8_as l G (B + 238) (xs (nI n + 1).toNatClampNeg) (xs (nI n + 2).toNatClampNeg) τ τ1 r e2) kw_RL_148 kX8 km_0 (by decide) rfl hl (Nat.le_of_ble_eq_true rfl) rfl dL_law_1064 (fun H2 locs hM2 hS hk2 => ?_)
  have hH2 := hH1.frame (L := layM) (B := B + 238) (Or.inr (Nat.le_refl _)) hk2
  refine lv_icmp_eq (tgt := 1164) X.1 X.2.1 dL_law_1067 (by decide) (fun _ => ?_) (fun q => absurd rfl q)
  exact kk σ1 τ1 H2 _ hR1 hH2 hM2 hS
set_option maxHeartbeats 4000000 in
set_option maxRecDepth 100000 in
theorem lc_32 {p : Program} {l : Launch} {e : Env} {s : State} {m : MethodId} {below : List Frame} {meth : Method} {c : Code} {G : Gd} {b Ln B : Nat} {xs : Nat → Int32} {R : Sto → Sto → Prop} (X : Cx p s m #[Value.ref b] c cL_law 4 RL G) (hX : va_X b Ln xs s s.heap) (hbl : b < s.heap.size) (hB : s.heap.size ≤ B) {n : Nat} (hn : n + 6 ≤ Ln) (hLn : Ln ≤ 3072) (E : ∀ x1 x2 : Int32, Sim R (f_X7_ask x1 x2) (f_X8_ask x1 x2)) {σ τ : Sto} (hR : R σ τ) {H : Heap} {locs : List Loc} (hH : HX G layX B σ H) (hM : HX G layM (B + 238) τ H) (hS : va_S (fun q => s.heap.size ≤ q) s.heap H locs) {ls : Array Slot} (hl : lv_has ls 4 [(0, .ref b), (1, .ref (B + 0)), (2, .ref (B + 238 + 0)), (3, .int (nI n))]) {Q : State → Prop} (kk : ∀ (σ1 τ1 : Sto) (H1 : Heap) (locs1 : List Loc), R σ1 τ1 → HX G layX B σ1 H1 → HX G layM (B + 238) τ1 H1 → va_S (fun q => s.heap.size ≤ q) s.heap H1 locs1 → W p l e room_1 s m #[Value.ref b] below meth c H1 locs1 600000 7302250 Q (F0 m 1164 ls [])) : W p l e room_1 s m #[Value.ref b] below meth c H locs 600000 7302250 Q (F0 m 1072 ls []) := by
  obtain ⟨r, σ1, τ1, e1, e2, hR1⟩ := E (xs (nI n + 1).toNatClampNeg) (xs (nI n + 2).toNatClampNeg) σ τ hR
  have hbA : ¬ (fun q : Nat => s.heap.size ≤ q) b := Nat.not_le.mpr hbl
  have hi1 : vp_in (nI n + 1) Ln := by
    rw [show (nI n + 1 : Int32) = nI (n + 1) from nI_add n 1]
    exact vp_in_nI (by omega) (by omega)
  have hi2 : vp_in (nI n + 2) Ln := by
    rw [show (nI n + 2 : Int32) = nI (n + 2) from nI_add n 2]
    exact vp_in_nI (by omega) (by omega)
  refine lv_aload_n X.1 X.2.1 dL_law_1072 rfl (lv_at hl 1 rfl) ?_
  refine lv_aload_n X.1 X.2.1 dL_law_1073 rfl (lv_at hl 0 rfl) ?_
  refine lv_iload_n X.1 X.2.1 dL_law_1074 rfl (lv_at hl 3 rfl) ?_
  refine lv_iconst (v := 1) X.1 X.2.1 dL_law_1075 (by decide) ?_
  refine lv_iadd X.1 X.2.1 dL_law_1076 ?_
  refine va_sld X.1 X.2.1 hX hbl hbA hS hi1 dL_law_1077 ?_
  refine lv_aload_n X.1 X.2.1 dL_law_1078 rfl (lv_at hl 0 rfl) ?_
  refine lv_iload_n X.1 X.2.1 dL_law_1079 rfl (lv_at hl 3 rfl) ?_
  refine lv_iconst (v := 2) X.1 X.2.1 dL_law_1080 (by decide) ?_
  refine lv_iadd X.1 X.2.1 dL_law_1081 ?_
  refine va_sld X.1 X.2.1 hX hbl hbA hS hi2 dL_law_1082 ?_
  refine g_lwi (As := [.int (xs (nI n + 1).toNatClampNeg), .int (xs (nI n + 2).toNatClampNeg)]) X hH hS hB (c_X7_ask l G B (xs (nI n + 1).toNatClampNeg) (xs (nI n + 2).toNatClampNeg) σ σ1 r e1) kw_RL_149 kX7 kx_0 (by decide) rfl hl (Nat.le_of_ble_eq_true rfl) rfl dL_law_1083 (fun H1 locs hH1 hS hk1 => ?_)
  have hM1 := hM.frame (L := layX) (B := B) (Or.inl (Nat.le_refl _)) hk1
  refine lv_aload_n X.1 X.2.1 dL_law_1086 rfl (lv_at hl 2 rfl) ?_
  refine lv_aload_n X.1 X.2.1 dL_law_1087 rfl (lv_at hl 0 rfl) ?_
  refine lv_iload_n X.1 X.2.1 dL_law_1088 rfl (lv_at hl 3 rfl) ?_
  refine lv_iconst (v := 1) X.1 X.2.1 dL_law_1089 (by decide) ?_
  refine lv_iadd X.1 X.2.1 dL_law_1090 ?_
  refine va_sld X.1 X.2.1 hX hbl hbA hS hi1 dL_law_1091 ?_
  refine lv_aload_n X.1 X.2.1 dL_law_1092 rfl (lv_at hl 0 rfl) ?_
  refine lv_iload_n X.1 X.2.1 dL_law_1093 rfl (lv_at hl 3 rfl) ?_
  refine lv_iconst (v := 2) X.1 X.2.1 dL_law_1094 (by decide) ?_
  refine lv_iadd X.1 X.2.1 dL_law_1095 ?_
  refine va_sld X.1 X.2.1 hX hbl hbA hS hi2 dL_law_1096 ?_
  refine g_lwi (As := [.int (xs (nI n + 1).toNatClampNeg), .int (xs (nI n + 2).toNatClampNeg)]) X hM1 hS (Nat.le_trans hB (Nat.le_add_right _ _)) (c_X8_ask l G (B + 238) (xs (nI n + 1).toNatClampNeg) (xs (nI n + 2).toNatClampNeg) τ τ1 r e2) kw_RL_152 kX8 km_0 (by decide) rfl hl (Nat.le_of_ble_eq_true rfl) rfl dL_law_1097 (fun H2 locs hM2 hS hk2 => ?_)
  have hH2 := hH1.frame (L := layM) (B := B + 238) (Or.inr (Nat.le_refl _)) hk2
  refine lv_icmp_eq (tgt := 1164) X.1 X.2.1 dL_law_1100 (by decide) (fun _ => ?_) (fun q => absurd rfl q)
  exact kk σ1 τ1 H2 _ hR1 hH2 hM2 hS
set_option maxHeartbeats 4000000 in
set_option maxRecDepth 100000 in
theorem lc_33 {p : Program} {l : Launch} {e : Env} {s : State} {m : MethodId} {below : List Frame} {meth : Method} {c : Code} {G : Gd} {b Ln B : Nat} {xs : Nat → Int32} {R : Sto → Sto → Prop} (X : Cx p s m #[Value.ref b] c cL_law 4 RL G) (hX : va_X b Ln xs s s.heap) (hbl : b < s.heap.size) (hB : s.heap.size ≤ B) {n : Nat} (hn : n + 6 ≤ Ln) (hLn : Ln ≤ 3072) (E : ∀ x1 : Int32, Sim R (f_X7_trace x1) (f_X8_trace x1)) {σ τ : Sto} (hR : R σ τ) {H : Heap} {locs : List Loc} (hH : HX G layX B σ H) (hM : HX G layM (B + 238) τ H) (hS : va_S (fun q => s.heap.size ≤ q) s.heap H locs) {ls : Array Slot} (hl : lv_has ls 4 [(0, .ref b), (1, .ref (B + 0)), (2, .ref (B + 238 + 0)), (3, .int (nI n))]) {Q : State → Prop} (kk : ∀ (σ1 τ1 : Sto) (H1 : Heap) (locs1 : List Loc), R σ1 τ1 → HX G layX B σ1 H1 → HX G layM (B + 238) τ1 H1 → va_S (fun q => s.heap.size ≤ q) s.heap H1 locs1 → W p l e room_1 s m #[Value.ref b] below meth c H1 locs1 600000 7302250 Q (F0 m 1164 ls [])) : W p l e room_1 s m #[Value.ref b] below meth c H locs 600000 7302250 Q (F0 m 1105 ls []) := by
  obtain ⟨r, σ1, τ1, e1, e2, hR1⟩ := E (xs (nI n + 1).toNatClampNeg) σ τ hR
  have hbA : ¬ (fun q : Nat => s.heap.size ≤ q) b := Nat.not_le.mpr hbl
  have hi1 : vp_in (nI n + 1) Ln := by
    rw [show (nI n + 1 : Int32) = nI (n + 1) from nI_add n 1]
    exact vp_in_nI (by omega) (by omega)
  refine lv_aload_n X.1 X.2.1 dL_law_1105 rfl (lv_at hl 1 rfl) ?_
  refine lv_aload_n X.1 X.2.1 dL_law_1106 rfl (lv_at hl 0 rfl) ?_
  refine lv_iload_n X.1 X.2.1 dL_law_1107 rfl (lv_at hl 3 rfl) ?_
  refine lv_iconst (v := 1) X.1 X.2.1 dL_law_1108 (by decide) ?_
  refine lv_iadd X.1 X.2.1 dL_law_1109 ?_
  refine va_sld X.1 X.2.1 hX hbl hbA hS hi1 dL_law_1110 ?_
  refine g_lwi (As := [.int (xs (nI n + 1).toNatClampNeg)]) X hH hS hB (c_X7_trace l G B (xs (nI n + 1).toNatClampNeg) σ σ1 r e1) kw_RL_153 kX7 kx_0 (by decide) rfl hl (Nat.le_of_ble_eq_true rfl) rfl dL_law_1111 (fun H1 locs hH1 hS hk1 => ?_)
  have hM1 := hM.frame (L := layX) (B := B) (Or.inl (Nat.le_refl _)) hk1
  refine lv_aload_n X.1 X.2.1 dL_law_1114 rfl (lv_at hl 2 rfl) ?_
  refine lv_aload_n X.1 X.2.1 dL_law_1115 rfl (lv_at hl 0 rfl) ?_
  refine lv_iload_n X.1 X.2.1 dL_law_1116 rfl (lv_at hl 3 rfl) ?_
  refine lv_iconst (v := 1) X.1 X.2.1 dL_law_1117 (by decide) ?_
  refine lv_iadd X.1 X.2.1 dL_law_1118 ?_
  refine va_sld X.1 X.2.1 hX hbl hbA hS hi1 dL_law_1119 ?_
  refine g_lwi (As := [.int (xs (nI n + 1).toNatClampNeg)]) X hM1 hS (Nat.le_trans hB (Nat.le_add_right _ _)) (c_X8_trace l G (B + 238) (xs (nI n + 1).toNatClampNeg) τ τ1 r e2) kw_RL_156 kX8 km_0 (by decide) rfl hl (Nat.le_of_ble_eq_true rfl) rfl dL_law_1120 (fun H2 locs hM2 hS hk2 => ?_)
  have hH2 := hH1.frame (L := layM) (B := B + 238) (Or.inr (Nat.le_refl _)) hk2
  refine lv_icmp_eq (tgt := 1164) X.1 X.2.1 dL_law_1123 (by decide) (fun _ => ?_) (fun q => absurd rfl q)
  exact kk σ1 τ1 H2 _ hR1 hH2 hM2 hS
set_option maxHeartbeats 4000000 in
set_option maxRecDepth 100000 in
theorem lc_34 {p : Program} {l : Launch} {e : Env} {s : State} {m : MethodId} {below : List Frame} {meth : Method} {c : Code} {G : Gd} {b Ln B : Nat} {xs : Nat → Int32} {R : Sto → Sto → Prop} (X : Cx p s m #[Value.ref b] c cL_law 4 RL G) (hX : va_X b Ln xs s s.heap) (hbl : b < s.heap.size) (hB : s.heap.size ≤ B) {n : Nat} (hn : n + 6 ≤ Ln) (hLn : Ln ≤ 3072) (E : ∀ x1 : Int32, Sim R (f_X7_count x1) (f_X8_count x1)) {σ τ : Sto} (hR : R σ τ) {H : Heap} {locs : List Loc} (hH : HX G layX B σ H) (hM : HX G layM (B + 238) τ H) (hS : va_S (fun q => s.heap.size ≤ q) s.heap H locs) {ls : Array Slot} (hl : lv_has ls 4 [(0, .ref b), (1, .ref (B + 0)), (2, .ref (B + 238 + 0)), (3, .int (nI n))]) {Q : State → Prop} (kk : ∀ (σ1 τ1 : Sto) (H1 : Heap) (locs1 : List Loc), R σ1 τ1 → HX G layX B σ1 H1 → HX G layM (B + 238) τ1 H1 → va_S (fun q => s.heap.size ≤ q) s.heap H1 locs1 → W p l e room_1 s m #[Value.ref b] below meth c H1 locs1 600000 7302250 Q (F0 m 1164 ls [])) : W p l e room_1 s m #[Value.ref b] below meth c H locs 600000 7302250 Q (F0 m 1128 ls []) := by
  obtain ⟨r, σ1, τ1, e1, e2, hR1⟩ := E (xs (nI n + 1).toNatClampNeg) σ τ hR
  have hbA : ¬ (fun q : Nat => s.heap.size ≤ q) b := Nat.not_le.mpr hbl
  have hi1 : vp_in (nI n + 1) Ln := by
    rw [show (nI n + 1 : Int32) = nI (n + 1) from nI_add n 1]
    exact vp_in_nI (by omega) (by omega)
  refine lv_aload_n X.1 X.2.1 dL_law_1128 rfl (lv_at hl 1 rfl) ?_
  refine lv_aload_n X.1 X.2.1 dL_law_1129 rfl (lv_at hl 0 rfl) ?_
  refine lv_iload_n X.1 X.2.1 dL_law_1130 rfl (lv_at hl 3 rfl) ?_
  refine lv_iconst (v := 1) X.1 X.2.1 dL_law_1131 (by decide) ?_
  refine lv_iadd X.1 X.2.1 dL_law_1132 ?_
  refine va_sld X.1 X.2.1 hX hbl hbA hS hi1 dL_law_1133 ?_
  refine g_lwi (As := [.int (xs (nI n + 1).toNatClampNeg)]) X hH hS hB (c_X7_count l G B (xs (nI n + 1).toNatClampNeg) σ σ1 r e1) kw_RL_157 kX7 kx_0 (by decide) rfl hl (Nat.le_of_ble_eq_true rfl) rfl dL_law_1134 (fun H1 locs hH1 hS hk1 => ?_)
  have hM1 := hM.frame (L := layX) (B := B) (Or.inl (Nat.le_refl _)) hk1
  refine lv_aload_n X.1 X.2.1 dL_law_1137 rfl (lv_at hl 2 rfl) ?_
  refine lv_aload_n X.1 X.2.1 dL_law_1138 rfl (lv_at hl 0 rfl) ?_
  refine lv_iload_n X.1 X.2.1 dL_law_1139 rfl (lv_at hl 3 rfl) ?_
  refine lv_iconst (v := 1) X.1 X.2.1 dL_law_1140 (by decide) ?_
  refine lv_iadd X.1 X.2.1 dL_law_1141 ?_
  refine va_sld X.1 X.2.1 hX hbl hbA hS hi1 dL_law_1142 ?_
  refine g_lwi (As := [.int (xs (nI n + 1).toNatClampNeg)]) X hM1 hS (Nat.le_trans hB (Nat.le_add_right _ _)) (c_X8_count l G (B + 238) (xs (nI n + 1).toNatClampNeg) τ τ1 r e2) kw_RL_160 kX8 km_0 (by decide) rfl hl (Nat.le_of_ble_eq_true rfl) rfl dL_law_1143 (fun H2 locs hM2 hS hk2 => ?_)
  have hH2 := hH1.frame (L := layM) (B := B + 238) (Or.inr (Nat.le_refl _)) hk2
  refine lv_icmp_eq (tgt := 1164) X.1 X.2.1 dL_law_1146 (by decide) (fun _ => ?_) (fun q => absurd rfl q)
  exact kk σ1 τ1 H2 _ hR1 hH2 hM2 hS
set_option maxHeartbeats 4000000 in
set_option maxRecDepth 100000 in
theorem lc_35 {p : Program} {l : Launch} {e : Env} {s : State} {m : MethodId} {below : List Frame} {meth : Method} {c : Code} {G : Gd} {b Ln B : Nat} {xs : Nat → Int32} {R : Sto → Sto → Prop} (X : Cx p s m #[Value.ref b] c cL_law 4 RL G) (hX : va_X b Ln xs s s.heap) (hbl : b < s.heap.size) (hB : s.heap.size ≤ B) {n : Nat} (hn : n + 6 ≤ Ln) (hLn : Ln ≤ 3072) (E : Sim R (f_X7_status) (f_X8_status)) {σ τ : Sto} (hR : R σ τ) {H : Heap} {locs : List Loc} (hH : HX G layX B σ H) (hM : HX G layM (B + 238) τ H) (hS : va_S (fun q => s.heap.size ≤ q) s.heap H locs) {ls : Array Slot} (hl : lv_has ls 4 [(0, .ref b), (1, .ref (B + 0)), (2, .ref (B + 238 + 0)), (3, .int (nI n))]) {Q : State → Prop} (kk : ∀ (σ1 τ1 : Sto) (H1 : Heap) (locs1 : List Loc), R σ1 τ1 → HX G layX B σ1 H1 → HX G layM (B + 238) τ1 H1 → va_S (fun q => s.heap.size ≤ q) s.heap H1 locs1 → W p l e room_1 s m #[Value.ref b] below meth c H1 locs1 600000 7302250 Q (F0 m 1164 ls [])) : W p l e room_1 s m #[Value.ref b] below meth c H locs 600000 7302250 Q (F0 m 1151 ls []) := by
  obtain ⟨r, σ1, τ1, e1, e2, hR1⟩ := E σ τ hR
  have hbA : ¬ (fun q : Nat => s.heap.size ≤ q) b := Nat.not_le.mpr hbl
  refine lv_aload_n X.1 X.2.1 dL_law_1151 rfl (lv_at hl 1 rfl) ?_
  refine g_lwi (As := []) X hH hS hB (c_X7_status l G B σ σ1 r e1) kw_RL_161 kX7 kx_0 (by decide) rfl hl (Nat.le_of_ble_eq_true rfl) rfl dL_law_1152 (fun H1 locs hH1 hS hk1 => ?_)
  have hM1 := hM.frame (L := layX) (B := B) (Or.inl (Nat.le_refl _)) hk1
  refine lv_aload_n X.1 X.2.1 dL_law_1155 rfl (lv_at hl 2 rfl) ?_
  refine g_lwi (As := []) X hM1 hS (Nat.le_trans hB (Nat.le_add_right _ _)) (c_X8_status l G (B + 238) τ τ1 r e2) kw_RL_164 kX8 km_0 (by decide) rfl hl (Nat.le_of_ble_eq_true rfl) rfl dL_law_1156 (fun H2 locs hM2 hS hk2 => ?_)
  have hH2 := hH1.frame (L := layM) (B := B + 238) (Or.inr (Nat.le_refl _)) hk2
  refine lv_icmp_eq (tgt := 1164) X.1 X.2.1 dL_law_1159 (by decide) (fun _ => ?_) (fun q => absurd rfl q)
  exact kk σ1 τ1 H2 _ hR1 hH2 hM2 hS
/-- all the calls of the class and of its reference answer alike over a relation of their stores -/
def EqAll (R : Sto → Sto → Prop) : Prop :=
  (∀ x1 x2 x3 : Int32, Sim R (f_X7_row x1 x2 x3) (f_X8_row x1 x2 x3)) ∧
  (∀ x1 x2 x3 : Int32, Sim R (f_X7_set x1 x2 x3) (f_X8_set x1 x2 x3)) ∧
  (∀ x1 x2 x3 x4 x5 : Int32, Sim R (f_X7_copy x1 x2 x3 x4 x5) (f_X8_copy x1 x2 x3 x4 x5)) ∧
  (∀ x1 : Int32, Sim R (f_X7_drop x1) (f_X8_drop x1)) ∧
  (∀ x1 : Int32, Sim R (f_X7_feed x1) (f_X8_feed x1)) ∧
  (Sim R (f_X7_formula) (f_X8_formula)) ∧
  (Sim R (f_X7_fault) (f_X8_fault)) ∧
  (∀ x1 x2 : Int32, Sim R (f_X7_plus x1 x2) (f_X8_plus x1 x2)) ∧
  (∀ x1 x2 : Int32, Sim R (f_X7_times x1 x2) (f_X8_times x1 x2)) ∧
  (∀ x1 x2 : Int32, Sim R (f_X7_split x1 x2) (f_X8_split x1 x2)) ∧
  (∀ x1 : Int32, Sim R (f_X7_saturate x1) (f_X8_saturate x1)) ∧
  (∀ x1 x2 : Int32, Sim R (f_X7_weaken x1 x2) (f_X8_weaken x1 x2)) ∧
  (∀ x1 x2 : Int32, Sim R (f_X7_axiom x1 x2) (f_X8_axiom x1 x2)) ∧
  (Sim R (f_X7_claim) (f_X8_claim)) ∧
  (∀ x1 : Int32, Sim R (f_X7_witness x1) (f_X8_witness x1)) ∧
  (∀ x1 : Int32, Sim R (f_X7_solution x1) (f_X8_solution x1)) ∧
  (∀ x1 : Int32, Sim R (f_X7_remove x1) (f_X8_remove x1)) ∧
  (Sim R (f_X7_undo) (f_X8_undo)) ∧
  (∀ x1 : Int32, Sim R (f_X7_degree x1) (f_X8_degree x1)) ∧
  (∀ x1 x2 : Int32, Sim R (f_X7_coefficient x1 x2) (f_X8_coefficient x1 x2)) ∧
  (∀ x1 : Int32, Sim R (f_X7_sum x1) (f_X8_sum x1)) ∧
  (∀ x1 x2 x3 : Int32, Sim R (f_X7_slack x1 x2 x3) (f_X8_slack x1 x2 x3)) ∧
  (∀ x1 x2 x3 : Int32, Sim R (f_X7_forced x1 x2 x3) (f_X8_forced x1 x2 x3)) ∧
  (∀ x1 : Int32, Sim R (f_X7_solutions x1) (f_X8_solutions x1)) ∧
  (∀ x1 : Int32, Sim R (f_X7_holds x1) (f_X8_holds x1)) ∧
  (∀ x1 : Int32, Sim R (f_X7_follows x1) (f_X8_follows x1)) ∧
  (Sim R (f_X7_verdict) (f_X8_verdict)) ∧
  (∀ x1 : Int32, Sim R (f_X7_price x1) (f_X8_price x1)) ∧
  (∀ x1 : Int32, Sim R (f_X7_image x1) (f_X8_image x1)) ∧
  (∀ x1 : Int32, Sim R (f_X7_restore x1) (f_X8_restore x1)) ∧
  (∀ x1 : Int32, Sim R (f_X7_kind x1) (f_X8_kind x1)) ∧
  (∀ x1 x2 : Int32, Sim R (f_X7_as x1 x2) (f_X8_as x1 x2)) ∧
  (∀ x1 x2 : Int32, Sim R (f_X7_ask x1 x2) (f_X8_ask x1 x2)) ∧
  (∀ x1 : Int32, Sim R (f_X7_trace x1) (f_X8_trace x1)) ∧
  (∀ x1 : Int32, Sim R (f_X7_count x1) (f_X8_count x1)) ∧
  (Sim R (f_X7_status) (f_X8_status))
theorem law_cmp {n L : Nat} (hn : n < 1000000) (hL : L < 1000000) : (Int32.ofNat L - 6 < nI n) ↔ L < n + 6 := by
  have h1 : (nI L - nI 6).toInt = (L : Int) - 6 := pk_sub_toInt (a := L) (b := 6) (by omega) (by omega)
  have h2 : (nI n).toInt = (n : Int) := nI_toInt (by omega)
  show nI L - nI 6 < nI n ↔ _
  rw [Int32.lt_iff_toInt_lt, h1, h2]
  omega
theorem law_gt {n L : Nat} (h : L < n + 6) (hn : n < 1000000) (hL : L < 1000000) : Int32.ofNat L - 6 < nI n := (law_cmp hn hL).mpr h
theorem law_ngt {n L : Nat} (h : n + 6 ≤ L) (hL : L < 1000000) : ¬ Int32.ofNat L - 6 < nI n := fun q => by
  have := (law_cmp (by omega) hL).mp q
  omega
set_option maxHeartbeats 4000000 in
set_option maxRecDepth 100000 in
theorem law_loop {p : Program} {l : Launch} {e : Env} {s : State} {m : MethodId} {below : List Frame} {meth : Method} {c : Code} {G : Gd} {b Ln B : Nat} {xs : Nat → Int32} {R : Sto → Sto → Prop} (X : Cx p s m #[Value.ref b] c cL_law 4 RL G) (hr : meth.sig.returnType = ret) (hlocks : meth.locks = false) (hX : va_X b Ln xs s s.heap) (hbl : b < s.heap.size) (hB : s.heap.size ≤ B) (hLn : Ln ≤ 3072) (E : EqAll R) :
    ∀ (k n : Nat), Ln + 6 ≤ n + k → n ≤ Ln + 6 → ∀ (σ τ : Sto) (H : Heap) (locs : List Loc), R σ τ → HX G layX B σ H → HX G layM (B + 238) τ H → va_S (fun q => s.heap.size ≤ q) s.heap H locs → ∀ (ls : Array Slot), lv_has ls 4 [(0, .ref b), (1, .ref (B + 0)), (2, .ref (B + 238 + 0)), (3, .int (nI n))] → W p l e room_1 s m #[Value.ref b] below meth c H locs 600000 7302250 (lw_Z below #[Value.ref b] s) (F0 m 18 ls []) := by
  have hbA : ¬ (fun q : Nat => s.heap.size ≤ q) b := Nat.not_le.mpr hbl
  have hx := X.1
  have hb := X.2.1
  intro k
  induction k with
  | zero =>
    intro n h1 h2 σ τ H locs hR hH hM hS ls hl
    have en : n = Ln + 6 := by omega
    subst en
    refine lv_iload_n hx hb dL_law_18 rfl (lv_at hl 3 rfl) ?_
    refine lv_aload_n hx hb dL_law_19 rfl (lv_at hl 0 rfl) ?_
    refine va_slen hx hb hX hbl hbA hS dL_law_20 ?_
    refine lv_bipush (v := 6) hx hb dL_law_21 (by decide) ?_
    refine lv_isub hx hb dL_law_23 ?_
    refine lv_icmp_gt (tgt := 1170) hx hb dL_law_24 (by decide) (fun _ => ?_) (fun q => absurd (law_gt (by omega) (by omega) (by omega)) q)
    refine lv_iconst (v := 1) hx hb dL_law_1170 (by decide) ?_
    refine va_forget (fun q hq => hS.2.2 q hq) ?_
    exact lw_ret hx hb hr hlocks dL_law_1171
  | succ k ih =>
    intro n h1 h2 σ τ H locs hR hH hM hS ls hl
    refine lv_iload_n hx hb dL_law_18 rfl (lv_at hl 3 rfl) ?_
    refine lv_aload_n hx hb dL_law_19 rfl (lv_at hl 0 rfl) ?_
    refine va_slen hx hb hX hbl hbA hS dL_law_20 ?_
    refine lv_bipush (v := 6) hx hb dL_law_21 (by decide) ?_
    refine lv_isub hx hb dL_law_23 ?_
    by_cases hn : n + 6 ≤ Ln
    · refine lv_icmp_gt (tgt := 1170) hx hb dL_law_24 (by decide) (fun q => absurd q (law_ngt hn (by omega))) (fun _ => ?_)
      have kk : ∀ (σ1 τ1 : Sto) (H1 : Heap) (locs1 : List Loc), R σ1 τ1 → HX G layX B σ1 H1 → HX G layM (B + 238) τ1 H1 → va_S (fun q => s.heap.size ≤ q) s.heap H1 locs1 → W p l e room_1 s m #[Value.ref b] below meth c H1 locs1 600000 7302250 (lw_Z below #[Value.ref b] s) (F0 m 1164 ls []) := by
        intro σ1 τ1 H1 locs1 hR1 hH1 hM1 hS1
        refine lv_iinc (v := nI (n + 6)) (lv' := [(3, .int (nI (n + 6))), (0, .ref b), (1, .ref (B + 0)), (2, .ref (B + 238 + 0))]) hx hb dL_law_1164 hl (k := 3) rfl (nI_add n 6) (by decide) rfl (fun ls hl => ?_)
        refine lv_goto (tgt := 18) hx hb dL_law_1167 (by decide) ?_
        exact ih (n + 6) (by omega) (by omega) σ1 τ1 H1 locs1 hR1 hH1 hM1 hS1 ls (lv_sub hl [1, 2, 3, 0] rfl)
      refine lv_aload_n hx hb dL_law_27 rfl (lv_at hl 0 rfl) ?_
      refine lv_iload_n hx hb dL_law_28 rfl (lv_at hl 3 rfl) ?_
      refine va_sld hx hb hX hbl hbA hS (vp_in_nI (by omega) (by omega)) dL_law_29 ?_
      refine lv_bipush (v := 63) hx hb dL_law_30 (by decide) ?_
      refine lv_iand hx hb dL_law_32 ?_
      refine lv_topi (fun z ez => ?_)
      by_cases q0 : z = 0
      · refine lv_tableIn (tgt := 192) (off := 159) hx hb dL_law_33 (by rw [q0]; decide) (by rw [q0]; decide) (by rw [q0]; decide) (by decide) ?_
        exact lc_0 X hX hbl hB hn hLn E.1 hR hH hM hS hl kk
      by_cases q1 : z = 1
      · refine lv_tableIn (tgt := 235) (off := 202) hx hb dL_law_33 (by rw [q1]; decide) (by rw [q1]; decide) (by rw [q1]; decide) (by decide) ?_
        exact lc_1 X hX hbl hB hn hLn E.2.1 hR hH hM hS hl kk
      by_cases q2 : z = 2
      · refine lv_tableIn (tgt := 278) (off := 245) hx hb dL_law_33 (by rw [q2]; decide) (by rw [q2]; decide) (by rw [q2]; decide) (by decide) ?_
        exact lc_2 X hX hbl hB hn hLn E.2.2.1 hR hH hM hS hl kk
      by_cases q3 : z = 3
      · refine lv_tableIn (tgt := 341) (off := 308) hx hb dL_law_33 (by rw [q3]; decide) (by rw [q3]; decide) (by rw [q3]; decide) (by decide) ?_
        exact lc_3 X hX hbl hB hn hLn E.2.2.2.1 hR hH hM hS hl kk
      by_cases q4 : z = 4
      · refine lv_tableIn (tgt := 364) (off := 331) hx hb dL_law_33 (by rw [q4]; decide) (by rw [q4]; decide) (by rw [q4]; decide) (by decide) ?_
        exact lc_4 X hX hbl hB hn hLn E.2.2.2.2.1 hR hH hM hS hl kk
      by_cases q5 : z = 5
      · refine lv_tableIn (tgt := 387) (off := 354) hx hb dL_law_33 (by rw [q5]; decide) (by rw [q5]; decide) (by rw [q5]; decide) (by decide) ?_
        exact lc_5 X hX hbl hB hn hLn E.2.2.2.2.2.1 hR hH hM hS hl kk
      by_cases q6 : z = 6
      · refine lv_tableIn (tgt := 400) (off := 367) hx hb dL_law_33 (by rw [q6]; decide) (by rw [q6]; decide) (by rw [q6]; decide) (by decide) ?_
        exact lc_6 X hX hbl hB hn hLn E.2.2.2.2.2.2.1 hR hH hM hS hl kk
      by_cases q7 : z = 7
      · refine lv_tableIn (tgt := 413) (off := 380) hx hb dL_law_33 (by rw [q7]; decide) (by rw [q7]; decide) (by rw [q7]; decide) (by decide) ?_
        exact lc_7 X hX hbl hB hn hLn E.2.2.2.2.2.2.2.1 hR hH hM hS hl kk
      by_cases q8 : z = 8
      · refine lv_tableIn (tgt := 446) (off := 413) hx hb dL_law_33 (by rw [q8]; decide) (by rw [q8]; decide) (by rw [q8]; decide) (by decide) ?_
        exact lc_8 X hX hbl hB hn hLn E.2.2.2.2.2.2.2.2.1 hR hH hM hS hl kk
      by_cases q9 : z = 9
      · refine lv_tableIn (tgt := 479) (off := 446) hx hb dL_law_33 (by rw [q9]; decide) (by rw [q9]; decide) (by rw [q9]; decide) (by decide) ?_
        exact lc_9 X hX hbl hB hn hLn E.2.2.2.2.2.2.2.2.2.1 hR hH hM hS hl kk
      by_cases q10 : z = 10
      · refine lv_tableIn (tgt := 512) (off := 479) hx hb dL_law_33 (by rw [q10]; decide) (by rw [q10]; decide) (by rw [q10]; decide) (by decide) ?_
        exact lc_10 X hX hbl hB hn hLn E.2.2.2.2.2.2.2.2.2.2.1 hR hH hM hS hl kk
      by_cases q11 : z = 11
      · refine lv_tableIn (tgt := 535) (off := 502) hx hb dL_law_33 (by rw [q11]; decide) (by rw [q11]; decide) (by rw [q11]; decide) (by decide) ?_
        exact lc_11 X hX hbl hB hn hLn E.2.2.2.2.2.2.2.2.2.2.2.1 hR hH hM hS hl kk
      by_cases q12 : z = 12
      · refine lv_tableIn (tgt := 568) (off := 535) hx hb dL_law_33 (by rw [q12]; decide) (by rw [q12]; decide) (by rw [q12]; decide) (by decide) ?_
        exact lc_12 X hX hbl hB hn hLn E.2.2.2.2.2.2.2.2.2.2.2.2.1 hR hH hM hS hl kk
      by_cases q13 : z = 13
      · refine lv_tableIn (tgt := 601) (off := 568) hx hb dL_law_33 (by rw [q13]; decide) (by rw [q13]; decide) (by rw [q13]; decide) (by decide) ?_
        exact lc_13 X hX hbl hB hn hLn E.2.2.2.2.2.2.2.2.2.2.2.2.2.1 hR hH hM hS hl kk
      by_cases q14 : z = 14
      · refine lv_tableIn (tgt := 614) (off := 581) hx hb dL_law_33 (by rw [q14]; decide) (by rw [q14]; decide) (by rw [q14]; decide) (by decide) ?_
        exact lc_14 X hX hbl hB hn hLn E.2.2.2.2.2.2.2.2.2.2.2.2.2.2.1 hR hH hM hS hl kk
      by_cases q15 : z = 15
      · refine lv_tableIn (tgt := 637) (off := 604) hx hb dL_law_33 (by rw [q15]; decide) (by rw [q15]; decide) (by rw [q15]; decide) (by decide) ?_
        exact lc_15 X hX hbl hB hn hLn E.2.2.2.2.2.2.2.2.2.2.2.2.2.2.2.1 hR hH hM hS hl kk
      by_cases q16 : z = 16
      · refine lv_tableIn (tgt := 660) (off := 627) hx hb dL_law_33 (by rw [q16]; decide) (by rw [q16]; decide) (by rw [q16]; decide) (by decide) ?_
        exact lc_16 X hX hbl hB hn hLn E.2.2.2.2.2.2.2.2.2.2.2.2.2.2.2.2.1 hR hH hM hS hl kk
      by_cases q17 : z = 17
      · refine lv_tableIn (tgt := 683) (off := 650) hx hb dL_law_33 (by rw [q17]; decide) (by rw [q17]; decide) (by rw [q17]; decide) (by decide) ?_
        exact lc_17 X hX hbl hB hn hLn E.2.2.2.2.2.2.2.2.2.2.2.2.2.2.2.2.2.1 hR hH hM hS hl kk
      by_cases q18 : z = 18
      · refine lv_tableIn (tgt := 696) (off := 663) hx hb dL_law_33 (by rw [q18]; decide) (by rw [q18]; decide) (by rw [q18]; decide) (by decide) ?_
        exact lc_18 X hX hbl hB hn hLn E.2.2.2.2.2.2.2.2.2.2.2.2.2.2.2.2.2.2.1 hR hH hM hS hl kk
      by_cases q19 : z = 19
      · refine lv_tableIn (tgt := 720) (off := 687) hx hb dL_law_33 (by rw [q19]; decide) (by rw [q19]; decide) (by rw [q19]; decide) (by decide) ?_
        exact lc_19 X hX hbl hB hn hLn E.2.2.2.2.2.2.2.2.2.2.2.2.2.2.2.2.2.2.2.1 hR hH hM hS hl kk
      by_cases q20 : z = 20
      · refine lv_tableIn (tgt := 754) (off := 721) hx hb dL_law_33 (by rw [q20]; decide) (by rw [q20]; decide) (by rw [q20]; decide) (by decide) ?_
        exact lc_20 X hX hbl hB hn hLn E.2.2.2.2.2.2.2.2.2.2.2.2.2.2.2.2.2.2.2.2.1 hR hH hM hS hl kk
      by_cases q21 : z = 21
      · refine lv_tableIn (tgt := 778) (off := 745) hx hb dL_law_33 (by rw [q21]; decide) (by rw [q21]; decide) (by rw [q21]; decide) (by decide) ?_
        exact lc_21 X hX hbl hB hn hLn E.2.2.2.2.2.2.2.2.2.2.2.2.2.2.2.2.2.2.2.2.2.1 hR hH hM hS hl kk
      by_cases q22 : z = 22
      · refine lv_tableIn (tgt := 822) (off := 789) hx hb dL_law_33 (by rw [q22]; decide) (by rw [q22]; decide) (by rw [q22]; decide) (by decide) ?_
        exact lc_22 X hX hbl hB hn hLn E.2.2.2.2.2.2.2.2.2.2.2.2.2.2.2.2.2.2.2.2.2.2.1 hR hH hM hS hl kk
      by_cases q23 : z = 23
      · refine lv_tableIn (tgt := 865) (off := 832) hx hb dL_law_33 (by rw [q23]; decide) (by rw [q23]; decide) (by rw [q23]; decide) (by decide) ?_
        exact lc_23 X hX hbl hB hn hLn E.2.2.2.2.2.2.2.2.2.2.2.2.2.2.2.2.2.2.2.2.2.2.2.1 hR hH hM hS hl kk
      by_cases q24 : z = 24
      · refine lv_tableIn (tgt := 888) (off := 855) hx hb dL_law_33 (by rw [q24]; decide) (by rw [q24]; decide) (by rw [q24]; decide) (by decide) ?_
        exact lc_24 X hX hbl hB hn hLn E.2.2.2.2.2.2.2.2.2.2.2.2.2.2.2.2.2.2.2.2.2.2.2.2.1 hR hH hM hS hl kk
      by_cases q25 : z = 25
      · refine lv_tableIn (tgt := 911) (off := 878) hx hb dL_law_33 (by rw [q25]; decide) (by rw [q25]; decide) (by rw [q25]; decide) (by decide) ?_
        exact lc_25 X hX hbl hB hn hLn E.2.2.2.2.2.2.2.2.2.2.2.2.2.2.2.2.2.2.2.2.2.2.2.2.2.1 hR hH hM hS hl kk
      by_cases q26 : z = 26
      · refine lv_tableIn (tgt := 934) (off := 901) hx hb dL_law_33 (by rw [q26]; decide) (by rw [q26]; decide) (by rw [q26]; decide) (by decide) ?_
        exact lc_26 X hX hbl hB hn hLn E.2.2.2.2.2.2.2.2.2.2.2.2.2.2.2.2.2.2.2.2.2.2.2.2.2.2.1 hR hH hM hS hl kk
      by_cases q27 : z = 27
      · refine lv_tableIn (tgt := 947) (off := 914) hx hb dL_law_33 (by rw [q27]; decide) (by rw [q27]; decide) (by rw [q27]; decide) (by decide) ?_
        exact lc_27 X hX hbl hB hn hLn E.2.2.2.2.2.2.2.2.2.2.2.2.2.2.2.2.2.2.2.2.2.2.2.2.2.2.2.1 hR hH hM hS hl kk
      by_cases q28 : z = 28
      · refine lv_tableIn (tgt := 970) (off := 937) hx hb dL_law_33 (by rw [q28]; decide) (by rw [q28]; decide) (by rw [q28]; decide) (by decide) ?_
        exact lc_28 X hX hbl hB hn hLn E.2.2.2.2.2.2.2.2.2.2.2.2.2.2.2.2.2.2.2.2.2.2.2.2.2.2.2.2.1 hR hH hM hS hl kk
      by_cases q29 : z = 29
      · refine lv_tableIn (tgt := 993) (off := 960) hx hb dL_law_33 (by rw [q29]; decide) (by rw [q29]; decide) (by rw [q29]; decide) (by decide) ?_
        exact lc_29 X hX hbl hB hn hLn E.2.2.2.2.2.2.2.2.2.2.2.2.2.2.2.2.2.2.2.2.2.2.2.2.2.2.2.2.2.1 hR hH hM hS hl kk
      by_cases q30 : z = 30
      · refine lv_tableIn (tgt := 1016) (off := 983) hx hb dL_law_33 (by rw [q30]; decide) (by rw [q30]; decide) (by rw [q30]; decide) (by decide) ?_
        exact lc_30 X hX hbl hB hn hLn E.2.2.2.2.2.2.2.2.2.2.2.2.2.2.2.2.2.2.2.2.2.2.2.2.2.2.2.2.2.2.1 hR hH hM hS hl kk
      by_cases q31 : z = 31
      · refine lv_tableIn (tgt := 1039) (off := 1006) hx hb dL_law_33 (by rw [q31]; decide) (by rw [q31]; decide) (by rw [q31]; decide) (by decide) ?_
        exact lc_31 X hX hbl hB hn hLn E.2.2.2.2.2.2.2.2.2.2.2.2.2.2.2.2.2.2.2.2.2.2.2.2.2.2.2.2.2.2.2.1 hR hH hM hS hl kk
      by_cases q32 : z = 32
      · refine lv_tableIn (tgt := 1072) (off := 1039) hx hb dL_law_33 (by rw [q32]; decide) (by rw [q32]; decide) (by rw [q32]; decide) (by decide) ?_
        exact lc_32 X hX hbl hB hn hLn E.2.2.2.2.2.2.2.2.2.2.2.2.2.2.2.2.2.2.2.2.2.2.2.2.2.2.2.2.2.2.2.2.1 hR hH hM hS hl kk
      by_cases q33 : z = 33
      · refine lv_tableIn (tgt := 1105) (off := 1072) hx hb dL_law_33 (by rw [q33]; decide) (by rw [q33]; decide) (by rw [q33]; decide) (by decide) ?_
        exact lc_33 X hX hbl hB hn hLn E.2.2.2.2.2.2.2.2.2.2.2.2.2.2.2.2.2.2.2.2.2.2.2.2.2.2.2.2.2.2.2.2.2.1 hR hH hM hS hl kk
      by_cases q34 : z = 34
      · refine lv_tableIn (tgt := 1128) (off := 1095) hx hb dL_law_33 (by rw [q34]; decide) (by rw [q34]; decide) (by rw [q34]; decide) (by decide) ?_
        exact lc_34 X hX hbl hB hn hLn E.2.2.2.2.2.2.2.2.2.2.2.2.2.2.2.2.2.2.2.2.2.2.2.2.2.2.2.2.2.2.2.2.2.2.1 hR hH hM hS hl kk
      by_cases q35 : z = 35
      · refine lv_tableIn (tgt := 1151) (off := 1118) hx hb dL_law_33 (by rw [q35]; decide) (by rw [q35]; decide) (by rw [q35]; decide) (by decide) ?_
        exact lc_35 X hX hbl hB hn hLn E.2.2.2.2.2.2.2.2.2.2.2.2.2.2.2.2.2.2.2.2.2.2.2.2.2.2.2.2.2.2.2.2.2.2.2 hR hH hM hS hl kk
      refine lv_tableOut (tgt := 1164) hx hb dL_law_33 (by have h0 := lv_neT q0 (a := 0) (by decide); have h1 := lv_neT q1 (a := 1) (by decide); have h2 := lv_neT q2 (a := 2) (by decide); have h3 := lv_neT q3 (a := 3) (by decide); have h4 := lv_neT q4 (a := 4) (by decide); have h5 := lv_neT q5 (a := 5) (by decide); have h6 := lv_neT q6 (a := 6) (by decide); have h7 := lv_neT q7 (a := 7) (by decide); have h8 := lv_neT q8 (a := 8) (by decide); have h9 := lv_neT q9 (a := 9) (by decide); have h10 := lv_neT q10 (a := 10) (by decide); have h11 := lv_neT q11 (a := 11) (by decide); have h12 := lv_neT q12 (a := 12) (by decide); have h13 := lv_neT q13 (a := 13) (by decide); have h14 := lv_neT q14 (a := 14) (by decide); have h15 := lv_neT q15 (a := 15) (by decide); have h16 := lv_neT q16 (a := 16) (by decide); have h17 := lv_neT q17 (a := 17) (by decide); have h18 := lv_neT q18 (a := 18) (by decide); have h19 := lv_neT q19 (a := 19) (by decide); have h20 := lv_neT q20 (a := 20) (by decide); have h21 := lv_neT q21 (a := 21) (by decide); have h22 := lv_neT q22 (a := 22) (by decide); have h23 := lv_neT q23 (a := 23) (by decide); have h24 := lv_neT q24 (a := 24) (by decide); have h25 := lv_neT q25 (a := 25) (by decide); have h26 := lv_neT q26 (a := 26) (by decide); have h27 := lv_neT q27 (a := 27) (by decide); have h28 := lv_neT q28 (a := 28) (by decide); have h29 := lv_neT q29 (a := 29) (by decide); have h30 := lv_neT q30 (a := 30) (by decide); have h31 := lv_neT q31 (a := 31) (by decide); have h32 := lv_neT q32 (a := 32) (by decide); have h33 := lv_neT q33 (a := 33) (by decide); have h34 := lv_neT q34 (a := 34) (by decide); have h35 := lv_neT q35 (a := 35) (by decide); omega) (by decide) ?_
      exact kk σ τ H locs hR hH hM hS
    · refine lv_icmp_gt (tgt := 1170) hx hb dL_law_24 (by decide) (fun _ => ?_) (fun q => absurd (law_gt (by omega) (by omega) (by omega)) q)
      refine lv_iconst (v := 1) hx hb dL_law_1170 (by decide) ?_
      refine va_forget (fun q hq => hS.2.2 q hq) ?_
      exact lw_ret hx hb hr hlocks dL_law_1171
