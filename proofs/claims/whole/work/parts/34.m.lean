-- SlackProofsModel.formula()I  (D 6)
def b_X8_formula_293 (s0 : Int32) (σ : Sto) : Option (Int32 × Sto) :=
  bd1 (f_X8_must s0 σ) fun σ1025 => nmS (pI σ1025 0 6 (0 : Int32)) fun σ1027 => bd2 (f_X8_isWell σ1027) fun r1029 σ1028 => if r1029 = 0 then (some (((-1000100 : Int32) - (σ1028.1 0 8)), σ1028)) else (bd1 (f_X8_copies 7 312 (0 : Int32) 6 312 (0 : Int32) (312 : Int32) σ1028) fun σ1031 => nmS (pI σ1031 0 16 (0 : Int32)) fun σ1033 => some ((σ1033.2 6 9).toInt32, σ1033))
set_option maxHeartbeats 4000000 in
set_option maxRecDepth 100000 in
theorem w_X8_formula_293 {p : Program} {l : Launch} {e : Env} {s : State} {m : MethodId} {args : Array Value} {below : List Frame} {meth : Method} {c : Code} {G : Gd} {B : Nat} (X : Cm p s m args meth c cX8_formula 4 RX8 G (some .int)) {r : Int32} {σr : Sto} (s0 : Int32) (σ : Sto) (hf : b_X8_formula_293 s0 σ = some (r, σr)) (H : Heap) (locs : List Loc) (hH : HX G layM B σ H) (hS : va_S (inW layM B) s.heap H locs) (ls : Array Slot) (hl : lv_has ls 4 [(0, .ref (B + 0))]) : WM p l e 6 s m args below meth c H locs G layM B (some (.int r)) σr (F0 m 293 ls [.int s0, .ref (B + 0)]) := by
  unfold b_X8_formula_293 at hf
  have hx := X.1.1
  have hb := X.1.2.1
  obtain ⟨σ1025, eσ1025, hf⟩ := bnd1 hf
  refine g_cVv (As := [.int s0]) X.1 hH hS (c_X8_must l G B s0 σ σ1025 eσ1025) kw_RX8_158 kX8 km_0 (by decide) rfl hl (Nat.le_of_ble_eq_true rfl) rfl dX8_formula_293 (fun H locs hH hS => ?_)
  refine lv_aload_n hx hb dX8_formula_296 rfl (lv_at hl 0 rfl) ?_
  refine lv_iconst (v := 0) hx hb dX8_formula_297 (by decide) ?_
  refine g_putI kX8 (by decide) fl_RX8_94 rfl rfl X.1 hH hS km_0 dX8_formula_298 (fun H locs hH hS => ?_)
  obtain ⟨σ1027, eσ1027, hH⟩ := nmX hH
  replace hf := nmU hf eσ1027
  refine lv_aload_n hx hb dX8_formula_301 rfl (lv_at hl 0 rfl) ?_
  obtain ⟨r1029, σ1028, eσ1028, hf⟩ := bnd2 hf
  refine g_cVi (As := []) X.1 hH hS (c_X8_isWell l G B σ1027 σ1028 r1029 eσ1028) kw_RX8_116 kX8 km_0 (by decide) rfl hl (Nat.le_of_ble_eq_true rfl) rfl dX8_formula_302 (fun H locs hH hS => ?_)
  refine lv_if_ne (tgt := 316) hx hb dX8_formula_305 (by decide) (fun q1030 => ?_) (fun q1030 => ?_)
  · replace hf := brF hf q1030
    refine lv_aload_n hx hb dX8_formula_316 rfl (lv_at hl 0 rfl) ?_
    refine g_get (v := .ref (B + 7)) kX8 (by decide) fl_RX8_29 X.1 hH km_0 rfl dX8_formula_317 ?_
    refine lv_iconst (v := 0) hx hb dX8_formula_320 (by decide) ?_
    refine lv_aload_n hx hb dX8_formula_321 rfl (lv_at hl 0 rfl) ?_
    refine g_get (v := .ref (B + 6)) kX8 (by decide) fl_RX8_25 X.1 hH km_0 rfl dX8_formula_322 ?_
    refine lv_iconst (v := 0) hx hb dX8_formula_325 (by decide) ?_
    refine lv_sipush (v := 312) hx hb dX8_formula_326 (by decide) ?_
    obtain ⟨σ1031, eσ1031, hf⟩ := bnd1 hf
    refine g_cSv (As := [.ref (B + 7), .int (0 : Int32), .ref (B + 6), .int (0 : Int32), .int (312 : Int32)]) X.1 hH hS (c_X8_copies l G B 7 312 km_7 (0 : Int32) 6 312 km_6 (0 : Int32) (312 : Int32) σ1028 σ1031 eσ1031) kw_RX8_154 (by decide) rfl hl (Nat.le_of_ble_eq_true rfl) rfl dX8_formula_329 (fun H locs hH hS => ?_)
    refine lv_aload_n hx hb dX8_formula_332 rfl (lv_at hl 0 rfl) ?_
    refine lv_iconst (v := 0) hx hb dX8_formula_333 (by decide) ?_
    refine g_putI kX8 (by decide) fl_RX8_163 rfl rfl X.1 hH hS km_0 dX8_formula_334 (fun H locs hH hS => ?_)
    obtain ⟨σ1033, eσ1033, hH⟩ := nmX hH
    replace hf := nmU hf eσ1033
    refine lv_aload_n hx hb dX8_formula_337 rfl (lv_at hl 0 rfl) ?_
    refine g_get (v := .ref (B + 6)) kX8 (by decide) fl_RX8_25 X.1 hH km_0 rfl dX8_formula_338 ?_
    refine lv_bipush (v := 9) hx hb dX8_formula_341 (by decide) ?_
    refine g_lald (j := 9) X.1 hH km_6 (by decide) rfl dX8_formula_343 ?_
    refine lv_l2i hx hb dX8_formula_344 rfl ?_
    obtain ⟨rfl, rfl⟩ := rt2 hf
    exact g_iret X hH hS dX8_formula_345
  · replace hf := brT hf q1030
    refine lv_ldc (v := -1000100) hx hb X.1.2.2.2.1 (X.1.2.2.2.2.1 _ kc_RX8_162) dX8_formula_308 ?_
    refine lv_aload_n hx hb dX8_formula_310 rfl (lv_at hl 0 rfl) ?_
    refine g_get (v := .int (σ1028.1 0 8)) kX8 (by decide) fl_RX8_113 X.1 hH km_0 rfl dX8_formula_311 ?_
    refine lv_isub hx hb dX8_formula_314 ?_
    obtain ⟨rfl, rfl⟩ := rt2 hf
    exact g_iret X hH hS dX8_formula_315
def b_X8_formula_280 (σ : Sto) : Option (Int32 × Sto) :=
  if (σ.1 0 11) = 0 then (b_X8_formula_293 (1 : Int32) σ) else (b_X8_formula_293 (0 : Int32) σ)
set_option maxHeartbeats 4000000 in
set_option maxRecDepth 100000 in
theorem w_X8_formula_280 {p : Program} {l : Launch} {e : Env} {s : State} {m : MethodId} {args : Array Value} {below : List Frame} {meth : Method} {c : Code} {G : Gd} {B : Nat} (X : Cm p s m args meth c cX8_formula 4 RX8 G (some .int)) {r : Int32} {σr : Sto} (σ : Sto) (hf : b_X8_formula_280 σ = some (r, σr)) (H : Heap) (locs : List Loc) (hH : HX G layM B σ H) (hS : va_S (inW layM B) s.heap H locs) (ls : Array Slot) (hl : lv_has ls 4 [(0, .ref (B + 0))]) : WM p l e 6 s m args below meth c H locs G layM B (some (.int r)) σr (F0 m 280 ls []) := by
  unfold b_X8_formula_280 at hf
  have hx := X.1.1
  have hb := X.1.2.1
  refine lv_aload_n hx hb dX8_formula_280 rfl (lv_at hl 0 rfl) ?_
  refine lv_aload_n hx hb dX8_formula_281 rfl (lv_at hl 0 rfl) ?_
  refine g_get (v := .int (σ.1 0 11)) kX8 (by decide) fl_RX8_110 X.1 hH km_0 rfl dX8_formula_282 ?_
  refine lv_if_ne (tgt := 292) hx hb dX8_formula_285 (by decide) (fun q924 => ?_) (fun q924 => ?_)
  · replace hf := brF hf q924
    refine lv_iconst (v := 0) hx hb dX8_formula_292 (by decide) ?_
    exact w_X8_formula_293 X (0 : Int32) σ hf _ _ hH hS _ (lv_sub hl [0] rfl)
  · replace hf := brT hf q924
    refine lv_iconst (v := 1) hx hb dX8_formula_288 (by decide) ?_
    refine lv_goto (tgt := 293) hx hb dX8_formula_289 (by decide) ?_
    exact w_X8_formula_293 X (1 : Int32) σ hf _ _ hH hS _ (lv_sub hl [0] rfl)
def b_X8_formula_277 (c192 : Int32 → Sto → Option (Int32 × Sto)) (v1 : Int32) (σ : Sto) : Option (Int32 × Sto) :=
  c192 v1 σ
set_option maxHeartbeats 4000000 in
set_option maxRecDepth 100000 in
theorem w_X8_formula_277 {p : Program} {l : Launch} {e : Env} {s : State} {m : MethodId} {args : Array Value} {below : List Frame} {meth : Method} {c : Code} {G : Gd} {B : Nat} (X : Cm p s m args meth c cX8_formula 4 RX8 G (some .int)) (c192 : Int32 → Sto → Option (Int32 × Sto)) {r : Int32} {σr : Sto} (ih192 : ∀ (v1 : Int32) (σ : Sto) (H : Heap) (locs : List Loc) (ls : Array Slot), c192 v1 σ = some (r, σr) → HX G layM B σ H → va_S (inW layM B) s.heap H locs → lv_has ls 4 [(0, .ref (B + 0)), (1, .int v1)] → WM p l e 6 s m args below meth c H locs G layM B (some (.int r)) σr (F0 m 192 ls [])) (v1 : Int32) (σ : Sto) (hf : b_X8_formula_277 c192 v1 σ = some (r, σr)) (H : Heap) (locs : List Loc) (hH : HX G layM B σ H) (hS : va_S (inW layM B) s.heap H locs) (ls : Array Slot) (hl : lv_has ls 4 [(0, .ref (B + 0)), (1, .int v1)]) : WM p l e 6 s m args below meth c H locs G layM B (some (.int r)) σr (F0 m 277 ls []) := by
  unfold b_X8_formula_277 at hf
  have hx := X.1.1
  have hb := X.1.2.1
  refine lv_goto (tgt := 192) hx hb dX8_formula_277 (by decide) ?_
  exact ih192 v1 σ _ _ _ hf hH hS (lv_sub hl [0, 1] rfl)
def b_X8_formula_251 (c192 : Int32 → Sto → Option (Int32 × Sto)) (v1 : Int32) (v2 : Int32) (v3 : Int32) (s0 : Int32) (σ : Sto) : Option (Int32 × Sto) :=
  bd2 (f_X8_takes s0 (1 : Int32) σ) fun r1144 σ1143 => bd2 (f_X8_isWell σ1143) fun r1146 σ1145 => if r1146 = 0 then (b_X8_formula_277 c192 v1 σ1145) else (nmS (v1 ||| ((1 : Int32) <<< (v2 &&& 31))) fun y1248 => if (v2 < 0 ∨ 312 ≤ v2.toNatClampNeg) then none else nmS (pL σ1145 7 v2.toNatClampNeg v3.toInt64) fun σ1250 => b_X8_formula_277 c192 y1248 σ1250)
set_option maxHeartbeats 4000000 in
set_option maxRecDepth 100000 in
theorem w_X8_formula_251 {p : Program} {l : Launch} {e : Env} {s : State} {m : MethodId} {args : Array Value} {below : List Frame} {meth : Method} {c : Code} {G : Gd} {B : Nat} (X : Cm p s m args meth c cX8_formula 4 RX8 G (some .int)) (c192 : Int32 → Sto → Option (Int32 × Sto)) {r : Int32} {σr : Sto} (ih192 : ∀ (v1 : Int32) (σ : Sto) (H : Heap) (locs : List Loc) (ls : Array Slot), c192 v1 σ = some (r, σr) → HX G layM B σ H → va_S (inW layM B) s.heap H locs → lv_has ls 4 [(0, .ref (B + 0)), (1, .int v1)] → WM p l e 6 s m args below meth c H locs G layM B (some (.int r)) σr (F0 m 192 ls [])) (v1 : Int32) (v2 : Int32) (v3 : Int32) (s0 : Int32) (σ : Sto) (hf : b_X8_formula_251 c192 v1 v2 v3 s0 σ = some (r, σr)) (H : Heap) (locs : List Loc) (hH : HX G layM B σ H) (hS : va_S (inW layM B) s.heap H locs) (ls : Array Slot) (hl : lv_has ls 4 [(0, .ref (B + 0)), (1, .int v1), (2, .int v2), (3, .int v3)]) : WM p l e 6 s m args below meth c H locs G layM B (some (.int r)) σr (F0 m 251 ls [.int s0, .ref (B + 0)]) := by
  unfold b_X8_formula_251 at hf
  have hx := X.1.1
  have hb := X.1.2.1
  refine lv_iconst (v := 1) hx hb dX8_formula_251 (by decide) ?_
  obtain ⟨r1144, σ1143, eσ1143, hf⟩ := bnd2 hf
  refine g_cVi (As := [.int s0, .int (1 : Int32)]) X.1 hH hS (c_X8_takes l G B s0 (1 : Int32) σ σ1143 r1144 eσ1143) kw_RX8_126 kX8 km_0 (by decide) rfl hl (Nat.le_of_ble_eq_true rfl) rfl dX8_formula_252 (fun H locs hH hS => ?_)
  refine lv_pop hx hb dX8_formula_255 rfl ?_
  refine lv_aload_n hx hb dX8_formula_256 rfl (lv_at hl 0 rfl) ?_
  obtain ⟨r1146, σ1145, eσ1145, hf⟩ := bnd2 hf
  refine g_cVi (As := []) X.1 hH hS (c_X8_isWell l G B σ1143 σ1145 r1146 eσ1145) kw_RX8_116 kX8 km_0 (by decide) rfl hl (Nat.le_of_ble_eq_true rfl) rfl dX8_formula_257 (fun H locs hH hS => ?_)
  refine lv_if_eq (tgt := 277) hx hb dX8_formula_260 (by decide) (fun q1147 => ?_) (fun q1147 => ?_)
  · replace hf := brT hf q1147
    exact w_X8_formula_277 X c192 ih192 v1 σ1145 hf _ _ hH hS _ (lv_sub hl [0, 1] rfl)
  · replace hf := brF hf q1147
    refine lv_iload_n hx hb dX8_formula_263 rfl (lv_at hl 1 rfl) ?_
    refine lv_iconst (v := 1) hx hb dX8_formula_264 (by decide) ?_
    refine lv_iload_n hx hb dX8_formula_265 rfl (lv_at hl 2 rfl) ?_
    refine lv_ishl hx hb dX8_formula_266 ?_
    refine lv_ior hx hb dX8_formula_267 ?_
    refine lv_topi (fun y1248 ey1248 => ?_)
    replace hf := nmU hf ey1248
    refine lv_istore_n (lv' := [(1, .int y1248), (0, .ref (B + 0)), (2, .int v2), (3, .int v3)]) hx hb dX8_formula_268 rfl hl (by decide) rfl (fun ls hl => ?_)
    refine lv_aload_n hx hb dX8_formula_269 rfl (lv_at hl 1 rfl) ?_
    refine g_get (v := .ref (B + 7)) kX8 (by decide) fl_RX8_29 X.1 hH km_0 rfl dX8_formula_270 ?_
    refine lv_iload_n hx hb dX8_formula_273 rfl (lv_at hl 2 rfl) ?_
    refine lv_iload_n hx hb dX8_formula_274 rfl (lv_at hl 3 rfl) ?_
    refine lv_i2l hx hb dX8_formula_275 rfl ?_
    obtain ⟨q1249, hf⟩ := chk hf
    refine g_last (j := v2.toNatClampNeg) X.1 hH hS km_7 q1249 rfl dX8_formula_276 (fun H locs hH hS => ?_)
    obtain ⟨σ1250, eσ1250, hH⟩ := nmX hH
    replace hf := nmU hf eσ1250
    exact w_X8_formula_277 X c192 ih192 y1248 σ1250 hf _ _ hH hS _ (lv_sub hl [1, 0] rfl)
def b_X8_formula_192 (c192 : Int32 → Sto → Option (Int32 × Sto)) (v1 : Int32) (σ : Sto) : Option (Int32 × Sto) :=
  bd2 (f_X8_isWell σ) fun r822 σ821 => if r822 = 0 then (b_X8_formula_280 σ821) else (if (σ821.1 0 11) = (1 : Int32) then (if (σ821.1 0 12) = (109 : Int32) then (bd2 (f_X8_takes (1 : Int32) (1 : Int32) σ821) fun r1037 σ1036 => bd2 (f_X8_variable v1 σ1036) fun r1039 σ1038 => bd2 (f_X8_behind (1 : Int32) (9 : Int32) σ1038) fun r1041 σ1040 => if (σ1040.1 0 11) = (4 : Int32) then (b_X8_formula_251 c192 v1 r1039 r1041 (1 : Int32) σ1040) else (b_X8_formula_251 c192 v1 r1039 r1041 (0 : Int32) σ1040)) else (b_X8_formula_280 σ821)) else (b_X8_formula_280 σ821))
set_option maxHeartbeats 4000000 in
set_option maxRecDepth 100000 in
theorem w_X8_formula_192 {p : Program} {l : Launch} {e : Env} {s : State} {m : MethodId} {args : Array Value} {below : List Frame} {meth : Method} {c : Code} {G : Gd} {B : Nat} (X : Cm p s m args meth c cX8_formula 4 RX8 G (some .int)) (c192 : Int32 → Sto → Option (Int32 × Sto)) {r : Int32} {σr : Sto} (ih192 : ∀ (v1 : Int32) (σ : Sto) (H : Heap) (locs : List Loc) (ls : Array Slot), c192 v1 σ = some (r, σr) → HX G layM B σ H → va_S (inW layM B) s.heap H locs → lv_has ls 4 [(0, .ref (B + 0)), (1, .int v1)] → WM p l e 6 s m args below meth c H locs G layM B (some (.int r)) σr (F0 m 192 ls [])) (v1 : Int32) (σ : Sto) (hf : b_X8_formula_192 c192 v1 σ = some (r, σr)) (H : Heap) (locs : List Loc) (hH : HX G layM B σ H) (hS : va_S (inW layM B) s.heap H locs) (ls : Array Slot) (hl : lv_has ls 4 [(0, .ref (B + 0)), (1, .int v1)]) : WM p l e 6 s m args below meth c H locs G layM B (some (.int r)) σr (F0 m 192 ls []) := by
  unfold b_X8_formula_192 at hf
  have hx := X.1.1
  have hb := X.1.2.1
  refine lv_aload_n hx hb dX8_formula_192 rfl (lv_at hl 0 rfl) ?_
  obtain ⟨r822, σ821, eσ821, hf⟩ := bnd2 hf
  refine g_cVi (As := []) X.1 hH hS (c_X8_isWell l G B σ σ821 r822 eσ821) kw_RX8_116 kX8 km_0 (by decide) rfl hl (Nat.le_of_ble_eq_true rfl) rfl dX8_formula_193 (fun H locs hH hS => ?_)
  refine lv_if_eq (tgt := 280) hx hb dX8_formula_196 (by decide) (fun q823 => ?_) (fun q823 => ?_)
  · replace hf := brT hf q823
    exact w_X8_formula_280 X σ821 hf _ _ hH hS _ (lv_sub hl [0] rfl)
  · replace hf := brF hf q823
    refine lv_aload_n hx hb dX8_formula_199 rfl (lv_at hl 0 rfl) ?_
    refine g_get (v := .int (σ821.1 0 11)) kX8 (by decide) fl_RX8_110 X.1 hH km_0 rfl dX8_formula_200 ?_
    refine lv_iconst (v := 1) hx hb dX8_formula_203 (by decide) ?_
    refine lv_icmp_ne (tgt := 280) hx hb dX8_formula_204 (by decide) (fun q1034 => ?_) (fun q1034 => ?_)
    · replace hf := brF hf q1034
      exact w_X8_formula_280 X σ821 hf _ _ hH hS _ (lv_sub hl [0] rfl)
    · replace hf := brT hf q1034
      refine lv_aload_n hx hb dX8_formula_207 rfl (lv_at hl 0 rfl) ?_
      refine g_get (v := .int (σ821.1 0 12)) kX8 (by decide) fl_RX8_107 X.1 hH km_0 rfl dX8_formula_208 ?_
      refine lv_bipush (v := 109) hx hb dX8_formula_211 (by decide) ?_
      refine lv_icmp_ne (tgt := 280) hx hb dX8_formula_213 (by decide) (fun q1035 => ?_) (fun q1035 => ?_)
      · replace hf := brF hf q1035
        exact w_X8_formula_280 X σ821 hf _ _ hH hS _ (lv_sub hl [0] rfl)
      · replace hf := brT hf q1035
        refine lv_aload_n hx hb dX8_formula_216 rfl (lv_at hl 0 rfl) ?_
        refine lv_iconst (v := 1) hx hb dX8_formula_217 (by decide) ?_
        refine lv_iconst (v := 1) hx hb dX8_formula_218 (by decide) ?_
        obtain ⟨r1037, σ1036, eσ1036, hf⟩ := bnd2 hf
        refine g_cVi (As := [.int (1 : Int32), .int (1 : Int32)]) X.1 hH hS (c_X8_takes l G B (1 : Int32) (1 : Int32) σ821 σ1036 r1037 eσ1036) kw_RX8_126 kX8 km_0 (by decide) rfl hl (Nat.le_of_ble_eq_true rfl) rfl dX8_formula_219 (fun H locs hH hS => ?_)
        refine lv_pop hx hb dX8_formula_222 rfl ?_
        refine lv_aload_n hx hb dX8_formula_223 rfl (lv_at hl 0 rfl) ?_
        refine lv_iload_n hx hb dX8_formula_224 rfl (lv_at hl 1 rfl) ?_
        obtain ⟨r1039, σ1038, eσ1038, hf⟩ := bnd2 hf
        refine g_cVi (As := [.int v1]) X.1 hH hS (c_X8_variable l G B v1 σ1036 σ1038 r1039 eσ1038) kw_RX8_140 kX8 km_0 (by decide) rfl hl (Nat.le_of_ble_eq_true rfl) rfl dX8_formula_225 (fun H locs hH hS => ?_)
        refine lv_istore_n (lv' := [(2, .int r1039), (0, .ref (B + 0)), (1, .int v1)]) hx hb dX8_formula_228 rfl hl (by decide) rfl (fun ls hl => ?_)
        refine lv_aload_n hx hb dX8_formula_229 rfl (lv_at hl 1 rfl) ?_
        refine lv_iconst (v := 1) hx hb dX8_formula_230 (by decide) ?_
        refine lv_bipush (v := 9) hx hb dX8_formula_231 (by decide) ?_
        obtain ⟨r1041, σ1040, eσ1040, hf⟩ := bnd2 hf
        refine g_cVi (As := [.int (1 : Int32), .int (9 : Int32)]) X.1 hH hS (c_X8_behind l G B (1 : Int32) (9 : Int32) σ1038 σ1040 r1041 eσ1040) kw_RX8_143 kX8 km_0 (by decide) rfl hl (Nat.le_of_ble_eq_true rfl) rfl dX8_formula_233 (fun H locs hH hS => ?_)
        refine lv_istore_n (lv' := [(3, .int r1041), (2, .int r1039), (0, .ref (B + 0)), (1, .int v1)]) hx hb dX8_formula_236 rfl hl (by decide) rfl (fun ls hl => ?_)
        refine lv_aload_n hx hb dX8_formula_237 rfl (lv_at hl 2 rfl) ?_
        refine lv_aload_n hx hb dX8_formula_238 rfl (lv_at hl 2 rfl) ?_
        refine g_get (v := .int (σ1040.1 0 11)) kX8 (by decide) fl_RX8_110 X.1 hH km_0 rfl dX8_formula_239 ?_
        refine lv_iconst (v := 4) hx hb dX8_formula_242 (by decide) ?_
        refine lv_icmp_ne (tgt := 250) hx hb dX8_formula_243 (by decide) (fun q1042 => ?_) (fun q1042 => ?_)
        · replace hf := brF hf q1042
          refine lv_iconst (v := 0) hx hb dX8_formula_250 (by decide) ?_
          exact w_X8_formula_251 X c192 ih192 v1 r1039 r1041 (0 : Int32) σ1040 hf _ _ hH hS _ (lv_sub hl [2, 3, 1, 0] rfl)
        · replace hf := brT hf q1042
          refine lv_iconst (v := 1) hx hb dX8_formula_246 (by decide) ?_
          refine lv_goto (tgt := 251) hx hb dX8_formula_247 (by decide) ?_
          exact w_X8_formula_251 X c192 ih192 v1 r1039 r1041 (1 : Int32) σ1040 hf _ _ hH hS _ (lv_sub hl [2, 3, 1, 0] rfl)
def l_X8_formula_192 : Nat → Int32 → Sto → Option (Int32 × Sto)
  | 0, _, _ => none
  | n + 1, v1, σ => b_X8_formula_192 (l_X8_formula_192 n) v1 σ
set_option maxHeartbeats 4000000 in
set_option maxRecDepth 100000 in
theorem wl_X8_formula_192 {p : Program} {l : Launch} {e : Env} {s : State} {m : MethodId} {args : Array Value} {below : List Frame} {meth : Method} {c : Code} {G : Gd} {B : Nat} (X : Cm p s m args meth c cX8_formula 4 RX8 G (some .int)) {r : Int32} {σr : Sto} (n : Nat) : ∀ (v1 : Int32) (σ : Sto) (H : Heap) (locs : List Loc) (ls : Array Slot), l_X8_formula_192 n v1 σ = some (r, σr) → HX G layM B σ H → va_S (inW layM B) s.heap H locs → lv_has ls 4 [(0, .ref (B + 0)), (1, .int v1)] → WM p l e 6 s m args below meth c H locs G layM B (some (.int r)) σr (F0 m 192 ls []) := by
  induction n with
  | zero =>
    intro _ σ H locs ls hf
    cases hf
  | succ n ih =>
    intro v1 σ H locs ls hf hH hS hl
    exact w_X8_formula_192 X (l_X8_formula_192 n) ih v1 σ hf H locs hH hS ls hl
def b_X8_formula_190 (σ : Sto) : Option (Int32 × Sto) :=
  l_X8_formula_192 400 (0 : Int32) σ
set_option maxHeartbeats 4000000 in
set_option maxRecDepth 100000 in
theorem w_X8_formula_190 {p : Program} {l : Launch} {e : Env} {s : State} {m : MethodId} {args : Array Value} {below : List Frame} {meth : Method} {c : Code} {G : Gd} {B : Nat} (X : Cm p s m args meth c cX8_formula 4 RX8 G (some .int)) {r : Int32} {σr : Sto} (σ : Sto) (hf : b_X8_formula_190 σ = some (r, σr)) (H : Heap) (locs : List Loc) (hH : HX G layM B σ H) (hS : va_S (inW layM B) s.heap H locs) (ls : Array Slot) (hl : lv_has ls 4 [(0, .ref (B + 0))]) : WM p l e 6 s m args below meth c H locs G layM B (some (.int r)) σr (F0 m 190 ls []) := by
  unfold b_X8_formula_190 at hf
  have hx := X.1.1
  have hb := X.1.2.1
  refine lv_iconst (v := 0) hx hb dX8_formula_190 (by decide) ?_
  refine lv_istore_n (lv' := [(1, .int (0 : Int32)), (0, .ref (B + 0))]) hx hb dX8_formula_191 rfl hl (by decide) rfl (fun ls hl => ?_)
  exact wl_X8_formula_192 X 400 (0 : Int32) σ _ _ _ hf hH hS (lv_sub hl [1, 0] rfl)
def b_X8_formula_159 (c44 : Sto → Option (Int32 × Sto)) (σ : Sto) : Option (Int32 × Sto) :=
  bd2 (f_X8_isTerm σ) fun r616 σ615 => if r616 = 0 then (bd2 (f_X8_isWell σ615) fun r619 σ618 => if r619 = 0 then (b_X8_formula_190 σ618) else (if (σ618.1 0 11) = (1 : Int32) then (if (σ618.1 0 12) = (103 : Int32) then (c44 σ618) else (b_X8_formula_190 σ618)) else (b_X8_formula_190 σ618))) else (c44 σ615)
set_option maxHeartbeats 4000000 in
set_option maxRecDepth 100000 in
theorem w_X8_formula_159 {p : Program} {l : Launch} {e : Env} {s : State} {m : MethodId} {args : Array Value} {below : List Frame} {meth : Method} {c : Code} {G : Gd} {B : Nat} (X : Cm p s m args meth c cX8_formula 4 RX8 G (some .int)) (c44 : Sto → Option (Int32 × Sto)) {r : Int32} {σr : Sto} (ih44 : ∀ (σ : Sto) (H : Heap) (locs : List Loc) (ls : Array Slot), c44 σ = some (r, σr) → HX G layM B σ H → va_S (inW layM B) s.heap H locs → lv_has ls 4 [(0, .ref (B + 0))] → WM p l e 6 s m args below meth c H locs G layM B (some (.int r)) σr (F0 m 44 ls [])) (σ : Sto) (hf : b_X8_formula_159 c44 σ = some (r, σr)) (H : Heap) (locs : List Loc) (hH : HX G layM B σ H) (hS : va_S (inW layM B) s.heap H locs) (ls : Array Slot) (hl : lv_has ls 4 [(0, .ref (B + 0))]) : WM p l e 6 s m args below meth c H locs G layM B (some (.int r)) σr (F0 m 159 ls []) := by
  unfold b_X8_formula_159 at hf
  have hx := X.1.1
  have hb := X.1.2.1
  refine lv_aload_n hx hb dX8_formula_159 rfl (lv_at hl 0 rfl) ?_
  obtain ⟨r616, σ615, eσ615, hf⟩ := bnd2 hf
  refine g_cVi (As := []) X.1 hH hS (c_X8_isTerm l G B σ σ615 r616 eσ615) kw_RX8_137 kX8 km_0 (by decide) rfl hl (Nat.le_of_ble_eq_true rfl) rfl dX8_formula_160 (fun H locs hH hS => ?_)
  refine lv_if_ne (tgt := 44) hx hb dX8_formula_163 (by decide) (fun q617 => ?_) (fun q617 => ?_)
  · replace hf := brF hf q617
    exact ih44 σ615 _ _ _ hf hH hS (lv_sub hl [0] rfl)
  · replace hf := brT hf q617
    refine lv_aload_n hx hb dX8_formula_166 rfl (lv_at hl 0 rfl) ?_
    obtain ⟨r619, σ618, eσ618, hf⟩ := bnd2 hf
    refine g_cVi (As := []) X.1 hH hS (c_X8_isWell l G B σ615 σ618 r619 eσ618) kw_RX8_116 kX8 km_0 (by decide) rfl hl (Nat.le_of_ble_eq_true rfl) rfl dX8_formula_167 (fun H locs hH hS => ?_)
    refine lv_if_eq (tgt := 190) hx hb dX8_formula_170 (by decide) (fun q620 => ?_) (fun q620 => ?_)
    · replace hf := brT hf q620
      exact w_X8_formula_190 X σ618 hf _ _ hH hS _ (lv_sub hl [0] rfl)
    · replace hf := brF hf q620
      refine lv_aload_n hx hb dX8_formula_173 rfl (lv_at hl 0 rfl) ?_
      refine g_get (v := .int (σ618.1 0 11)) kX8 (by decide) fl_RX8_110 X.1 hH km_0 rfl dX8_formula_174 ?_
      refine lv_iconst (v := 1) hx hb dX8_formula_177 (by decide) ?_
      refine lv_icmp_ne (tgt := 190) hx hb dX8_formula_178 (by decide) (fun q1251 => ?_) (fun q1251 => ?_)
      · replace hf := brF hf q1251
        exact w_X8_formula_190 X σ618 hf _ _ hH hS _ (lv_sub hl [0] rfl)
      · replace hf := brT hf q1251
        refine lv_aload_n hx hb dX8_formula_181 rfl (lv_at hl 0 rfl) ?_
        refine g_get (v := .int (σ618.1 0 12)) kX8 (by decide) fl_RX8_107 X.1 hH km_0 rfl dX8_formula_182 ?_
        refine lv_bipush (v := 103) hx hb dX8_formula_185 (by decide) ?_
        refine lv_icmp_eq (tgt := 44) hx hb dX8_formula_187 (by decide) (fun q1252 => ?_) (fun q1252 => ?_)
        · replace hf := brT hf q1252
          exact ih44 σ618 _ _ _ hf hH hS (lv_sub hl [0] rfl)
        · replace hf := brF hf q1252
          exact w_X8_formula_190 X σ618 hf _ _ hH hS _ (lv_sub hl [0] rfl)
def b_X8_formula_82 (c44 : Sto → Option (Int32 × Sto)) (σ : Sto) : Option (Int32 × Sto) :=
  bd1 (f_X8_readsClause σ) fun σ510 => bd2 (f_X8_isWell σ510) fun r513 σ512 => if r513 = 0 then (b_X8_formula_159 c44 σ512) else (nmS (pL σ512 11 0 (1 : Int64)) fun σ1253 => bd1 (f_X8_copies 11 10 (0 : Int32) 7 312 ((12 : Int32) + ((10 : Int32) * (σ1253.2 7 9).toInt32)) (10 : Int32) σ1253) fun σ1254 => nmS (pL σ1254 7 10 ((σ1254.2 7 10) ||| ((1 : Int64) <<< (((σ1254.2 7 9).toInt32).toInt64 &&& 63)))) fun σ1256 => nmS (pL σ1256 7 9 ((σ1256.2 7 9) + (1 : Int64))) fun σ1257 => b_X8_formula_159 c44 σ1257)
set_option maxHeartbeats 4000000 in
set_option maxRecDepth 100000 in
theorem w_X8_formula_82 {p : Program} {l : Launch} {e : Env} {s : State} {m : MethodId} {args : Array Value} {below : List Frame} {meth : Method} {c : Code} {G : Gd} {B : Nat} (X : Cm p s m args meth c cX8_formula 4 RX8 G (some .int)) (c44 : Sto → Option (Int32 × Sto)) {r : Int32} {σr : Sto} (ih44 : ∀ (σ : Sto) (H : Heap) (locs : List Loc) (ls : Array Slot), c44 σ = some (r, σr) → HX G layM B σ H → va_S (inW layM B) s.heap H locs → lv_has ls 4 [(0, .ref (B + 0))] → WM p l e 6 s m args below meth c H locs G layM B (some (.int r)) σr (F0 m 44 ls [])) (σ : Sto) (hf : b_X8_formula_82 c44 σ = some (r, σr)) (H : Heap) (locs : List Loc) (hH : HX G layM B σ H) (hS : va_S (inW layM B) s.heap H locs) (ls : Array Slot) (hl : lv_has ls 4 [(0, .ref (B + 0))]) : WM p l e 6 s m args below meth c H locs G layM B (some (.int r)) σr (F0 m 82 ls []) := by
  unfold b_X8_formula_82 at hf
  have hx := X.1.1
  have hb := X.1.2.1
  refine lv_aload_n hx hb dX8_formula_82 rfl (lv_at hl 0 rfl) ?_
  obtain ⟨σ510, eσ510, hf⟩ := bnd1 hf
  refine g_cVv (As := []) X.1 hH hS (c_X8_readsClause l G B σ σ510 eσ510) kw_RX8_151 kX8 km_0 (by decide) rfl hl (Nat.le_of_ble_eq_true rfl) rfl dX8_formula_83 (fun H locs hH hS => ?_)
  refine lv_aload_n hx hb dX8_formula_86 rfl (lv_at hl 0 rfl) ?_
  obtain ⟨r513, σ512, eσ512, hf⟩ := bnd2 hf
  refine g_cVi (As := []) X.1 hH hS (c_X8_isWell l G B σ510 σ512 r513 eσ512) kw_RX8_116 kX8 km_0 (by decide) rfl hl (Nat.le_of_ble_eq_true rfl) rfl dX8_formula_87 (fun H locs hH hS => ?_)
  refine lv_if_eq (tgt := 159) hx hb dX8_formula_90 (by decide) (fun q514 => ?_) (fun q514 => ?_)
  · replace hf := brT hf q514
    exact w_X8_formula_159 X c44 ih44 σ512 hf _ _ hH hS _ (lv_sub hl [0] rfl)
  · replace hf := brF hf q514
    refine lv_aload_n hx hb dX8_formula_93 rfl (lv_at hl 0 rfl) ?_
    refine g_get (v := .ref (B + 11)) kX8 (by decide) fl_RX8_42 X.1 hH km_0 rfl dX8_formula_94 ?_
    refine lv_iconst (v := 0) hx hb dX8_formula_97 (by decide) ?_
    refine lv_lconst (v := 1) hx hb dX8_formula_98 (by decide) ?_
    refine g_last (j := 0) X.1 hH hS km_11 (by decide) rfl dX8_formula_99 (fun H locs hH hS => ?_)
    obtain ⟨σ1253, eσ1253, hH⟩ := nmX hH
    replace hf := nmU hf eσ1253
    refine lv_aload_n hx hb dX8_formula_100 rfl (lv_at hl 0 rfl) ?_
    refine g_get (v := .ref (B + 11)) kX8 (by decide) fl_RX8_42 X.1 hH km_0 rfl dX8_formula_101 ?_
    refine lv_iconst (v := 0) hx hb dX8_formula_104 (by decide) ?_
    refine lv_aload_n hx hb dX8_formula_105 rfl (lv_at hl 0 rfl) ?_
    refine g_get (v := .ref (B + 7)) kX8 (by decide) fl_RX8_29 X.1 hH km_0 rfl dX8_formula_106 ?_
    refine lv_bipush (v := 12) hx hb dX8_formula_109 (by decide) ?_
    refine lv_bipush (v := 10) hx hb dX8_formula_111 (by decide) ?_
    refine lv_aload_n hx hb dX8_formula_113 rfl (lv_at hl 0 rfl) ?_
    refine g_get (v := .ref (B + 7)) kX8 (by decide) fl_RX8_29 X.1 hH km_0 rfl dX8_formula_114 ?_
    refine lv_bipush (v := 9) hx hb dX8_formula_117 (by decide) ?_
    refine g_lald (j := 9) X.1 hH km_7 (by decide) rfl dX8_formula_119 ?_
    refine lv_l2i hx hb dX8_formula_120 rfl ?_
    refine lv_imul hx hb dX8_formula_121 ?_
    refine lv_iadd hx hb dX8_formula_122 ?_
    refine lv_bipush (v := 10) hx hb dX8_formula_123 (by decide) ?_
    obtain ⟨σ1254, eσ1254, hf⟩ := bnd1 hf
    refine g_cSv (As := [.ref (B + 11), .int (0 : Int32), .ref (B + 7), .int ((12 : Int32) + ((10 : Int32) * (σ1253.2 7 9).toInt32)), .int (10 : Int32)]) X.1 hH hS (c_X8_copies l G B 11 10 km_11 (0 : Int32) 7 312 km_7 ((12 : Int32) + ((10 : Int32) * (σ1253.2 7 9).toInt32)) (10 : Int32) σ1253 σ1254 eσ1254) kw_RX8_154 (by decide) rfl hl (Nat.le_of_ble_eq_true rfl) rfl dX8_formula_125 (fun H locs hH hS => ?_)
    refine lv_aload_n hx hb dX8_formula_128 rfl (lv_at hl 0 rfl) ?_
    refine g_get (v := .ref (B + 7)) kX8 (by decide) fl_RX8_29 X.1 hH km_0 rfl dX8_formula_129 ?_
    refine lv_bipush (v := 10) hx hb dX8_formula_132 (by decide) ?_
    refine lv_dup2_11 hx hb dX8_formula_134 rfl rfl ?_
    refine g_lald (j := 10) X.1 hH km_7 (by decide) rfl dX8_formula_135 ?_
    refine lv_lconst (v := 1) hx hb dX8_formula_136 (by decide) ?_
    refine lv_aload_n hx hb dX8_formula_137 rfl (lv_at hl 0 rfl) ?_
    refine g_get (v := .ref (B + 7)) kX8 (by decide) fl_RX8_29 X.1 hH km_0 rfl dX8_formula_138 ?_
    refine lv_bipush (v := 9) hx hb dX8_formula_141 (by decide) ?_
    refine g_lald (j := 9) X.1 hH km_7 (by decide) rfl dX8_formula_143 ?_
    refine lv_l2i hx hb dX8_formula_144 rfl ?_
    refine lv_lshl hx hb dX8_formula_145 rfl ?_
    refine lv_lor hx hb dX8_formula_146 ?_
    refine g_last (j := 10) X.1 hH hS km_7 (by decide) rfl dX8_formula_147 (fun H locs hH hS => ?_)
    obtain ⟨σ1256, eσ1256, hH⟩ := nmX hH
    replace hf := nmU hf eσ1256
    refine lv_aload_n hx hb dX8_formula_148 rfl (lv_at hl 0 rfl) ?_
    refine g_get (v := .ref (B + 7)) kX8 (by decide) fl_RX8_29 X.1 hH km_0 rfl dX8_formula_149 ?_
    refine lv_bipush (v := 9) hx hb dX8_formula_152 (by decide) ?_
    refine lv_dup2_11 hx hb dX8_formula_154 rfl rfl ?_
    refine g_lald (j := 9) X.1 hH km_7 (by decide) rfl dX8_formula_155 ?_
    refine lv_lconst (v := 1) hx hb dX8_formula_156 (by decide) ?_
    refine lv_ladd hx hb dX8_formula_157 ?_
    refine g_last (j := 9) X.1 hH hS km_7 (by decide) rfl dX8_formula_158 (fun H locs hH hS => ?_)
    obtain ⟨σ1257, eσ1257, hH⟩ := nmX hH
    replace hf := nmU hf eσ1257
    exact w_X8_formula_159 X c44 ih44 σ1257 hf _ _ hH hS _ (lv_sub hl [0] rfl)
def b_X8_formula_63 (c44 : Sto → Option (Int32 × Sto)) (s0 : Int32) (σ : Sto) : Option (Int32 × Sto) :=
  bd2 (f_X8_isWell σ) fun r408 σ407 => if r408 = 0 then (b_X8_formula_82 c44 σ407) else (if s0 = 0 then (bd2 (f_X8_takes (0 : Int32) (3 : Int32) σ407) fun r1260 σ1259 => b_X8_formula_82 c44 σ1259) else (b_X8_formula_82 c44 σ407))
set_option maxHeartbeats 4000000 in
set_option maxRecDepth 100000 in
theorem w_X8_formula_63 {p : Program} {l : Launch} {e : Env} {s : State} {m : MethodId} {args : Array Value} {below : List Frame} {meth : Method} {c : Code} {G : Gd} {B : Nat} (X : Cm p s m args meth c cX8_formula 4 RX8 G (some .int)) (c44 : Sto → Option (Int32 × Sto)) {r : Int32} {σr : Sto} (ih44 : ∀ (σ : Sto) (H : Heap) (locs : List Loc) (ls : Array Slot), c44 σ = some (r, σr) → HX G layM B σ H → va_S (inW layM B) s.heap H locs → lv_has ls 4 [(0, .ref (B + 0))] → WM p l e 6 s m args below meth c H locs G layM B (some (.int r)) σr (F0 m 44 ls [])) (s0 : Int32) (σ : Sto) (hf : b_X8_formula_63 c44 s0 σ = some (r, σr)) (H : Heap) (locs : List Loc) (hH : HX G layM B σ H) (hS : va_S (inW layM B) s.heap H locs) (ls : Array Slot) (hl : lv_has ls 4 [(0, .ref (B + 0))]) : WM p l e 6 s m args below meth c H locs G layM B (some (.int r)) σr (F0 m 63 ls [.int s0]) := by
  unfold b_X8_formula_63 at hf
  have hx := X.1.1
  have hb := X.1.2.1
  refine lv_istore_n (lv' := [(1, .int s0), (0, .ref (B + 0))]) hx hb dX8_formula_63 rfl hl (by decide) rfl (fun ls hl => ?_)
  refine lv_aload_n hx hb dX8_formula_64 rfl (lv_at hl 1 rfl) ?_
  obtain ⟨r408, σ407, eσ407, hf⟩ := bnd2 hf
  refine g_cVi (As := []) X.1 hH hS (c_X8_isWell l G B σ σ407 r408 eσ407) kw_RX8_116 kX8 km_0 (by decide) rfl hl (Nat.le_of_ble_eq_true rfl) rfl dX8_formula_65 (fun H locs hH hS => ?_)
  refine lv_if_eq (tgt := 82) hx hb dX8_formula_68 (by decide) (fun q409 => ?_) (fun q409 => ?_)
  · replace hf := brT hf q409
    exact w_X8_formula_82 X c44 ih44 σ407 hf _ _ hH hS _ (lv_sub hl [1] rfl)
  · replace hf := brF hf q409
    refine lv_iload_n hx hb dX8_formula_71 rfl (lv_at hl 0 rfl) ?_
    refine lv_if_ne (tgt := 82) hx hb dX8_formula_72 (by decide) (fun q1258 => ?_) (fun q1258 => ?_)
    · replace hf := brF hf q1258
      exact w_X8_formula_82 X c44 ih44 σ407 hf _ _ hH hS _ (lv_sub hl [1] rfl)
    · replace hf := brT hf q1258
      refine lv_aload_n hx hb dX8_formula_75 rfl (lv_at hl 1 rfl) ?_
      refine lv_iconst (v := 0) hx hb dX8_formula_76 (by decide) ?_
      refine lv_iconst (v := 3) hx hb dX8_formula_77 (by decide) ?_
      obtain ⟨r1260, σ1259, eσ1259, hf⟩ := bnd2 hf
      refine g_cVi (As := [.int (0 : Int32), .int (3 : Int32)]) X.1 hH hS (c_X8_takes l G B (0 : Int32) (3 : Int32) σ407 σ1259 r1260 eσ1259) kw_RX8_126 kX8 km_0 (by decide) rfl hl (Nat.le_of_ble_eq_true rfl) rfl dX8_formula_78 (fun H locs hH hS => ?_)
      refine lv_pop hx hb dX8_formula_81 rfl ?_
      exact w_X8_formula_82 X c44 ih44 σ1259 hf _ _ hH hS _ (lv_sub hl [1] rfl)
def b_X8_formula_44 (c44 : Sto → Option (Int32 × Sto)) (σ : Sto) : Option (Int32 × Sto) :=
  if (8 : Int64) ≤ (σ.2 7 9) then (b_X8_formula_63 c44 (0 : Int32) σ) else (b_X8_formula_63 c44 (1 : Int32) σ)
set_option maxHeartbeats 4000000 in
set_option maxRecDepth 100000 in
theorem w_X8_formula_44 {p : Program} {l : Launch} {e : Env} {s : State} {m : MethodId} {args : Array Value} {below : List Frame} {meth : Method} {c : Code} {G : Gd} {B : Nat} (X : Cm p s m args meth c cX8_formula 4 RX8 G (some .int)) (c44 : Sto → Option (Int32 × Sto)) {r : Int32} {σr : Sto} (ih44 : ∀ (σ : Sto) (H : Heap) (locs : List Loc) (ls : Array Slot), c44 σ = some (r, σr) → HX G layM B σ H → va_S (inW layM B) s.heap H locs → lv_has ls 4 [(0, .ref (B + 0))] → WM p l e 6 s m args below meth c H locs G layM B (some (.int r)) σr (F0 m 44 ls [])) (σ : Sto) (hf : b_X8_formula_44 c44 σ = some (r, σr)) (H : Heap) (locs : List Loc) (hH : HX G layM B σ H) (hS : va_S (inW layM B) s.heap H locs) (ls : Array Slot) (hl : lv_has ls 4 [(0, .ref (B + 0))]) : WM p l e 6 s m args below meth c H locs G layM B (some (.int r)) σr (F0 m 44 ls []) := by
  unfold b_X8_formula_44 at hf
  have hx := X.1.1
  have hb := X.1.2.1
  refine lv_aload_n hx hb dX8_formula_44 rfl (lv_at hl 0 rfl) ?_
  refine g_get (v := .ref (B + 7)) kX8 (by decide) fl_RX8_29 X.1 hH km_0 rfl dX8_formula_45 ?_
  refine lv_bipush (v := 9) hx hb dX8_formula_48 (by decide) ?_
  refine g_lald (j := 9) X.1 hH km_7 (by decide) rfl dX8_formula_50 ?_
  refine lv_ldc2 (v := 8) hx hb X.1.2.2.2.1 (X.1.2.2.2.2.1 _ kc_RX8_149) dX8_formula_51 ?_
  refine g_lge (tgt := 62) X.1 dX8_formula_54 dX8_formula_55 (by decide) (fun q306 => ?_) (fun q306 => ?_)
  · replace hf := brT hf q306
    refine lv_iconst (v := 0) hx hb dX8_formula_62 (by decide) ?_
    exact w_X8_formula_63 X c44 ih44 (0 : Int32) σ hf _ _ hH hS _ (lv_sub hl [0] rfl)
  · replace hf := brF hf q306
    refine lv_iconst (v := 1) hx hb dX8_formula_58 (by decide) ?_
    refine lv_goto (tgt := 63) hx hb dX8_formula_59 (by decide) ?_
    exact w_X8_formula_63 X c44 ih44 (1 : Int32) σ hf _ _ hH hS _ (lv_sub hl [0] rfl)
def l_X8_formula_44 : Nat → Sto → Option (Int32 × Sto)
  | 0, _ => none
  | n + 1, σ => b_X8_formula_44 (l_X8_formula_44 n) σ
set_option maxHeartbeats 4000000 in
set_option maxRecDepth 100000 in
theorem wl_X8_formula_44 {p : Program} {l : Launch} {e : Env} {s : State} {m : MethodId} {args : Array Value} {below : List Frame} {meth : Method} {c : Code} {G : Gd} {B : Nat} (X : Cm p s m args meth c cX8_formula 4 RX8 G (some .int)) {r : Int32} {σr : Sto} (n : Nat) : ∀ (σ : Sto) (H : Heap) (locs : List Loc) (ls : Array Slot), l_X8_formula_44 n σ = some (r, σr) → HX G layM B σ H → va_S (inW layM B) s.heap H locs → lv_has ls 4 [(0, .ref (B + 0))] → WM p l e 6 s m args below meth c H locs G layM B (some (.int r)) σr (F0 m 44 ls []) := by
  induction n with
  | zero =>
    intro σ H locs ls hf
    cases hf
  | succ n ih =>
    intro σ H locs ls hf hH hS hl
    exact w_X8_formula_44 X (l_X8_formula_44 n) ih σ hf H locs hH hS ls hl
def b_X8_formula_2 (c2 : Int32 → Sto → Option (Int32 × Sto)) (v1 : Int32) (σ : Sto) : Option (Int32 × Sto) :=
  if (312 : Int32) ≤ v1 then (nmS (pL σ 7 8 (-1000000 : Int64)) fun σ202 => nmS (pL σ202 7 11 (1 : Int64)) fun σ203 => bd1 (f_X8_begins σ203) fun σ204 => l_X8_formula_44 400 σ204) else (if (v1 < 0 ∨ 312 ≤ v1.toNatClampNeg) then none else nmS (pL σ 7 v1.toNatClampNeg (0 : Int64)) fun σ1262 => c2 (v1 + (1 : Int32)) σ1262)
set_option maxHeartbeats 4000000 in
set_option maxRecDepth 100000 in
theorem w_X8_formula_2 {p : Program} {l : Launch} {e : Env} {s : State} {m : MethodId} {args : Array Value} {below : List Frame} {meth : Method} {c : Code} {G : Gd} {B : Nat} (X : Cm p s m args meth c cX8_formula 4 RX8 G (some .int)) (c2 : Int32 → Sto → Option (Int32 × Sto)) {r : Int32} {σr : Sto} (ih2 : ∀ (v1 : Int32) (σ : Sto) (H : Heap) (locs : List Loc) (ls : Array Slot), c2 v1 σ = some (r, σr) → HX G layM B σ H → va_S (inW layM B) s.heap H locs → lv_has ls 4 [(0, .ref (B + 0)), (1, .int v1)] → WM p l e 6 s m args below meth c H locs G layM B (some (.int r)) σr (F0 m 2 ls [])) (v1 : Int32) (σ : Sto) (hf : b_X8_formula_2 c2 v1 σ = some (r, σr)) (H : Heap) (locs : List Loc) (hH : HX G layM B σ H) (hS : va_S (inW layM B) s.heap H locs) (ls : Array Slot) (hl : lv_has ls 4 [(0, .ref (B + 0)), (1, .int v1)]) : WM p l e 6 s m args below meth c H locs G layM B (some (.int r)) σr (F0 m 2 ls []) := by
  unfold b_X8_formula_2 at hf
  have hx := X.1.1
  have hb := X.1.2.1
  refine lv_iload_n hx hb dX8_formula_2 rfl (lv_at hl 1 rfl) ?_
  refine lv_sipush (v := 312) hx hb dX8_formula_3 (by decide) ?_
  refine lv_icmp_ge (tgt := 22) hx hb dX8_formula_6 (by decide) (fun q201 => ?_) (fun q201 => ?_)
  · replace hf := brT hf q201
    refine lv_aload_n hx hb dX8_formula_22 rfl (lv_at hl 0 rfl) ?_
    refine g_get (v := .ref (B + 7)) kX8 (by decide) fl_RX8_29 X.1 hH km_0 rfl dX8_formula_23 ?_
    refine lv_bipush (v := 8) hx hb dX8_formula_26 (by decide) ?_
    refine lv_ldc2 (v := -1000000) hx hb X.1.2.2.2.1 (X.1.2.2.2.2.1 _ kc_RX8_61) dX8_formula_28 ?_
    refine g_last (j := 8) X.1 hH hS km_7 (by decide) rfl dX8_formula_31 (fun H locs hH hS => ?_)
    obtain ⟨σ202, eσ202, hH⟩ := nmX hH
    replace hf := nmU hf eσ202
    refine lv_aload_n hx hb dX8_formula_32 rfl (lv_at hl 0 rfl) ?_
    refine g_get (v := .ref (B + 7)) kX8 (by decide) fl_RX8_29 X.1 hH km_0 rfl dX8_formula_33 ?_
    refine lv_bipush (v := 11) hx hb dX8_formula_36 (by decide) ?_
    refine lv_lconst (v := 1) hx hb dX8_formula_38 (by decide) ?_
    refine g_last (j := 11) X.1 hH hS km_7 (by decide) rfl dX8_formula_39 (fun H locs hH hS => ?_)
    obtain ⟨σ203, eσ203, hH⟩ := nmX hH
    replace hf := nmU hf eσ203
    refine lv_aload_n hx hb dX8_formula_40 rfl (lv_at hl 0 rfl) ?_
    obtain ⟨σ204, eσ204, hf⟩ := bnd1 hf
    refine g_cVv (As := []) X.1 hH hS (c_X8_begins l G B σ203 σ204 eσ204) kw_RX8_146 kX8 km_0 (by decide) rfl hl (Nat.le_of_ble_eq_true rfl) rfl dX8_formula_41 (fun H locs hH hS => ?_)
    exact wl_X8_formula_44 X 400 σ204 _ _ _ hf hH hS (lv_sub hl [0] rfl)
  · replace hf := brF hf q201
    refine lv_aload_n hx hb dX8_formula_9 rfl (lv_at hl 0 rfl) ?_
    refine g_get (v := .ref (B + 7)) kX8 (by decide) fl_RX8_29 X.1 hH km_0 rfl dX8_formula_10 ?_
    refine lv_iload_n hx hb dX8_formula_13 rfl (lv_at hl 1 rfl) ?_
    refine lv_lconst (v := 0) hx hb dX8_formula_14 (by decide) ?_
    obtain ⟨q1261, hf⟩ := chk hf
    refine g_last (j := v1.toNatClampNeg) X.1 hH hS km_7 q1261 rfl dX8_formula_15 (fun H locs hH hS => ?_)
    obtain ⟨σ1262, eσ1262, hH⟩ := nmX hH
    replace hf := nmU hf eσ1262
    refine lv_iinc (v := (v1 + (1 : Int32))) (lv' := [(1, .int (v1 + (1 : Int32))), (0, .ref (B + 0))]) hx hb dX8_formula_16 hl (k := 1) rfl rfl (by decide) rfl (fun ls hl => ?_)
    refine lv_goto (tgt := 2) hx hb dX8_formula_19 (by decide) ?_
    exact ih2 (v1 + (1 : Int32)) σ1262 _ _ _ hf hH hS (lv_sub hl [1, 0] rfl)
def l_X8_formula_2 : Nat → Int32 → Sto → Option (Int32 × Sto)
  | 0, _, _ => none
  | n + 1, v1, σ => b_X8_formula_2 (l_X8_formula_2 n) v1 σ
set_option maxHeartbeats 4000000 in
set_option maxRecDepth 100000 in
theorem wl_X8_formula_2 {p : Program} {l : Launch} {e : Env} {s : State} {m : MethodId} {args : Array Value} {below : List Frame} {meth : Method} {c : Code} {G : Gd} {B : Nat} (X : Cm p s m args meth c cX8_formula 4 RX8 G (some .int)) {r : Int32} {σr : Sto} (n : Nat) : ∀ (v1 : Int32) (σ : Sto) (H : Heap) (locs : List Loc) (ls : Array Slot), l_X8_formula_2 n v1 σ = some (r, σr) → HX G layM B σ H → va_S (inW layM B) s.heap H locs → lv_has ls 4 [(0, .ref (B + 0)), (1, .int v1)] → WM p l e 6 s m args below meth c H locs G layM B (some (.int r)) σr (F0 m 2 ls []) := by
  induction n with
  | zero =>
    intro _ σ H locs ls hf
    cases hf
  | succ n ih =>
    intro v1 σ H locs ls hf hH hS hl
    exact w_X8_formula_2 X (l_X8_formula_2 n) ih v1 σ hf H locs hH hS ls hl
def f_X8_formula (σ : Sto) : Option (Int32 × Sto) :=
  l_X8_formula_2 400 (0 : Int32) σ
set_option maxHeartbeats 4000000 in
set_option maxRecDepth 100000 in
theorem w_X8_formula {p : Program} {l : Launch} {e : Env} {s : State} {m : MethodId} {args : Array Value} {below : List Frame} {meth : Method} {c : Code} {G : Gd} {B : Nat} (X : Cm p s m args meth c cX8_formula 4 RX8 G (some .int)) {r : Int32} {σr : Sto} (σ : Sto) (hf : f_X8_formula σ = some (r, σr)) (H : Heap) (locs : List Loc) (hH : HX G layM B σ H) (hS : va_S (inW layM B) s.heap H locs) (ls : Array Slot) (hl : lv_has ls 4 [(0, .ref (B + 0))]) : WM p l e 6 s m args below meth c H locs G layM B (some (.int r)) σr (F0 m 0 ls []) := by
  unfold f_X8_formula at hf
  have hx := X.1.1
  have hb := X.1.2.1
  refine lv_iconst (v := 0) hx hb dX8_formula_0 (by decide) ?_
  refine lv_istore_n (lv' := [(1, .int (0 : Int32)), (0, .ref (B + 0))]) hx hb dX8_formula_1 rfl hl (by decide) rfl (fun ls hl => ?_)
  exact wl_X8_formula_2 X 400 (0 : Int32) σ _ _ _ hf hH hS (lv_sub hl [1, 0] rfl)
theorem c_X8_formula (l : Launch) (G : Gd) (B : Nat) (σ σr : Sto) (r : Int32) (hf : f_X8_formula σ = some (r, σr)) : Ct l G layM B yX8_formula cX8_formula 4 (some .int) 6 [.ref (B + 0)] (some (.int r)) σ σr :=
  Ct.ofW (by decide) (Nat.le_of_ble_eq_true rfl) (fun _ _ _ _ _ _ _ X hH hS ls hl => w_X8_formula X σ hf _ _ hH hS ls (show lv_has ls 4 [(0, .ref (B + 0))] from hl))
-- SlackProofsModel.holds(I)I  (D 3)
def b_X8_holds_63 (c41 : Int32 → Int32 → Int32 → Sto → Option (Int32 × Sto)) (v1 : Int32) (v3 : Int32) (s0 : Int32) (s1 : Int32) (σ : Sto) : Option (Int32 × Sto) :=
  nmS (s1 + s0) fun y313 => c41 v1 y313 (v3 + (1 : Int32)) σ
set_option maxHeartbeats 4000000 in
set_option maxRecDepth 100000 in
theorem w_X8_holds_63 {p : Program} {l : Launch} {e : Env} {s : State} {m : MethodId} {args : Array Value} {below : List Frame} {meth : Method} {c : Code} {G : Gd} {B : Nat} (X : Cm p s m args meth c cX8_holds 4 RX8 G (some .int)) (c41 : Int32 → Int32 → Int32 → Sto → Option (Int32 × Sto)) {r : Int32} {σr : Sto} (ih41 : ∀ (v1 : Int32) (v2 : Int32) (v3 : Int32) (σ : Sto) (H : Heap) (locs : List Loc) (ls : Array Slot), c41 v1 v2 v3 σ = some (r, σr) → HX G layM B σ H → va_S (inW layM B) s.heap H locs → lv_has ls 4 [(0, .ref (B + 0)), (1, .int v1), (2, .int v2), (3, .int v3)] → WM p l e 3 s m args below meth c H locs G layM B (some (.int r)) σr (F0 m 41 ls [])) (v1 : Int32) (v3 : Int32) (s0 : Int32) (s1 : Int32) (σ : Sto) (hf : b_X8_holds_63 c41 v1 v3 s0 s1 σ = some (r, σr)) (H : Heap) (locs : List Loc) (hH : HX G layM B σ H) (hS : va_S (inW layM B) s.heap H locs) (ls : Array Slot) (hl : lv_has ls 4 [(0, .ref (B + 0)), (1, .int v1), (3, .int v3)]) : WM p l e 3 s m args below meth c H locs G layM B (some (.int r)) σr (F0 m 63 ls [.int s0, .int s1]) := by
  unfold b_X8_holds_63 at hf
  have hx := X.1.1
  have hb := X.1.2.1
  refine lv_iadd hx hb dX8_holds_63 ?_
  refine lv_topi (fun y313 ey313 => ?_)
  replace hf := nmU hf ey313
  refine lv_istore_n (lv' := [(2, .int y313), (0, .ref (B + 0)), (1, .int v1), (3, .int v3)]) hx hb dX8_holds_64 rfl hl (by decide) rfl (fun ls hl => ?_)
  refine lv_iinc (v := (v3 + (1 : Int32))) (lv' := [(3, .int (v3 + (1 : Int32))), (2, .int y313), (0, .ref (B + 0)), (1, .int v1)]) hx hb dX8_holds_65 hl (k := 3) rfl rfl (by decide) rfl (fun ls hl => ?_)
  refine lv_goto (tgt := 41) hx hb dX8_holds_68 (by decide) ?_
  exact ih41 v1 y313 (v3 + (1 : Int32)) σ _ _ _ hf hH hS (lv_sub hl [2, 3, 1, 0] rfl)
def b_X8_holds_41 (c41 : Int32 → Int32 → Int32 → Sto → Option (Int32 × Sto)) (v1 : Int32) (v2 : Int32) (v3 : Int32) (σ : Sto) : Option (Int32 × Sto) :=
  if (256 : Int32) ≤ v3 then (bd2 (f_X8_well v2 σ) fun r209 σ208 => some (r209, σ208)) else (bd2 (f_X8_isHolding v1 v3 σ) fun r211 σ210 => if r211 = 0 then (b_X8_holds_63 c41 v1 v3 (0 : Int32) v2 σ210) else (b_X8_holds_63 c41 v1 v3 (1 : Int32) v2 σ210))
set_option maxHeartbeats 4000000 in
set_option maxRecDepth 100000 in
theorem w_X8_holds_41 {p : Program} {l : Launch} {e : Env} {s : State} {m : MethodId} {args : Array Value} {below : List Frame} {meth : Method} {c : Code} {G : Gd} {B : Nat} (X : Cm p s m args meth c cX8_holds 4 RX8 G (some .int)) (c41 : Int32 → Int32 → Int32 → Sto → Option (Int32 × Sto)) {r : Int32} {σr : Sto} (ih41 : ∀ (v1 : Int32) (v2 : Int32) (v3 : Int32) (σ : Sto) (H : Heap) (locs : List Loc) (ls : Array Slot), c41 v1 v2 v3 σ = some (r, σr) → HX G layM B σ H → va_S (inW layM B) s.heap H locs → lv_has ls 4 [(0, .ref (B + 0)), (1, .int v1), (2, .int v2), (3, .int v3)] → WM p l e 3 s m args below meth c H locs G layM B (some (.int r)) σr (F0 m 41 ls [])) (v1 : Int32) (v2 : Int32) (v3 : Int32) (σ : Sto) (hf : b_X8_holds_41 c41 v1 v2 v3 σ = some (r, σr)) (H : Heap) (locs : List Loc) (hH : HX G layM B σ H) (hS : va_S (inW layM B) s.heap H locs) (ls : Array Slot) (hl : lv_has ls 4 [(0, .ref (B + 0)), (1, .int v1), (2, .int v2), (3, .int v3)]) : WM p l e 3 s m args below meth c H locs G layM B (some (.int r)) σr (F0 m 41 ls []) := by
  unfold b_X8_holds_41 at hf
  have hx := X.1.1
  have hb := X.1.2.1
  refine lv_iload_n hx hb dX8_holds_41 rfl (lv_at hl 3 rfl) ?_
  refine lv_sipush (v := 256) hx hb dX8_holds_42 (by decide) ?_
  refine lv_icmp_ge (tgt := 71) hx hb dX8_holds_45 (by decide) (fun q207 => ?_) (fun q207 => ?_)
  · replace hf := brT hf q207
    refine lv_aload_n hx hb dX8_holds_71 rfl (lv_at hl 0 rfl) ?_
    refine lv_iload_n hx hb dX8_holds_72 rfl (lv_at hl 2 rfl) ?_
    obtain ⟨r209, σ208, eσ208, hf⟩ := bnd2 hf
    refine g_cVi (As := [.int v2]) X.1 hH hS (c_X8_well l G B v2 σ σ208 r209 eσ208) kw_RX8_81 kX8 km_0 (by decide) rfl hl (Nat.le_of_ble_eq_true rfl) rfl dX8_holds_73 (fun H locs hH hS => ?_)
    obtain ⟨rfl, rfl⟩ := rt2 hf
    exact g_iret X hH hS dX8_holds_76
  · replace hf := brF hf q207
    refine lv_iload_n hx hb dX8_holds_48 rfl (lv_at hl 2 rfl) ?_
    refine lv_aload_n hx hb dX8_holds_49 rfl (lv_at hl 0 rfl) ?_
    refine lv_iload_n hx hb dX8_holds_50 rfl (lv_at hl 1 rfl) ?_
    refine lv_iload_n hx hb dX8_holds_51 rfl (lv_at hl 3 rfl) ?_
    obtain ⟨r211, σ210, eσ210, hf⟩ := bnd2 hf
    refine g_cVi (As := [.int v1, .int v3]) X.1 hH hS (c_X8_isHolding l G B v1 v3 σ σ210 r211 eσ210) kw_RX8_244 kX8 km_0 (by decide) rfl hl (Nat.le_of_ble_eq_true rfl) rfl dX8_holds_52 (fun H locs hH hS => ?_)
    refine lv_if_eq (tgt := 62) hx hb dX8_holds_55 (by decide) (fun q212 => ?_) (fun q212 => ?_)
    · replace hf := brT hf q212
      refine lv_iconst (v := 0) hx hb dX8_holds_62 (by decide) ?_
      exact w_X8_holds_63 X c41 ih41 v1 v3 (0 : Int32) v2 σ210 hf _ _ hH hS _ (lv_sub hl [0, 1, 3] rfl)
    · replace hf := brF hf q212
      refine lv_iconst (v := 1) hx hb dX8_holds_58 (by decide) ?_
      refine lv_goto (tgt := 63) hx hb dX8_holds_59 (by decide) ?_
      exact w_X8_holds_63 X c41 ih41 v1 v3 (1 : Int32) v2 σ210 hf _ _ hH hS _ (lv_sub hl [0, 1, 3] rfl)
def l_X8_holds_41 : Nat → Int32 → Int32 → Int32 → Sto → Option (Int32 × Sto)
  | 0, _, _, _, _ => none
  | n + 1, v1, v2, v3, σ => b_X8_holds_41 (l_X8_holds_41 n) v1 v2 v3 σ
set_option maxHeartbeats 4000000 in
set_option maxRecDepth 100000 in
theorem wl_X8_holds_41 {p : Program} {l : Launch} {e : Env} {s : State} {m : MethodId} {args : Array Value} {below : List Frame} {meth : Method} {c : Code} {G : Gd} {B : Nat} (X : Cm p s m args meth c cX8_holds 4 RX8 G (some .int)) {r : Int32} {σr : Sto} (n : Nat) : ∀ (v1 : Int32) (v2 : Int32) (v3 : Int32) (σ : Sto) (H : Heap) (locs : List Loc) (ls : Array Slot), l_X8_holds_41 n v1 v2 v3 σ = some (r, σr) → HX G layM B σ H → va_S (inW layM B) s.heap H locs → lv_has ls 4 [(0, .ref (B + 0)), (1, .int v1), (2, .int v2), (3, .int v3)] → WM p l e 3 s m args below meth c H locs G layM B (some (.int r)) σr (F0 m 41 ls []) := by
  induction n with
  | zero =>
    intro _ _ _ σ H locs ls hf
    cases hf
  | succ n ih =>
    intro v1 v2 v3 σ H locs ls hf hH hS hl
    exact w_X8_holds_41 X (l_X8_holds_41 n) ih v1 v2 v3 σ hf H locs hH hS ls hl
def f_X8_holds (x1 : Int32) (σ : Sto) : Option (Int32 × Sto) :=
  bd2 (f_X8_isLive x1 σ) fun r102 σ101 => if r102 = 0 then (some ((-1000001 : Int32), σ101)) else (bd2 (f_X8_sumOf 6 312 ((12 : Int32) + ((10 : Int32) * x1)) σ101) fun r105 σ104 => if (0 : Int64) ≤ r105 then (l_X8_holds_41 400 x1 (0 : Int32) (0 : Int32) σ104) else (bd2 (f_X8_found (6 : Int32) σ104) fun r315 σ314 => some (r315, σ314)))
set_option maxHeartbeats 4000000 in
set_option maxRecDepth 100000 in
theorem w_X8_holds {p : Program} {l : Launch} {e : Env} {s : State} {m : MethodId} {args : Array Value} {below : List Frame} {meth : Method} {c : Code} {G : Gd} {B : Nat} (X : Cm p s m args meth c cX8_holds 4 RX8 G (some .int)) {r : Int32} {σr : Sto} (x1 : Int32) (σ : Sto) (hf : f_X8_holds x1 σ = some (r, σr)) (H : Heap) (locs : List Loc) (hH : HX G layM B σ H) (hS : va_S (inW layM B) s.heap H locs) (ls : Array Slot) (hl : lv_has ls 4 [(0, .ref (B + 0)), (1, .int x1)]) : WM p l e 3 s m args below meth c H locs G layM B (some (.int r)) σr (F0 m 0 ls []) := by
  unfold f_X8_holds at hf
  have hx := X.1.1
  have hb := X.1.2.1
  refine lv_aload_n hx hb dX8_holds_0 rfl (lv_at hl 0 rfl) ?_
  refine lv_iload_n hx hb dX8_holds_1 rfl (lv_at hl 1 rfl) ?_
  obtain ⟨r102, σ101, eσ101, hf⟩ := bnd2 hf
  refine g_cVi (As := [.int x1]) X.1 hH hS (c_X8_isLive l G B x1 σ σ101 r102 eσ101) kw_RX8_175 kX8 km_0 (by decide) rfl hl (Nat.le_of_ble_eq_true rfl) rfl dX8_holds_2 (fun H locs hH hS => ?_)
  refine lv_if_ne (tgt := 11) hx hb dX8_holds_5 (by decide) (fun q103 => ?_) (fun q103 => ?_)
  · replace hf := brF hf q103
    refine lv_aload_n hx hb dX8_holds_11 rfl (lv_at hl 0 rfl) ?_
    refine g_get (v := .ref (B + 6)) kX8 (by decide) fl_RX8_25 X.1 hH km_0 rfl dX8_holds_12 ?_
    refine lv_bipush (v := 12) hx hb dX8_holds_15 (by decide) ?_
    refine lv_bipush (v := 10) hx hb dX8_holds_17 (by decide) ?_
    refine lv_iload_n hx hb dX8_holds_19 rfl (lv_at hl 1 rfl) ?_
    refine lv_imul hx hb dX8_holds_20 ?_
    refine lv_iadd hx hb dX8_holds_21 ?_
    obtain ⟨r105, σ104, eσ104, hf⟩ := bnd2 hf
    refine g_cSl (As := [.ref (B + 6), .int ((12 : Int32) + ((10 : Int32) * x1))]) X.1 hH hS (c_X8_sumOf l G B 6 312 km_6 ((12 : Int32) + ((10 : Int32) * x1)) σ101 σ104 r105 eσ104) kw_RX8_196 (by decide) rfl hl (Nat.le_of_ble_eq_true rfl) rfl dX8_holds_22 (fun H locs hH hS => ?_)
    refine lv_lconst (v := 0) hx hb dX8_holds_25 (by decide) ?_
    refine g_lge (tgt := 37) X.1 dX8_holds_26 dX8_holds_27 (by decide) (fun q106 => ?_) (fun q106 => ?_)
    · replace hf := brT hf q106
      refine lv_iconst (v := 0) hx hb dX8_holds_37 (by decide) ?_
      refine lv_istore_n (lv' := [(2, .int (0 : Int32)), (0, .ref (B + 0)), (1, .int x1)]) hx hb dX8_holds_38 rfl hl (by decide) rfl (fun ls hl => ?_)
      refine lv_iconst (v := 0) hx hb dX8_holds_39 (by decide) ?_
      refine lv_istore_n (lv' := [(3, .int (0 : Int32)), (2, .int (0 : Int32)), (0, .ref (B + 0)), (1, .int x1)]) hx hb dX8_holds_40 rfl hl (by decide) rfl (fun ls hl => ?_)
      exact wl_X8_holds_41 X 400 x1 (0 : Int32) (0 : Int32) σ104 _ _ _ hf hH hS (lv_sub hl [2, 3, 1, 0] rfl)
    · replace hf := brF hf q106
      refine lv_aload_n hx hb dX8_holds_30 rfl (lv_at hl 0 rfl) ?_
      refine lv_bipush (v := 6) hx hb dX8_holds_31 (by decide) ?_
      obtain ⟨r315, σ314, eσ314, hf⟩ := bnd2 hf
      refine g_cVi (As := [.int (6 : Int32)]) X.1 hH hS (c_X8_found l G B (6 : Int32) σ104 σ314 r315 eσ314) kw_RX8_77 kX8 km_0 (by decide) rfl hl (Nat.le_of_ble_eq_true rfl) rfl dX8_holds_33 (fun H locs hH hS => ?_)
      obtain ⟨rfl, rfl⟩ := rt2 hf
      exact g_iret X hH hS dX8_holds_36
  · replace hf := brT hf q103
    refine lv_ldc (v := -1000001) hx hb X.1.2.2.2.1 (X.1.2.2.2.2.1 _ kc_RX8_76) dX8_holds_8 ?_
    obtain ⟨rfl, rfl⟩ := rt2 hf
    exact g_iret X hH hS dX8_holds_10
theorem c_X8_holds (l : Launch) (G : Gd) (B : Nat) (x1 : Int32) (σ σr : Sto) (r : Int32) (hf : f_X8_holds x1 σ = some (r, σr)) : Ct l G layM B yX8_holds cX8_holds 4 (some .int) 3 [.ref (B + 0), .int x1] (some (.int r)) σ σr :=
  Ct.ofW (by decide) (Nat.le_of_ble_eq_true rfl) (fun _ _ _ _ _ _ _ X hH hS ls hl => w_X8_holds X x1 σ hf _ _ hH hS ls (show lv_has ls 4 [(0, .ref (B + 0)), (1, .int x1)] from hl))
-- SlackProofsModel.image(I)I  (D 1)
def f_X8_image (x1 : Int32) (σ : Sto) : Option (Int32 × Sto) :=
  bd2 (f_X8_in x1 (0 : Int32) (1 : Int32) σ) fun r102 σ101 => if r102 = 0 then (some ((-1000001 : Int32), σ101)) else (bd2 (f_X8_isFormula σ101) fun r105 σ104 => if r105 = 0 then (some ((-1000002 : Int32), σ104)) else (bd1 (f_X8_copies 6 312 (0 : Int32) 9 624 ((312 : Int32) * x1) (312 : Int32) σ104) fun σ107 => if (x1 < 0 ∨ 2 ≤ x1.toNatClampNeg) then none else nmS (pI σ107 10 x1.toNatClampNeg (1 : Int32)) fun σ110 => bd2 (f_X8_ones ((σ110.2 6 10).toInt32) σ110) fun r112 σ111 => some (r112, σ111)))
set_option maxHeartbeats 4000000 in
set_option maxRecDepth 100000 in
theorem w_X8_image {p : Program} {l : Launch} {e : Env} {s : State} {m : MethodId} {args : Array Value} {below : List Frame} {meth : Method} {c : Code} {G : Gd} {B : Nat} (X : Cm p s m args meth c cX8_image 2 RX8 G (some .int)) {r : Int32} {σr : Sto} (x1 : Int32) (σ : Sto) (hf : f_X8_image x1 σ = some (r, σr)) (H : Heap) (locs : List Loc) (hH : HX G layM B σ H) (hS : va_S (inW layM B) s.heap H locs) (ls : Array Slot) (hl : lv_has ls 2 [(0, .ref (B + 0)), (1, .int x1)]) : WM p l e 1 s m args below meth c H locs G layM B (some (.int r)) σr (F0 m 0 ls []) := by
  unfold f_X8_image at hf
  have hx := X.1.1
  have hb := X.1.2.1
  refine lv_iload_n hx hb dX8_image_0 rfl (lv_at hl 1 rfl) ?_
  refine lv_iconst (v := 0) hx hb dX8_image_1 (by decide) ?_
  refine lv_iconst (v := 1) hx hb dX8_image_2 (by decide) ?_
  obtain ⟨r102, σ101, eσ101, hf⟩ := bnd2 hf
  refine g_cSi (As := [.int x1, .int (0 : Int32), .int (1 : Int32)]) X.1 hH hS (c_X8_in l G B x1 (0 : Int32) (1 : Int32) σ σ101 r102 eσ101) kw_RX8_68 (by decide) rfl hl (Nat.le_of_ble_eq_true rfl) rfl dX8_image_3 (fun H locs hH hS => ?_)
  refine lv_if_ne (tgt := 12) hx hb dX8_image_6 (by decide) (fun q103 => ?_) (fun q103 => ?_)
  · replace hf := brF hf q103
    refine lv_aload_n hx hb dX8_image_12 rfl (lv_at hl 0 rfl) ?_
    obtain ⟨r105, σ104, eσ104, hf⟩ := bnd2 hf
    refine g_cVi (As := []) X.1 hH hS (c_X8_isFormula l G B σ101 σ104 r105 eσ104) kw_RX8_171 kX8 km_0 (by decide) rfl hl (Nat.le_of_ble_eq_true rfl) rfl dX8_image_13 (fun H locs hH hS => ?_)
    refine lv_if_ne (tgt := 22) hx hb dX8_image_16 (by decide) (fun q106 => ?_) (fun q106 => ?_)
    · replace hf := brF hf q106
      refine lv_aload_n hx hb dX8_image_22 rfl (lv_at hl 0 rfl) ?_
      refine g_get (v := .ref (B + 6)) kX8 (by decide) fl_RX8_25 X.1 hH km_0 rfl dX8_image_23 ?_
      refine lv_iconst (v := 0) hx hb dX8_image_26 (by decide) ?_
      refine lv_aload_n hx hb dX8_image_27 rfl (lv_at hl 0 rfl) ?_
      refine g_get (v := .ref (B + 9)) kX8 (by decide) fl_RX8_35 X.1 hH km_0 rfl dX8_image_28 ?_
      refine lv_sipush (v := 312) hx hb dX8_image_31 (by decide) ?_
      refine lv_iload_n hx hb dX8_image_34 rfl (lv_at hl 1 rfl) ?_
      refine lv_imul hx hb dX8_image_35 ?_
      refine lv_sipush (v := 312) hx hb dX8_image_36 (by decide) ?_
      obtain ⟨σ107, eσ107, hf⟩ := bnd1 hf
      refine g_cSv (As := [.ref (B + 6), .int (0 : Int32), .ref (B + 9), .int ((312 : Int32) * x1), .int (312 : Int32)]) X.1 hH hS (c_X8_copies l G B 6 312 km_6 (0 : Int32) 9 624 km_9 ((312 : Int32) * x1) (312 : Int32) σ104 σ107 eσ107) kw_RX8_154 (by decide) rfl hl (Nat.le_of_ble_eq_true rfl) rfl dX8_image_39 (fun H locs hH hS => ?_)
      refine lv_aload_n hx hb dX8_image_42 rfl (lv_at hl 0 rfl) ?_
      refine g_get (v := .ref (B + 10)) kX8 (by decide) fl_RX8_38 X.1 hH km_0 rfl dX8_image_43 ?_
      refine lv_iload_n hx hb dX8_image_46 rfl (lv_at hl 1 rfl) ?_
      refine lv_iconst (v := 1) hx hb dX8_image_47 (by decide) ?_
      obtain ⟨q109, hf⟩ := chk hf
      refine g_zast (j := x1.toNatClampNeg) X.1 hH hS km_10 rfl q109 rfl dX8_image_48 (fun H locs hH hS => ?_)
      obtain ⟨σ110, eσ110, hH⟩ := nmX hH
      replace hf := nmU hf eσ110
      refine lv_aload_n hx hb dX8_image_49 rfl (lv_at hl 0 rfl) ?_
      refine g_get (v := .ref (B + 6)) kX8 (by decide) fl_RX8_25 X.1 hH km_0 rfl dX8_image_50 ?_
      refine lv_bipush (v := 10) hx hb dX8_image_53 (by decide) ?_
      refine g_lald (j := 10) X.1 hH km_6 (by decide) rfl dX8_image_55 ?_
      refine lv_l2i hx hb dX8_image_56 rfl ?_
      obtain ⟨r112, σ111, eσ111, hf⟩ := bnd2 hf
      refine g_cSi (As := [.int ((σ110.2 6 10).toInt32)]) X.1 hH hS (c_X8_ones l G B ((σ110.2 6 10).toInt32) σ110 σ111 r112 eσ111) kw_RX8_255 (by decide) rfl hl (Nat.le_of_ble_eq_true rfl) rfl dX8_image_57 (fun H locs hH hS => ?_)
      obtain ⟨rfl, rfl⟩ := rt2 hf
      exact g_iret X hH hS dX8_image_60
    · replace hf := brT hf q106
      refine lv_ldc (v := -1000002) hx hb X.1.2.2.2.1 (X.1.2.2.2.2.1 _ kc_RX8_174) dX8_image_19 ?_
      obtain ⟨rfl, rfl⟩ := rt2 hf
      exact g_iret X hH hS dX8_image_21
  · replace hf := brT hf q103
    refine lv_ldc (v := -1000001) hx hb X.1.2.2.2.1 (X.1.2.2.2.2.1 _ kc_RX8_76) dX8_image_9 ?_
    obtain ⟨rfl, rfl⟩ := rt2 hf
    exact g_iret X hH hS dX8_image_11
theorem c_X8_image (l : Launch) (G : Gd) (B : Nat) (x1 : Int32) (σ σr : Sto) (r : Int32) (hf : f_X8_image x1 σ = some (r, σr)) : Ct l G layM B yX8_image cX8_image 2 (some .int) 1 [.ref (B + 0), .int x1] (some (.int r)) σ σr :=
  Ct.ofW (by decide) (Nat.le_of_ble_eq_true rfl) (fun _ _ _ _ _ _ _ X hH hS ls hl => w_X8_image X x1 σ hf _ _ hH hS ls (show lv_has ls 2 [(0, .ref (B + 0)), (1, .int x1)] from hl))
