-- SlackProofsModel.witness(I)I  (D 6)
def b_X8_witness_301 (s0 : Int32) (σ : Sto) : Option (Int32 × Sto) :=
  bd2 (f_X8_well s0 σ) fun r738 σ737 => some (r738, σ737)
set_option maxHeartbeats 4000000 in
set_option maxRecDepth 100000 in
theorem w_X8_witness_301 {p : Program} {l : Launch} {e : Env} {s : State} {m : MethodId} {args : Array Value} {below : List Frame} {meth : Method} {c : Code} {G : Gd} {B : Nat} (X : Cm p s m args meth c cX8_witness 4 RX8 G (some .int)) {r : Int32} {σr : Sto} (s0 : Int32) (σ : Sto) (hf : b_X8_witness_301 s0 σ = some (r, σr)) (H : Heap) (locs : List Loc) (hH : HX G layM B σ H) (hS : va_S (inW layM B) s.heap H locs) (ls : Array Slot) (hl : lv_has ls 4 []) : WM p l e 6 s m args below meth c H locs G layM B (some (.int r)) σr (F0 m 301 ls [.int s0, .ref (B + 0)]) := by
  unfold b_X8_witness_301 at hf
  have hx := X.1.1
  have hb := X.1.2.1
  obtain ⟨r738, σ737, eσ737, hf⟩ := bnd2 hf
  refine g_cVi (As := [.int s0]) X.1 hH hS (c_X8_well l G B s0 σ σ737 r738 eσ737) kw_RX8_81 kX8 km_0 (by decide) rfl hl (Nat.le_of_ble_eq_true rfl) rfl dX8_witness_301 (fun H locs hH hS => ?_)
  obtain ⟨rfl, rfl⟩ := rt2 hf
  exact g_iret X hH hS dX8_witness_304
def b_X8_witness_286 (v2 : Int32) (σ : Sto) : Option (Int32 × Sto) :=
  if v2 = 0 then (b_X8_witness_301 (-1000000 : Int32) σ) else (bd2 (f_X8_comes (5 : Int32) σ) fun r740 σ739 => b_X8_witness_301 r740 σ739)
set_option maxHeartbeats 4000000 in
set_option maxRecDepth 100000 in
theorem w_X8_witness_286 {p : Program} {l : Launch} {e : Env} {s : State} {m : MethodId} {args : Array Value} {below : List Frame} {meth : Method} {c : Code} {G : Gd} {B : Nat} (X : Cm p s m args meth c cX8_witness 4 RX8 G (some .int)) {r : Int32} {σr : Sto} (v2 : Int32) (σ : Sto) (hf : b_X8_witness_286 v2 σ = some (r, σr)) (H : Heap) (locs : List Loc) (hH : HX G layM B σ H) (hS : va_S (inW layM B) s.heap H locs) (ls : Array Slot) (hl : lv_has ls 4 [(0, .ref (B + 0)), (2, .int v2)]) : WM p l e 6 s m args below meth c H locs G layM B (some (.int r)) σr (F0 m 286 ls []) := by
  unfold b_X8_witness_286 at hf
  have hx := X.1.1
  have hb := X.1.2.1
  refine lv_aload_n hx hb dX8_witness_286 rfl (lv_at hl 0 rfl) ?_
  refine lv_iload_n hx hb dX8_witness_287 rfl (lv_at hl 1 rfl) ?_
  refine lv_if_eq (tgt := 299) hx hb dX8_witness_288 (by decide) (fun q636 => ?_) (fun q636 => ?_)
  · replace hf := brT hf q636
    refine lv_ldc (v := -1000000) hx hb X.1.2.2.2.1 (X.1.2.2.2.2.1 _ kc_RX8_60) dX8_witness_299 ?_
    exact w_X8_witness_301 X (-1000000 : Int32) σ hf _ _ hH hS _ (lv_sub hl [] rfl)
  · replace hf := brF hf q636
    refine lv_aload_n hx hb dX8_witness_291 rfl (lv_at hl 0 rfl) ?_
    refine lv_iconst (v := 5) hx hb dX8_witness_292 (by decide) ?_
    obtain ⟨r740, σ739, eσ739, hf⟩ := bnd2 hf
    refine g_cVi (As := [.int (5 : Int32)]) X.1 hH hS (c_X8_comes l G B (5 : Int32) σ σ739 r740 eσ739) kw_RX8_191 kX8 km_0 (by decide) rfl hl (Nat.le_of_ble_eq_true rfl) rfl dX8_witness_293 (fun H locs hH hS => ?_)
    refine lv_goto (tgt := 301) hx hb dX8_witness_296 (by decide) ?_
    exact w_X8_witness_301 X r740 σ739 hf _ _ hH hS _ (lv_sub hl [] rfl)
def b_X8_witness_255 (v1 : Int32) (v2 : Int32) (σ : Sto) : Option (Int32 × Sto) :=
  if v2 = 0 then (b_X8_witness_286 v2 σ) else (bd2 (f_X8_allPrices σ) fun r742 σ741 => if r742 ≤ (0 : Int64) then (b_X8_witness_286 v2 σ741) else (bd1 (f_X8_pricesPut v1 σ741) fun σ744 => bd2 (f_X8_isFollowing 12 10 (0 : Int32) (-1000000 : Int32) (1 : Int32) σ744) fun r747 σ746 => b_X8_witness_286 r747 σ746))
set_option maxHeartbeats 4000000 in
set_option maxRecDepth 100000 in
theorem w_X8_witness_255 {p : Program} {l : Launch} {e : Env} {s : State} {m : MethodId} {args : Array Value} {below : List Frame} {meth : Method} {c : Code} {G : Gd} {B : Nat} (X : Cm p s m args meth c cX8_witness 4 RX8 G (some .int)) {r : Int32} {σr : Sto} (v1 : Int32) (v2 : Int32) (σ : Sto) (hf : b_X8_witness_255 v1 v2 σ = some (r, σr)) (H : Heap) (locs : List Loc) (hH : HX G layM B σ H) (hS : va_S (inW layM B) s.heap H locs) (ls : Array Slot) (hl : lv_has ls 4 [(0, .ref (B + 0)), (1, .int v1), (2, .int v2)]) : WM p l e 6 s m args below meth c H locs G layM B (some (.int r)) σr (F0 m 255 ls []) := by
  unfold b_X8_witness_255 at hf
  have hx := X.1.1
  have hb := X.1.2.1
  refine lv_iload_n hx hb dX8_witness_255 rfl (lv_at hl 2 rfl) ?_
  refine lv_if_eq (tgt := 286) hx hb dX8_witness_256 (by decide) (fun q535 => ?_) (fun q535 => ?_)
  · replace hf := brT hf q535
    exact w_X8_witness_286 X v2 σ hf _ _ hH hS _ (lv_sub hl [0, 2] rfl)
  · replace hf := brF hf q535
    refine lv_aload_n hx hb dX8_witness_259 rfl (lv_at hl 0 rfl) ?_
    obtain ⟨r742, σ741, eσ741, hf⟩ := bnd2 hf
    refine g_cVl (As := []) X.1 hH hS (c_X8_allPrices l G B σ σ741 r742 eσ741) kw_RX8_237 kX8 km_0 (by decide) rfl hl (Nat.le_of_ble_eq_true rfl) rfl dX8_witness_260 (fun H locs hH hS => ?_)
    refine lv_lconst (v := 0) hx hb dX8_witness_263 (by decide) ?_
    refine g_lle (tgt := 286) X.1 dX8_witness_264 dX8_witness_265 (by decide) (fun q743 => ?_) (fun q743 => ?_)
    · replace hf := brT hf q743
      exact w_X8_witness_286 X v2 σ741 hf _ _ hH hS _ (lv_sub hl [0, 2] rfl)
    · replace hf := brF hf q743
      refine lv_aload_n hx hb dX8_witness_268 rfl (lv_at hl 0 rfl) ?_
      refine lv_iload_n hx hb dX8_witness_269 rfl (lv_at hl 1 rfl) ?_
      obtain ⟨σ744, eσ744, hf⟩ := bnd1 hf
      refine g_cVv (As := [.int v1]) X.1 hH hS (c_X8_pricesPut l G B v1 σ741 σ744 eσ744) kw_RX8_241 kX8 km_0 (by decide) rfl hl (Nat.le_of_ble_eq_true rfl) rfl dX8_witness_270 (fun H locs hH hS => ?_)
      refine lv_aload_n hx hb dX8_witness_273 rfl (lv_at hl 0 rfl) ?_
      refine lv_aload_n hx hb dX8_witness_274 rfl (lv_at hl 0 rfl) ?_
      refine g_get (v := .ref (B + 12)) kX8 (by decide) fl_RX8_45 X.1 hH km_0 rfl dX8_witness_275 ?_
      refine lv_iconst (v := 0) hx hb dX8_witness_278 (by decide) ?_
      refine lv_ldc (v := -1000000) hx hb X.1.2.2.2.1 (X.1.2.2.2.2.1 _ kc_RX8_60) dX8_witness_279 ?_
      refine lv_iconst (v := 1) hx hb dX8_witness_281 (by decide) ?_
      obtain ⟨r747, σ746, eσ746, hf⟩ := bnd2 hf
      refine g_cVi (As := [.ref (B + 12), .int (0 : Int32), .int (-1000000 : Int32), .int (1 : Int32)]) X.1 hH hS (c_X8_isFollowing l G B 12 10 km_12 (0 : Int32) (-1000000 : Int32) (1 : Int32) σ744 σ746 r747 eσ746) kw_RX8_225 kX8 km_0 (by decide) rfl hl (Nat.le_of_ble_eq_true rfl) rfl dX8_witness_282 (fun H locs hH hS => ?_)
      refine lv_istore_n (lv' := [(2, .int r747), (0, .ref (B + 0)), (1, .int v1)]) hx hb dX8_witness_285 rfl hl (by decide) rfl (fun ls hl => ?_)
      exact w_X8_witness_286 X r747 σ746 hf _ _ hH hS _ (lv_sub hl [1, 0] rfl)
def b_X8_witness_222 (c175 : Int32 → Int32 → Int32 → Sto → Option (Int32 × Sto)) (v1 : Int32) (v2 : Int32) (v3 : Int32) (σ : Sto) : Option (Int32 × Sto) :=
  c175 v1 v2 (v3 + (1 : Int32)) σ
set_option maxHeartbeats 4000000 in
set_option maxRecDepth 100000 in
theorem w_X8_witness_222 {p : Program} {l : Launch} {e : Env} {s : State} {m : MethodId} {args : Array Value} {below : List Frame} {meth : Method} {c : Code} {G : Gd} {B : Nat} (X : Cm p s m args meth c cX8_witness 4 RX8 G (some .int)) (c175 : Int32 → Int32 → Int32 → Sto → Option (Int32 × Sto)) {r : Int32} {σr : Sto} (ih175 : ∀ (v1 : Int32) (v2 : Int32) (v3 : Int32) (σ : Sto) (H : Heap) (locs : List Loc) (ls : Array Slot), c175 v1 v2 v3 σ = some (r, σr) → HX G layM B σ H → va_S (inW layM B) s.heap H locs → lv_has ls 4 [(0, .ref (B + 0)), (1, .int v1), (2, .int v2), (3, .int v3)] → WM p l e 6 s m args below meth c H locs G layM B (some (.int r)) σr (F0 m 175 ls [])) (v1 : Int32) (v2 : Int32) (v3 : Int32) (σ : Sto) (hf : b_X8_witness_222 c175 v1 v2 v3 σ = some (r, σr)) (H : Heap) (locs : List Loc) (hH : HX G layM B σ H) (hS : va_S (inW layM B) s.heap H locs) (ls : Array Slot) (hl : lv_has ls 4 [(0, .ref (B + 0)), (1, .int v1), (2, .int v2), (3, .int v3)]) : WM p l e 6 s m args below meth c H locs G layM B (some (.int r)) σr (F0 m 222 ls []) := by
  unfold b_X8_witness_222 at hf
  have hx := X.1.1
  have hb := X.1.2.1
  refine lv_iinc (v := (v3 + (1 : Int32))) (lv' := [(3, .int (v3 + (1 : Int32))), (0, .ref (B + 0)), (1, .int v1), (2, .int v2)]) hx hb dX8_witness_222 hl (k := 3) rfl rfl (by decide) rfl (fun ls hl => ?_)
  refine lv_goto (tgt := 175) hx hb dX8_witness_225 (by decide) ?_
  exact ih175 v1 v2 (v3 + (1 : Int32)) σ _ _ _ hf hH hS (lv_sub hl [1, 2, 3, 0] rfl)
def b_X8_witness_175 (c175 : Int32 → Int32 → Int32 → Sto → Option (Int32 × Sto)) (v1 : Int32) (v2 : Int32) (v3 : Int32) (σ : Sto) : Option (Int32 × Sto) :=
  if (30 : Int32) ≤ v3 then (if v2 = 0 then (b_X8_witness_255 v1 v2 σ) else (bd1 (f_X8_putsAll 11 10 (0 : Int32) v1 σ) fun σ748 => bd2 (f_X8_isFollowing 12 10 (0 : Int32) (-1000000 : Int32) (1 : Int32) σ748) fun r751 σ750 => b_X8_witness_255 v1 r751 σ750)) else (if v2 = 0 then (b_X8_witness_222 c175 v1 v2 v3 σ) else (bd2 (f_X8_isLive v3 σ) fun r854 σ853 => if r854 = 0 then (b_X8_witness_222 c175 v1 v2 v3 σ853) else (bd1 (f_X8_putsAll 6 312 ((12 : Int32) + ((10 : Int32) * v3)) v1 σ853) fun σ856 => bd2 (f_X8_isFollowing 12 10 (0 : Int32) (-1000000 : Int32) (1 : Int32) σ856) fun r859 σ858 => b_X8_witness_222 c175 v1 r859 v3 σ858)))
set_option maxHeartbeats 4000000 in
set_option maxRecDepth 100000 in
theorem w_X8_witness_175 {p : Program} {l : Launch} {e : Env} {s : State} {m : MethodId} {args : Array Value} {below : List Frame} {meth : Method} {c : Code} {G : Gd} {B : Nat} (X : Cm p s m args meth c cX8_witness 4 RX8 G (some .int)) (c175 : Int32 → Int32 → Int32 → Sto → Option (Int32 × Sto)) {r : Int32} {σr : Sto} (ih175 : ∀ (v1 : Int32) (v2 : Int32) (v3 : Int32) (σ : Sto) (H : Heap) (locs : List Loc) (ls : Array Slot), c175 v1 v2 v3 σ = some (r, σr) → HX G layM B σ H → va_S (inW layM B) s.heap H locs → lv_has ls 4 [(0, .ref (B + 0)), (1, .int v1), (2, .int v2), (3, .int v3)] → WM p l e 6 s m args below meth c H locs G layM B (some (.int r)) σr (F0 m 175 ls [])) (v1 : Int32) (v2 : Int32) (v3 : Int32) (σ : Sto) (hf : b_X8_witness_175 c175 v1 v2 v3 σ = some (r, σr)) (H : Heap) (locs : List Loc) (hH : HX G layM B σ H) (hS : va_S (inW layM B) s.heap H locs) (ls : Array Slot) (hl : lv_has ls 4 [(0, .ref (B + 0)), (1, .int v1), (2, .int v2), (3, .int v3)]) : WM p l e 6 s m args below meth c H locs G layM B (some (.int r)) σr (F0 m 175 ls []) := by
  unfold b_X8_witness_175 at hf
  have hx := X.1.1
  have hb := X.1.2.1
  refine lv_iload_n hx hb dX8_witness_175 rfl (lv_at hl 3 rfl) ?_
  refine lv_bipush (v := 30) hx hb dX8_witness_176 (by decide) ?_
  refine lv_icmp_ge (tgt := 228) hx hb dX8_witness_178 (by decide) (fun q433 => ?_) (fun q433 => ?_)
  · replace hf := brT hf q433
    refine lv_iload_n hx hb dX8_witness_228 rfl (lv_at hl 2 rfl) ?_
    refine lv_if_eq (tgt := 255) hx hb dX8_witness_229 (by decide) (fun q434 => ?_) (fun q434 => ?_)
    · replace hf := brT hf q434
      exact w_X8_witness_255 X v1 v2 σ hf _ _ hH hS _ (lv_sub hl [0, 1, 2] rfl)
    · replace hf := brF hf q434
      refine lv_aload_n hx hb dX8_witness_232 rfl (lv_at hl 0 rfl) ?_
      refine lv_aload_n hx hb dX8_witness_233 rfl (lv_at hl 0 rfl) ?_
      refine g_get (v := .ref (B + 11)) kX8 (by decide) fl_RX8_42 X.1 hH km_0 rfl dX8_witness_234 ?_
      refine lv_iconst (v := 0) hx hb dX8_witness_237 (by decide) ?_
      refine lv_iload_n hx hb dX8_witness_238 rfl (lv_at hl 1 rfl) ?_
      obtain ⟨σ748, eσ748, hf⟩ := bnd1 hf
      refine g_cVv (As := [.ref (B + 11), .int (0 : Int32), .int v1]) X.1 hH hS (c_X8_putsAll l G B 11 10 km_11 (0 : Int32) v1 σ σ748 eσ748) kw_RX8_233 kX8 km_0 (by decide) rfl hl (Nat.le_of_ble_eq_true rfl) rfl dX8_witness_239 (fun H locs hH hS => ?_)
      refine lv_aload_n hx hb dX8_witness_242 rfl (lv_at hl 0 rfl) ?_
      refine lv_aload_n hx hb dX8_witness_243 rfl (lv_at hl 0 rfl) ?_
      refine g_get (v := .ref (B + 12)) kX8 (by decide) fl_RX8_45 X.1 hH km_0 rfl dX8_witness_244 ?_
      refine lv_iconst (v := 0) hx hb dX8_witness_247 (by decide) ?_
      refine lv_ldc (v := -1000000) hx hb X.1.2.2.2.1 (X.1.2.2.2.2.1 _ kc_RX8_60) dX8_witness_248 ?_
      refine lv_iconst (v := 1) hx hb dX8_witness_250 (by decide) ?_
      obtain ⟨r751, σ750, eσ750, hf⟩ := bnd2 hf
      refine g_cVi (As := [.ref (B + 12), .int (0 : Int32), .int (-1000000 : Int32), .int (1 : Int32)]) X.1 hH hS (c_X8_isFollowing l G B 12 10 km_12 (0 : Int32) (-1000000 : Int32) (1 : Int32) σ748 σ750 r751 eσ750) kw_RX8_225 kX8 km_0 (by decide) rfl hl (Nat.le_of_ble_eq_true rfl) rfl dX8_witness_251 (fun H locs hH hS => ?_)
      refine lv_istore_n (lv' := [(2, .int r751), (0, .ref (B + 0)), (1, .int v1), (3, .int v3)]) hx hb dX8_witness_254 rfl hl (by decide) rfl (fun ls hl => ?_)
      exact w_X8_witness_255 X v1 r751 σ750 hf _ _ hH hS _ (lv_sub hl [1, 2, 0] rfl)
  · replace hf := brF hf q433
    refine lv_iload_n hx hb dX8_witness_181 rfl (lv_at hl 2 rfl) ?_
    refine lv_if_eq (tgt := 222) hx hb dX8_witness_182 (by decide) (fun q752 => ?_) (fun q752 => ?_)
    · replace hf := brT hf q752
      exact w_X8_witness_222 X c175 ih175 v1 v2 v3 σ hf _ _ hH hS _ (lv_sub hl [0, 1, 2, 3] rfl)
    · replace hf := brF hf q752
      refine lv_aload_n hx hb dX8_witness_185 rfl (lv_at hl 0 rfl) ?_
      refine lv_iload_n hx hb dX8_witness_186 rfl (lv_at hl 3 rfl) ?_
      obtain ⟨r854, σ853, eσ853, hf⟩ := bnd2 hf
      refine g_cVi (As := [.int v3]) X.1 hH hS (c_X8_isLive l G B v3 σ σ853 r854 eσ853) kw_RX8_175 kX8 km_0 (by decide) rfl hl (Nat.le_of_ble_eq_true rfl) rfl dX8_witness_187 (fun H locs hH hS => ?_)
      refine lv_if_eq (tgt := 222) hx hb dX8_witness_190 (by decide) (fun q855 => ?_) (fun q855 => ?_)
      · replace hf := brT hf q855
        exact w_X8_witness_222 X c175 ih175 v1 v2 v3 σ853 hf _ _ hH hS _ (lv_sub hl [0, 1, 2, 3] rfl)
      · replace hf := brF hf q855
        refine lv_aload_n hx hb dX8_witness_193 rfl (lv_at hl 0 rfl) ?_
        refine lv_aload_n hx hb dX8_witness_194 rfl (lv_at hl 0 rfl) ?_
        refine g_get (v := .ref (B + 6)) kX8 (by decide) fl_RX8_25 X.1 hH km_0 rfl dX8_witness_195 ?_
        refine lv_bipush (v := 12) hx hb dX8_witness_198 (by decide) ?_
        refine lv_bipush (v := 10) hx hb dX8_witness_200 (by decide) ?_
        refine lv_iload_n hx hb dX8_witness_202 rfl (lv_at hl 3 rfl) ?_
        refine lv_imul hx hb dX8_witness_203 ?_
        refine lv_iadd hx hb dX8_witness_204 ?_
        refine lv_iload_n hx hb dX8_witness_205 rfl (lv_at hl 1 rfl) ?_
        obtain ⟨σ856, eσ856, hf⟩ := bnd1 hf
        refine g_cVv (As := [.ref (B + 6), .int ((12 : Int32) + ((10 : Int32) * v3)), .int v1]) X.1 hH hS (c_X8_putsAll l G B 6 312 km_6 ((12 : Int32) + ((10 : Int32) * v3)) v1 σ853 σ856 eσ856) kw_RX8_233 kX8 km_0 (by decide) rfl hl (Nat.le_of_ble_eq_true rfl) rfl dX8_witness_206 (fun H locs hH hS => ?_)
        refine lv_aload_n hx hb dX8_witness_209 rfl (lv_at hl 0 rfl) ?_
        refine lv_aload_n hx hb dX8_witness_210 rfl (lv_at hl 0 rfl) ?_
        refine g_get (v := .ref (B + 12)) kX8 (by decide) fl_RX8_45 X.1 hH km_0 rfl dX8_witness_211 ?_
        refine lv_iconst (v := 0) hx hb dX8_witness_214 (by decide) ?_
        refine lv_ldc (v := -1000000) hx hb X.1.2.2.2.1 (X.1.2.2.2.2.1 _ kc_RX8_60) dX8_witness_215 ?_
        refine lv_iconst (v := 1) hx hb dX8_witness_217 (by decide) ?_
        obtain ⟨r859, σ858, eσ858, hf⟩ := bnd2 hf
        refine g_cVi (As := [.ref (B + 12), .int (0 : Int32), .int (-1000000 : Int32), .int (1 : Int32)]) X.1 hH hS (c_X8_isFollowing l G B 12 10 km_12 (0 : Int32) (-1000000 : Int32) (1 : Int32) σ856 σ858 r859 eσ858) kw_RX8_225 kX8 km_0 (by decide) rfl hl (Nat.le_of_ble_eq_true rfl) rfl dX8_witness_218 (fun H locs hH hS => ?_)
        refine lv_istore_n (lv' := [(2, .int r859), (0, .ref (B + 0)), (1, .int v1), (3, .int v3)]) hx hb dX8_witness_221 rfl hl (by decide) rfl (fun ls hl => ?_)
        exact w_X8_witness_222 X c175 ih175 v1 r859 v3 σ858 hf _ _ hH hS _ (lv_sub hl [1, 2, 0, 3] rfl)
def l_X8_witness_175 : Nat → Int32 → Int32 → Int32 → Sto → Option (Int32 × Sto)
  | 0, _, _, _, _ => none
  | n + 1, v1, v2, v3, σ => b_X8_witness_175 (l_X8_witness_175 n) v1 v2 v3 σ
set_option maxHeartbeats 4000000 in
set_option maxRecDepth 100000 in
theorem wl_X8_witness_175 {p : Program} {l : Launch} {e : Env} {s : State} {m : MethodId} {args : Array Value} {below : List Frame} {meth : Method} {c : Code} {G : Gd} {B : Nat} (X : Cm p s m args meth c cX8_witness 4 RX8 G (some .int)) {r : Int32} {σr : Sto} (n : Nat) : ∀ (v1 : Int32) (v2 : Int32) (v3 : Int32) (σ : Sto) (H : Heap) (locs : List Loc) (ls : Array Slot), l_X8_witness_175 n v1 v2 v3 σ = some (r, σr) → HX G layM B σ H → va_S (inW layM B) s.heap H locs → lv_has ls 4 [(0, .ref (B + 0)), (1, .int v1), (2, .int v2), (3, .int v3)] → WM p l e 6 s m args below meth c H locs G layM B (some (.int r)) σr (F0 m 175 ls []) := by
  induction n with
  | zero =>
    intro _ _ _ σ H locs ls hf
    cases hf
  | succ n ih =>
    intro v1 v2 v3 σ H locs ls hf hH hS hl
    exact w_X8_witness_175 X (l_X8_witness_175 n) ih v1 v2 v3 σ hf H locs hH hS ls hl
def b_X8_witness_112 (v1 : Int32) (s0 : Int32) (σ : Sto) : Option (Int32 × Sto) :=
  bd1 (f_X8_must s0 σ) fun σ319 => nmS (pI σ319 0 6 (0 : Int32)) fun σ321 => bd2 (f_X8_isWell σ321) fun r323 σ322 => if r323 = 0 then (some (((-1000100 : Int32) - (σ322.1 0 8)), σ322)) else (bd2 (f_X8_isFull σ322) fun r326 σ325 => if r326 = 0 then (bd2 (f_X8_isOver σ325) fun r329 σ328 => if r329 = 0 then (bd1 (f_X8_turns 11 10 (0 : Int32) 13 10 σ328) fun σ331 => l_X8_witness_175 400 v1 (1 : Int32) (0 : Int32) σ331) else (bd2 (f_X8_found (6 : Int32) σ328) fun r861 σ860 => some (r861, σ860))) else (some ((-1000003 : Int32), σ325)))
set_option maxHeartbeats 4000000 in
set_option maxRecDepth 100000 in
theorem w_X8_witness_112 {p : Program} {l : Launch} {e : Env} {s : State} {m : MethodId} {args : Array Value} {below : List Frame} {meth : Method} {c : Code} {G : Gd} {B : Nat} (X : Cm p s m args meth c cX8_witness 4 RX8 G (some .int)) {r : Int32} {σr : Sto} (v1 : Int32) (s0 : Int32) (σ : Sto) (hf : b_X8_witness_112 v1 s0 σ = some (r, σr)) (H : Heap) (locs : List Loc) (hH : HX G layM B σ H) (hS : va_S (inW layM B) s.heap H locs) (ls : Array Slot) (hl : lv_has ls 4 [(0, .ref (B + 0)), (1, .int v1)]) : WM p l e 6 s m args below meth c H locs G layM B (some (.int r)) σr (F0 m 112 ls [.int s0, .ref (B + 0)]) := by
  unfold b_X8_witness_112 at hf
  have hx := X.1.1
  have hb := X.1.2.1
  obtain ⟨σ319, eσ319, hf⟩ := bnd1 hf
  refine g_cVv (As := [.int s0]) X.1 hH hS (c_X8_must l G B s0 σ σ319 eσ319) kw_RX8_158 kX8 km_0 (by decide) rfl hl (Nat.le_of_ble_eq_true rfl) rfl dX8_witness_112 (fun H locs hH hS => ?_)
  refine lv_aload_n hx hb dX8_witness_115 rfl (lv_at hl 0 rfl) ?_
  refine lv_iconst (v := 0) hx hb dX8_witness_116 (by decide) ?_
  refine g_putI kX8 (by decide) fl_RX8_94 rfl rfl X.1 hH hS km_0 dX8_witness_117 (fun H locs hH hS => ?_)
  obtain ⟨σ321, eσ321, hH⟩ := nmX hH
  replace hf := nmU hf eσ321
  refine lv_aload_n hx hb dX8_witness_120 rfl (lv_at hl 0 rfl) ?_
  obtain ⟨r323, σ322, eσ322, hf⟩ := bnd2 hf
  refine g_cVi (As := []) X.1 hH hS (c_X8_isWell l G B σ321 σ322 r323 eσ322) kw_RX8_116 kX8 km_0 (by decide) rfl hl (Nat.le_of_ble_eq_true rfl) rfl dX8_witness_121 (fun H locs hH hS => ?_)
  refine lv_if_ne (tgt := 135) hx hb dX8_witness_124 (by decide) (fun q324 => ?_) (fun q324 => ?_)
  · replace hf := brF hf q324
    refine lv_aload_n hx hb dX8_witness_135 rfl (lv_at hl 0 rfl) ?_
    obtain ⟨r326, σ325, eσ325, hf⟩ := bnd2 hf
    refine g_cVi (As := []) X.1 hH hS (c_X8_isFull l G B σ322 σ325 r326 eσ325) kw_RX8_178 kX8 km_0 (by decide) rfl hl (Nat.le_of_ble_eq_true rfl) rfl dX8_witness_136 (fun H locs hH hS => ?_)
    refine lv_if_eq (tgt := 145) hx hb dX8_witness_139 (by decide) (fun q327 => ?_) (fun q327 => ?_)
    · replace hf := brT hf q327
      refine lv_aload_n hx hb dX8_witness_145 rfl (lv_at hl 0 rfl) ?_
      obtain ⟨r329, σ328, eσ328, hf⟩ := bnd2 hf
      refine g_cVi (As := []) X.1 hH hS (c_X8_isOver l G B σ325 σ328 r329 eσ328) kw_RX8_222 kX8 km_0 (by decide) rfl hl (Nat.le_of_ble_eq_true rfl) rfl dX8_witness_146 (fun H locs hH hS => ?_)
      refine lv_if_eq (tgt := 159) hx hb dX8_witness_149 (by decide) (fun q330 => ?_) (fun q330 => ?_)
      · replace hf := brT hf q330
        refine lv_aload_n hx hb dX8_witness_159 rfl (lv_at hl 0 rfl) ?_
        refine g_get (v := .ref (B + 11)) kX8 (by decide) fl_RX8_42 X.1 hH km_0 rfl dX8_witness_160 ?_
        refine lv_iconst (v := 0) hx hb dX8_witness_163 (by decide) ?_
        refine lv_aload_n hx hb dX8_witness_164 rfl (lv_at hl 0 rfl) ?_
        refine g_get (v := .ref (B + 13)) kX8 (by decide) fl_RX8_48 X.1 hH km_0 rfl dX8_witness_165 ?_
        obtain ⟨σ331, eσ331, hf⟩ := bnd1 hf
        refine g_cSv (As := [.ref (B + 11), .int (0 : Int32), .ref (B + 13)]) X.1 hH hS (c_X8_turns l G B 11 10 km_11 (0 : Int32) 13 10 km_13 σ328 σ331 eσ331) kw_RX8_214 (by decide) rfl hl (Nat.le_of_ble_eq_true rfl) rfl dX8_witness_168 (fun H locs hH hS => ?_)
        refine lv_iconst (v := 1) hx hb dX8_witness_171 (by decide) ?_
        refine lv_istore_n (lv' := [(2, .int (1 : Int32)), (0, .ref (B + 0)), (1, .int v1)]) hx hb dX8_witness_172 rfl hl (by decide) rfl (fun ls hl => ?_)
        refine lv_iconst (v := 0) hx hb dX8_witness_173 (by decide) ?_
        refine lv_istore_n (lv' := [(3, .int (0 : Int32)), (2, .int (1 : Int32)), (0, .ref (B + 0)), (1, .int v1)]) hx hb dX8_witness_174 rfl hl (by decide) rfl (fun ls hl => ?_)
        exact wl_X8_witness_175 X 400 v1 (1 : Int32) (0 : Int32) σ331 _ _ _ hf hH hS (lv_sub hl [2, 3, 1, 0] rfl)
      · replace hf := brF hf q330
        refine lv_aload_n hx hb dX8_witness_152 rfl (lv_at hl 0 rfl) ?_
        refine lv_bipush (v := 6) hx hb dX8_witness_153 (by decide) ?_
        obtain ⟨r861, σ860, eσ860, hf⟩ := bnd2 hf
        refine g_cVi (As := [.int (6 : Int32)]) X.1 hH hS (c_X8_found l G B (6 : Int32) σ328 σ860 r861 eσ860) kw_RX8_77 kX8 km_0 (by decide) rfl hl (Nat.le_of_ble_eq_true rfl) rfl dX8_witness_155 (fun H locs hH hS => ?_)
        obtain ⟨rfl, rfl⟩ := rt2 hf
        exact g_iret X hH hS dX8_witness_158
    · replace hf := brF hf q327
      refine lv_ldc (v := -1000003) hx hb X.1.2.2.2.1 (X.1.2.2.2.2.1 _ kc_RX8_97) dX8_witness_142 ?_
      obtain ⟨rfl, rfl⟩ := rt2 hf
      exact g_iret X hH hS dX8_witness_144
  · replace hf := brT hf q324
    refine lv_ldc (v := -1000100) hx hb X.1.2.2.2.1 (X.1.2.2.2.2.1 _ kc_RX8_162) dX8_witness_127 ?_
    refine lv_aload_n hx hb dX8_witness_129 rfl (lv_at hl 0 rfl) ?_
    refine g_get (v := .int (σ322.1 0 8)) kX8 (by decide) fl_RX8_113 X.1 hH km_0 rfl dX8_witness_130 ?_
    refine lv_isub hx hb dX8_witness_133 ?_
    obtain ⟨rfl, rfl⟩ := rt2 hf
    exact g_iret X hH hS dX8_witness_134
def b_X8_witness_53 (c53 : Int32 → Int32 → Sto → Option (Int32 × Sto)) (v1 : Int32) (v2 : Int32) (σ : Sto) : Option (Int32 × Sto) :=
  if (8 : Int32) ≤ v2 then (bd1 (f_X8_begins σ) fun σ214 => bd1 (f_X8_readsClause σ214) fun σ216 => if (σ216.1 0 11) = 0 then (b_X8_witness_112 v1 (1 : Int32) σ216) else (b_X8_witness_112 v1 (0 : Int32) σ216)) else (if ((((40 : Int32) * v1) + v2) < 0 ∨ 320 ≤ (((40 : Int32) * v1) + v2).toNatClampNeg) then none else bd2 (f_X8_in (σ.1 3 (((40 : Int32) * v1) + v2).toNatClampNeg) (0 : Int32) (17 : Int32) σ) fun r864 σ863 => if r864 = 0 then (bd2 (f_X8_found (2 : Int32) σ863) fun r867 σ866 => some (r867, σ866)) else (c53 v1 (v2 + (1 : Int32)) σ863))
set_option maxHeartbeats 4000000 in
set_option maxRecDepth 100000 in
theorem w_X8_witness_53 {p : Program} {l : Launch} {e : Env} {s : State} {m : MethodId} {args : Array Value} {below : List Frame} {meth : Method} {c : Code} {G : Gd} {B : Nat} (X : Cm p s m args meth c cX8_witness 4 RX8 G (some .int)) (c53 : Int32 → Int32 → Sto → Option (Int32 × Sto)) {r : Int32} {σr : Sto} (ih53 : ∀ (v1 : Int32) (v2 : Int32) (σ : Sto) (H : Heap) (locs : List Loc) (ls : Array Slot), c53 v1 v2 σ = some (r, σr) → HX G layM B σ H → va_S (inW layM B) s.heap H locs → lv_has ls 4 [(0, .ref (B + 0)), (1, .int v1), (2, .int v2)] → WM p l e 6 s m args below meth c H locs G layM B (some (.int r)) σr (F0 m 53 ls [])) (v1 : Int32) (v2 : Int32) (σ : Sto) (hf : b_X8_witness_53 c53 v1 v2 σ = some (r, σr)) (H : Heap) (locs : List Loc) (hH : HX G layM B σ H) (hS : va_S (inW layM B) s.heap H locs) (ls : Array Slot) (hl : lv_has ls 4 [(0, .ref (B + 0)), (1, .int v1), (2, .int v2)]) : WM p l e 6 s m args below meth c H locs G layM B (some (.int r)) σr (F0 m 53 ls []) := by
  unfold b_X8_witness_53 at hf
  have hx := X.1.1
  have hb := X.1.2.1
  refine lv_iload_n hx hb dX8_witness_53 rfl (lv_at hl 2 rfl) ?_
  refine lv_bipush (v := 8) hx hb dX8_witness_54 (by decide) ?_
  refine lv_icmp_ge (tgt := 91) hx hb dX8_witness_56 (by decide) (fun q213 => ?_) (fun q213 => ?_)
  · replace hf := brT hf q213
    refine lv_aload_n hx hb dX8_witness_91 rfl (lv_at hl 0 rfl) ?_
    obtain ⟨σ214, eσ214, hf⟩ := bnd1 hf
    refine g_cVv (As := []) X.1 hH hS (c_X8_begins l G B σ σ214 eσ214) kw_RX8_146 kX8 km_0 (by decide) rfl hl (Nat.le_of_ble_eq_true rfl) rfl dX8_witness_92 (fun H locs hH hS => ?_)
    refine lv_aload_n hx hb dX8_witness_95 rfl (lv_at hl 0 rfl) ?_
    obtain ⟨σ216, eσ216, hf⟩ := bnd1 hf
    refine g_cVv (As := []) X.1 hH hS (c_X8_readsClause l G B σ214 σ216 eσ216) kw_RX8_151 kX8 km_0 (by decide) rfl hl (Nat.le_of_ble_eq_true rfl) rfl dX8_witness_96 (fun H locs hH hS => ?_)
    refine lv_aload_n hx hb dX8_witness_99 rfl (lv_at hl 0 rfl) ?_
    refine lv_aload_n hx hb dX8_witness_100 rfl (lv_at hl 0 rfl) ?_
    refine g_get (v := .int (σ216.1 0 11)) kX8 (by decide) fl_RX8_110 X.1 hH km_0 rfl dX8_witness_101 ?_
    refine lv_if_ne (tgt := 111) hx hb dX8_witness_104 (by decide) (fun q218 => ?_) (fun q218 => ?_)
    · replace hf := brF hf q218
      refine lv_iconst (v := 0) hx hb dX8_witness_111 (by decide) ?_
      exact w_X8_witness_112 X v1 (0 : Int32) σ216 hf _ _ hH hS _ (lv_sub hl [0, 1] rfl)
    · replace hf := brT hf q218
      refine lv_iconst (v := 1) hx hb dX8_witness_107 (by decide) ?_
      refine lv_goto (tgt := 112) hx hb dX8_witness_108 (by decide) ?_
      exact w_X8_witness_112 X v1 (1 : Int32) σ216 hf _ _ hH hS _ (lv_sub hl [0, 1] rfl)
  · replace hf := brF hf q213
    refine lv_aload_n hx hb dX8_witness_59 rfl (lv_at hl 0 rfl) ?_
    refine g_get (v := .ref (B + 3)) kX8 (by decide) fl_RX8_16 X.1 hH km_0 rfl dX8_witness_60 ?_
    refine lv_bipush (v := 40) hx hb dX8_witness_63 (by decide) ?_
    refine lv_iload_n hx hb dX8_witness_65 rfl (lv_at hl 1 rfl) ?_
    refine lv_imul hx hb dX8_witness_66 ?_
    refine lv_iload_n hx hb dX8_witness_67 rfl (lv_at hl 2 rfl) ?_
    refine lv_iadd hx hb dX8_witness_68 ?_
    obtain ⟨q862, hf⟩ := chk hf
    refine g_iald (j := (((40 : Int32) * v1) + v2).toNatClampNeg) X.1 hH km_3 q862 rfl dX8_witness_69 ?_
    refine lv_iconst (v := 0) hx hb dX8_witness_70 (by decide) ?_
    refine lv_bipush (v := 17) hx hb dX8_witness_71 (by decide) ?_
    obtain ⟨r864, σ863, eσ863, hf⟩ := bnd2 hf
    refine g_cSi (As := [.int (σ.1 3 (((40 : Int32) * v1) + v2).toNatClampNeg), .int (0 : Int32), .int (17 : Int32)]) X.1 hH hS (c_X8_in l G B (σ.1 3 (((40 : Int32) * v1) + v2).toNatClampNeg) (0 : Int32) (17 : Int32) σ σ863 r864 eσ863) kw_RX8_68 (by decide) rfl hl (Nat.le_of_ble_eq_true rfl) rfl dX8_witness_73 (fun H locs hH hS => ?_)
    refine lv_if_ne (tgt := 85) hx hb dX8_witness_76 (by decide) (fun q865 => ?_) (fun q865 => ?_)
    · replace hf := brF hf q865
      refine lv_iinc (v := (v2 + (1 : Int32))) (lv' := [(2, .int (v2 + (1 : Int32))), (0, .ref (B + 0)), (1, .int v1)]) hx hb dX8_witness_85 hl (k := 2) rfl rfl (by decide) rfl (fun ls hl => ?_)
      refine lv_goto (tgt := 53) hx hb dX8_witness_88 (by decide) ?_
      exact ih53 v1 (v2 + (1 : Int32)) σ863 _ _ _ hf hH hS (lv_sub hl [1, 2, 0] rfl)
    · replace hf := brT hf q865
      refine lv_aload_n hx hb dX8_witness_79 rfl (lv_at hl 0 rfl) ?_
      refine lv_iconst (v := 2) hx hb dX8_witness_80 (by decide) ?_
      obtain ⟨r867, σ866, eσ866, hf⟩ := bnd2 hf
      refine g_cVi (As := [.int (2 : Int32)]) X.1 hH hS (c_X8_found l G B (2 : Int32) σ863 σ866 r867 eσ866) kw_RX8_77 kX8 km_0 (by decide) rfl hl (Nat.le_of_ble_eq_true rfl) rfl dX8_witness_81 (fun H locs hH hS => ?_)
      obtain ⟨rfl, rfl⟩ := rt2 hf
      exact g_iret X hH hS dX8_witness_84
def l_X8_witness_53 : Nat → Int32 → Int32 → Sto → Option (Int32 × Sto)
  | 0, _, _, _ => none
  | n + 1, v1, v2, σ => b_X8_witness_53 (l_X8_witness_53 n) v1 v2 σ
set_option maxHeartbeats 4000000 in
set_option maxRecDepth 100000 in
theorem wl_X8_witness_53 {p : Program} {l : Launch} {e : Env} {s : State} {m : MethodId} {args : Array Value} {below : List Frame} {meth : Method} {c : Code} {G : Gd} {B : Nat} (X : Cm p s m args meth c cX8_witness 4 RX8 G (some .int)) {r : Int32} {σr : Sto} (n : Nat) : ∀ (v1 : Int32) (v2 : Int32) (σ : Sto) (H : Heap) (locs : List Loc) (ls : Array Slot), l_X8_witness_53 n v1 v2 σ = some (r, σr) → HX G layM B σ H → va_S (inW layM B) s.heap H locs → lv_has ls 4 [(0, .ref (B + 0)), (1, .int v1), (2, .int v2)] → WM p l e 6 s m args below meth c H locs G layM B (some (.int r)) σr (F0 m 53 ls []) := by
  induction n with
  | zero =>
    intro _ _ σ H locs ls hf
    cases hf
  | succ n ih =>
    intro v1 v2 σ H locs ls hf hH hS hl
    exact w_X8_witness_53 X (l_X8_witness_53 n) ih v1 v2 σ hf H locs hH hS ls hl
def f_X8_witness (x1 : Int32) (σ : Sto) : Option (Int32 × Sto) :=
  bd2 (f_X8_isFormula σ) fun r102 σ101 => if r102 = 0 then (some ((-1000002 : Int32), σ101)) else (bd2 (f_X8_isRow x1 σ101) fun r105 σ104 => if r105 = 0 then (some ((-1000001 : Int32), σ104)) else (bd2 (f_X8_isMissing x1 σ104) fun r108 σ107 => if r108 = 0 then (bd2 (f_X8_isPart x1 (0 : Int32) (8 : Int32) σ107) fun r111 σ110 => if r111 = 0 then (bd2 (f_X8_found (2 : Int32) σ110) fun r869 σ868 => some (r869, σ868)) else (l_X8_witness_53 400 x1 (0 : Int32) σ110)) else (bd2 (f_X8_found (1 : Int32) σ107) fun r871 σ870 => some (r871, σ870))))
set_option maxHeartbeats 4000000 in
set_option maxRecDepth 100000 in
theorem w_X8_witness {p : Program} {l : Launch} {e : Env} {s : State} {m : MethodId} {args : Array Value} {below : List Frame} {meth : Method} {c : Code} {G : Gd} {B : Nat} (X : Cm p s m args meth c cX8_witness 4 RX8 G (some .int)) {r : Int32} {σr : Sto} (x1 : Int32) (σ : Sto) (hf : f_X8_witness x1 σ = some (r, σr)) (H : Heap) (locs : List Loc) (hH : HX G layM B σ H) (hS : va_S (inW layM B) s.heap H locs) (ls : Array Slot) (hl : lv_has ls 4 [(0, .ref (B + 0)), (1, .int x1)]) : WM p l e 6 s m args below meth c H locs G layM B (some (.int r)) σr (F0 m 0 ls []) := by
  unfold f_X8_witness at hf
  have hx := X.1.1
  have hb := X.1.2.1
  refine lv_aload_n hx hb dX8_witness_0 rfl (lv_at hl 0 rfl) ?_
  obtain ⟨r102, σ101, eσ101, hf⟩ := bnd2 hf
  refine g_cVi (As := []) X.1 hH hS (c_X8_isFormula l G B σ σ101 r102 eσ101) kw_RX8_171 kX8 km_0 (by decide) rfl hl (Nat.le_of_ble_eq_true rfl) rfl dX8_witness_1 (fun H locs hH hS => ?_)
  refine lv_if_ne (tgt := 10) hx hb dX8_witness_4 (by decide) (fun q103 => ?_) (fun q103 => ?_)
  · replace hf := brF hf q103
    refine lv_iload_n hx hb dX8_witness_10 rfl (lv_at hl 1 rfl) ?_
    obtain ⟨r105, σ104, eσ104, hf⟩ := bnd2 hf
    refine g_cSi (As := [.int x1]) X.1 hH hS (c_X8_isRow l G B x1 σ101 σ104 r105 eσ104) kw_RX8_72 (by decide) rfl hl (Nat.le_of_ble_eq_true rfl) rfl dX8_witness_11 (fun H locs hH hS => ?_)
    refine lv_if_ne (tgt := 20) hx hb dX8_witness_14 (by decide) (fun q106 => ?_) (fun q106 => ?_)
    · replace hf := brF hf q106
      refine lv_aload_n hx hb dX8_witness_20 rfl (lv_at hl 0 rfl) ?_
      refine lv_iload_n hx hb dX8_witness_21 rfl (lv_at hl 1 rfl) ?_
      obtain ⟨r108, σ107, eσ107, hf⟩ := bnd2 hf
      refine g_cVi (As := [.int x1]) X.1 hH hS (c_X8_isMissing l G B x1 σ104 σ107 r108 eσ107) kw_RX8_84 kX8 km_0 (by decide) rfl hl (Nat.le_of_ble_eq_true rfl) rfl dX8_witness_22 (fun H locs hH hS => ?_)
      refine lv_if_eq (tgt := 34) hx hb dX8_witness_25 (by decide) (fun q109 => ?_) (fun q109 => ?_)
      · replace hf := brT hf q109
        refine lv_aload_n hx hb dX8_witness_34 rfl (lv_at hl 0 rfl) ?_
        refine lv_iload_n hx hb dX8_witness_35 rfl (lv_at hl 1 rfl) ?_
        refine lv_iconst (v := 0) hx hb dX8_witness_36 (by decide) ?_
        refine lv_bipush (v := 8) hx hb dX8_witness_37 (by decide) ?_
        obtain ⟨r111, σ110, eσ110, hf⟩ := bnd2 hf
        refine g_cVi (As := [.int x1, .int (0 : Int32), .int (8 : Int32)]) X.1 hH hS (c_X8_isPart l G B x1 (0 : Int32) (8 : Int32) σ107 σ110 r111 eσ110) kw_RX8_91 kX8 km_0 (by decide) rfl hl (Nat.le_of_ble_eq_true rfl) rfl dX8_witness_39 (fun H locs hH hS => ?_)
        refine lv_if_ne (tgt := 51) hx hb dX8_witness_42 (by decide) (fun q112 => ?_) (fun q112 => ?_)
        · replace hf := brF hf q112
          refine lv_iconst (v := 0) hx hb dX8_witness_51 (by decide) ?_
          refine lv_istore_n (lv' := [(2, .int (0 : Int32)), (0, .ref (B + 0)), (1, .int x1)]) hx hb dX8_witness_52 rfl hl (by decide) rfl (fun ls hl => ?_)
          exact wl_X8_witness_53 X 400 x1 (0 : Int32) σ110 _ _ _ hf hH hS (lv_sub hl [1, 2, 0] rfl)
        · replace hf := brT hf q112
          refine lv_aload_n hx hb dX8_witness_45 rfl (lv_at hl 0 rfl) ?_
          refine lv_iconst (v := 2) hx hb dX8_witness_46 (by decide) ?_
          obtain ⟨r869, σ868, eσ868, hf⟩ := bnd2 hf
          refine g_cVi (As := [.int (2 : Int32)]) X.1 hH hS (c_X8_found l G B (2 : Int32) σ110 σ868 r869 eσ868) kw_RX8_77 kX8 km_0 (by decide) rfl hl (Nat.le_of_ble_eq_true rfl) rfl dX8_witness_47 (fun H locs hH hS => ?_)
          obtain ⟨rfl, rfl⟩ := rt2 hf
          exact g_iret X hH hS dX8_witness_50
      · replace hf := brF hf q109
        refine lv_aload_n hx hb dX8_witness_28 rfl (lv_at hl 0 rfl) ?_
        refine lv_iconst (v := 1) hx hb dX8_witness_29 (by decide) ?_
        obtain ⟨r871, σ870, eσ870, hf⟩ := bnd2 hf
        refine g_cVi (As := [.int (1 : Int32)]) X.1 hH hS (c_X8_found l G B (1 : Int32) σ107 σ870 r871 eσ870) kw_RX8_77 kX8 km_0 (by decide) rfl hl (Nat.le_of_ble_eq_true rfl) rfl dX8_witness_30 (fun H locs hH hS => ?_)
        obtain ⟨rfl, rfl⟩ := rt2 hf
        exact g_iret X hH hS dX8_witness_33
    · replace hf := brT hf q106
      refine lv_ldc (v := -1000001) hx hb X.1.2.2.2.1 (X.1.2.2.2.2.1 _ kc_RX8_76) dX8_witness_17 ?_
      obtain ⟨rfl, rfl⟩ := rt2 hf
      exact g_iret X hH hS dX8_witness_19
  · replace hf := brT hf q103
    refine lv_ldc (v := -1000002) hx hb X.1.2.2.2.1 (X.1.2.2.2.2.1 _ kc_RX8_174) dX8_witness_7 ?_
    obtain ⟨rfl, rfl⟩ := rt2 hf
    exact g_iret X hH hS dX8_witness_9
theorem c_X8_witness (l : Launch) (G : Gd) (B : Nat) (x1 : Int32) (σ σr : Sto) (r : Int32) (hf : f_X8_witness x1 σ = some (r, σr)) : Ct l G layM B yX8_witness cX8_witness 4 (some .int) 6 [.ref (B + 0), .int x1] (some (.int r)) σ σr :=
  Ct.ofW (by decide) (Nat.le_of_ble_eq_true rfl) (fun _ _ _ _ _ _ _ X hH hS ls hl => w_X8_witness X x1 σ hf _ _ hH hS ls (show lv_has ls 4 [(0, .ref (B + 0)), (1, .int x1)] from hl))
