-- SlackProofsModel.variablesOf(I)I  (D 0)
def b_X8_variablesOf_37 (c4 : Int32 → Int32 → Int32 → Sto → Option (Int32 × Sto)) (v1 : Int32) (v3 : Int32) (s0 : Int32) (s1 : Int32) (σ : Sto) : Option (Int32 × Sto) :=
  nmS (s1 + s0) fun y304 => c4 v1 y304 (v3 + (1 : Int32)) σ
set_option maxHeartbeats 4000000 in
set_option maxRecDepth 100000 in
theorem w_X8_variablesOf_37 {p : Program} {l : Launch} {e : Env} {s : State} {m : MethodId} {args : Array Value} {below : List Frame} {meth : Method} {c : Code} {G : Gd} {B : Nat} (X : Cm p s m args meth c cX8_variablesOf 4 RX8 G (some .int)) (c4 : Int32 → Int32 → Int32 → Sto → Option (Int32 × Sto)) {r : Int32} {σr : Sto} (ih4 : ∀ (v1 : Int32) (v2 : Int32) (v3 : Int32) (σ : Sto) (H : Heap) (locs : List Loc) (ls : Array Slot), c4 v1 v2 v3 σ = some (r, σr) → HX G layM B σ H → va_S (inW layM B) s.heap H locs → lv_has ls 4 [(0, .ref (B + 0)), (1, .int v1), (2, .int v2), (3, .int v3)] → WM p l e 0 s m args below meth c H locs G layM B (some (.int r)) σr (F0 m 4 ls [])) (v1 : Int32) (v3 : Int32) (s0 : Int32) (s1 : Int32) (σ : Sto) (hf : b_X8_variablesOf_37 c4 v1 v3 s0 s1 σ = some (r, σr)) (H : Heap) (locs : List Loc) (hH : HX G layM B σ H) (hS : va_S (inW layM B) s.heap H locs) (ls : Array Slot) (hl : lv_has ls 4 [(0, .ref (B + 0)), (1, .int v1), (3, .int v3)]) : WM p l e 0 s m args below meth c H locs G layM B (some (.int r)) σr (F0 m 37 ls [.int s0, .int s1]) := by
  unfold b_X8_variablesOf_37 at hf
  have hx := X.1.1
  have hb := X.1.2.1
  refine lv_iadd hx hb dX8_variablesOf_37 ?_
  refine lv_topi (fun y304 ey304 => ?_)
  replace hf := nmU hf ey304
  refine lv_istore_n (lv' := [(2, .int y304), (0, .ref (B + 0)), (1, .int v1), (3, .int v3)]) hx hb dX8_variablesOf_38 rfl hl (by decide) rfl (fun ls hl => ?_)
  refine lv_iinc (v := (v3 + (1 : Int32))) (lv' := [(3, .int (v3 + (1 : Int32))), (2, .int y304), (0, .ref (B + 0)), (1, .int v1)]) hx hb dX8_variablesOf_39 hl (k := 3) rfl rfl (by decide) rfl (fun ls hl => ?_)
  refine lv_goto (tgt := 4) hx hb dX8_variablesOf_42 (by decide) ?_
  exact ih4 v1 y304 (v3 + (1 : Int32)) σ _ _ _ hf hH hS (lv_sub hl [2, 3, 1, 0] rfl)
def b_X8_variablesOf_4 (c4 : Int32 → Int32 → Int32 → Sto → Option (Int32 × Sto)) (v1 : Int32) (v2 : Int32) (v3 : Int32) (σ : Sto) : Option (Int32 × Sto) :=
  if (8 : Int32) ≤ v3 then (some (v2, σ)) else (if (((((12 : Int32) + ((10 : Int32) * v1)) + (2 : Int32)) + v3) < 0 ∨ 312 ≤ ((((12 : Int32) + ((10 : Int32) * v1)) + (2 : Int32)) + v3).toNatClampNeg) then none else if (σ.2 6 ((((12 : Int32) + ((10 : Int32) * v1)) + (2 : Int32)) + v3).toNatClampNeg) = (0 : Int64) then (b_X8_variablesOf_37 c4 v1 v3 (0 : Int32) v2 σ) else (b_X8_variablesOf_37 c4 v1 v3 (1 : Int32) v2 σ))
set_option maxHeartbeats 4000000 in
set_option maxRecDepth 100000 in
theorem w_X8_variablesOf_4 {p : Program} {l : Launch} {e : Env} {s : State} {m : MethodId} {args : Array Value} {below : List Frame} {meth : Method} {c : Code} {G : Gd} {B : Nat} (X : Cm p s m args meth c cX8_variablesOf 4 RX8 G (some .int)) (c4 : Int32 → Int32 → Int32 → Sto → Option (Int32 × Sto)) {r : Int32} {σr : Sto} (ih4 : ∀ (v1 : Int32) (v2 : Int32) (v3 : Int32) (σ : Sto) (H : Heap) (locs : List Loc) (ls : Array Slot), c4 v1 v2 v3 σ = some (r, σr) → HX G layM B σ H → va_S (inW layM B) s.heap H locs → lv_has ls 4 [(0, .ref (B + 0)), (1, .int v1), (2, .int v2), (3, .int v3)] → WM p l e 0 s m args below meth c H locs G layM B (some (.int r)) σr (F0 m 4 ls [])) (v1 : Int32) (v2 : Int32) (v3 : Int32) (σ : Sto) (hf : b_X8_variablesOf_4 c4 v1 v2 v3 σ = some (r, σr)) (H : Heap) (locs : List Loc) (hH : HX G layM B σ H) (hS : va_S (inW layM B) s.heap H locs) (ls : Array Slot) (hl : lv_has ls 4 [(0, .ref (B + 0)), (1, .int v1), (2, .int v2), (3, .int v3)]) : WM p l e 0 s m args below meth c H locs G layM B (some (.int r)) σr (F0 m 4 ls []) := by
  unfold b_X8_variablesOf_4 at hf
  have hx := X.1.1
  have hb := X.1.2.1
  refine lv_iload_n hx hb dX8_variablesOf_4 rfl (lv_at hl 3 rfl) ?_
  refine lv_bipush (v := 8) hx hb dX8_variablesOf_5 (by decide) ?_
  refine lv_icmp_ge (tgt := 45) hx hb dX8_variablesOf_7 (by decide) (fun q201 => ?_) (fun q201 => ?_)
  · replace hf := brT hf q201
    refine lv_iload_n hx hb dX8_variablesOf_45 rfl (lv_at hl 2 rfl) ?_
    obtain ⟨rfl, rfl⟩ := rt2 hf
    exact g_iret X hH hS dX8_variablesOf_46
  · replace hf := brF hf q201
    refine lv_iload_n hx hb dX8_variablesOf_10 rfl (lv_at hl 2 rfl) ?_
    refine lv_aload_n hx hb dX8_variablesOf_11 rfl (lv_at hl 0 rfl) ?_
    refine g_get (v := .ref (B + 6)) kX8 (by decide) fl_RX8_25 X.1 hH km_0 rfl dX8_variablesOf_12 ?_
    refine lv_bipush (v := 12) hx hb dX8_variablesOf_15 (by decide) ?_
    refine lv_bipush (v := 10) hx hb dX8_variablesOf_17 (by decide) ?_
    refine lv_iload_n hx hb dX8_variablesOf_19 rfl (lv_at hl 1 rfl) ?_
    refine lv_imul hx hb dX8_variablesOf_20 ?_
    refine lv_iadd hx hb dX8_variablesOf_21 ?_
    refine lv_iconst (v := 2) hx hb dX8_variablesOf_22 (by decide) ?_
    refine lv_iadd hx hb dX8_variablesOf_23 ?_
    refine lv_iload_n hx hb dX8_variablesOf_24 rfl (lv_at hl 3 rfl) ?_
    refine lv_iadd hx hb dX8_variablesOf_25 ?_
    obtain ⟨q202, hf⟩ := chk hf
    refine g_lald (j := ((((12 : Int32) + ((10 : Int32) * v1)) + (2 : Int32)) + v3).toNatClampNeg) X.1 hH km_6 q202 rfl dX8_variablesOf_26 ?_
    refine lv_lconst (v := 0) hx hb dX8_variablesOf_27 (by decide) ?_
    refine g_leq (tgt := 36) X.1 dX8_variablesOf_28 dX8_variablesOf_29 (by decide) (fun q203 => ?_) (fun q203 => ?_)
    · replace hf := brT hf q203
      refine lv_iconst (v := 0) hx hb dX8_variablesOf_36 (by decide) ?_
      exact w_X8_variablesOf_37 X c4 ih4 v1 v3 (0 : Int32) v2 σ hf _ _ hH hS _ (lv_sub hl [0, 1, 3] rfl)
    · replace hf := brF hf q203
      refine lv_iconst (v := 1) hx hb dX8_variablesOf_32 (by decide) ?_
      refine lv_goto (tgt := 37) hx hb dX8_variablesOf_33 (by decide) ?_
      exact w_X8_variablesOf_37 X c4 ih4 v1 v3 (1 : Int32) v2 σ hf _ _ hH hS _ (lv_sub hl [0, 1, 3] rfl)
def l_X8_variablesOf_4 : Nat → Int32 → Int32 → Int32 → Sto → Option (Int32 × Sto)
  | 0, _, _, _, _ => none
  | n + 1, v1, v2, v3, σ => b_X8_variablesOf_4 (l_X8_variablesOf_4 n) v1 v2 v3 σ
set_option maxHeartbeats 4000000 in
set_option maxRecDepth 100000 in
theorem wl_X8_variablesOf_4 {p : Program} {l : Launch} {e : Env} {s : State} {m : MethodId} {args : Array Value} {below : List Frame} {meth : Method} {c : Code} {G : Gd} {B : Nat} (X : Cm p s m args meth c cX8_variablesOf 4 RX8 G (some .int)) {r : Int32} {σr : Sto} (n : Nat) : ∀ (v1 : Int32) (v2 : Int32) (v3 : Int32) (σ : Sto) (H : Heap) (locs : List Loc) (ls : Array Slot), l_X8_variablesOf_4 n v1 v2 v3 σ = some (r, σr) → HX G layM B σ H → va_S (inW layM B) s.heap H locs → lv_has ls 4 [(0, .ref (B + 0)), (1, .int v1), (2, .int v2), (3, .int v3)] → WM p l e 0 s m args below meth c H locs G layM B (some (.int r)) σr (F0 m 4 ls []) := by
  induction n with
  | zero =>
    intro _ _ _ σ H locs ls hf
    cases hf
  | succ n ih =>
    intro v1 v2 v3 σ H locs ls hf hH hS hl
    exact w_X8_variablesOf_4 X (l_X8_variablesOf_4 n) ih v1 v2 v3 σ hf H locs hH hS ls hl
def f_X8_variablesOf (x1 : Int32) (σ : Sto) : Option (Int32 × Sto) :=
  l_X8_variablesOf_4 400 x1 (0 : Int32) (0 : Int32) σ
set_option maxHeartbeats 4000000 in
set_option maxRecDepth 100000 in
theorem w_X8_variablesOf {p : Program} {l : Launch} {e : Env} {s : State} {m : MethodId} {args : Array Value} {below : List Frame} {meth : Method} {c : Code} {G : Gd} {B : Nat} (X : Cm p s m args meth c cX8_variablesOf 4 RX8 G (some .int)) {r : Int32} {σr : Sto} (x1 : Int32) (σ : Sto) (hf : f_X8_variablesOf x1 σ = some (r, σr)) (H : Heap) (locs : List Loc) (hH : HX G layM B σ H) (hS : va_S (inW layM B) s.heap H locs) (ls : Array Slot) (hl : lv_has ls 4 [(0, .ref (B + 0)), (1, .int x1)]) : WM p l e 0 s m args below meth c H locs G layM B (some (.int r)) σr (F0 m 0 ls []) := by
  unfold f_X8_variablesOf at hf
  have hx := X.1.1
  have hb := X.1.2.1
  refine lv_iconst (v := 0) hx hb dX8_variablesOf_0 (by decide) ?_
  refine lv_istore_n (lv' := [(2, .int (0 : Int32)), (0, .ref (B + 0)), (1, .int x1)]) hx hb dX8_variablesOf_1 rfl hl (by decide) rfl (fun ls hl => ?_)
  refine lv_iconst (v := 0) hx hb dX8_variablesOf_2 (by decide) ?_
  refine lv_istore_n (lv' := [(3, .int (0 : Int32)), (2, .int (0 : Int32)), (0, .ref (B + 0)), (1, .int x1)]) hx hb dX8_variablesOf_3 rfl hl (by decide) rfl (fun ls hl => ?_)
  exact wl_X8_variablesOf_4 X 400 x1 (0 : Int32) (0 : Int32) σ _ _ _ hf hH hS (lv_sub hl [2, 3, 1, 0] rfl)
theorem c_X8_variablesOf (l : Launch) (G : Gd) (B : Nat) (x1 : Int32) (σ σr : Sto) (r : Int32) (hf : f_X8_variablesOf x1 σ = some (r, σr)) : Ct l G layM B yX8_variablesOf cX8_variablesOf 4 (some .int) 0 [.ref (B + 0), .int x1] (some (.int r)) σ σr :=
  Ct.ofW (by decide) (Nat.le_of_ble_eq_true rfl) (fun _ _ _ _ _ _ _ X hH hS ls hl => w_X8_variablesOf X x1 σ hf _ _ hH hS ls (show lv_has ls 4 [(0, .ref (B + 0)), (1, .int x1)] from hl))
-- SlackProofsModel.derivedSize(I)I  (D 1)
def b_X8_derivedSize_57 (s0 : Int32) (σ : Sto) : Option (Int32 × Sto) :=
  some (s0, σ)
set_option maxHeartbeats 4000000 in
set_option maxRecDepth 100000 in
theorem w_X8_derivedSize_57 {p : Program} {l : Launch} {e : Env} {s : State} {m : MethodId} {args : Array Value} {below : List Frame} {meth : Method} {c : Code} {G : Gd} {B : Nat} (X : Cm p s m args meth c cX8_derivedSize 4 RX8 G (some .int)) {r : Int32} {σr : Sto} (s0 : Int32) (σ : Sto) (hf : b_X8_derivedSize_57 s0 σ = some (r, σr)) (H : Heap) (locs : List Loc) (hH : HX G layM B σ H) (hS : va_S (inW layM B) s.heap H locs) (ls : Array Slot) (hl : lv_has ls 4 []) : WM p l e 1 s m args below meth c H locs G layM B (some (.int r)) σr (F0 m 57 ls [.int s0]) := by
  unfold b_X8_derivedSize_57 at hf
  have hx := X.1.1
  have hb := X.1.2.1
  obtain ⟨rfl, rfl⟩ := rt2 hf
  exact g_iret X hH hS dX8_derivedSize_57
def b_X8_derivedSize_25 (v1 : Int32) (v2 : Int32) (σ : Sto) : Option (Int32 × Sto) :=
  bd1 (f_X8_traces (13 : Int32) σ) fun σ305 => bd1 (f_X8_traces (10 : Int32) σ305) fun σ307 => bd2 (f_X8_variablesOf v1 σ307) fun r310 σ309 => nmS (r310 - (100 : Int32)) fun y311 => if v2 = 0 then (b_X8_derivedSize_57 y311 σ309) else (b_X8_derivedSize_57 ((2 : Int32) * y311) σ309)
set_option maxHeartbeats 4000000 in
set_option maxRecDepth 100000 in
theorem w_X8_derivedSize_25 {p : Program} {l : Launch} {e : Env} {s : State} {m : MethodId} {args : Array Value} {below : List Frame} {meth : Method} {c : Code} {G : Gd} {B : Nat} (X : Cm p s m args meth c cX8_derivedSize 4 RX8 G (some .int)) {r : Int32} {σr : Sto} (v1 : Int32) (v2 : Int32) (σ : Sto) (hf : b_X8_derivedSize_25 v1 v2 σ = some (r, σr)) (H : Heap) (locs : List Loc) (hH : HX G layM B σ H) (hS : va_S (inW layM B) s.heap H locs) (ls : Array Slot) (hl : lv_has ls 4 [(0, .ref (B + 0)), (1, .int v1), (2, .int v2)]) : WM p l e 1 s m args below meth c H locs G layM B (some (.int r)) σr (F0 m 25 ls []) := by
  unfold b_X8_derivedSize_25 at hf
  have hx := X.1.1
  have hb := X.1.2.1
  refine lv_aload_n hx hb dX8_derivedSize_25 rfl (lv_at hl 0 rfl) ?_
  refine lv_bipush (v := 13) hx hb dX8_derivedSize_26 (by decide) ?_
  obtain ⟨σ305, eσ305, hf⟩ := bnd1 hf
  refine g_cVv (As := [.int (13 : Int32)]) X.1 hH hS (c_X8_traces l G B (13 : Int32) σ σ305 eσ305) kw_RX8_266 kX8 km_0 (by decide) rfl hl (Nat.le_of_ble_eq_true rfl) rfl dX8_derivedSize_28 (fun H locs hH hS => ?_)
  refine lv_aload_n hx hb dX8_derivedSize_31 rfl (lv_at hl 0 rfl) ?_
  refine lv_bipush (v := 10) hx hb dX8_derivedSize_32 (by decide) ?_
  obtain ⟨σ307, eσ307, hf⟩ := bnd1 hf
  refine g_cVv (As := [.int (10 : Int32)]) X.1 hH hS (c_X8_traces l G B (10 : Int32) σ305 σ307 eσ307) kw_RX8_266 kX8 km_0 (by decide) rfl hl (Nat.le_of_ble_eq_true rfl) rfl dX8_derivedSize_34 (fun H locs hH hS => ?_)
  refine lv_aload_n hx hb dX8_derivedSize_37 rfl (lv_at hl 0 rfl) ?_
  refine lv_iload_n hx hb dX8_derivedSize_38 rfl (lv_at hl 1 rfl) ?_
  obtain ⟨r310, σ309, eσ309, hf⟩ := bnd2 hf
  refine g_cVi (As := [.int v1]) X.1 hH hS (c_X8_variablesOf l G B v1 σ307 σ309 r310 eσ309) kw_RX8_272 kX8 km_0 (by decide) rfl hl (Nat.le_of_ble_eq_true rfl) rfl dX8_derivedSize_39 (fun H locs hH hS => ?_)
  refine lv_bipush (v := 100) hx hb dX8_derivedSize_42 (by decide) ?_
  refine lv_isub hx hb dX8_derivedSize_44 ?_
  refine lv_topi (fun y311 ey311 => ?_)
  replace hf := nmU hf ey311
  refine lv_istore_n (lv' := [(3, .int y311), (0, .ref (B + 0)), (1, .int v1), (2, .int v2)]) hx hb dX8_derivedSize_45 rfl hl (by decide) rfl (fun ls hl => ?_)
  refine lv_iload_n hx hb dX8_derivedSize_46 rfl (lv_at hl 3 rfl) ?_
  refine lv_if_eq (tgt := 56) hx hb dX8_derivedSize_47 (by decide) (fun q312 => ?_) (fun q312 => ?_)
  · replace hf := brT hf q312
    refine lv_iload_n hx hb dX8_derivedSize_56 rfl (lv_at hl 0 rfl) ?_
    exact w_X8_derivedSize_57 X y311 σ309 hf _ _ hH hS _ (lv_sub hl [] rfl)
  · replace hf := brF hf q312
    refine lv_iconst (v := 2) hx hb dX8_derivedSize_50 (by decide) ?_
    refine lv_iload_n hx hb dX8_derivedSize_51 rfl (lv_at hl 0 rfl) ?_
    refine lv_imul hx hb dX8_derivedSize_52 ?_
    refine lv_goto (tgt := 57) hx hb dX8_derivedSize_53 (by decide) ?_
    exact w_X8_derivedSize_57 X ((2 : Int32) * y311) σ309 hf _ _ hH hS _ (lv_sub hl [] rfl)
def b_X8_derivedSize_14 (v1 : Int32) (s0 : Int32) (σ : Sto) : Option (Int32 × Sto) :=
  if s0 = 0 then (b_X8_derivedSize_25 v1 s0 σ) else (bd1 (f_X8_traces (14 : Int32) σ) fun σ413 => b_X8_derivedSize_25 v1 s0 σ413)
set_option maxHeartbeats 4000000 in
set_option maxRecDepth 100000 in
theorem w_X8_derivedSize_14 {p : Program} {l : Launch} {e : Env} {s : State} {m : MethodId} {args : Array Value} {below : List Frame} {meth : Method} {c : Code} {G : Gd} {B : Nat} (X : Cm p s m args meth c cX8_derivedSize 4 RX8 G (some .int)) {r : Int32} {σr : Sto} (v1 : Int32) (s0 : Int32) (σ : Sto) (hf : b_X8_derivedSize_14 v1 s0 σ = some (r, σr)) (H : Heap) (locs : List Loc) (hH : HX G layM B σ H) (hS : va_S (inW layM B) s.heap H locs) (ls : Array Slot) (hl : lv_has ls 4 [(0, .ref (B + 0)), (1, .int v1)]) : WM p l e 1 s m args below meth c H locs G layM B (some (.int r)) σr (F0 m 14 ls [.int s0]) := by
  unfold b_X8_derivedSize_14 at hf
  have hx := X.1.1
  have hb := X.1.2.1
  refine lv_istore_n (lv' := [(2, .int s0), (0, .ref (B + 0)), (1, .int v1)]) hx hb dX8_derivedSize_14 rfl hl (by decide) rfl (fun ls hl => ?_)
  refine lv_iload_n hx hb dX8_derivedSize_15 rfl (lv_at hl 0 rfl) ?_
  refine lv_if_eq (tgt := 25) hx hb dX8_derivedSize_16 (by decide) (fun q204 => ?_) (fun q204 => ?_)
  · replace hf := brT hf q204
    exact w_X8_derivedSize_25 X v1 s0 σ hf _ _ hH hS _ (lv_sub hl [1, 2, 0] rfl)
  · replace hf := brF hf q204
    refine lv_aload_n hx hb dX8_derivedSize_19 rfl (lv_at hl 1 rfl) ?_
    refine lv_bipush (v := 14) hx hb dX8_derivedSize_20 (by decide) ?_
    obtain ⟨σ413, eσ413, hf⟩ := bnd1 hf
    refine g_cVv (As := [.int (14 : Int32)]) X.1 hH hS (c_X8_traces l G B (14 : Int32) σ σ413 eσ413) kw_RX8_266 kX8 km_0 (by decide) rfl hl (Nat.le_of_ble_eq_true rfl) rfl dX8_derivedSize_22 (fun H locs hH hS => ?_)
    exact w_X8_derivedSize_25 X v1 s0 σ413 hf _ _ hH hS _ (lv_sub hl [1, 2, 0] rfl)
def f_X8_derivedSize (x1 : Int32) (σ : Sto) : Option (Int32 × Sto) :=
  bd2 (f_X8_kindIn x1 σ) fun r102 σ101 => if r102 = (5 : Int32) then (b_X8_derivedSize_14 x1 (1 : Int32) σ101) else (b_X8_derivedSize_14 x1 (0 : Int32) σ101)
set_option maxHeartbeats 4000000 in
set_option maxRecDepth 100000 in
theorem w_X8_derivedSize {p : Program} {l : Launch} {e : Env} {s : State} {m : MethodId} {args : Array Value} {below : List Frame} {meth : Method} {c : Code} {G : Gd} {B : Nat} (X : Cm p s m args meth c cX8_derivedSize 4 RX8 G (some .int)) {r : Int32} {σr : Sto} (x1 : Int32) (σ : Sto) (hf : f_X8_derivedSize x1 σ = some (r, σr)) (H : Heap) (locs : List Loc) (hH : HX G layM B σ H) (hS : va_S (inW layM B) s.heap H locs) (ls : Array Slot) (hl : lv_has ls 4 [(0, .ref (B + 0)), (1, .int x1)]) : WM p l e 1 s m args below meth c H locs G layM B (some (.int r)) σr (F0 m 0 ls []) := by
  unfold f_X8_derivedSize at hf
  have hx := X.1.1
  have hb := X.1.2.1
  refine lv_aload_n hx hb dX8_derivedSize_0 rfl (lv_at hl 0 rfl) ?_
  refine lv_iload_n hx hb dX8_derivedSize_1 rfl (lv_at hl 1 rfl) ?_
  obtain ⟨r102, σ101, eσ101, hf⟩ := bnd2 hf
  refine g_cVi (As := [.int x1]) X.1 hH hS (c_X8_kindIn l G B x1 σ σ101 r102 eσ101) kw_RX8_260 kX8 km_0 (by decide) rfl hl (Nat.le_of_ble_eq_true rfl) rfl dX8_derivedSize_2 (fun H locs hH hS => ?_)
  refine lv_iconst (v := 5) hx hb dX8_derivedSize_5 (by decide) ?_
  refine lv_icmp_ne (tgt := 13) hx hb dX8_derivedSize_6 (by decide) (fun q103 => ?_) (fun q103 => ?_)
  · replace hf := brF hf q103
    refine lv_iconst (v := 0) hx hb dX8_derivedSize_13 (by decide) ?_
    exact w_X8_derivedSize_14 X x1 (0 : Int32) σ101 hf _ _ hH hS _ (lv_sub hl [0, 1] rfl)
  · replace hf := brT hf q103
    refine lv_iconst (v := 1) hx hb dX8_derivedSize_9 (by decide) ?_
    refine lv_goto (tgt := 14) hx hb dX8_derivedSize_10 (by decide) ?_
    exact w_X8_derivedSize_14 X x1 (1 : Int32) σ101 hf _ _ hH hS _ (lv_sub hl [0, 1] rfl)
theorem c_X8_derivedSize (l : Launch) (G : Gd) (B : Nat) (x1 : Int32) (σ σr : Sto) (r : Int32) (hf : f_X8_derivedSize x1 σ = some (r, σr)) : Ct l G layM B yX8_derivedSize cX8_derivedSize 4 (some .int) 1 [.ref (B + 0), .int x1] (some (.int r)) σ σr :=
  Ct.ofW (by decide) (Nat.le_of_ble_eq_true rfl) (fun _ _ _ _ _ _ _ X hH hS ls hl => w_X8_derivedSize X x1 σ hf _ _ hH hS ls (show lv_has ls 4 [(0, .ref (B + 0)), (1, .int x1)] from hl))
-- SlackProofsModel.leastOf(I)I  (D 0)
def b_X8_leastOf_2 (c2 : Int32 → Int32 → Sto → Option (Int32 × Sto)) (v1 : Int32) (v2 : Int32) (σ : Sto) : Option (Int32 × Sto) :=
  if (8 : Int32) ≤ v2 then (some ((8 : Int32), σ)) else (if (((((12 : Int32) + ((10 : Int32) * v1)) + (2 : Int32)) + v2) < 0 ∨ 312 ≤ ((((12 : Int32) + ((10 : Int32) * v1)) + (2 : Int32)) + v2).toNatClampNeg) then none else if (σ.2 6 ((((12 : Int32) + ((10 : Int32) * v1)) + (2 : Int32)) + v2).toNatClampNeg) = (0 : Int64) then (c2 v1 (v2 + (1 : Int32)) σ) else (some (v2, σ)))
set_option maxHeartbeats 4000000 in
set_option maxRecDepth 100000 in
theorem w_X8_leastOf_2 {p : Program} {l : Launch} {e : Env} {s : State} {m : MethodId} {args : Array Value} {below : List Frame} {meth : Method} {c : Code} {G : Gd} {B : Nat} (X : Cm p s m args meth c cX8_leastOf 3 RX8 G (some .int)) (c2 : Int32 → Int32 → Sto → Option (Int32 × Sto)) {r : Int32} {σr : Sto} (ih2 : ∀ (v1 : Int32) (v2 : Int32) (σ : Sto) (H : Heap) (locs : List Loc) (ls : Array Slot), c2 v1 v2 σ = some (r, σr) → HX G layM B σ H → va_S (inW layM B) s.heap H locs → lv_has ls 3 [(0, .ref (B + 0)), (1, .int v1), (2, .int v2)] → WM p l e 0 s m args below meth c H locs G layM B (some (.int r)) σr (F0 m 2 ls [])) (v1 : Int32) (v2 : Int32) (σ : Sto) (hf : b_X8_leastOf_2 c2 v1 v2 σ = some (r, σr)) (H : Heap) (locs : List Loc) (hH : HX G layM B σ H) (hS : va_S (inW layM B) s.heap H locs) (ls : Array Slot) (hl : lv_has ls 3 [(0, .ref (B + 0)), (1, .int v1), (2, .int v2)]) : WM p l e 0 s m args below meth c H locs G layM B (some (.int r)) σr (F0 m 2 ls []) := by
  unfold b_X8_leastOf_2 at hf
  have hx := X.1.1
  have hb := X.1.2.1
  refine lv_iload_n hx hb dX8_leastOf_2 rfl (lv_at hl 2 rfl) ?_
  refine lv_bipush (v := 8) hx hb dX8_leastOf_3 (by decide) ?_
  refine lv_icmp_ge (tgt := 37) hx hb dX8_leastOf_5 (by decide) (fun q201 => ?_) (fun q201 => ?_)
  · replace hf := brT hf q201
    refine lv_bipush (v := 8) hx hb dX8_leastOf_37 (by decide) ?_
    obtain ⟨rfl, rfl⟩ := rt2 hf
    exact g_iret X hH hS dX8_leastOf_39
  · replace hf := brF hf q201
    refine lv_aload_n hx hb dX8_leastOf_8 rfl (lv_at hl 0 rfl) ?_
    refine g_get (v := .ref (B + 6)) kX8 (by decide) fl_RX8_25 X.1 hH km_0 rfl dX8_leastOf_9 ?_
    refine lv_bipush (v := 12) hx hb dX8_leastOf_12 (by decide) ?_
    refine lv_bipush (v := 10) hx hb dX8_leastOf_14 (by decide) ?_
    refine lv_iload_n hx hb dX8_leastOf_16 rfl (lv_at hl 1 rfl) ?_
    refine lv_imul hx hb dX8_leastOf_17 ?_
    refine lv_iadd hx hb dX8_leastOf_18 ?_
    refine lv_iconst (v := 2) hx hb dX8_leastOf_19 (by decide) ?_
    refine lv_iadd hx hb dX8_leastOf_20 ?_
    refine lv_iload_n hx hb dX8_leastOf_21 rfl (lv_at hl 2 rfl) ?_
    refine lv_iadd hx hb dX8_leastOf_22 ?_
    obtain ⟨q202, hf⟩ := chk hf
    refine g_lald (j := ((((12 : Int32) + ((10 : Int32) * v1)) + (2 : Int32)) + v2).toNatClampNeg) X.1 hH km_6 q202 rfl dX8_leastOf_23 ?_
    refine lv_lconst (v := 0) hx hb dX8_leastOf_24 (by decide) ?_
    refine g_leq (tgt := 31) X.1 dX8_leastOf_25 dX8_leastOf_26 (by decide) (fun q203 => ?_) (fun q203 => ?_)
    · replace hf := brT hf q203
      refine lv_iinc (v := (v2 + (1 : Int32))) (lv' := [(2, .int (v2 + (1 : Int32))), (0, .ref (B + 0)), (1, .int v1)]) hx hb dX8_leastOf_31 hl (k := 2) rfl rfl (by decide) rfl (fun ls hl => ?_)
      refine lv_goto (tgt := 2) hx hb dX8_leastOf_34 (by decide) ?_
      exact ih2 v1 (v2 + (1 : Int32)) σ _ _ _ hf hH hS (lv_sub hl [1, 2, 0] rfl)
    · replace hf := brF hf q203
      refine lv_iload_n hx hb dX8_leastOf_29 rfl (lv_at hl 2 rfl) ?_
      obtain ⟨rfl, rfl⟩ := rt2 hf
      exact g_iret X hH hS dX8_leastOf_30
def l_X8_leastOf_2 : Nat → Int32 → Int32 → Sto → Option (Int32 × Sto)
  | 0, _, _, _ => none
  | n + 1, v1, v2, σ => b_X8_leastOf_2 (l_X8_leastOf_2 n) v1 v2 σ
set_option maxHeartbeats 4000000 in
set_option maxRecDepth 100000 in
theorem wl_X8_leastOf_2 {p : Program} {l : Launch} {e : Env} {s : State} {m : MethodId} {args : Array Value} {below : List Frame} {meth : Method} {c : Code} {G : Gd} {B : Nat} (X : Cm p s m args meth c cX8_leastOf 3 RX8 G (some .int)) {r : Int32} {σr : Sto} (n : Nat) : ∀ (v1 : Int32) (v2 : Int32) (σ : Sto) (H : Heap) (locs : List Loc) (ls : Array Slot), l_X8_leastOf_2 n v1 v2 σ = some (r, σr) → HX G layM B σ H → va_S (inW layM B) s.heap H locs → lv_has ls 3 [(0, .ref (B + 0)), (1, .int v1), (2, .int v2)] → WM p l e 0 s m args below meth c H locs G layM B (some (.int r)) σr (F0 m 2 ls []) := by
  induction n with
  | zero =>
    intro _ _ σ H locs ls hf
    cases hf
  | succ n ih =>
    intro v1 v2 σ H locs ls hf hH hS hl
    exact w_X8_leastOf_2 X (l_X8_leastOf_2 n) ih v1 v2 σ hf H locs hH hS ls hl
def f_X8_leastOf (x1 : Int32) (σ : Sto) : Option (Int32 × Sto) :=
  l_X8_leastOf_2 400 x1 (0 : Int32) σ
set_option maxHeartbeats 4000000 in
set_option maxRecDepth 100000 in
theorem w_X8_leastOf {p : Program} {l : Launch} {e : Env} {s : State} {m : MethodId} {args : Array Value} {below : List Frame} {meth : Method} {c : Code} {G : Gd} {B : Nat} (X : Cm p s m args meth c cX8_leastOf 3 RX8 G (some .int)) {r : Int32} {σr : Sto} (x1 : Int32) (σ : Sto) (hf : f_X8_leastOf x1 σ = some (r, σr)) (H : Heap) (locs : List Loc) (hH : HX G layM B σ H) (hS : va_S (inW layM B) s.heap H locs) (ls : Array Slot) (hl : lv_has ls 3 [(0, .ref (B + 0)), (1, .int x1)]) : WM p l e 0 s m args below meth c H locs G layM B (some (.int r)) σr (F0 m 0 ls []) := by
  unfold f_X8_leastOf at hf
  have hx := X.1.1
  have hb := X.1.2.1
  refine lv_iconst (v := 0) hx hb dX8_leastOf_0 (by decide) ?_
  refine lv_istore_n (lv' := [(2, .int (0 : Int32)), (0, .ref (B + 0)), (1, .int x1)]) hx hb dX8_leastOf_1 rfl hl (by decide) rfl (fun ls hl => ?_)
  exact wl_X8_leastOf_2 X 400 x1 (0 : Int32) σ _ _ _ hf hH hS (lv_sub hl [1, 2, 0] rfl)
theorem c_X8_leastOf (l : Launch) (G : Gd) (B : Nat) (x1 : Int32) (σ σr : Sto) (r : Int32) (hf : f_X8_leastOf x1 σ = some (r, σr)) : Ct l G layM B yX8_leastOf cX8_leastOf 3 (some .int) 0 [.ref (B + 0), .int x1] (some (.int r)) σ σr :=
  Ct.ofW (by decide) (Nat.le_of_ble_eq_true rfl) (fun _ _ _ _ _ _ _ X hH hS ls hl => w_X8_leastOf X x1 σ hf _ _ hH hS ls (show lv_has ls 3 [(0, .ref (B + 0)), (1, .int x1)] from hl))
-- SlackProofsModel.givenMark(I)I  (D 1)
def b_X8_givenMark_72 (s0 : Int32) (σ : Sto) : Option (Int32 × Sto) :=
  some (s0, σ)
set_option maxHeartbeats 4000000 in
set_option maxRecDepth 100000 in
theorem w_X8_givenMark_72 {p : Program} {l : Launch} {e : Env} {s : State} {m : MethodId} {args : Array Value} {below : List Frame} {meth : Method} {c : Code} {G : Gd} {B : Nat} (X : Cm p s m args meth c cX8_givenMark 4 RX8 G (some .int)) {r : Int32} {σr : Sto} (s0 : Int32) (σ : Sto) (hf : b_X8_givenMark_72 s0 σ = some (r, σr)) (H : Heap) (locs : List Loc) (hH : HX G layM B σ H) (hS : va_S (inW layM B) s.heap H locs) (ls : Array Slot) (hl : lv_has ls 4 []) : WM p l e 1 s m args below meth c H locs G layM B (some (.int r)) σr (F0 m 72 ls [.int s0]) := by
  unfold b_X8_givenMark_72 at hf
  have hx := X.1.1
  have hb := X.1.2.1
  obtain ⟨rfl, rfl⟩ := rt2 hf
  exact g_iret X hH hS dX8_givenMark_72
def b_X8_givenMark_27 (v1 : Int32) (v2 : Int32) (σ : Sto) : Option (Int32 × Sto) :=
  bd1 (f_X8_traces (21 : Int32) σ) fun σ204 => bd1 (f_X8_traces (20 : Int32) σ204) fun σ206 => bd2 (f_X8_leastOf v1 σ206) fun r209 σ208 => nmS (v1 + r209) fun y210 => if v2 = (2 : Int32) then (b_X8_givenMark_72 ((2 : Int32) * y210) σ208) else (if v2 = (3 : Int32) then (b_X8_givenMark_72 (y210 - (1000 : Int32)) σ208) else (b_X8_givenMark_72 y210 σ208))
set_option maxHeartbeats 4000000 in
set_option maxRecDepth 100000 in
theorem w_X8_givenMark_27 {p : Program} {l : Launch} {e : Env} {s : State} {m : MethodId} {args : Array Value} {below : List Frame} {meth : Method} {c : Code} {G : Gd} {B : Nat} (X : Cm p s m args meth c cX8_givenMark 4 RX8 G (some .int)) {r : Int32} {σr : Sto} (v1 : Int32) (v2 : Int32) (σ : Sto) (hf : b_X8_givenMark_27 v1 v2 σ = some (r, σr)) (H : Heap) (locs : List Loc) (hH : HX G layM B σ H) (hS : va_S (inW layM B) s.heap H locs) (ls : Array Slot) (hl : lv_has ls 4 [(0, .ref (B + 0)), (1, .int v1), (2, .int v2)]) : WM p l e 1 s m args below meth c H locs G layM B (some (.int r)) σr (F0 m 27 ls []) := by
  unfold b_X8_givenMark_27 at hf
  have hx := X.1.1
  have hb := X.1.2.1
  refine lv_aload_n hx hb dX8_givenMark_27 rfl (lv_at hl 0 rfl) ?_
  refine lv_bipush (v := 21) hx hb dX8_givenMark_28 (by decide) ?_
  obtain ⟨σ204, eσ204, hf⟩ := bnd1 hf
  refine g_cVv (As := [.int (21 : Int32)]) X.1 hH hS (c_X8_traces l G B (21 : Int32) σ σ204 eσ204) kw_RX8_266 kX8 km_0 (by decide) rfl hl (Nat.le_of_ble_eq_true rfl) rfl dX8_givenMark_30 (fun H locs hH hS => ?_)
  refine lv_aload_n hx hb dX8_givenMark_33 rfl (lv_at hl 0 rfl) ?_
  refine lv_bipush (v := 20) hx hb dX8_givenMark_34 (by decide) ?_
  obtain ⟨σ206, eσ206, hf⟩ := bnd1 hf
  refine g_cVv (As := [.int (20 : Int32)]) X.1 hH hS (c_X8_traces l G B (20 : Int32) σ204 σ206 eσ206) kw_RX8_266 kX8 km_0 (by decide) rfl hl (Nat.le_of_ble_eq_true rfl) rfl dX8_givenMark_36 (fun H locs hH hS => ?_)
  refine lv_iload_n hx hb dX8_givenMark_39 rfl (lv_at hl 1 rfl) ?_
  refine lv_aload_n hx hb dX8_givenMark_40 rfl (lv_at hl 0 rfl) ?_
  refine lv_iload_n hx hb dX8_givenMark_41 rfl (lv_at hl 1 rfl) ?_
  obtain ⟨r209, σ208, eσ208, hf⟩ := bnd2 hf
  refine g_cVi (As := [.int v1]) X.1 hH hS (c_X8_leastOf l G B v1 σ206 σ208 r209 eσ208) kw_RX8_269 kX8 km_0 (by decide) rfl hl (Nat.le_of_ble_eq_true rfl) rfl dX8_givenMark_42 (fun H locs hH hS => ?_)
  refine lv_iadd hx hb dX8_givenMark_45 ?_
  refine lv_topi (fun y210 ey210 => ?_)
  replace hf := nmU hf ey210
  refine lv_istore_n (lv' := [(3, .int y210), (0, .ref (B + 0)), (1, .int v1), (2, .int v2)]) hx hb dX8_givenMark_46 rfl hl (by decide) rfl (fun ls hl => ?_)
  refine lv_iload_n hx hb dX8_givenMark_47 rfl (lv_at hl 3 rfl) ?_
  refine lv_iconst (v := 2) hx hb dX8_givenMark_48 (by decide) ?_
  refine lv_icmp_ne (tgt := 58) hx hb dX8_givenMark_49 (by decide) (fun q211 => ?_) (fun q211 => ?_)
  · replace hf := brF hf q211
    refine lv_iload_n hx hb dX8_givenMark_58 rfl (lv_at hl 3 rfl) ?_
    refine lv_iconst (v := 3) hx hb dX8_givenMark_59 (by decide) ?_
    refine lv_icmp_ne (tgt := 71) hx hb dX8_givenMark_60 (by decide) (fun q212 => ?_) (fun q212 => ?_)
    · replace hf := brF hf q212
      refine lv_iload_n hx hb dX8_givenMark_71 rfl (lv_at hl 0 rfl) ?_
      exact w_X8_givenMark_72 X y210 σ208 hf _ _ hH hS _ (lv_sub hl [] rfl)
    · replace hf := brT hf q212
      refine lv_iload_n hx hb dX8_givenMark_63 rfl (lv_at hl 0 rfl) ?_
      refine lv_sipush (v := 1000) hx hb dX8_givenMark_64 (by decide) ?_
      refine lv_isub hx hb dX8_givenMark_67 ?_
      refine lv_goto (tgt := 72) hx hb dX8_givenMark_68 (by decide) ?_
      exact w_X8_givenMark_72 X (y210 - (1000 : Int32)) σ208 hf _ _ hH hS _ (lv_sub hl [] rfl)
  · replace hf := brT hf q211
    refine lv_iconst (v := 2) hx hb dX8_givenMark_52 (by decide) ?_
    refine lv_iload_n hx hb dX8_givenMark_53 rfl (lv_at hl 0 rfl) ?_
    refine lv_imul hx hb dX8_givenMark_54 ?_
    refine lv_goto (tgt := 72) hx hb dX8_givenMark_55 (by decide) ?_
    exact w_X8_givenMark_72 X ((2 : Int32) * y210) σ208 hf _ _ hH hS _ (lv_sub hl [] rfl)
def b_X8_givenMark_24 (v1 : Int32) (v2 : Int32) (s0 : Int32) (σ : Sto) : Option (Int32 × Sto) :=
  bd1 (f_X8_traces s0 σ) fun σ414 => b_X8_givenMark_27 v1 v2 σ414
set_option maxHeartbeats 4000000 in
set_option maxRecDepth 100000 in
theorem w_X8_givenMark_24 {p : Program} {l : Launch} {e : Env} {s : State} {m : MethodId} {args : Array Value} {below : List Frame} {meth : Method} {c : Code} {G : Gd} {B : Nat} (X : Cm p s m args meth c cX8_givenMark 4 RX8 G (some .int)) {r : Int32} {σr : Sto} (v1 : Int32) (v2 : Int32) (s0 : Int32) (σ : Sto) (hf : b_X8_givenMark_24 v1 v2 s0 σ = some (r, σr)) (H : Heap) (locs : List Loc) (hH : HX G layM B σ H) (hS : va_S (inW layM B) s.heap H locs) (ls : Array Slot) (hl : lv_has ls 4 [(0, .ref (B + 0)), (1, .int v1), (2, .int v2)]) : WM p l e 1 s m args below meth c H locs G layM B (some (.int r)) σr (F0 m 24 ls [.int s0, .ref (B + 0)]) := by
  unfold b_X8_givenMark_24 at hf
  have hx := X.1.1
  have hb := X.1.2.1
  obtain ⟨σ414, eσ414, hf⟩ := bnd1 hf
  refine g_cVv (As := [.int s0]) X.1 hH hS (c_X8_traces l G B s0 σ σ414 eσ414) kw_RX8_266 kX8 km_0 (by decide) rfl hl (Nat.le_of_ble_eq_true rfl) rfl dX8_givenMark_24 (fun H locs hH hS => ?_)
  exact w_X8_givenMark_27 X v1 v2 σ414 hf _ _ hH hS _ (lv_sub hl [0, 1, 2] rfl)
def f_X8_givenMark (x1 : Int32) (σ : Sto) : Option (Int32 × Sto) :=
  bd2 (f_X8_kindIn x1 σ) fun r102 σ101 => if r102 = (1 : Int32) then (b_X8_givenMark_27 x1 r102 σ101) else (if r102 = (2 : Int32) then (b_X8_givenMark_24 x1 r102 (24 : Int32) σ101) else (b_X8_givenMark_24 x1 r102 (22 : Int32) σ101))
set_option maxHeartbeats 4000000 in
set_option maxRecDepth 100000 in
theorem w_X8_givenMark {p : Program} {l : Launch} {e : Env} {s : State} {m : MethodId} {args : Array Value} {below : List Frame} {meth : Method} {c : Code} {G : Gd} {B : Nat} (X : Cm p s m args meth c cX8_givenMark 4 RX8 G (some .int)) {r : Int32} {σr : Sto} (x1 : Int32) (σ : Sto) (hf : f_X8_givenMark x1 σ = some (r, σr)) (H : Heap) (locs : List Loc) (hH : HX G layM B σ H) (hS : va_S (inW layM B) s.heap H locs) (ls : Array Slot) (hl : lv_has ls 4 [(0, .ref (B + 0)), (1, .int x1)]) : WM p l e 1 s m args below meth c H locs G layM B (some (.int r)) σr (F0 m 0 ls []) := by
  unfold f_X8_givenMark at hf
  have hx := X.1.1
  have hb := X.1.2.1
  refine lv_aload_n hx hb dX8_givenMark_0 rfl (lv_at hl 0 rfl) ?_
  refine lv_iload_n hx hb dX8_givenMark_1 rfl (lv_at hl 1 rfl) ?_
  obtain ⟨r102, σ101, eσ101, hf⟩ := bnd2 hf
  refine g_cVi (As := [.int x1]) X.1 hH hS (c_X8_kindIn l G B x1 σ σ101 r102 eσ101) kw_RX8_260 kX8 km_0 (by decide) rfl hl (Nat.le_of_ble_eq_true rfl) rfl dX8_givenMark_2 (fun H locs hH hS => ?_)
  refine lv_istore_n (lv' := [(2, .int r102), (0, .ref (B + 0)), (1, .int x1)]) hx hb dX8_givenMark_5 rfl hl (by decide) rfl (fun ls hl => ?_)
  refine lv_iload_n hx hb dX8_givenMark_6 rfl (lv_at hl 0 rfl) ?_
  refine lv_iconst (v := 1) hx hb dX8_givenMark_7 (by decide) ?_
  refine lv_icmp_eq (tgt := 27) hx hb dX8_givenMark_8 (by decide) (fun q103 => ?_) (fun q103 => ?_)
  · replace hf := brT hf q103
    exact w_X8_givenMark_27 X x1 r102 σ101 hf _ _ hH hS _ (lv_sub hl [1, 2, 0] rfl)
  · replace hf := brF hf q103
    refine lv_aload_n hx hb dX8_givenMark_11 rfl (lv_at hl 1 rfl) ?_
    refine lv_iload_n hx hb dX8_givenMark_12 rfl (lv_at hl 0 rfl) ?_
    refine lv_iconst (v := 2) hx hb dX8_givenMark_13 (by decide) ?_
    refine lv_icmp_ne (tgt := 22) hx hb dX8_givenMark_14 (by decide) (fun q313 => ?_) (fun q313 => ?_)
    · replace hf := brF hf q313
      refine lv_bipush (v := 22) hx hb dX8_givenMark_22 (by decide) ?_
      exact w_X8_givenMark_24 X x1 r102 (22 : Int32) σ101 hf _ _ hH hS _ (lv_sub hl [1, 2, 0] rfl)
    · replace hf := brT hf q313
      refine lv_bipush (v := 24) hx hb dX8_givenMark_17 (by decide) ?_
      refine lv_goto (tgt := 24) hx hb dX8_givenMark_19 (by decide) ?_
      exact w_X8_givenMark_24 X x1 r102 (24 : Int32) σ101 hf _ _ hH hS _ (lv_sub hl [1, 2, 0] rfl)
theorem c_X8_givenMark (l : Launch) (G : Gd) (B : Nat) (x1 : Int32) (σ σr : Sto) (r : Int32) (hf : f_X8_givenMark x1 σ = some (r, σr)) : Ct l G layM B yX8_givenMark cX8_givenMark 4 (some .int) 1 [.ref (B + 0), .int x1] (some (.int r)) σ σr :=
  Ct.ofW (by decide) (Nat.le_of_ble_eq_true rfl) (fun _ _ _ _ _ _ _ X hH hS ls hl => w_X8_givenMark X x1 σ hf _ _ hH hS ls (show lv_has ls 4 [(0, .ref (B + 0)), (1, .int x1)] from hl))
-- SlackProofsModel.givenSize(I)I  (D 2)
def b_X8_givenSize_59 (s0 : Int32) (σ : Sto) : Option (Int32 × Sto) :=
  some (s0, σ)
set_option maxHeartbeats 4000000 in
set_option maxRecDepth 100000 in
theorem w_X8_givenSize_59 {p : Program} {l : Launch} {e : Env} {s : State} {m : MethodId} {args : Array Value} {below : List Frame} {meth : Method} {c : Code} {G : Gd} {B : Nat} (X : Cm p s m args meth c cX8_givenSize 4 RX8 G (some .int)) {r : Int32} {σr : Sto} (s0 : Int32) (σ : Sto) (hf : b_X8_givenSize_59 s0 σ = some (r, σr)) (H : Heap) (locs : List Loc) (hH : HX G layM B σ H) (hS : va_S (inW layM B) s.heap H locs) (ls : Array Slot) (hl : lv_has ls 4 []) : WM p l e 2 s m args below meth c H locs G layM B (some (.int r)) σr (F0 m 59 ls [.int s0]) := by
  unfold b_X8_givenSize_59 at hf
  have hx := X.1.1
  have hb := X.1.2.1
  obtain ⟨rfl, rfl⟩ := rt2 hf
  exact g_iret X hH hS dX8_givenSize_59
def b_X8_givenSize_25 (v1 : Int32) (v2 : Int32) (σ : Sto) : Option (Int32 × Sto) :=
  bd1 (f_X8_traces (11 : Int32) σ) fun σ305 => bd1 (f_X8_traces (10 : Int32) σ305) fun σ307 => bd2 (f_X8_variablesOf v1 σ307) fun r310 σ309 => bd2 (f_X8_givenMark v1 σ309) fun r312 σ311 => nmS (r310 + r312) fun y313 => if v2 = 0 then (b_X8_givenSize_59 y313 σ311) else (b_X8_givenSize_59 (-y313) σ311)
set_option maxHeartbeats 4000000 in
set_option maxRecDepth 100000 in
theorem w_X8_givenSize_25 {p : Program} {l : Launch} {e : Env} {s : State} {m : MethodId} {args : Array Value} {below : List Frame} {meth : Method} {c : Code} {G : Gd} {B : Nat} (X : Cm p s m args meth c cX8_givenSize 4 RX8 G (some .int)) {r : Int32} {σr : Sto} (v1 : Int32) (v2 : Int32) (σ : Sto) (hf : b_X8_givenSize_25 v1 v2 σ = some (r, σr)) (H : Heap) (locs : List Loc) (hH : HX G layM B σ H) (hS : va_S (inW layM B) s.heap H locs) (ls : Array Slot) (hl : lv_has ls 4 [(0, .ref (B + 0)), (1, .int v1), (2, .int v2)]) : WM p l e 2 s m args below meth c H locs G layM B (some (.int r)) σr (F0 m 25 ls []) := by
  unfold b_X8_givenSize_25 at hf
  have hx := X.1.1
  have hb := X.1.2.1
  refine lv_aload_n hx hb dX8_givenSize_25 rfl (lv_at hl 0 rfl) ?_
  refine lv_bipush (v := 11) hx hb dX8_givenSize_26 (by decide) ?_
  obtain ⟨σ305, eσ305, hf⟩ := bnd1 hf
  refine g_cVv (As := [.int (11 : Int32)]) X.1 hH hS (c_X8_traces l G B (11 : Int32) σ σ305 eσ305) kw_RX8_266 kX8 km_0 (by decide) rfl hl (Nat.le_of_ble_eq_true rfl) rfl dX8_givenSize_28 (fun H locs hH hS => ?_)
  refine lv_aload_n hx hb dX8_givenSize_31 rfl (lv_at hl 0 rfl) ?_
  refine lv_bipush (v := 10) hx hb dX8_givenSize_32 (by decide) ?_
  obtain ⟨σ307, eσ307, hf⟩ := bnd1 hf
  refine g_cVv (As := [.int (10 : Int32)]) X.1 hH hS (c_X8_traces l G B (10 : Int32) σ305 σ307 eσ307) kw_RX8_266 kX8 km_0 (by decide) rfl hl (Nat.le_of_ble_eq_true rfl) rfl dX8_givenSize_34 (fun H locs hH hS => ?_)
  refine lv_aload_n hx hb dX8_givenSize_37 rfl (lv_at hl 0 rfl) ?_
  refine lv_iload_n hx hb dX8_givenSize_38 rfl (lv_at hl 1 rfl) ?_
  obtain ⟨r310, σ309, eσ309, hf⟩ := bnd2 hf
  refine g_cVi (As := [.int v1]) X.1 hH hS (c_X8_variablesOf l G B v1 σ307 σ309 r310 eσ309) kw_RX8_272 kX8 km_0 (by decide) rfl hl (Nat.le_of_ble_eq_true rfl) rfl dX8_givenSize_39 (fun H locs hH hS => ?_)
  refine lv_aload_n hx hb dX8_givenSize_42 rfl (lv_at hl 0 rfl) ?_
  refine lv_iload_n hx hb dX8_givenSize_43 rfl (lv_at hl 1 rfl) ?_
  obtain ⟨r312, σ311, eσ311, hf⟩ := bnd2 hf
  refine g_cVi (As := [.int v1]) X.1 hH hS (c_X8_givenMark l G B v1 σ309 σ311 r312 eσ311) kw_RX8_275 kX8 km_0 (by decide) rfl hl (Nat.le_of_ble_eq_true rfl) rfl dX8_givenSize_44 (fun H locs hH hS => ?_)
  refine lv_iadd hx hb dX8_givenSize_47 ?_
  refine lv_topi (fun y313 ey313 => ?_)
  replace hf := nmU hf ey313
  refine lv_istore_n (lv' := [(3, .int y313), (0, .ref (B + 0)), (1, .int v1), (2, .int v2)]) hx hb dX8_givenSize_48 rfl hl (by decide) rfl (fun ls hl => ?_)
  refine lv_iload_n hx hb dX8_givenSize_49 rfl (lv_at hl 3 rfl) ?_
  refine lv_if_eq (tgt := 58) hx hb dX8_givenSize_50 (by decide) (fun q314 => ?_) (fun q314 => ?_)
  · replace hf := brT hf q314
    refine lv_iload_n hx hb dX8_givenSize_58 rfl (lv_at hl 0 rfl) ?_
    exact w_X8_givenSize_59 X y313 σ311 hf _ _ hH hS _ (lv_sub hl [] rfl)
  · replace hf := brF hf q314
    refine lv_iload_n hx hb dX8_givenSize_53 rfl (lv_at hl 0 rfl) ?_
    refine lv_ineg hx hb dX8_givenSize_54 ?_
    refine lv_goto (tgt := 59) hx hb dX8_givenSize_55 (by decide) ?_
    exact w_X8_givenSize_59 X (-y313) σ311 hf _ _ hH hS _ (lv_sub hl [] rfl)
def b_X8_givenSize_14 (v1 : Int32) (s0 : Int32) (σ : Sto) : Option (Int32 × Sto) :=
  if s0 = 0 then (b_X8_givenSize_25 v1 s0 σ) else (bd1 (f_X8_traces (12 : Int32) σ) fun σ415 => b_X8_givenSize_25 v1 s0 σ415)
set_option maxHeartbeats 4000000 in
set_option maxRecDepth 100000 in
theorem w_X8_givenSize_14 {p : Program} {l : Launch} {e : Env} {s : State} {m : MethodId} {args : Array Value} {below : List Frame} {meth : Method} {c : Code} {G : Gd} {B : Nat} (X : Cm p s m args meth c cX8_givenSize 4 RX8 G (some .int)) {r : Int32} {σr : Sto} (v1 : Int32) (s0 : Int32) (σ : Sto) (hf : b_X8_givenSize_14 v1 s0 σ = some (r, σr)) (H : Heap) (locs : List Loc) (hH : HX G layM B σ H) (hS : va_S (inW layM B) s.heap H locs) (ls : Array Slot) (hl : lv_has ls 4 [(0, .ref (B + 0)), (1, .int v1)]) : WM p l e 2 s m args below meth c H locs G layM B (some (.int r)) σr (F0 m 14 ls [.int s0]) := by
  unfold b_X8_givenSize_14 at hf
  have hx := X.1.1
  have hb := X.1.2.1
  refine lv_istore_n (lv' := [(2, .int s0), (0, .ref (B + 0)), (1, .int v1)]) hx hb dX8_givenSize_14 rfl hl (by decide) rfl (fun ls hl => ?_)
  refine lv_iload_n hx hb dX8_givenSize_15 rfl (lv_at hl 0 rfl) ?_
  refine lv_if_eq (tgt := 25) hx hb dX8_givenSize_16 (by decide) (fun q204 => ?_) (fun q204 => ?_)
  · replace hf := brT hf q204
    exact w_X8_givenSize_25 X v1 s0 σ hf _ _ hH hS _ (lv_sub hl [1, 2, 0] rfl)
  · replace hf := brF hf q204
    refine lv_aload_n hx hb dX8_givenSize_19 rfl (lv_at hl 1 rfl) ?_
    refine lv_bipush (v := 12) hx hb dX8_givenSize_20 (by decide) ?_
    obtain ⟨σ415, eσ415, hf⟩ := bnd1 hf
    refine g_cVv (As := [.int (12 : Int32)]) X.1 hH hS (c_X8_traces l G B (12 : Int32) σ σ415 eσ415) kw_RX8_266 kX8 km_0 (by decide) rfl hl (Nat.le_of_ble_eq_true rfl) rfl dX8_givenSize_22 (fun H locs hH hS => ?_)
    exact w_X8_givenSize_25 X v1 s0 σ415 hf _ _ hH hS _ (lv_sub hl [1, 2, 0] rfl)
def f_X8_givenSize (x1 : Int32) (σ : Sto) : Option (Int32 × Sto) :=
  bd2 (f_X8_kindIn x1 σ) fun r102 σ101 => if r102 = (2 : Int32) then (b_X8_givenSize_14 x1 (1 : Int32) σ101) else (b_X8_givenSize_14 x1 (0 : Int32) σ101)
set_option maxHeartbeats 4000000 in
set_option maxRecDepth 100000 in
theorem w_X8_givenSize {p : Program} {l : Launch} {e : Env} {s : State} {m : MethodId} {args : Array Value} {below : List Frame} {meth : Method} {c : Code} {G : Gd} {B : Nat} (X : Cm p s m args meth c cX8_givenSize 4 RX8 G (some .int)) {r : Int32} {σr : Sto} (x1 : Int32) (σ : Sto) (hf : f_X8_givenSize x1 σ = some (r, σr)) (H : Heap) (locs : List Loc) (hH : HX G layM B σ H) (hS : va_S (inW layM B) s.heap H locs) (ls : Array Slot) (hl : lv_has ls 4 [(0, .ref (B + 0)), (1, .int x1)]) : WM p l e 2 s m args below meth c H locs G layM B (some (.int r)) σr (F0 m 0 ls []) := by
  unfold f_X8_givenSize at hf
  have hx := X.1.1
  have hb := X.1.2.1
  refine lv_aload_n hx hb dX8_givenSize_0 rfl (lv_at hl 0 rfl) ?_
  refine lv_iload_n hx hb dX8_givenSize_1 rfl (lv_at hl 1 rfl) ?_
  obtain ⟨r102, σ101, eσ101, hf⟩ := bnd2 hf
  refine g_cVi (As := [.int x1]) X.1 hH hS (c_X8_kindIn l G B x1 σ σ101 r102 eσ101) kw_RX8_260 kX8 km_0 (by decide) rfl hl (Nat.le_of_ble_eq_true rfl) rfl dX8_givenSize_2 (fun H locs hH hS => ?_)
  refine lv_iconst (v := 2) hx hb dX8_givenSize_5 (by decide) ?_
  refine lv_icmp_ne (tgt := 13) hx hb dX8_givenSize_6 (by decide) (fun q103 => ?_) (fun q103 => ?_)
  · replace hf := brF hf q103
    refine lv_iconst (v := 0) hx hb dX8_givenSize_13 (by decide) ?_
    exact w_X8_givenSize_14 X x1 (0 : Int32) σ101 hf _ _ hH hS _ (lv_sub hl [0, 1] rfl)
  · replace hf := brT hf q103
    refine lv_iconst (v := 1) hx hb dX8_givenSize_9 (by decide) ?_
    refine lv_goto (tgt := 14) hx hb dX8_givenSize_10 (by decide) ?_
    exact w_X8_givenSize_14 X x1 (1 : Int32) σ101 hf _ _ hH hS _ (lv_sub hl [0, 1] rfl)
theorem c_X8_givenSize (l : Launch) (G : Gd) (B : Nat) (x1 : Int32) (σ σr : Sto) (r : Int32) (hf : f_X8_givenSize x1 σ = some (r, σr)) : Ct l G layM B yX8_givenSize cX8_givenSize 4 (some .int) 2 [.ref (B + 0), .int x1] (some (.int r)) σ σr :=
  Ct.ofW (by decide) (Nat.le_of_ble_eq_true rfl) (fun _ _ _ _ _ _ _ X hH hS ls hl => w_X8_givenSize X x1 σ hf _ _ hH hS ls (show lv_has ls 4 [(0, .ref (B + 0)), (1, .int x1)] from hl))
-- SlackProofsModel.derivedMark(I)I  (D 2)
def f_X8_derivedMark (x1 : Int32) (σ : Sto) : Option (Int32 × Sto) :=
  bd1 (f_X8_traces (23 : Int32) σ) fun σ101 => bd1 (f_X8_traces (20 : Int32) σ101) fun σ103 => bd2 (f_X8_derivedSize x1 σ103) fun r106 σ105 => some ((x1 - r106), σ105)
set_option maxHeartbeats 4000000 in
set_option maxRecDepth 100000 in
theorem w_X8_derivedMark {p : Program} {l : Launch} {e : Env} {s : State} {m : MethodId} {args : Array Value} {below : List Frame} {meth : Method} {c : Code} {G : Gd} {B : Nat} (X : Cm p s m args meth c cX8_derivedMark 2 RX8 G (some .int)) {r : Int32} {σr : Sto} (x1 : Int32) (σ : Sto) (hf : f_X8_derivedMark x1 σ = some (r, σr)) (H : Heap) (locs : List Loc) (hH : HX G layM B σ H) (hS : va_S (inW layM B) s.heap H locs) (ls : Array Slot) (hl : lv_has ls 2 [(0, .ref (B + 0)), (1, .int x1)]) : WM p l e 2 s m args below meth c H locs G layM B (some (.int r)) σr (F0 m 0 ls []) := by
  unfold f_X8_derivedMark at hf
  have hx := X.1.1
  have hb := X.1.2.1
  refine lv_aload_n hx hb dX8_derivedMark_0 rfl (lv_at hl 0 rfl) ?_
  refine lv_bipush (v := 23) hx hb dX8_derivedMark_1 (by decide) ?_
  obtain ⟨σ101, eσ101, hf⟩ := bnd1 hf
  refine g_cVv (As := [.int (23 : Int32)]) X.1 hH hS (c_X8_traces l G B (23 : Int32) σ σ101 eσ101) kw_RX8_266 kX8 km_0 (by decide) rfl hl (Nat.le_of_ble_eq_true rfl) rfl dX8_derivedMark_3 (fun H locs hH hS => ?_)
  refine lv_aload_n hx hb dX8_derivedMark_6 rfl (lv_at hl 0 rfl) ?_
  refine lv_bipush (v := 20) hx hb dX8_derivedMark_7 (by decide) ?_
  obtain ⟨σ103, eσ103, hf⟩ := bnd1 hf
  refine g_cVv (As := [.int (20 : Int32)]) X.1 hH hS (c_X8_traces l G B (20 : Int32) σ101 σ103 eσ103) kw_RX8_266 kX8 km_0 (by decide) rfl hl (Nat.le_of_ble_eq_true rfl) rfl dX8_derivedMark_9 (fun H locs hH hS => ?_)
  refine lv_iload_n hx hb dX8_derivedMark_12 rfl (lv_at hl 1 rfl) ?_
  refine lv_aload_n hx hb dX8_derivedMark_13 rfl (lv_at hl 0 rfl) ?_
  refine lv_iload_n hx hb dX8_derivedMark_14 rfl (lv_at hl 1 rfl) ?_
  obtain ⟨r106, σ105, eσ105, hf⟩ := bnd2 hf
  refine g_cVi (As := [.int x1]) X.1 hH hS (c_X8_derivedSize l G B x1 σ103 σ105 r106 eσ105) kw_RX8_278 kX8 km_0 (by decide) rfl hl (Nat.le_of_ble_eq_true rfl) rfl dX8_derivedMark_15 (fun H locs hH hS => ?_)
  refine lv_isub hx hb dX8_derivedMark_18 ?_
  obtain ⟨rfl, rfl⟩ := rt2 hf
  exact g_iret X hH hS dX8_derivedMark_19
theorem c_X8_derivedMark (l : Launch) (G : Gd) (B : Nat) (x1 : Int32) (σ σr : Sto) (r : Int32) (hf : f_X8_derivedMark x1 σ = some (r, σr)) : Ct l G layM B yX8_derivedMark cX8_derivedMark 2 (some .int) 2 [.ref (B + 0), .int x1] (some (.int r)) σ σr :=
  Ct.ofW (by decide) (Nat.le_of_ble_eq_true rfl) (fun _ _ _ _ _ _ _ X hH hS ls hl => w_X8_derivedMark X x1 σ hf _ _ hH hS ls (show lv_has ls 2 [(0, .ref (B + 0)), (1, .int x1)] from hl))
-- SlackProofsModel.ask(II)I  (D 3)
def b_X8_ask_17 (σ : Sto) : Option (Int32 × Sto) :=
  some ((-1000001 : Int32), σ)
set_option maxHeartbeats 4000000 in
set_option maxRecDepth 100000 in
theorem w_X8_ask_17 {p : Program} {l : Launch} {e : Env} {s : State} {m : MethodId} {args : Array Value} {below : List Frame} {meth : Method} {c : Code} {G : Gd} {B : Nat} (X : Cm p s m args meth c cX8_ask 4 RX8 G (some .int)) {r : Int32} {σr : Sto} (σ : Sto) (hf : b_X8_ask_17 σ = some (r, σr)) (H : Heap) (locs : List Loc) (hH : HX G layM B σ H) (hS : va_S (inW layM B) s.heap H locs) (ls : Array Slot) (hl : lv_has ls 4 []) : WM p l e 3 s m args below meth c H locs G layM B (some (.int r)) σr (F0 m 17 ls []) := by
  unfold b_X8_ask_17 at hf
  have hx := X.1.1
  have hb := X.1.2.1
  refine lv_ldc (v := -1000001) hx hb X.1.2.2.2.1 (X.1.2.2.2.2.1 _ kc_RX8_76) dX8_ask_17 ?_
  obtain ⟨rfl, rfl⟩ := rt2 hf
  exact g_iret X hH hS dX8_ask_19
def b_X8_ask_79 (s0 : Int32) (σ : Sto) : Option (Int32 × Sto) :=
  some (s0, σ)
set_option maxHeartbeats 4000000 in
set_option maxRecDepth 100000 in
theorem w_X8_ask_79 {p : Program} {l : Launch} {e : Env} {s : State} {m : MethodId} {args : Array Value} {below : List Frame} {meth : Method} {c : Code} {G : Gd} {B : Nat} (X : Cm p s m args meth c cX8_ask 4 RX8 G (some .int)) {r : Int32} {σr : Sto} (s0 : Int32) (σ : Sto) (hf : b_X8_ask_79 s0 σ = some (r, σr)) (H : Heap) (locs : List Loc) (hH : HX G layM B σ H) (hS : va_S (inW layM B) s.heap H locs) (ls : Array Slot) (hl : lv_has ls 4 []) : WM p l e 3 s m args below meth c H locs G layM B (some (.int r)) σr (F0 m 79 ls [.int s0]) := by
  unfold b_X8_ask_79 at hf
  have hx := X.1.1
  have hb := X.1.2.1
  obtain ⟨rfl, rfl⟩ := rt2 hf
  exact g_iret X hH hS dX8_ask_79
def b_X8_ask_61 (s0 : Int32) (σ : Sto) : Option (Int32 × Sto) :=
  some (s0, σ)
set_option maxHeartbeats 4000000 in
set_option maxRecDepth 100000 in
theorem w_X8_ask_61 {p : Program} {l : Launch} {e : Env} {s : State} {m : MethodId} {args : Array Value} {below : List Frame} {meth : Method} {c : Code} {G : Gd} {B : Nat} (X : Cm p s m args meth c cX8_ask 4 RX8 G (some .int)) {r : Int32} {σr : Sto} (s0 : Int32) (σ : Sto) (hf : b_X8_ask_61 s0 σ = some (r, σr)) (H : Heap) (locs : List Loc) (hH : HX G layM B σ H) (hS : va_S (inW layM B) s.heap H locs) (ls : Array Slot) (hl : lv_has ls 4 []) : WM p l e 3 s m args below meth c H locs G layM B (some (.int r)) σr (F0 m 61 ls [.int s0]) := by
  unfold b_X8_ask_61 at hf
  have hx := X.1.1
  have hb := X.1.2.1
  obtain ⟨rfl, rfl⟩ := rt2 hf
  exact g_iret X hH hS dX8_ask_61
def b_X8_ask_39 (v1 : Int32) (v2 : Int32) (s0 : Int32) (σ : Sto) : Option (Int32 × Sto) :=
  if v2 = 0 then (if s0 = 0 then (bd2 (f_X8_givenSize v1 σ) fun r419 σ418 => b_X8_ask_61 r419 σ418) else (bd2 (f_X8_derivedSize v1 σ) fun r521 σ520 => b_X8_ask_61 r521 σ520)) else (if s0 = 0 then (bd2 (f_X8_givenMark v1 σ) fun r314 σ313 => b_X8_ask_79 r314 σ313) else (bd2 (f_X8_derivedMark v1 σ) fun r416 σ415 => b_X8_ask_79 r416 σ415))
set_option maxHeartbeats 4000000 in
set_option maxRecDepth 100000 in
theorem w_X8_ask_39 {p : Program} {l : Launch} {e : Env} {s : State} {m : MethodId} {args : Array Value} {below : List Frame} {meth : Method} {c : Code} {G : Gd} {B : Nat} (X : Cm p s m args meth c cX8_ask 4 RX8 G (some .int)) {r : Int32} {σr : Sto} (v1 : Int32) (v2 : Int32) (s0 : Int32) (σ : Sto) (hf : b_X8_ask_39 v1 v2 s0 σ = some (r, σr)) (H : Heap) (locs : List Loc) (hH : HX G layM B σ H) (hS : va_S (inW layM B) s.heap H locs) (ls : Array Slot) (hl : lv_has ls 4 [(0, .ref (B + 0)), (1, .int v1), (2, .int v2)]) : WM p l e 3 s m args below meth c H locs G layM B (some (.int r)) σr (F0 m 39 ls [.int s0]) := by
  unfold b_X8_ask_39 at hf
  have hx := X.1.1
  have hb := X.1.2.1
  refine lv_istore_n (lv' := [(3, .int s0), (0, .ref (B + 0)), (1, .int v1), (2, .int v2)]) hx hb dX8_ask_39 rfl hl (by decide) rfl (fun ls hl => ?_)
  refine lv_iload_n hx hb dX8_ask_40 rfl (lv_at hl 3 rfl) ?_
  refine lv_if_ne (tgt := 62) hx hb dX8_ask_41 (by decide) (fun q311 => ?_) (fun q311 => ?_)
  · replace hf := brF hf q311
    refine lv_iload_n hx hb dX8_ask_62 rfl (lv_at hl 0 rfl) ?_
    refine lv_if_eq (tgt := 74) hx hb dX8_ask_63 (by decide) (fun q312 => ?_) (fun q312 => ?_)
    · replace hf := brT hf q312
      refine lv_aload_n hx hb dX8_ask_74 rfl (lv_at hl 1 rfl) ?_
      refine lv_iload_n hx hb dX8_ask_75 rfl (lv_at hl 2 rfl) ?_
      obtain ⟨r314, σ313, eσ313, hf⟩ := bnd2 hf
      refine g_cVi (As := [.int v1]) X.1 hH hS (c_X8_givenMark l G B v1 σ σ313 r314 eσ313) kw_RX8_275 kX8 km_0 (by decide) rfl hl (Nat.le_of_ble_eq_true rfl) rfl dX8_ask_76 (fun H locs hH hS => ?_)
      exact w_X8_ask_79 X r314 σ313 hf _ _ hH hS _ (lv_sub hl [] rfl)
    · replace hf := brF hf q312
      refine lv_aload_n hx hb dX8_ask_66 rfl (lv_at hl 1 rfl) ?_
      refine lv_iload_n hx hb dX8_ask_67 rfl (lv_at hl 2 rfl) ?_
      obtain ⟨r416, σ415, eσ415, hf⟩ := bnd2 hf
      refine g_cVi (As := [.int v1]) X.1 hH hS (c_X8_derivedMark l G B v1 σ σ415 r416 eσ415) kw_RX8_284 kX8 km_0 (by decide) rfl hl (Nat.le_of_ble_eq_true rfl) rfl dX8_ask_68 (fun H locs hH hS => ?_)
      refine lv_goto (tgt := 79) hx hb dX8_ask_71 (by decide) ?_
      exact w_X8_ask_79 X r416 σ415 hf _ _ hH hS _ (lv_sub hl [] rfl)
  · replace hf := brT hf q311
    refine lv_iload_n hx hb dX8_ask_44 rfl (lv_at hl 0 rfl) ?_
    refine lv_if_eq (tgt := 56) hx hb dX8_ask_45 (by decide) (fun q417 => ?_) (fun q417 => ?_)
    · replace hf := brT hf q417
      refine lv_aload_n hx hb dX8_ask_56 rfl (lv_at hl 1 rfl) ?_
      refine lv_iload_n hx hb dX8_ask_57 rfl (lv_at hl 2 rfl) ?_
      obtain ⟨r419, σ418, eσ418, hf⟩ := bnd2 hf
      refine g_cVi (As := [.int v1]) X.1 hH hS (c_X8_givenSize l G B v1 σ σ418 r419 eσ418) kw_RX8_281 kX8 km_0 (by decide) rfl hl (Nat.le_of_ble_eq_true rfl) rfl dX8_ask_58 (fun H locs hH hS => ?_)
      exact w_X8_ask_61 X r419 σ418 hf _ _ hH hS _ (lv_sub hl [] rfl)
    · replace hf := brF hf q417
      refine lv_aload_n hx hb dX8_ask_48 rfl (lv_at hl 1 rfl) ?_
      refine lv_iload_n hx hb dX8_ask_49 rfl (lv_at hl 2 rfl) ?_
      obtain ⟨r521, σ520, eσ520, hf⟩ := bnd2 hf
      refine g_cVi (As := [.int v1]) X.1 hH hS (c_X8_derivedSize l G B v1 σ σ520 r521 eσ520) kw_RX8_278 kX8 km_0 (by decide) rfl hl (Nat.le_of_ble_eq_true rfl) rfl dX8_ask_50 (fun H locs hH hS => ?_)
      refine lv_goto (tgt := 61) hx hb dX8_ask_53 (by decide) ?_
      exact w_X8_ask_61 X r521 σ520 hf _ _ hH hS _ (lv_sub hl [] rfl)
def f_X8_ask (x1 : Int32) (x2 : Int32) (σ : Sto) : Option (Int32 × Sto) :=
  bd2 (f_X8_isLive x1 σ) fun r102 σ101 => if r102 = 0 then (b_X8_ask_17 σ101) else (bd2 (f_X8_in x2 (0 : Int32) (1 : Int32) σ101) fun r205 σ204 => if r205 = 0 then (b_X8_ask_17 σ204) else (nmS (pI σ204 0 27 (0 : Int32)) fun σ207 => bd2 (f_X8_kindIn x1 σ207) fun r209 σ208 => if r209 < (4 : Int32) then (b_X8_ask_39 x1 x2 (0 : Int32) σ208) else (b_X8_ask_39 x1 x2 (1 : Int32) σ208)))
set_option maxHeartbeats 4000000 in
set_option maxRecDepth 100000 in
theorem w_X8_ask {p : Program} {l : Launch} {e : Env} {s : State} {m : MethodId} {args : Array Value} {below : List Frame} {meth : Method} {c : Code} {G : Gd} {B : Nat} (X : Cm p s m args meth c cX8_ask 4 RX8 G (some .int)) {r : Int32} {σr : Sto} (x1 : Int32) (x2 : Int32) (σ : Sto) (hf : f_X8_ask x1 x2 σ = some (r, σr)) (H : Heap) (locs : List Loc) (hH : HX G layM B σ H) (hS : va_S (inW layM B) s.heap H locs) (ls : Array Slot) (hl : lv_has ls 4 [(0, .ref (B + 0)), (1, .int x1), (2, .int x2)]) : WM p l e 3 s m args below meth c H locs G layM B (some (.int r)) σr (F0 m 0 ls []) := by
  unfold f_X8_ask at hf
  have hx := X.1.1
  have hb := X.1.2.1
  refine lv_aload_n hx hb dX8_ask_0 rfl (lv_at hl 0 rfl) ?_
  refine lv_iload_n hx hb dX8_ask_1 rfl (lv_at hl 1 rfl) ?_
  obtain ⟨r102, σ101, eσ101, hf⟩ := bnd2 hf
  refine g_cVi (As := [.int x1]) X.1 hH hS (c_X8_isLive l G B x1 σ σ101 r102 eσ101) kw_RX8_175 kX8 km_0 (by decide) rfl hl (Nat.le_of_ble_eq_true rfl) rfl dX8_ask_2 (fun H locs hH hS => ?_)
  refine lv_if_eq (tgt := 17) hx hb dX8_ask_5 (by decide) (fun q103 => ?_) (fun q103 => ?_)
  · replace hf := brT hf q103
    exact w_X8_ask_17 X σ101 hf _ _ hH hS _ (lv_sub hl [] rfl)
  · replace hf := brF hf q103
    refine lv_iload_n hx hb dX8_ask_8 rfl (lv_at hl 2 rfl) ?_
    refine lv_iconst (v := 0) hx hb dX8_ask_9 (by decide) ?_
    refine lv_iconst (v := 1) hx hb dX8_ask_10 (by decide) ?_
    obtain ⟨r205, σ204, eσ204, hf⟩ := bnd2 hf
    refine g_cSi (As := [.int x2, .int (0 : Int32), .int (1 : Int32)]) X.1 hH hS (c_X8_in l G B x2 (0 : Int32) (1 : Int32) σ101 σ204 r205 eσ204) kw_RX8_68 (by decide) rfl hl (Nat.le_of_ble_eq_true rfl) rfl dX8_ask_11 (fun H locs hH hS => ?_)
    refine lv_if_ne (tgt := 20) hx hb dX8_ask_14 (by decide) (fun q206 => ?_) (fun q206 => ?_)
    · replace hf := brF hf q206
      refine lv_aload_n hx hb dX8_ask_20 rfl (lv_at hl 0 rfl) ?_
      refine lv_iconst (v := 0) hx hb dX8_ask_21 (by decide) ?_
      refine g_putI kX8 (by decide) fl_RX8_263 rfl rfl X.1 hH hS km_0 dX8_ask_22 (fun H locs hH hS => ?_)
      obtain ⟨σ207, eσ207, hH⟩ := nmX hH
      replace hf := nmU hf eσ207
      refine lv_aload_n hx hb dX8_ask_25 rfl (lv_at hl 0 rfl) ?_
      refine lv_iload_n hx hb dX8_ask_26 rfl (lv_at hl 1 rfl) ?_
      obtain ⟨r209, σ208, eσ208, hf⟩ := bnd2 hf
      refine g_cVi (As := [.int x1]) X.1 hH hS (c_X8_kindIn l G B x1 σ207 σ208 r209 eσ208) kw_RX8_260 kX8 km_0 (by decide) rfl hl (Nat.le_of_ble_eq_true rfl) rfl dX8_ask_27 (fun H locs hH hS => ?_)
      refine lv_iconst (v := 4) hx hb dX8_ask_30 (by decide) ?_
      refine lv_icmp_lt (tgt := 38) hx hb dX8_ask_31 (by decide) (fun q210 => ?_) (fun q210 => ?_)
      · replace hf := brT hf q210
        refine lv_iconst (v := 0) hx hb dX8_ask_38 (by decide) ?_
        exact w_X8_ask_39 X x1 x2 (0 : Int32) σ208 hf _ _ hH hS _ (lv_sub hl [0, 1, 2] rfl)
      · replace hf := brF hf q210
        refine lv_iconst (v := 1) hx hb dX8_ask_34 (by decide) ?_
        refine lv_goto (tgt := 39) hx hb dX8_ask_35 (by decide) ?_
        exact w_X8_ask_39 X x1 x2 (1 : Int32) σ208 hf _ _ hH hS _ (lv_sub hl [0, 1, 2] rfl)
    · replace hf := brT hf q206
      exact w_X8_ask_17 X σ204 hf _ _ hH hS _ (lv_sub hl [] rfl)
theorem c_X8_ask (l : Launch) (G : Gd) (B : Nat) (x1 : Int32) (x2 : Int32) (σ σr : Sto) (r : Int32) (hf : f_X8_ask x1 x2 σ = some (r, σr)) : Ct l G layM B yX8_ask cX8_ask 4 (some .int) 3 [.ref (B + 0), .int x1, .int x2] (some (.int r)) σ σr :=
  Ct.ofW (by decide) (Nat.le_of_ble_eq_true rfl) (fun _ _ _ _ _ _ _ X hH hS ls hl => w_X8_ask X x1 x2 σ hf _ _ hH hS ls (show lv_has ls 4 [(0, .ref (B + 0)), (1, .int x1), (2, .int x2)] from hl))
-- SlackProofsModel.isFormula()Z  (D 0)
def b_X8_isFormula_17 (s0 : Int32) (σ : Sto) : Option (Int32 × Sto) :=
  if ¬ (s0 = 0 ∨ s0 = 1) then none else some (s0, σ)
set_option maxHeartbeats 4000000 in
set_option maxRecDepth 100000 in
theorem w_X8_isFormula_17 {p : Program} {l : Launch} {e : Env} {s : State} {m : MethodId} {args : Array Value} {below : List Frame} {meth : Method} {c : Code} {G : Gd} {B : Nat} (X : Cm p s m args meth c cX8_isFormula 1 RX8 G (some .boolean)) {r : Int32} {σr : Sto} (s0 : Int32) (σ : Sto) (hf : b_X8_isFormula_17 s0 σ = some (r, σr)) (H : Heap) (locs : List Loc) (hH : HX G layM B σ H) (hS : va_S (inW layM B) s.heap H locs) (ls : Array Slot) (hl : lv_has ls 1 []) : WM p l e 0 s m args below meth c H locs G layM B (some (.int r)) σr (F0 m 17 ls [.int s0]) := by
  unfold b_X8_isFormula_17 at hf
  have hx := X.1.1
  have hb := X.1.2.1
  obtain ⟨q202, hf⟩ := chk hf
  obtain ⟨rfl, rfl⟩ := rt2 hf
  exact g_zret X hH hS (Decidable.not_not.mp q202) dX8_isFormula_17
def f_X8_isFormula (σ : Sto) : Option (Int32 × Sto) :=
  if (σ.2 6 11) = (1 : Int64) then (b_X8_isFormula_17 (1 : Int32) σ) else (b_X8_isFormula_17 (0 : Int32) σ)
set_option maxHeartbeats 4000000 in
set_option maxRecDepth 100000 in
theorem w_X8_isFormula {p : Program} {l : Launch} {e : Env} {s : State} {m : MethodId} {args : Array Value} {below : List Frame} {meth : Method} {c : Code} {G : Gd} {B : Nat} (X : Cm p s m args meth c cX8_isFormula 1 RX8 G (some .boolean)) {r : Int32} {σr : Sto} (σ : Sto) (hf : f_X8_isFormula σ = some (r, σr)) (H : Heap) (locs : List Loc) (hH : HX G layM B σ H) (hS : va_S (inW layM B) s.heap H locs) (ls : Array Slot) (hl : lv_has ls 1 [(0, .ref (B + 0))]) : WM p l e 0 s m args below meth c H locs G layM B (some (.int r)) σr (F0 m 0 ls []) := by
  unfold f_X8_isFormula at hf
  have hx := X.1.1
  have hb := X.1.2.1
  refine lv_aload_n hx hb dX8_isFormula_0 rfl (lv_at hl 0 rfl) ?_
  refine g_get (v := .ref (B + 6)) kX8 (by decide) fl_RX8_25 X.1 hH km_0 rfl dX8_isFormula_1 ?_
  refine lv_bipush (v := 11) hx hb dX8_isFormula_4 (by decide) ?_
  refine g_lald (j := 11) X.1 hH km_6 (by decide) rfl dX8_isFormula_6 ?_
  refine lv_lconst (v := 1) hx hb dX8_isFormula_7 (by decide) ?_
  refine g_lne (tgt := 16) X.1 dX8_isFormula_8 dX8_isFormula_9 (by decide) (fun q101 => ?_) (fun q101 => ?_)
  · replace hf := brF hf q101
    refine lv_iconst (v := 0) hx hb dX8_isFormula_16 (by decide) ?_
    exact w_X8_isFormula_17 X (0 : Int32) σ hf _ _ hH hS _ (lv_sub hl [] rfl)
  · replace hf := brT hf q101
    refine lv_iconst (v := 1) hx hb dX8_isFormula_12 (by decide) ?_
    refine lv_goto (tgt := 17) hx hb dX8_isFormula_13 (by decide) ?_
    exact w_X8_isFormula_17 X (1 : Int32) σ hf _ _ hH hS _ (lv_sub hl [] rfl)
theorem c_X8_isFormula (l : Launch) (G : Gd) (B : Nat) (σ σr : Sto) (r : Int32) (hf : f_X8_isFormula σ = some (r, σr)) : Ct l G layM B yX8_isFormula cX8_isFormula 1 (some .boolean) 0 [.ref (B + 0)] (some (.int r)) σ σr :=
  Ct.ofW (by decide) (Nat.le_of_ble_eq_true rfl) (fun _ _ _ _ _ _ _ X hH hS ls hl => w_X8_isFormula X σ hf _ _ hH hS ls (show lv_has ls 1 [(0, .ref (B + 0))] from hl))
