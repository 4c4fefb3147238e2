-- SlackProofsModel.trace(I)I  (D 1)
def b_X8_trace_25 (s0 : Int32) (σ : Sto) : Option (Int32 × Sto) :=
  some (s0, σ)
set_option maxHeartbeats 4000000 in
set_option maxRecDepth 100000 in
theorem w_X8_trace_25 {p : Program} {l : Launch} {e : Env} {s : State} {m : MethodId} {args : Array Value} {below : List Frame} {meth : Method} {c : Code} {G : Gd} {B : Nat} (X : Cm p s m args meth c cX8_trace 2 RX8 G (some .int)) {r : Int32} {σr : Sto} (s0 : Int32) (σ : Sto) (hf : b_X8_trace_25 s0 σ = some (r, σr)) (H : Heap) (locs : List Loc) (hH : HX G layM B σ H) (hS : va_S (inW layM B) s.heap H locs) (ls : Array Slot) (hl : lv_has ls 2 []) : WM p l e 1 s m args below meth c H locs G layM B (some (.int r)) σr (F0 m 25 ls [.int s0]) := by
  unfold b_X8_trace_25 at hf
  have hx := X.1.1
  have hb := X.1.2.1
  obtain ⟨rfl, rfl⟩ := rt2 hf
  exact g_iret X hH hS dX8_trace_25
def f_X8_trace (x1 : Int32) (σ : Sto) : Option (Int32 × Sto) :=
  bd2 (f_X8_in x1 (0 : Int32) ((σ.1 0 27) - (1 : Int32)) σ) fun r102 σ101 => if r102 = 0 then (b_X8_trace_25 (-1000000 : Int32) σ101) else (if (x1 < 0 ∨ 16 ≤ x1.toNatClampNeg) then none else b_X8_trace_25 (σ101.1 16 x1.toNatClampNeg) σ101)
set_option maxHeartbeats 4000000 in
set_option maxRecDepth 100000 in
theorem w_X8_trace {p : Program} {l : Launch} {e : Env} {s : State} {m : MethodId} {args : Array Value} {below : List Frame} {meth : Method} {c : Code} {G : Gd} {B : Nat} (X : Cm p s m args meth c cX8_trace 2 RX8 G (some .int)) {r : Int32} {σr : Sto} (x1 : Int32) (σ : Sto) (hf : f_X8_trace x1 σ = some (r, σr)) (H : Heap) (locs : List Loc) (hH : HX G layM B σ H) (hS : va_S (inW layM B) s.heap H locs) (ls : Array Slot) (hl : lv_has ls 2 [(0, .ref (B + 0)), (1, .int x1)]) : WM p l e 1 s m args below meth c H locs G layM B (some (.int r)) σr (F0 m 0 ls []) := by
  unfold f_X8_trace at hf
  have hx := X.1.1
  have hb := X.1.2.1
  refine lv_iload_n hx hb dX8_trace_0 rfl (lv_at hl 1 rfl) ?_
  refine lv_iconst (v := 0) hx hb dX8_trace_1 (by decide) ?_
  refine lv_aload_n hx hb dX8_trace_2 rfl (lv_at hl 0 rfl) ?_
  refine g_get (v := .int (σ.1 0 27)) kX8 (by decide) fl_RX8_263 X.1 hH km_0 rfl dX8_trace_3 ?_
  refine lv_iconst (v := 1) hx hb dX8_trace_6 (by decide) ?_
  refine lv_isub hx hb dX8_trace_7 ?_
  obtain ⟨r102, σ101, eσ101, hf⟩ := bnd2 hf
  refine g_cSi (As := [.int x1, .int (0 : Int32), .int ((σ.1 0 27) - (1 : Int32))]) X.1 hH hS (c_X8_in l G B x1 (0 : Int32) ((σ.1 0 27) - (1 : Int32)) σ σ101 r102 eσ101) kw_RX8_68 (by decide) rfl hl (Nat.le_of_ble_eq_true rfl) rfl dX8_trace_8 (fun H locs hH hS => ?_)
  refine lv_if_eq (tgt := 23) hx hb dX8_trace_11 (by decide) (fun q103 => ?_) (fun q103 => ?_)
  · replace hf := brT hf q103
    refine lv_ldc (v := -1000000) hx hb X.1.2.2.2.1 (X.1.2.2.2.2.1 _ kc_RX8_60) dX8_trace_23 ?_
    exact w_X8_trace_25 X (-1000000 : Int32) σ101 hf _ _ hH hS _ (lv_sub hl [] rfl)
  · replace hf := brF hf q103
    refine lv_aload_n hx hb dX8_trace_14 rfl (lv_at hl 0 rfl) ?_
    refine g_get (v := .ref (B + 16)) kX8 (by decide) fl_RX8_57 X.1 hH km_0 rfl dX8_trace_15 ?_
    refine lv_iload_n hx hb dX8_trace_18 rfl (lv_at hl 1 rfl) ?_
    obtain ⟨q204, hf⟩ := chk hf
    refine g_iald (j := x1.toNatClampNeg) X.1 hH km_16 q204 rfl dX8_trace_19 ?_
    refine lv_goto (tgt := 25) hx hb dX8_trace_20 (by decide) ?_
    exact w_X8_trace_25 X (σ101.1 16 x1.toNatClampNeg) σ101 hf _ _ hH hS _ (lv_sub hl [] rfl)
theorem c_X8_trace (l : Launch) (G : Gd) (B : Nat) (x1 : Int32) (σ σr : Sto) (r : Int32) (hf : f_X8_trace x1 σ = some (r, σr)) : Ct l G layM B yX8_trace cX8_trace 2 (some .int) 1 [.ref (B + 0), .int x1] (some (.int r)) σ σr :=
  Ct.ofW (by decide) (Nat.le_of_ble_eq_true rfl) (fun _ _ _ _ _ _ _ X hH hS ls hl => w_X8_trace X x1 σ hf _ _ hH hS ls (show lv_has ls 2 [(0, .ref (B + 0)), (1, .int x1)] from hl))
-- SlackProofsModel.undo()I  (D 1)
def f_X8_undo (σ : Sto) : Option (Int32 × Sto) :=
  if (σ.1 0 16) = 0 then (some ((-1000002 : Int32), σ)) else (nmS (pI σ 0 16 ((σ.1 0 16) - (1 : Int32))) fun σ102 => bd1 (f_X8_copies 8 3744 ((312 : Int32) * (σ102.1 0 16)) 6 312 (0 : Int32) (312 : Int32) σ102) fun σ103 => some ((σ103.1 0 16), σ103))
set_option maxHeartbeats 4000000 in
set_option maxRecDepth 100000 in
theorem w_X8_undo {p : Program} {l : Launch} {e : Env} {s : State} {m : MethodId} {args : Array Value} {below : List Frame} {meth : Method} {c : Code} {G : Gd} {B : Nat} (X : Cm p s m args meth c cX8_undo 1 RX8 G (some .int)) {r : Int32} {σr : Sto} (σ : Sto) (hf : f_X8_undo σ = some (r, σr)) (H : Heap) (locs : List Loc) (hH : HX G layM B σ H) (hS : va_S (inW layM B) s.heap H locs) (ls : Array Slot) (hl : lv_has ls 1 [(0, .ref (B + 0))]) : WM p l e 1 s m args below meth c H locs G layM B (some (.int r)) σr (F0 m 0 ls []) := by
  unfold f_X8_undo at hf
  have hx := X.1.1
  have hb := X.1.2.1
  refine lv_aload_n hx hb dX8_undo_0 rfl (lv_at hl 0 rfl) ?_
  refine g_get (v := .int (σ.1 0 16)) kX8 (by decide) fl_RX8_163 X.1 hH km_0 rfl dX8_undo_1 ?_
  refine lv_if_ne (tgt := 10) hx hb dX8_undo_4 (by decide) (fun q101 => ?_) (fun q101 => ?_)
  · replace hf := brF hf q101
    refine lv_aload_n hx hb dX8_undo_10 rfl (lv_at hl 0 rfl) ?_
    refine lv_dup hx hb dX8_undo_11 rfl ?_
    refine g_get (v := .int (σ.1 0 16)) kX8 (by decide) fl_RX8_163 X.1 hH km_0 rfl dX8_undo_12 ?_
    refine lv_iconst (v := 1) hx hb dX8_undo_15 (by decide) ?_
    refine lv_isub hx hb dX8_undo_16 ?_
    refine g_putI kX8 (by decide) fl_RX8_163 rfl rfl X.1 hH hS km_0 dX8_undo_17 (fun H locs hH hS => ?_)
    obtain ⟨σ102, eσ102, hH⟩ := nmX hH
    replace hf := nmU hf eσ102
    refine lv_aload_n hx hb dX8_undo_20 rfl (lv_at hl 0 rfl) ?_
    refine g_get (v := .ref (B + 8)) kX8 (by decide) fl_RX8_32 X.1 hH km_0 rfl dX8_undo_21 ?_
    refine lv_sipush (v := 312) hx hb dX8_undo_24 (by decide) ?_
    refine lv_aload_n hx hb dX8_undo_27 rfl (lv_at hl 0 rfl) ?_
    refine g_get (v := .int (σ102.1 0 16)) kX8 (by decide) fl_RX8_163 X.1 hH km_0 rfl dX8_undo_28 ?_
    refine lv_imul hx hb dX8_undo_31 ?_
    refine lv_aload_n hx hb dX8_undo_32 rfl (lv_at hl 0 rfl) ?_
    refine g_get (v := .ref (B + 6)) kX8 (by decide) fl_RX8_25 X.1 hH km_0 rfl dX8_undo_33 ?_
    refine lv_iconst (v := 0) hx hb dX8_undo_36 (by decide) ?_
    refine lv_sipush (v := 312) hx hb dX8_undo_37 (by decide) ?_
    obtain ⟨σ103, eσ103, hf⟩ := bnd1 hf
    refine g_cSv (As := [.ref (B + 8), .int ((312 : Int32) * (σ102.1 0 16)), .ref (B + 6), .int (0 : Int32), .int (312 : Int32)]) X.1 hH hS (c_X8_copies l G B 8 3744 km_8 ((312 : Int32) * (σ102.1 0 16)) 6 312 km_6 (0 : Int32) (312 : Int32) σ102 σ103 eσ103) kw_RX8_154 (by decide) rfl hl (Nat.le_of_ble_eq_true rfl) rfl dX8_undo_40 (fun H locs hH hS => ?_)
    refine lv_aload_n hx hb dX8_undo_43 rfl (lv_at hl 0 rfl) ?_
    refine g_get (v := .int (σ103.1 0 16)) kX8 (by decide) fl_RX8_163 X.1 hH km_0 rfl dX8_undo_44 ?_
    obtain ⟨rfl, rfl⟩ := rt2 hf
    exact g_iret X hH hS dX8_undo_47
  · replace hf := brT hf q101
    refine lv_ldc (v := -1000002) hx hb X.1.2.2.2.1 (X.1.2.2.2.2.1 _ kc_RX8_174) dX8_undo_7 ?_
    obtain ⟨rfl, rfl⟩ := rt2 hf
    exact g_iret X hH hS dX8_undo_9
theorem c_X8_undo (l : Launch) (G : Gd) (B : Nat) (σ σr : Sto) (r : Int32) (hf : f_X8_undo σ = some (r, σr)) : Ct l G layM B yX8_undo cX8_undo 1 (some .int) 1 [.ref (B + 0)] (some (.int r)) σ σr :=
  Ct.ofW (by decide) (Nat.le_of_ble_eq_true rfl) (fun _ _ _ _ _ _ _ X hH hS ls hl => w_X8_undo X σ hf _ _ hH hS ls (show lv_has ls 1 [(0, .ref (B + 0))] from hl))
-- SlackProofsModel.verdict()I  (D 3)
def b_X8_verdict_118 (s0 : Int32) (σ : Sto) : Option (Int32 × Sto) :=
  bd2 (f_X8_well s0 σ) fun r311 σ310 => some (r311, σ310)
set_option maxHeartbeats 4000000 in
set_option maxRecDepth 100000 in
theorem w_X8_verdict_118 {p : Program} {l : Launch} {e : Env} {s : State} {m : MethodId} {args : Array Value} {below : List Frame} {meth : Method} {c : Code} {G : Gd} {B : Nat} (X : Cm p s m args meth c cX8_verdict 3 RX8 G (some .int)) {r : Int32} {σr : Sto} (s0 : Int32) (σ : Sto) (hf : b_X8_verdict_118 s0 σ = some (r, σr)) (H : Heap) (locs : List Loc) (hH : HX G layM B σ H) (hS : va_S (inW layM B) s.heap H locs) (ls : Array Slot) (hl : lv_has ls 3 []) : WM p l e 3 s m args below meth c H locs G layM B (some (.int r)) σr (F0 m 118 ls [.int s0, .ref (B + 0)]) := by
  unfold b_X8_verdict_118 at hf
  have hx := X.1.1
  have hb := X.1.2.1
  obtain ⟨r311, σ310, eσ310, hf⟩ := bnd2 hf
  refine g_cVi (As := [.int s0]) X.1 hH hS (c_X8_well l G B s0 σ σ310 r311 eσ310) kw_RX8_81 kX8 km_0 (by decide) rfl hl (Nat.le_of_ble_eq_true rfl) rfl dX8_verdict_118 (fun H locs hH hS => ?_)
  obtain ⟨rfl, rfl⟩ := rt2 hf
  exact g_iret X hH hS dX8_verdict_121
def b_X8_verdict_83 (c28 : Int32 → Int32 → Sto → Option (Int32 × Sto)) (v2 : Int32) (s0 : Int32) (σ : Sto) : Option (Int32 × Sto) :=
  c28 s0 (v2 + (1 : Int32)) σ
set_option maxHeartbeats 4000000 in
set_option maxRecDepth 100000 in
theorem w_X8_verdict_83 {p : Program} {l : Launch} {e : Env} {s : State} {m : MethodId} {args : Array Value} {below : List Frame} {meth : Method} {c : Code} {G : Gd} {B : Nat} (X : Cm p s m args meth c cX8_verdict 3 RX8 G (some .int)) (c28 : Int32 → Int32 → Sto → Option (Int32 × Sto)) {r : Int32} {σr : Sto} (ih28 : ∀ (v1 : Int32) (v2 : Int32) (σ : Sto) (H : Heap) (locs : List Loc) (ls : Array Slot), c28 v1 v2 σ = some (r, σr) → HX G layM B σ H → va_S (inW layM B) s.heap H locs → lv_has ls 3 [(0, .ref (B + 0)), (1, .int v1), (2, .int v2)] → WM p l e 3 s m args below meth c H locs G layM B (some (.int r)) σr (F0 m 28 ls [])) (v2 : Int32) (s0 : Int32) (σ : Sto) (hf : b_X8_verdict_83 c28 v2 s0 σ = some (r, σr)) (H : Heap) (locs : List Loc) (hH : HX G layM B σ H) (hS : va_S (inW layM B) s.heap H locs) (ls : Array Slot) (hl : lv_has ls 3 [(0, .ref (B + 0)), (2, .int v2)]) : WM p l e 3 s m args below meth c H locs G layM B (some (.int r)) σr (F0 m 83 ls [.int s0]) := by
  unfold b_X8_verdict_83 at hf
  have hx := X.1.1
  have hb := X.1.2.1
  refine lv_istore_n (lv' := [(1, .int s0), (0, .ref (B + 0)), (2, .int v2)]) hx hb dX8_verdict_83 rfl hl (by decide) rfl (fun ls hl => ?_)
  refine lv_iinc (v := (v2 + (1 : Int32))) (lv' := [(2, .int (v2 + (1 : Int32))), (1, .int s0), (0, .ref (B + 0))]) hx hb dX8_verdict_84 hl (k := 2) rfl rfl (by decide) rfl (fun ls hl => ?_)
  refine lv_goto (tgt := 28) hx hb dX8_verdict_87 (by decide) ?_
  exact ih28 s0 (v2 + (1 : Int32)) σ _ _ _ hf hH hS (lv_sub hl [2, 1, 0] rfl)
def b_X8_verdict_78 (c28 : Int32 → Int32 → Sto → Option (Int32 × Sto)) (v2 : Int32) (σ : Sto) : Option (Int32 × Sto) :=
  b_X8_verdict_83 c28 v2 (1 : Int32) σ
set_option maxHeartbeats 4000000 in
set_option maxRecDepth 100000 in
theorem w_X8_verdict_78 {p : Program} {l : Launch} {e : Env} {s : State} {m : MethodId} {args : Array Value} {below : List Frame} {meth : Method} {c : Code} {G : Gd} {B : Nat} (X : Cm p s m args meth c cX8_verdict 3 RX8 G (some .int)) (c28 : Int32 → Int32 → Sto → Option (Int32 × Sto)) {r : Int32} {σr : Sto} (ih28 : ∀ (v1 : Int32) (v2 : Int32) (σ : Sto) (H : Heap) (locs : List Loc) (ls : Array Slot), c28 v1 v2 σ = some (r, σr) → HX G layM B σ H → va_S (inW layM B) s.heap H locs → lv_has ls 3 [(0, .ref (B + 0)), (1, .int v1), (2, .int v2)] → WM p l e 3 s m args below meth c H locs G layM B (some (.int r)) σr (F0 m 28 ls [])) (v2 : Int32) (σ : Sto) (hf : b_X8_verdict_78 c28 v2 σ = some (r, σr)) (H : Heap) (locs : List Loc) (hH : HX G layM B σ H) (hS : va_S (inW layM B) s.heap H locs) (ls : Array Slot) (hl : lv_has ls 3 [(0, .ref (B + 0)), (2, .int v2)]) : WM p l e 3 s m args below meth c H locs G layM B (some (.int r)) σr (F0 m 78 ls []) := by
  unfold b_X8_verdict_78 at hf
  have hx := X.1.1
  have hb := X.1.2.1
  refine lv_iconst (v := 1) hx hb dX8_verdict_78 (by decide) ?_
  refine lv_goto (tgt := 83) hx hb dX8_verdict_79 (by decide) ?_
  exact w_X8_verdict_83 X c28 ih28 v2 (1 : Int32) σ hf _ _ hH hS _ (lv_sub hl [0, 1] rfl)
def b_X8_verdict_82 (c28 : Int32 → Int32 → Sto → Option (Int32 × Sto)) (v2 : Int32) (σ : Sto) : Option (Int32 × Sto) :=
  b_X8_verdict_83 c28 v2 (0 : Int32) σ
set_option maxHeartbeats 4000000 in
set_option maxRecDepth 100000 in
theorem w_X8_verdict_82 {p : Program} {l : Launch} {e : Env} {s : State} {m : MethodId} {args : Array Value} {below : List Frame} {meth : Method} {c : Code} {G : Gd} {B : Nat} (X : Cm p s m args meth c cX8_verdict 3 RX8 G (some .int)) (c28 : Int32 → Int32 → Sto → Option (Int32 × Sto)) {r : Int32} {σr : Sto} (ih28 : ∀ (v1 : Int32) (v2 : Int32) (σ : Sto) (H : Heap) (locs : List Loc) (ls : Array Slot), c28 v1 v2 σ = some (r, σr) → HX G layM B σ H → va_S (inW layM B) s.heap H locs → lv_has ls 3 [(0, .ref (B + 0)), (1, .int v1), (2, .int v2)] → WM p l e 3 s m args below meth c H locs G layM B (some (.int r)) σr (F0 m 28 ls [])) (v2 : Int32) (σ : Sto) (hf : b_X8_verdict_82 c28 v2 σ = some (r, σr)) (H : Heap) (locs : List Loc) (hH : HX G layM B σ H) (hS : va_S (inW layM B) s.heap H locs) (ls : Array Slot) (hl : lv_has ls 3 [(0, .ref (B + 0)), (2, .int v2)]) : WM p l e 3 s m args below meth c H locs G layM B (some (.int r)) σr (F0 m 82 ls []) := by
  unfold b_X8_verdict_82 at hf
  have hx := X.1.1
  have hb := X.1.2.1
  refine lv_iconst (v := 0) hx hb dX8_verdict_82 (by decide) ?_
  exact w_X8_verdict_83 X c28 ih28 v2 (0 : Int32) σ hf _ _ hH hS _ (lv_sub hl [0, 1] rfl)
def b_X8_verdict_28 (c28 : Int32 → Int32 → Sto → Option (Int32 × Sto)) (v1 : Int32) (v2 : Int32) (σ : Sto) : Option (Int32 × Sto) :=
  if (30 : Int32) ≤ v2 then (if v1 = 0 then (b_X8_verdict_118 (0 : Int32) σ) else (if (σ.2 6 8) = (-1000000 : Int64) then (b_X8_verdict_118 (1 : Int32) σ) else (b_X8_verdict_118 (2 : Int32) σ))) else (if v1 = 0 then (bd2 (f_X8_isLive v2 σ) fun r514 σ513 => if r514 = 0 then (b_X8_verdict_82 c28 v2 σ513) else (if ((((12 : Int32) + ((10 : Int32) * v2)) + (1 : Int32)) < 0 ∨ 312 ≤ (((12 : Int32) + ((10 : Int32) * v2)) + (1 : Int32)).toNatClampNeg) then none else bd2 (f_X8_sumOf 6 312 ((12 : Int32) + ((10 : Int32) * v2)) σ513) fun r618 σ617 => if (σ513.2 6 (((12 : Int32) + ((10 : Int32) * v2)) + (1 : Int32)).toNatClampNeg) ≤ r618 then (b_X8_verdict_82 c28 v2 σ617) else (b_X8_verdict_78 c28 v2 σ617))) else (b_X8_verdict_78 c28 v2 σ))
set_option maxHeartbeats 4000000 in
set_option maxRecDepth 100000 in
theorem w_X8_verdict_28 {p : Program} {l : Launch} {e : Env} {s : State} {m : MethodId} {args : Array Value} {below : List Frame} {meth : Method} {c : Code} {G : Gd} {B : Nat} (X : Cm p s m args meth c cX8_verdict 3 RX8 G (some .int)) (c28 : Int32 → Int32 → Sto → Option (Int32 × Sto)) {r : Int32} {σr : Sto} (ih28 : ∀ (v1 : Int32) (v2 : Int32) (σ : Sto) (H : Heap) (locs : List Loc) (ls : Array Slot), c28 v1 v2 σ = some (r, σr) → HX G layM B σ H → va_S (inW layM B) s.heap H locs → lv_has ls 3 [(0, .ref (B + 0)), (1, .int v1), (2, .int v2)] → WM p l e 3 s m args below meth c H locs G layM B (some (.int r)) σr (F0 m 28 ls [])) (v1 : Int32) (v2 : Int32) (σ : Sto) (hf : b_X8_verdict_28 c28 v1 v2 σ = some (r, σr)) (H : Heap) (locs : List Loc) (hH : HX G layM B σ H) (hS : va_S (inW layM B) s.heap H locs) (ls : Array Slot) (hl : lv_has ls 3 [(0, .ref (B + 0)), (1, .int v1), (2, .int v2)]) : WM p l e 3 s m args below meth c H locs G layM B (some (.int r)) σr (F0 m 28 ls []) := by
  unfold b_X8_verdict_28 at hf
  have hx := X.1.1
  have hb := X.1.2.1
  refine lv_iload_n hx hb dX8_verdict_28 rfl (lv_at hl 2 rfl) ?_
  refine lv_bipush (v := 30) hx hb dX8_verdict_29 (by decide) ?_
  refine lv_icmp_ge (tgt := 90) hx hb dX8_verdict_31 (by decide) (fun q207 => ?_) (fun q207 => ?_)
  · replace hf := brT hf q207
    refine lv_aload_n hx hb dX8_verdict_90 rfl (lv_at hl 0 rfl) ?_
    refine lv_iload_n hx hb dX8_verdict_91 rfl (lv_at hl 1 rfl) ?_
    refine lv_if_ne (tgt := 99) hx hb dX8_verdict_92 (by decide) (fun q208 => ?_) (fun q208 => ?_)
    · replace hf := brF hf q208
      refine lv_aload_n hx hb dX8_verdict_99 rfl (lv_at hl 0 rfl) ?_
      refine g_get (v := .ref (B + 6)) kX8 (by decide) fl_RX8_25 X.1 hH km_0 rfl dX8_verdict_100 ?_
      refine lv_bipush (v := 8) hx hb dX8_verdict_103 (by decide) ?_
      refine g_lald (j := 8) X.1 hH km_6 (by decide) rfl dX8_verdict_105 ?_
      refine lv_ldc2 (v := -1000000) hx hb X.1.2.2.2.1 (X.1.2.2.2.2.1 _ kc_RX8_61) dX8_verdict_106 ?_
      refine g_lne (tgt := 117) X.1 dX8_verdict_109 dX8_verdict_110 (by decide) (fun q209 => ?_) (fun q209 => ?_)
      · replace hf := brF hf q209
        refine lv_iconst (v := 2) hx hb dX8_verdict_117 (by decide) ?_
        exact w_X8_verdict_118 X (2 : Int32) σ hf _ _ hH hS _ (lv_sub hl [] rfl)
      · replace hf := brT hf q209
        refine lv_iconst (v := 1) hx hb dX8_verdict_113 (by decide) ?_
        refine lv_goto (tgt := 118) hx hb dX8_verdict_114 (by decide) ?_
        exact w_X8_verdict_118 X (1 : Int32) σ hf _ _ hH hS _ (lv_sub hl [] rfl)
    · replace hf := brT hf q208
      refine lv_iconst (v := 0) hx hb dX8_verdict_95 (by decide) ?_
      refine lv_goto (tgt := 118) hx hb dX8_verdict_96 (by decide) ?_
      exact w_X8_verdict_118 X (0 : Int32) σ hf _ _ hH hS _ (lv_sub hl [] rfl)
  · replace hf := brF hf q207
    refine lv_iload_n hx hb dX8_verdict_34 rfl (lv_at hl 1 rfl) ?_
    refine lv_if_ne (tgt := 78) hx hb dX8_verdict_35 (by decide) (fun q312 => ?_) (fun q312 => ?_)
    · replace hf := brF hf q312
      exact w_X8_verdict_78 X c28 ih28 v2 σ hf _ _ hH hS _ (lv_sub hl [0, 2] rfl)
    · replace hf := brT hf q312
      refine lv_aload_n hx hb dX8_verdict_38 rfl (lv_at hl 0 rfl) ?_
      refine lv_iload_n hx hb dX8_verdict_39 rfl (lv_at hl 2 rfl) ?_
      obtain ⟨r514, σ513, eσ513, hf⟩ := bnd2 hf
      refine g_cVi (As := [.int v2]) X.1 hH hS (c_X8_isLive l G B v2 σ σ513 r514 eσ513) kw_RX8_175 kX8 km_0 (by decide) rfl hl (Nat.le_of_ble_eq_true rfl) rfl dX8_verdict_40 (fun H locs hH hS => ?_)
      refine lv_if_eq (tgt := 82) hx hb dX8_verdict_43 (by decide) (fun q515 => ?_) (fun q515 => ?_)
      · replace hf := brT hf q515
        exact w_X8_verdict_82 X c28 ih28 v2 σ513 hf _ _ hH hS _ (lv_sub hl [0, 2] rfl)
      · replace hf := brF hf q515
        refine lv_aload_n hx hb dX8_verdict_46 rfl (lv_at hl 0 rfl) ?_
        refine g_get (v := .ref (B + 6)) kX8 (by decide) fl_RX8_25 X.1 hH km_0 rfl dX8_verdict_47 ?_
        refine lv_bipush (v := 12) hx hb dX8_verdict_50 (by decide) ?_
        refine lv_bipush (v := 10) hx hb dX8_verdict_52 (by decide) ?_
        refine lv_iload_n hx hb dX8_verdict_54 rfl (lv_at hl 2 rfl) ?_
        refine lv_imul hx hb dX8_verdict_55 ?_
        refine lv_iadd hx hb dX8_verdict_56 ?_
        refine lv_iconst (v := 1) hx hb dX8_verdict_57 (by decide) ?_
        refine lv_iadd hx hb dX8_verdict_58 ?_
        obtain ⟨q616, hf⟩ := chk hf
        refine g_lald (j := (((12 : Int32) + ((10 : Int32) * v2)) + (1 : Int32)).toNatClampNeg) X.1 hH km_6 q616 rfl dX8_verdict_59 ?_
        refine lv_aload_n hx hb dX8_verdict_60 rfl (lv_at hl 0 rfl) ?_
        refine g_get (v := .ref (B + 6)) kX8 (by decide) fl_RX8_25 X.1 hH km_0 rfl dX8_verdict_61 ?_
        refine lv_bipush (v := 12) hx hb dX8_verdict_64 (by decide) ?_
        refine lv_bipush (v := 10) hx hb dX8_verdict_66 (by decide) ?_
        refine lv_iload_n hx hb dX8_verdict_68 rfl (lv_at hl 2 rfl) ?_
        refine lv_imul hx hb dX8_verdict_69 ?_
        refine lv_iadd hx hb dX8_verdict_70 ?_
        obtain ⟨r618, σ617, eσ617, hf⟩ := bnd2 hf
        refine g_cSl (As := [.ref (B + 6), .int ((12 : Int32) + ((10 : Int32) * v2))]) X.1 hH hS (c_X8_sumOf l G B 6 312 km_6 ((12 : Int32) + ((10 : Int32) * v2)) σ513 σ617 r618 eσ617) kw_RX8_196 (by decide) rfl hl (Nat.le_of_ble_eq_true rfl) rfl dX8_verdict_71 (fun H locs hH hS => ?_)
        refine g_lle (tgt := 82) X.1 dX8_verdict_74 dX8_verdict_75 (by decide) (fun q619 => ?_) (fun q619 => ?_)
        · replace hf := brT hf q619
          exact w_X8_verdict_82 X c28 ih28 v2 σ617 hf _ _ hH hS _ (lv_sub hl [0, 2] rfl)
        · replace hf := brF hf q619
          exact w_X8_verdict_78 X c28 ih28 v2 σ617 hf _ _ hH hS _ (lv_sub hl [0, 2] rfl)
def l_X8_verdict_28 : Nat → Int32 → Int32 → Sto → Option (Int32 × Sto)
  | 0, _, _, _ => none
  | n + 1, v1, v2, σ => b_X8_verdict_28 (l_X8_verdict_28 n) v1 v2 σ
set_option maxHeartbeats 4000000 in
set_option maxRecDepth 100000 in
theorem wl_X8_verdict_28 {p : Program} {l : Launch} {e : Env} {s : State} {m : MethodId} {args : Array Value} {below : List Frame} {meth : Method} {c : Code} {G : Gd} {B : Nat} (X : Cm p s m args meth c cX8_verdict 3 RX8 G (some .int)) {r : Int32} {σr : Sto} (n : Nat) : ∀ (v1 : Int32) (v2 : Int32) (σ : Sto) (H : Heap) (locs : List Loc) (ls : Array Slot), l_X8_verdict_28 n v1 v2 σ = some (r, σr) → HX G layM B σ H → va_S (inW layM B) s.heap H locs → lv_has ls 3 [(0, .ref (B + 0)), (1, .int v1), (2, .int v2)] → WM p l e 3 s m args below meth c H locs G layM B (some (.int r)) σr (F0 m 28 ls []) := by
  induction n with
  | zero =>
    intro _ _ σ H locs ls hf
    cases hf
  | succ n ih =>
    intro v1 v2 σ H locs ls hf hH hS hl
    exact w_X8_verdict_28 X (l_X8_verdict_28 n) ih v1 v2 σ hf H locs hH hS ls hl
def f_X8_verdict (σ : Sto) : Option (Int32 × Sto) :=
  bd2 (f_X8_isFormula σ) fun r102 σ101 => if r102 = 0 then (some ((-1000002 : Int32), σ101)) else (bd2 (f_X8_isOver σ101) fun r105 σ104 => if r105 = 0 then (l_X8_verdict_28 400 (0 : Int32) (0 : Int32) σ104) else (bd2 (f_X8_found (6 : Int32) σ104) fun r621 σ620 => some (r621, σ620)))
set_option maxHeartbeats 4000000 in
set_option maxRecDepth 100000 in
theorem w_X8_verdict {p : Program} {l : Launch} {e : Env} {s : State} {m : MethodId} {args : Array Value} {below : List Frame} {meth : Method} {c : Code} {G : Gd} {B : Nat} (X : Cm p s m args meth c cX8_verdict 3 RX8 G (some .int)) {r : Int32} {σr : Sto} (σ : Sto) (hf : f_X8_verdict σ = some (r, σr)) (H : Heap) (locs : List Loc) (hH : HX G layM B σ H) (hS : va_S (inW layM B) s.heap H locs) (ls : Array Slot) (hl : lv_has ls 3 [(0, .ref (B + 0))]) : WM p l e 3 s m args below meth c H locs G layM B (some (.int r)) σr (F0 m 0 ls []) := by
  unfold f_X8_verdict at hf
  have hx := X.1.1
  have hb := X.1.2.1
  refine lv_aload_n hx hb dX8_verdict_0 rfl (lv_at hl 0 rfl) ?_
  obtain ⟨r102, σ101, eσ101, hf⟩ := bnd2 hf
  refine g_cVi (As := []) X.1 hH hS (c_X8_isFormula l G B σ σ101 r102 eσ101) kw_RX8_171 kX8 km_0 (by decide) rfl hl (Nat.le_of_ble_eq_true rfl) rfl dX8_verdict_1 (fun H locs hH hS => ?_)
  refine lv_if_ne (tgt := 10) hx hb dX8_verdict_4 (by decide) (fun q103 => ?_) (fun q103 => ?_)
  · replace hf := brF hf q103
    refine lv_aload_n hx hb dX8_verdict_10 rfl (lv_at hl 0 rfl) ?_
    obtain ⟨r105, σ104, eσ104, hf⟩ := bnd2 hf
    refine g_cVi (As := []) X.1 hH hS (c_X8_isOver l G B σ101 σ104 r105 eσ104) kw_RX8_222 kX8 km_0 (by decide) rfl hl (Nat.le_of_ble_eq_true rfl) rfl dX8_verdict_11 (fun H locs hH hS => ?_)
    refine lv_if_eq (tgt := 24) hx hb dX8_verdict_14 (by decide) (fun q106 => ?_) (fun q106 => ?_)
    · replace hf := brT hf q106
      refine lv_iconst (v := 0) hx hb dX8_verdict_24 (by decide) ?_
      refine lv_istore_n (lv' := [(1, .int (0 : Int32)), (0, .ref (B + 0))]) hx hb dX8_verdict_25 rfl hl (by decide) rfl (fun ls hl => ?_)
      refine lv_iconst (v := 0) hx hb dX8_verdict_26 (by decide) ?_
      refine lv_istore_n (lv' := [(2, .int (0 : Int32)), (1, .int (0 : Int32)), (0, .ref (B + 0))]) hx hb dX8_verdict_27 rfl hl (by decide) rfl (fun ls hl => ?_)
      exact wl_X8_verdict_28 X 400 (0 : Int32) (0 : Int32) σ104 _ _ _ hf hH hS (lv_sub hl [2, 1, 0] rfl)
    · replace hf := brF hf q106
      refine lv_aload_n hx hb dX8_verdict_17 rfl (lv_at hl 0 rfl) ?_
      refine lv_bipush (v := 6) hx hb dX8_verdict_18 (by decide) ?_
      obtain ⟨r621, σ620, eσ620, hf⟩ := bnd2 hf
      refine g_cVi (As := [.int (6 : Int32)]) X.1 hH hS (c_X8_found l G B (6 : Int32) σ104 σ620 r621 eσ620) kw_RX8_77 kX8 km_0 (by decide) rfl hl (Nat.le_of_ble_eq_true rfl) rfl dX8_verdict_20 (fun H locs hH hS => ?_)
      obtain ⟨rfl, rfl⟩ := rt2 hf
      exact g_iret X hH hS dX8_verdict_23
  · replace hf := brT hf q103
    refine lv_ldc (v := -1000002) hx hb X.1.2.2.2.1 (X.1.2.2.2.2.1 _ kc_RX8_174) dX8_verdict_7 ?_
    obtain ⟨rfl, rfl⟩ := rt2 hf
    exact g_iret X hH hS dX8_verdict_9
theorem c_X8_verdict (l : Launch) (G : Gd) (B : Nat) (σ σr : Sto) (r : Int32) (hf : f_X8_verdict σ = some (r, σr)) : Ct l G layM B yX8_verdict cX8_verdict 3 (some .int) 3 [.ref (B + 0)] (some (.int r)) σ σr :=
  Ct.ofW (by decide) (Nat.le_of_ble_eq_true rfl) (fun _ _ _ _ _ _ _ X hH hS ls hl => w_X8_verdict X σ hf _ _ hH hS ls (show lv_has ls 3 [(0, .ref (B + 0))] from hl))
-- SlackProofsModel.weaken(II)I  (D 3)
def b_X8_weaken_49 (σ : Sto) : Option (Int32 × Sto) :=
  some ((-1000001 : Int32), σ)
set_option maxHeartbeats 4000000 in
set_option maxRecDepth 100000 in
theorem w_X8_weaken_49 {p : Program} {l : Launch} {e : Env} {s : State} {m : MethodId} {args : Array Value} {below : List Frame} {meth : Method} {c : Code} {G : Gd} {B : Nat} (X : Cm p s m args meth c cX8_weaken 5 RX8 G (some .int)) {r : Int32} {σr : Sto} (σ : Sto) (hf : b_X8_weaken_49 σ = some (r, σr)) (H : Heap) (locs : List Loc) (hH : HX G layM B σ H) (hS : va_S (inW layM B) s.heap H locs) (ls : Array Slot) (hl : lv_has ls 5 []) : WM p l e 3 s m args below meth c H locs G layM B (some (.int r)) σr (F0 m 49 ls []) := by
  unfold b_X8_weaken_49 at hf
  have hx := X.1.1
  have hb := X.1.2.1
  refine lv_ldc (v := -1000001) hx hb X.1.2.2.2.1 (X.1.2.2.2.2.1 _ kc_RX8_76) dX8_weaken_49 ?_
  obtain ⟨rfl, rfl⟩ := rt2 hf
  exact g_iret X hH hS dX8_weaken_51
def b_X8_weaken_107 (v2 : Int32) (s0 : Int64) (s1 : Int32) (σ : Sto) : Option (Int32 × Sto) :=
  if (s1 < 0 ∨ 10 ≤ s1.toNatClampNeg) then none else nmS (pL σ 11 s1.toNatClampNeg s0) fun σ322 => if (((2 : Int32) + v2) < 0 ∨ 10 ≤ ((2 : Int32) + v2).toNatClampNeg) then none else nmS (pL σ322 11 ((2 : Int32) + v2).toNatClampNeg (0 : Int64)) fun σ324 => bd2 (f_X8_comes (4 : Int32) σ324) fun r326 σ325 => some (r326, σ325)
set_option maxHeartbeats 4000000 in
set_option maxRecDepth 100000 in
theorem w_X8_weaken_107 {p : Program} {l : Launch} {e : Env} {s : State} {m : MethodId} {args : Array Value} {below : List Frame} {meth : Method} {c : Code} {G : Gd} {B : Nat} (X : Cm p s m args meth c cX8_weaken 5 RX8 G (some .int)) {r : Int32} {σr : Sto} (v2 : Int32) (s0 : Int64) (s1 : Int32) (σ : Sto) (hf : b_X8_weaken_107 v2 s0 s1 σ = some (r, σr)) (H : Heap) (locs : List Loc) (hH : HX G layM B σ H) (hS : va_S (inW layM B) s.heap H locs) (ls : Array Slot) (hl : lv_has ls 5 [(0, .ref (B + 0)), (2, .int v2)]) : WM p l e 3 s m args below meth c H locs G layM B (some (.int r)) σr (F0 m 107 ls [.long s0, .int s1, .ref (B + 11)]) := by
  unfold b_X8_weaken_107 at hf
  have hx := X.1.1
  have hb := X.1.2.1
  obtain ⟨q321, hf⟩ := chk hf
  refine g_last (j := s1.toNatClampNeg) X.1 hH hS km_11 q321 rfl dX8_weaken_107 (fun H locs hH hS => ?_)
  obtain ⟨σ322, eσ322, hH⟩ := nmX hH
  replace hf := nmU hf eσ322
  refine lv_aload_n hx hb dX8_weaken_108 rfl (lv_at hl 0 rfl) ?_
  refine g_get (v := .ref (B + 11)) kX8 (by decide) fl_RX8_42 X.1 hH km_0 rfl dX8_weaken_109 ?_
  refine lv_iconst (v := 2) hx hb dX8_weaken_112 (by decide) ?_
  refine lv_iload_n hx hb dX8_weaken_113 rfl (lv_at hl 1 rfl) ?_
  refine lv_iadd hx hb dX8_weaken_114 ?_
  refine lv_lconst (v := 0) hx hb dX8_weaken_115 (by decide) ?_
  obtain ⟨q323, hf⟩ := chk hf
  refine g_last (j := ((2 : Int32) + v2).toNatClampNeg) X.1 hH hS km_11 q323 rfl dX8_weaken_116 (fun H locs hH hS => ?_)
  obtain ⟨σ324, eσ324, hH⟩ := nmX hH
  replace hf := nmU hf eσ324
  refine lv_aload_n hx hb dX8_weaken_117 rfl (lv_at hl 0 rfl) ?_
  refine lv_iconst (v := 4) hx hb dX8_weaken_118 (by decide) ?_
  obtain ⟨r326, σ325, eσ325, hf⟩ := bnd2 hf
  refine g_cVi (As := [.int (4 : Int32)]) X.1 hH hS (c_X8_comes l G B (4 : Int32) σ324 σ325 r326 eσ325) kw_RX8_191 kX8 km_0 (by decide) rfl hl (Nat.le_of_ble_eq_true rfl) rfl dX8_weaken_119 (fun H locs hH hS => ?_)
  obtain ⟨rfl, rfl⟩ := rt2 hf
  exact g_iret X hH hS dX8_weaken_122
def f_X8_weaken (x1 : Int32) (x2 : Int32) (σ : Sto) : Option (Int32 × Sto) :=
  bd2 (f_X8_isFormula σ) fun r102 σ101 => if r102 = 0 then (some ((-1000002 : Int32), σ101)) else (bd2 (f_X8_isLive x1 σ101) fun r105 σ104 => if r105 = 0 then (b_X8_weaken_49 σ104) else (bd2 (f_X8_in x2 (0 : Int32) (7 : Int32) σ104) fun r208 σ207 => if r208 = 0 then (b_X8_weaken_49 σ207) else (if (((((12 : Int32) + ((10 : Int32) * x1)) + (2 : Int32)) + x2) < 0 ∨ 312 ≤ ((((12 : Int32) + ((10 : Int32) * x1)) + (2 : Int32)) + x2).toNatClampNeg) then none else if (σ207.2 6 ((((12 : Int32) + ((10 : Int32) * x1)) + (2 : Int32)) + x2).toNatClampNeg) = (0 : Int64) then (b_X8_weaken_49 σ207) else (bd2 (f_X8_isFull σ207) fun r213 σ212 => if r213 = 0 then (bd1 (f_X8_takesClause x1 σ212) fun σ215 => if (((2 : Int32) + x2) < 0 ∨ 10 ≤ ((2 : Int32) + x2).toNatClampNeg) then none else bd2 (f_X8_size (σ215.2 11 ((2 : Int32) + x2).toNatClampNeg) σ215) fun r219 σ218 => if r219 ≤ (σ218.2 11 1) then (b_X8_weaken_107 x2 ((σ218.2 11 1) - r219) (1 : Int32) σ218) else (b_X8_weaken_107 x2 (0 : Int64) (1 : Int32) σ218)) else (some ((-1000003 : Int32), σ212))))))
set_option maxHeartbeats 4000000 in
set_option maxRecDepth 100000 in
theorem w_X8_weaken {p : Program} {l : Launch} {e : Env} {s : State} {m : MethodId} {args : Array Value} {below : List Frame} {meth : Method} {c : Code} {G : Gd} {B : Nat} (X : Cm p s m args meth c cX8_weaken 5 RX8 G (some .int)) {r : Int32} {σr : Sto} (x1 : Int32) (x2 : Int32) (σ : Sto) (hf : f_X8_weaken x1 x2 σ = some (r, σr)) (H : Heap) (locs : List Loc) (hH : HX G layM B σ H) (hS : va_S (inW layM B) s.heap H locs) (ls : Array Slot) (hl : lv_has ls 5 [(0, .ref (B + 0)), (1, .int x1), (2, .int x2)]) : WM p l e 3 s m args below meth c H locs G layM B (some (.int r)) σr (F0 m 0 ls []) := by
  unfold f_X8_weaken at hf
  have hx := X.1.1
  have hb := X.1.2.1
  refine lv_aload_n hx hb dX8_weaken_0 rfl (lv_at hl 0 rfl) ?_
  obtain ⟨r102, σ101, eσ101, hf⟩ := bnd2 hf
  refine g_cVi (As := []) X.1 hH hS (c_X8_isFormula l G B σ σ101 r102 eσ101) kw_RX8_171 kX8 km_0 (by decide) rfl hl (Nat.le_of_ble_eq_true rfl) rfl dX8_weaken_1 (fun H locs hH hS => ?_)
  refine lv_if_ne (tgt := 10) hx hb dX8_weaken_4 (by decide) (fun q103 => ?_) (fun q103 => ?_)
  · replace hf := brF hf q103
    refine lv_aload_n hx hb dX8_weaken_10 rfl (lv_at hl 0 rfl) ?_
    refine lv_iload_n hx hb dX8_weaken_11 rfl (lv_at hl 1 rfl) ?_
    obtain ⟨r105, σ104, eσ104, hf⟩ := bnd2 hf
    refine g_cVi (As := [.int x1]) X.1 hH hS (c_X8_isLive l G B x1 σ101 σ104 r105 eσ104) kw_RX8_175 kX8 km_0 (by decide) rfl hl (Nat.le_of_ble_eq_true rfl) rfl dX8_weaken_12 (fun H locs hH hS => ?_)
    refine lv_if_eq (tgt := 49) hx hb dX8_weaken_15 (by decide) (fun q106 => ?_) (fun q106 => ?_)
    · replace hf := brT hf q106
      exact w_X8_weaken_49 X σ104 hf _ _ hH hS _ (lv_sub hl [] rfl)
    · replace hf := brF hf q106
      refine lv_iload_n hx hb dX8_weaken_18 rfl (lv_at hl 2 rfl) ?_
      refine lv_iconst (v := 0) hx hb dX8_weaken_19 (by decide) ?_
      refine lv_bipush (v := 7) hx hb dX8_weaken_20 (by decide) ?_
      obtain ⟨r208, σ207, eσ207, hf⟩ := bnd2 hf
      refine g_cSi (As := [.int x2, .int (0 : Int32), .int (7 : Int32)]) X.1 hH hS (c_X8_in l G B x2 (0 : Int32) (7 : Int32) σ104 σ207 r208 eσ207) kw_RX8_68 (by decide) rfl hl (Nat.le_of_ble_eq_true rfl) rfl dX8_weaken_22 (fun H locs hH hS => ?_)
      refine lv_if_eq (tgt := 49) hx hb dX8_weaken_25 (by decide) (fun q209 => ?_) (fun q209 => ?_)
      · replace hf := brT hf q209
        exact w_X8_weaken_49 X σ207 hf _ _ hH hS _ (lv_sub hl [] rfl)
      · replace hf := brF hf q209
        refine lv_aload_n hx hb dX8_weaken_28 rfl (lv_at hl 0 rfl) ?_
        refine g_get (v := .ref (B + 6)) kX8 (by decide) fl_RX8_25 X.1 hH km_0 rfl dX8_weaken_29 ?_
        refine lv_bipush (v := 12) hx hb dX8_weaken_32 (by decide) ?_
        refine lv_bipush (v := 10) hx hb dX8_weaken_34 (by decide) ?_
        refine lv_iload_n hx hb dX8_weaken_36 rfl (lv_at hl 1 rfl) ?_
        refine lv_imul hx hb dX8_weaken_37 ?_
        refine lv_iadd hx hb dX8_weaken_38 ?_
        refine lv_iconst (v := 2) hx hb dX8_weaken_39 (by decide) ?_
        refine lv_iadd hx hb dX8_weaken_40 ?_
        refine lv_iload_n hx hb dX8_weaken_41 rfl (lv_at hl 2 rfl) ?_
        refine lv_iadd hx hb dX8_weaken_42 ?_
        obtain ⟨q210, hf⟩ := chk hf
        refine g_lald (j := ((((12 : Int32) + ((10 : Int32) * x1)) + (2 : Int32)) + x2).toNatClampNeg) X.1 hH km_6 q210 rfl dX8_weaken_43 ?_
        refine lv_lconst (v := 0) hx hb dX8_weaken_44 (by decide) ?_
        refine g_lne (tgt := 52) X.1 dX8_weaken_45 dX8_weaken_46 (by decide) (fun q211 => ?_) (fun q211 => ?_)
        · replace hf := brF hf q211
          refine lv_aload_n hx hb dX8_weaken_52 rfl (lv_at hl 0 rfl) ?_
          obtain ⟨r213, σ212, eσ212, hf⟩ := bnd2 hf
          refine g_cVi (As := []) X.1 hH hS (c_X8_isFull l G B σ207 σ212 r213 eσ212) kw_RX8_178 kX8 km_0 (by decide) rfl hl (Nat.le_of_ble_eq_true rfl) rfl dX8_weaken_53 (fun H locs hH hS => ?_)
          refine lv_if_eq (tgt := 62) hx hb dX8_weaken_56 (by decide) (fun q214 => ?_) (fun q214 => ?_)
          · replace hf := brT hf q214
            refine lv_aload_n hx hb dX8_weaken_62 rfl (lv_at hl 0 rfl) ?_
            refine lv_iload_n hx hb dX8_weaken_63 rfl (lv_at hl 1 rfl) ?_
            obtain ⟨σ215, eσ215, hf⟩ := bnd1 hf
            refine g_cVv (As := [.int x1]) X.1 hH hS (c_X8_takesClause l G B x1 σ212 σ215 eσ215) kw_RX8_181 kX8 km_0 (by decide) rfl hl (Nat.le_of_ble_eq_true rfl) rfl dX8_weaken_64 (fun H locs hH hS => ?_)
            refine lv_aload_n hx hb dX8_weaken_67 rfl (lv_at hl 0 rfl) ?_
            refine g_get (v := .ref (B + 11)) kX8 (by decide) fl_RX8_42 X.1 hH km_0 rfl dX8_weaken_68 ?_
            refine lv_iconst (v := 2) hx hb dX8_weaken_71 (by decide) ?_
            refine lv_iload_n hx hb dX8_weaken_72 rfl (lv_at hl 2 rfl) ?_
            refine lv_iadd hx hb dX8_weaken_73 ?_
            obtain ⟨q217, hf⟩ := chk hf
            refine g_lald (j := ((2 : Int32) + x2).toNatClampNeg) X.1 hH km_11 q217 rfl dX8_weaken_74 ?_
            obtain ⟨r219, σ218, eσ218, hf⟩ := bnd2 hf
            refine g_cSl (As := [.long (σ215.2 11 ((2 : Int32) + x2).toNatClampNeg)]) X.1 hH hS (c_X8_size l G B (σ215.2 11 ((2 : Int32) + x2).toNatClampNeg) σ215 σ218 r219 eσ218) kw_RX8_187 (by decide) rfl hl (Nat.le_of_ble_eq_true rfl) rfl dX8_weaken_75 (fun H locs hH hS => ?_)
            refine lv_lstore_n (lv' := [(3, .long r219), (0, .ref (B + 0)), (1, .int x1), (2, .int x2)]) hx hb dX8_weaken_78 rfl hl (by decide) rfl (fun ls hl => ?_)
            refine lv_aload_n hx hb dX8_weaken_79 rfl (lv_at hl 1 rfl) ?_
            refine g_get (v := .ref (B + 11)) kX8 (by decide) fl_RX8_42 X.1 hH km_0 rfl dX8_weaken_80 ?_
            refine lv_iconst (v := 1) hx hb dX8_weaken_83 (by decide) ?_
            refine lv_aload_n hx hb dX8_weaken_84 rfl (lv_at hl 1 rfl) ?_
            refine g_get (v := .ref (B + 11)) kX8 (by decide) fl_RX8_42 X.1 hH km_0 rfl dX8_weaken_85 ?_
            refine lv_iconst (v := 1) hx hb dX8_weaken_88 (by decide) ?_
            refine g_lald (j := 1) X.1 hH km_11 (by decide) rfl dX8_weaken_89 ?_
            refine lv_lload_n hx hb dX8_weaken_90 rfl (lv_at hl 0 rfl) ?_
            refine g_lge (tgt := 99) X.1 dX8_weaken_91 dX8_weaken_92 (by decide) (fun q220 => ?_) (fun q220 => ?_)
            · replace hf := brT hf q220
              refine lv_aload_n hx hb dX8_weaken_99 rfl (lv_at hl 1 rfl) ?_
              refine g_get (v := .ref (B + 11)) kX8 (by decide) fl_RX8_42 X.1 hH km_0 rfl dX8_weaken_100 ?_
              refine lv_iconst (v := 1) hx hb dX8_weaken_103 (by decide) ?_
              refine g_lald (j := 1) X.1 hH km_11 (by decide) rfl dX8_weaken_104 ?_
              refine lv_lload_n hx hb dX8_weaken_105 rfl (lv_at hl 0 rfl) ?_
              refine lv_lsub hx hb dX8_weaken_106 ?_
              exact w_X8_weaken_107 X x2 ((σ218.2 11 1) - r219) (1 : Int32) σ218 hf _ _ hH hS _ (lv_sub hl [1, 3] rfl)
            · replace hf := brF hf q220
              refine lv_lconst (v := 0) hx hb dX8_weaken_95 (by decide) ?_
              refine lv_goto (tgt := 107) hx hb dX8_weaken_96 (by decide) ?_
              exact w_X8_weaken_107 X x2 (0 : Int64) (1 : Int32) σ218 hf _ _ hH hS _ (lv_sub hl [1, 3] rfl)
          · replace hf := brF hf q214
            refine lv_ldc (v := -1000003) hx hb X.1.2.2.2.1 (X.1.2.2.2.2.1 _ kc_RX8_97) dX8_weaken_59 ?_
            obtain ⟨rfl, rfl⟩ := rt2 hf
            exact g_iret X hH hS dX8_weaken_61
        · replace hf := brT hf q211
          exact w_X8_weaken_49 X σ207 hf _ _ hH hS _ (lv_sub hl [] rfl)
  · replace hf := brT hf q103
    refine lv_ldc (v := -1000002) hx hb X.1.2.2.2.1 (X.1.2.2.2.2.1 _ kc_RX8_174) dX8_weaken_7 ?_
    obtain ⟨rfl, rfl⟩ := rt2 hf
    exact g_iret X hH hS dX8_weaken_9
theorem c_X8_weaken (l : Launch) (G : Gd) (B : Nat) (x1 : Int32) (x2 : Int32) (σ σr : Sto) (r : Int32) (hf : f_X8_weaken x1 x2 σ = some (r, σr)) : Ct l G layM B yX8_weaken cX8_weaken 5 (some .int) 3 [.ref (B + 0), .int x1, .int x2] (some (.int r)) σ σr :=
  Ct.ofW (by decide) (Nat.le_of_ble_eq_true rfl) (fun _ _ _ _ _ _ _ X hH hS ls hl => w_X8_weaken X x1 x2 σ hf _ _ hH hS ls (show lv_has ls 5 [(0, .ref (B + 0)), (1, .int x1), (2, .int x2)] from hl))
