-- SlackProofsModel.kind(I)I  (D 2)
def b_X8_kind_18 (s0 : Int32) (σ : Sto) : Option (Int32 × Sto) :=
  some (s0, σ)
set_option maxHeartbeats 4000000 in
set_option maxRecDepth 100000 in
theorem w_X8_kind_18 {p : Program} {l : Launch} {e : Env} {s : State} {m : MethodId} {args : Array Value} {below : List Frame} {meth : Method} {c : Code} {G : Gd} {B : Nat} (X : Cm p s m args meth c cX8_kind 2 RX8 G (some .int)) {r : Int32} {σr : Sto} (s0 : Int32) (σ : Sto) (hf : b_X8_kind_18 s0 σ = some (r, σr)) (H : Heap) (locs : List Loc) (hH : HX G layM B σ H) (hS : va_S (inW layM B) s.heap H locs) (ls : Array Slot) (hl : lv_has ls 2 []) : WM p l e 2 s m args below meth c H locs G layM B (some (.int r)) σr (F0 m 18 ls [.int s0]) := by
  unfold b_X8_kind_18 at hf
  have hx := X.1.1
  have hb := X.1.2.1
  obtain ⟨rfl, rfl⟩ := rt2 hf
  exact g_iret X hH hS dX8_kind_18
def f_X8_kind (x1 : Int32) (σ : Sto) : Option (Int32 × Sto) :=
  bd2 (f_X8_isLive x1 σ) fun r102 σ101 => if r102 = 0 then (b_X8_kind_18 (-1000001 : Int32) σ101) else (bd2 (f_X8_kindIn x1 σ101) fun r205 σ204 => b_X8_kind_18 r205 σ204)
set_option maxHeartbeats 4000000 in
set_option maxRecDepth 100000 in
theorem w_X8_kind {p : Program} {l : Launch} {e : Env} {s : State} {m : MethodId} {args : Array Value} {below : List Frame} {meth : Method} {c : Code} {G : Gd} {B : Nat} (X : Cm p s m args meth c cX8_kind 2 RX8 G (some .int)) {r : Int32} {σr : Sto} (x1 : Int32) (σ : Sto) (hf : f_X8_kind x1 σ = some (r, σr)) (H : Heap) (locs : List Loc) (hH : HX G layM B σ H) (hS : va_S (inW layM B) s.heap H locs) (ls : Array Slot) (hl : lv_has ls 2 [(0, .ref (B + 0)), (1, .int x1)]) : WM p l e 2 s m args below meth c H locs G layM B (some (.int r)) σr (F0 m 0 ls []) := by
  unfold f_X8_kind at hf
  have hx := X.1.1
  have hb := X.1.2.1
  refine lv_aload_n hx hb dX8_kind_0 rfl (lv_at hl 0 rfl) ?_
  refine lv_iload_n hx hb dX8_kind_1 rfl (lv_at hl 1 rfl) ?_
  obtain ⟨r102, σ101, eσ101, hf⟩ := bnd2 hf
  refine g_cVi (As := [.int x1]) X.1 hH hS (c_X8_isLive l G B x1 σ σ101 r102 eσ101) kw_RX8_175 kX8 km_0 (by decide) rfl hl (Nat.le_of_ble_eq_true rfl) rfl dX8_kind_2 (fun H locs hH hS => ?_)
  refine lv_if_eq (tgt := 16) hx hb dX8_kind_5 (by decide) (fun q103 => ?_) (fun q103 => ?_)
  · replace hf := brT hf q103
    refine lv_ldc (v := -1000001) hx hb X.1.2.2.2.1 (X.1.2.2.2.2.1 _ kc_RX8_76) dX8_kind_16 ?_
    exact w_X8_kind_18 X (-1000001 : Int32) σ101 hf _ _ hH hS _ (lv_sub hl [] rfl)
  · replace hf := brF hf q103
    refine lv_aload_n hx hb dX8_kind_8 rfl (lv_at hl 0 rfl) ?_
    refine lv_iload_n hx hb dX8_kind_9 rfl (lv_at hl 1 rfl) ?_
    obtain ⟨r205, σ204, eσ204, hf⟩ := bnd2 hf
    refine g_cVi (As := [.int x1]) X.1 hH hS (c_X8_kindIn l G B x1 σ101 σ204 r205 eσ204) kw_RX8_260 kX8 km_0 (by decide) rfl hl (Nat.le_of_ble_eq_true rfl) rfl dX8_kind_10 (fun H locs hH hS => ?_)
    refine lv_goto (tgt := 18) hx hb dX8_kind_13 (by decide) ?_
    exact w_X8_kind_18 X r205 σ204 hf _ _ hH hS _ (lv_sub hl [] rfl)
theorem c_X8_kind (l : Launch) (G : Gd) (B : Nat) (x1 : Int32) (σ σr : Sto) (r : Int32) (hf : f_X8_kind x1 σ = some (r, σr)) : Ct l G layM B yX8_kind cX8_kind 2 (some .int) 2 [.ref (B + 0), .int x1] (some (.int r)) σ σr :=
  Ct.ofW (by decide) (Nat.le_of_ble_eq_true rfl) (fun _ _ _ _ _ _ _ X hH hS ls hl => w_X8_kind X x1 σ hf _ _ hH hS ls (show lv_has ls 2 [(0, .ref (B + 0)), (1, .int x1)] from hl))
-- SlackProofsModel.lowest(II)I  (D 0)
def b_X8_lowest_30 (s0 : Int32) (σ : Sto) : Option (Int32 × Sto) :=
  some (s0, σ)
set_option maxHeartbeats 4000000 in
set_option maxRecDepth 100000 in
theorem w_X8_lowest_30 {p : Program} {l : Launch} {e : Env} {s : State} {m : MethodId} {args : Array Value} {below : List Frame} {meth : Method} {c : Code} {G : Gd} {B : Nat} (X : Cm p s m args meth c cX8_lowest 2 RX8 G (some .int)) {r : Int32} {σr : Sto} (s0 : Int32) (σ : Sto) (hf : b_X8_lowest_30 s0 σ = some (r, σr)) (H : Heap) (locs : List Loc) (hH : HX G layM B σ H) (hS : va_S (inW layM B) s.heap H locs) (ls : Array Slot) (hl : lv_has ls 2 []) : WM p l e 0 s m args below meth c H locs G layM B (some (.int r)) σr (F0 m 30 ls [.int s0]) := by
  unfold b_X8_lowest_30 at hf
  have hx := X.1.1
  have hb := X.1.2.1
  obtain ⟨rfl, rfl⟩ := rt2 hf
  exact g_iret X hH hS dX8_lowest_30
def f_X8_lowest (x0 : Int32) (x1 : Int32) (σ : Sto) : Option (Int32 × Sto) :=
  if x0 = 0 then (b_X8_lowest_30 ((x1 <<< ((24 : Int32) &&& 31)) >>> ((24 : Int32) &&& 31)) σ) else (if x0 = (1 : Int32) then (b_X8_lowest_30 ((x1 <<< ((16 : Int32) &&& 31)) >>> ((16 : Int32) &&& 31)) σ) else (b_X8_lowest_30 x1 σ))
set_option maxHeartbeats 4000000 in
set_option maxRecDepth 100000 in
theorem w_X8_lowest {p : Program} {l : Launch} {e : Env} {s : State} {m : MethodId} {args : Array Value} {below : List Frame} {meth : Method} {c : Code} {G : Gd} {B : Nat} (X : Cm p s m args meth c cX8_lowest 2 RX8 G (some .int)) {r : Int32} {σr : Sto} (x0 : Int32) (x1 : Int32) (σ : Sto) (hf : f_X8_lowest x0 x1 σ = some (r, σr)) (H : Heap) (locs : List Loc) (hH : HX G layM B σ H) (hS : va_S (inW layM B) s.heap H locs) (ls : Array Slot) (hl : lv_has ls 2 [(0, .int x0), (1, .int x1)]) : WM p l e 0 s m args below meth c H locs G layM B (some (.int r)) σr (F0 m 0 ls []) := by
  unfold f_X8_lowest at hf
  have hx := X.1.1
  have hb := X.1.2.1
  refine lv_iload_n hx hb dX8_lowest_0 rfl (lv_at hl 0 rfl) ?_
  refine lv_if_ne (tgt := 14) hx hb dX8_lowest_1 (by decide) (fun q101 => ?_) (fun q101 => ?_)
  · replace hf := brF hf q101
    refine lv_iload_n hx hb dX8_lowest_14 rfl (lv_at hl 0 rfl) ?_
    refine lv_iconst (v := 1) hx hb dX8_lowest_15 (by decide) ?_
    refine lv_icmp_ne (tgt := 29) hx hb dX8_lowest_16 (by decide) (fun q102 => ?_) (fun q102 => ?_)
    · replace hf := brF hf q102
      refine lv_iload_n hx hb dX8_lowest_29 rfl (lv_at hl 1 rfl) ?_
      exact w_X8_lowest_30 X x1 σ hf _ _ hH hS _ (lv_sub hl [] rfl)
    · replace hf := brT hf q102
      refine lv_iload_n hx hb dX8_lowest_19 rfl (lv_at hl 1 rfl) ?_
      refine lv_bipush (v := 16) hx hb dX8_lowest_20 (by decide) ?_
      refine lv_ishl hx hb dX8_lowest_22 ?_
      refine lv_bipush (v := 16) hx hb dX8_lowest_23 (by decide) ?_
      refine lv_ishr hx hb dX8_lowest_25 ?_
      refine lv_goto (tgt := 30) hx hb dX8_lowest_26 (by decide) ?_
      exact w_X8_lowest_30 X ((x1 <<< ((16 : Int32) &&& 31)) >>> ((16 : Int32) &&& 31)) σ hf _ _ hH hS _ (lv_sub hl [] rfl)
  · replace hf := brT hf q101
    refine lv_iload_n hx hb dX8_lowest_4 rfl (lv_at hl 1 rfl) ?_
    refine lv_bipush (v := 24) hx hb dX8_lowest_5 (by decide) ?_
    refine lv_ishl hx hb dX8_lowest_7 ?_
    refine lv_bipush (v := 24) hx hb dX8_lowest_8 (by decide) ?_
    refine lv_ishr hx hb dX8_lowest_10 ?_
    refine lv_goto (tgt := 30) hx hb dX8_lowest_11 (by decide) ?_
    exact w_X8_lowest_30 X ((x1 <<< ((24 : Int32) &&& 31)) >>> ((24 : Int32) &&& 31)) σ hf _ _ hH hS _ (lv_sub hl [] rfl)
theorem c_X8_lowest (l : Launch) (G : Gd) (B : Nat) (x0 : Int32) (x1 : Int32) (σ σr : Sto) (r : Int32) (hf : f_X8_lowest x0 x1 σ = some (r, σr)) : Ct l G layM B yX8_lowest cX8_lowest 2 (some .int) 0 [.int x0, .int x1] (some (.int r)) σ σr :=
  Ct.ofW (by decide) (Nat.le_of_ble_eq_true rfl) (fun _ _ _ _ _ _ _ X hH hS ls hl => w_X8_lowest X x0 x1 σ hf _ _ hH hS ls (show lv_has ls 2 [(0, .int x0), (1, .int x1)] from hl))
-- SlackProofsModel.takesClause(I)V  (D 1)
def f_X8_takesClause (x1 : Int32) (σ : Sto) : Option (Sto) :=
  bd1 (f_X8_copies 6 312 ((12 : Int32) + ((10 : Int32) * x1)) 11 10 (0 : Int32) (10 : Int32) σ) fun σ101 => some σ101
set_option maxHeartbeats 4000000 in
set_option maxRecDepth 100000 in
theorem w_X8_takesClause {p : Program} {l : Launch} {e : Env} {s : State} {m : MethodId} {args : Array Value} {below : List Frame} {meth : Method} {c : Code} {G : Gd} {B : Nat} (X : Cm p s m args meth c cX8_takesClause 2 RX8 G none) {σr : Sto} (x1 : Int32) (σ : Sto) (hf : f_X8_takesClause x1 σ = some σr) (H : Heap) (locs : List Loc) (hH : HX G layM B σ H) (hS : va_S (inW layM B) s.heap H locs) (ls : Array Slot) (hl : lv_has ls 2 [(0, .ref (B + 0)), (1, .int x1)]) : WM p l e 1 s m args below meth c H locs G layM B none σr (F0 m 0 ls []) := by
  unfold f_X8_takesClause at hf
  have hx := X.1.1
  have hb := X.1.2.1
  refine lv_aload_n hx hb dX8_takesClause_0 rfl (lv_at hl 0 rfl) ?_
  refine g_get (v := .ref (B + 6)) kX8 (by decide) fl_RX8_25 X.1 hH km_0 rfl dX8_takesClause_1 ?_
  refine lv_bipush (v := 12) hx hb dX8_takesClause_4 (by decide) ?_
  refine lv_bipush (v := 10) hx hb dX8_takesClause_6 (by decide) ?_
  refine lv_iload_n hx hb dX8_takesClause_8 rfl (lv_at hl 1 rfl) ?_
  refine lv_imul hx hb dX8_takesClause_9 ?_
  refine lv_iadd hx hb dX8_takesClause_10 ?_
  refine lv_aload_n hx hb dX8_takesClause_11 rfl (lv_at hl 0 rfl) ?_
  refine g_get (v := .ref (B + 11)) kX8 (by decide) fl_RX8_42 X.1 hH km_0 rfl dX8_takesClause_12 ?_
  refine lv_iconst (v := 0) hx hb dX8_takesClause_15 (by decide) ?_
  refine lv_bipush (v := 10) hx hb dX8_takesClause_16 (by decide) ?_
  obtain ⟨σ101, eσ101, hf⟩ := bnd1 hf
  refine g_cSv (As := [.ref (B + 6), .int ((12 : Int32) + ((10 : Int32) * x1)), .ref (B + 11), .int (0 : Int32), .int (10 : Int32)]) X.1 hH hS (c_X8_copies l G B 6 312 km_6 ((12 : Int32) + ((10 : Int32) * x1)) 11 10 km_11 (0 : Int32) (10 : Int32) σ σ101 eσ101) kw_RX8_154 (by decide) rfl hl (Nat.le_of_ble_eq_true rfl) rfl dX8_takesClause_18 (fun H locs hH hS => ?_)
  obtain rfl := rt1 hf
  exact g_vret X hH hS dX8_takesClause_21
theorem c_X8_takesClause (l : Launch) (G : Gd) (B : Nat) (x1 : Int32) (σ σr : Sto) (hf : f_X8_takesClause x1 σ = some σr) : Ct l G layM B yX8_takesClause cX8_takesClause 2 none 1 [.ref (B + 0), .int x1] none σ σr :=
  Ct.ofW (by decide) (Nat.le_of_ble_eq_true rfl) (fun _ _ _ _ _ _ _ X hH hS ls hl => w_X8_takesClause X x1 σ hf _ _ hH hS ls (show lv_has ls 2 [(0, .ref (B + 0)), (1, .int x1)] from hl))
-- SlackProofsModel.plus(II)I  (D 3)
def b_X8_plus_26 (σ : Sto) : Option (Int32 × Sto) :=
  some ((-1000001 : Int32), σ)
set_option maxHeartbeats 4000000 in
set_option maxRecDepth 100000 in
theorem w_X8_plus_26 {p : Program} {l : Launch} {e : Env} {s : State} {m : MethodId} {args : Array Value} {below : List Frame} {meth : Method} {c : Code} {G : Gd} {B : Nat} (X : Cm p s m args meth c cX8_plus 13 RX8 G (some .int)) {r : Int32} {σr : Sto} (σ : Sto) (hf : b_X8_plus_26 σ = some (r, σr)) (H : Heap) (locs : List Loc) (hH : HX G layM B σ H) (hS : va_S (inW layM B) s.heap H locs) (ls : Array Slot) (hl : lv_has ls 13 []) : WM p l e 3 s m args below meth c H locs G layM B (some (.int r)) σr (F0 m 26 ls []) := by
  unfold b_X8_plus_26 at hf
  have hx := X.1.1
  have hb := X.1.2.1
  refine lv_ldc (v := -1000001) hx hb X.1.2.2.2.1 (X.1.2.2.2.2.1 _ kc_RX8_76) dX8_plus_26 ?_
  obtain ⟨rfl, rfl⟩ := rt2 hf
  exact g_iret X hH hS dX8_plus_28
def b_X8_plus_236 (c101 : Int32 → Int64 → Int32 → Sto → Option (Int32 × Sto)) (v3 : Int32) (v4 : Int64) (v6 : Int32) (v7 : Int64) (v9 : Int64) (σ : Sto) : Option (Int32 × Sto) :=
  if (((2 : Int32) + v6) < 0 ∨ 10 ≤ ((2 : Int32) + v6).toNatClampNeg) then none else nmS (pL σ 11 ((2 : Int32) + v6).toNatClampNeg (v7 + v9)) fun σ638 => c101 v3 v4 (v6 + (1 : Int32)) σ638
set_option maxHeartbeats 4000000 in
set_option maxRecDepth 100000 in
theorem w_X8_plus_236 {p : Program} {l : Launch} {e : Env} {s : State} {m : MethodId} {args : Array Value} {below : List Frame} {meth : Method} {c : Code} {G : Gd} {B : Nat} (X : Cm p s m args meth c cX8_plus 13 RX8 G (some .int)) (c101 : Int32 → Int64 → Int32 → Sto → Option (Int32 × Sto)) {r : Int32} {σr : Sto} (ih101 : ∀ (v3 : Int32) (v4 : Int64) (v6 : Int32) (σ : Sto) (H : Heap) (locs : List Loc) (ls : Array Slot), c101 v3 v4 v6 σ = some (r, σr) → HX G layM B σ H → va_S (inW layM B) s.heap H locs → lv_has ls 13 [(0, .ref (B + 0)), (3, .int v3), (4, .long v4), (6, .int v6)] → WM p l e 3 s m args below meth c H locs G layM B (some (.int r)) σr (F0 m 101 ls [])) (v3 : Int32) (v4 : Int64) (v6 : Int32) (v7 : Int64) (v9 : Int64) (σ : Sto) (hf : b_X8_plus_236 c101 v3 v4 v6 v7 v9 σ = some (r, σr)) (H : Heap) (locs : List Loc) (hH : HX G layM B σ H) (hS : va_S (inW layM B) s.heap H locs) (ls : Array Slot) (hl : lv_has ls 13 [(0, .ref (B + 0)), (3, .int v3), (4, .long v4), (6, .int v6), (7, .long v7), (9, .long v9)]) : WM p l e 3 s m args below meth c H locs G layM B (some (.int r)) σr (F0 m 236 ls []) := by
  unfold b_X8_plus_236 at hf
  have hx := X.1.1
  have hb := X.1.2.1
  refine lv_aload_n hx hb dX8_plus_236 rfl (lv_at hl 0 rfl) ?_
  refine g_get (v := .ref (B + 11)) kX8 (by decide) fl_RX8_42 X.1 hH km_0 rfl dX8_plus_237 ?_
  refine lv_iconst (v := 2) hx hb dX8_plus_240 (by decide) ?_
  refine lv_iload hx hb dX8_plus_241 (lv_at hl 3 rfl) ?_
  refine lv_iadd hx hb dX8_plus_243 ?_
  refine lv_lload hx hb dX8_plus_244 (lv_at hl 4 rfl) ?_
  refine lv_lload hx hb dX8_plus_246 (lv_at hl 5 rfl) ?_
  refine lv_ladd hx hb dX8_plus_248 ?_
  obtain ⟨q637, hf⟩ := chk hf
  refine g_last (j := ((2 : Int32) + v6).toNatClampNeg) X.1 hH hS km_11 q637 rfl dX8_plus_249 (fun H locs hH hS => ?_)
  obtain ⟨σ638, eσ638, hH⟩ := nmX hH
  replace hf := nmU hf eσ638
  refine lv_iinc (v := (v6 + (1 : Int32))) (lv' := [(6, .int (v6 + (1 : Int32))), (0, .ref (B + 0)), (3, .int v3), (4, .long v4), (7, .long v7), (9, .long v9)]) hx hb dX8_plus_250 hl (k := 3) rfl rfl (by decide) rfl (fun ls hl => ?_)
  refine lv_goto (tgt := 101) hx hb dX8_plus_253 (by decide) ?_
  exact ih101 v3 v4 (v6 + (1 : Int32)) σ638 _ _ _ hf hH hS (lv_sub hl [1, 2, 3, 0] rfl)
def b_X8_plus_211 (c101 : Int32 → Int64 → Int32 → Sto → Option (Int32 × Sto)) (v3 : Int32) (v4 : Int64) (v6 : Int32) (v7 : Int64) (v9 : Int64) (σ : Sto) : Option (Int32 × Sto) :=
  bd2 (f_X8_size v7 σ) fun r533 σ532 => bd2 (f_X8_size v9 σ532) fun r535 σ534 => if r533 ≤ ((9223372036854775807 : Int64) - r535) then (b_X8_plus_236 c101 v3 v4 v6 v7 v9 σ534) else (bd2 (f_X8_found (6 : Int32) σ534) fun r640 σ639 => some (r640, σ639))
set_option maxHeartbeats 4000000 in
set_option maxRecDepth 100000 in
theorem w_X8_plus_211 {p : Program} {l : Launch} {e : Env} {s : State} {m : MethodId} {args : Array Value} {below : List Frame} {meth : Method} {c : Code} {G : Gd} {B : Nat} (X : Cm p s m args meth c cX8_plus 13 RX8 G (some .int)) (c101 : Int32 → Int64 → Int32 → Sto → Option (Int32 × Sto)) {r : Int32} {σr : Sto} (ih101 : ∀ (v3 : Int32) (v4 : Int64) (v6 : Int32) (σ : Sto) (H : Heap) (locs : List Loc) (ls : Array Slot), c101 v3 v4 v6 σ = some (r, σr) → HX G layM B σ H → va_S (inW layM B) s.heap H locs → lv_has ls 13 [(0, .ref (B + 0)), (3, .int v3), (4, .long v4), (6, .int v6)] → WM p l e 3 s m args below meth c H locs G layM B (some (.int r)) σr (F0 m 101 ls [])) (v3 : Int32) (v4 : Int64) (v6 : Int32) (v7 : Int64) (v9 : Int64) (σ : Sto) (hf : b_X8_plus_211 c101 v3 v4 v6 v7 v9 σ = some (r, σr)) (H : Heap) (locs : List Loc) (hH : HX G layM B σ H) (hS : va_S (inW layM B) s.heap H locs) (ls : Array Slot) (hl : lv_has ls 13 [(0, .ref (B + 0)), (3, .int v3), (4, .long v4), (6, .int v6), (7, .long v7), (9, .long v9)]) : WM p l e 3 s m args below meth c H locs G layM B (some (.int r)) σr (F0 m 211 ls []) := by
  unfold b_X8_plus_211 at hf
  have hx := X.1.1
  have hb := X.1.2.1
  refine lv_lload hx hb dX8_plus_211 (lv_at hl 4 rfl) ?_
  obtain ⟨r533, σ532, eσ532, hf⟩ := bnd2 hf
  refine g_cSl (As := [.long v7]) X.1 hH hS (c_X8_size l G B v7 σ σ532 r533 eσ532) kw_RX8_187 (by decide) rfl hl (Nat.le_of_ble_eq_true rfl) rfl dX8_plus_213 (fun H locs hH hS => ?_)
  refine lv_ldc2 (v := 9223372036854775807) hx hb X.1.2.2.2.1 (X.1.2.2.2.2.1 _ kc_RX8_185) dX8_plus_216 ?_
  refine lv_lload hx hb dX8_plus_219 (lv_at hl 5 rfl) ?_
  obtain ⟨r535, σ534, eσ534, hf⟩ := bnd2 hf
  refine g_cSl (As := [.long v9]) X.1 hH hS (c_X8_size l G B v9 σ532 σ534 r535 eσ534) kw_RX8_187 (by decide) rfl hl (Nat.le_of_ble_eq_true rfl) rfl dX8_plus_221 (fun H locs hH hS => ?_)
  refine lv_lsub hx hb dX8_plus_224 ?_
  refine g_lle (tgt := 236) X.1 dX8_plus_225 dX8_plus_226 (by decide) (fun q536 => ?_) (fun q536 => ?_)
  · replace hf := brT hf q536
    exact w_X8_plus_236 X c101 ih101 v3 v4 v6 v7 v9 σ534 hf _ _ hH hS _ (lv_sub hl [0, 1, 2, 3, 4, 5] rfl)
  · replace hf := brF hf q536
    refine lv_aload_n hx hb dX8_plus_229 rfl (lv_at hl 0 rfl) ?_
    refine lv_bipush (v := 6) hx hb dX8_plus_230 (by decide) ?_
    obtain ⟨r640, σ639, eσ639, hf⟩ := bnd2 hf
    refine g_cVi (As := [.int (6 : Int32)]) X.1 hH hS (c_X8_found l G B (6 : Int32) σ534 σ639 r640 eσ639) kw_RX8_77 kX8 km_0 (by decide) rfl hl (Nat.le_of_ble_eq_true rfl) rfl dX8_plus_232 (fun H locs hH hS => ?_)
    obtain ⟨rfl, rfl⟩ := rt2 hf
    exact g_iret X hH hS dX8_plus_235
def b_X8_plus_206 (c101 : Int32 → Int64 → Int32 → Sto → Option (Int32 × Sto)) (v3 : Int32) (v6 : Int32) (v7 : Int64) (v9 : Int64) (s0 : Int64) (σ : Sto) : Option (Int32 × Sto) :=
  b_X8_plus_236 c101 v3 s0 v6 v7 v9 σ
set_option maxHeartbeats 4000000 in
set_option maxRecDepth 100000 in
theorem w_X8_plus_206 {p : Program} {l : Launch} {e : Env} {s : State} {m : MethodId} {args : Array Value} {below : List Frame} {meth : Method} {c : Code} {G : Gd} {B : Nat} (X : Cm p s m args meth c cX8_plus 13 RX8 G (some .int)) (c101 : Int32 → Int64 → Int32 → Sto → Option (Int32 × Sto)) {r : Int32} {σr : Sto} (ih101 : ∀ (v3 : Int32) (v4 : Int64) (v6 : Int32) (σ : Sto) (H : Heap) (locs : List Loc) (ls : Array Slot), c101 v3 v4 v6 σ = some (r, σr) → HX G layM B σ H → va_S (inW layM B) s.heap H locs → lv_has ls 13 [(0, .ref (B + 0)), (3, .int v3), (4, .long v4), (6, .int v6)] → WM p l e 3 s m args below meth c H locs G layM B (some (.int r)) σr (F0 m 101 ls [])) (v3 : Int32) (v6 : Int32) (v7 : Int64) (v9 : Int64) (s0 : Int64) (σ : Sto) (hf : b_X8_plus_206 c101 v3 v6 v7 v9 s0 σ = some (r, σr)) (H : Heap) (locs : List Loc) (hH : HX G layM B σ H) (hS : va_S (inW layM B) s.heap H locs) (ls : Array Slot) (hl : lv_has ls 13 [(0, .ref (B + 0)), (3, .int v3), (6, .int v6), (7, .long v7), (9, .long v9)]) : WM p l e 3 s m args below meth c H locs G layM B (some (.int r)) σr (F0 m 206 ls [.long s0]) := by
  unfold b_X8_plus_206 at hf
  have hx := X.1.1
  have hb := X.1.2.1
  refine lv_lstore (lv' := [(4, .long s0), (0, .ref (B + 0)), (3, .int v3), (6, .int v6), (7, .long v7), (9, .long v9)]) hx hb dX8_plus_206 hl (by decide) rfl (fun ls hl => ?_)
  refine lv_goto (tgt := 236) hx hb dX8_plus_208 (by decide) ?_
  exact w_X8_plus_236 X c101 ih101 v3 s0 v6 v7 v9 σ hf _ _ hH hS _ (lv_sub hl [1, 2, 0, 3, 4, 5] rfl)
def b_X8_plus_187 (c101 : Int32 → Int64 → Int32 → Sto → Option (Int32 × Sto)) (v3 : Int32) (v4 : Int64) (v6 : Int32) (v7 : Int64) (v9 : Int64) (s0 : Int64) (σ : Sto) : Option (Int32 × Sto) :=
  if s0 ≤ v4 then (b_X8_plus_206 c101 v3 v6 v7 v9 (v4 - s0) σ) else (b_X8_plus_206 c101 v3 v6 v7 v9 (0 : Int64) σ)
set_option maxHeartbeats 4000000 in
set_option maxRecDepth 100000 in
theorem w_X8_plus_187 {p : Program} {l : Launch} {e : Env} {s : State} {m : MethodId} {args : Array Value} {below : List Frame} {meth : Method} {c : Code} {G : Gd} {B : Nat} (X : Cm p s m args meth c cX8_plus 13 RX8 G (some .int)) (c101 : Int32 → Int64 → Int32 → Sto → Option (Int32 × Sto)) {r : Int32} {σr : Sto} (ih101 : ∀ (v3 : Int32) (v4 : Int64) (v6 : Int32) (σ : Sto) (H : Heap) (locs : List Loc) (ls : Array Slot), c101 v3 v4 v6 σ = some (r, σr) → HX G layM B σ H → va_S (inW layM B) s.heap H locs → lv_has ls 13 [(0, .ref (B + 0)), (3, .int v3), (4, .long v4), (6, .int v6)] → WM p l e 3 s m args below meth c H locs G layM B (some (.int r)) σr (F0 m 101 ls [])) (v3 : Int32) (v4 : Int64) (v6 : Int32) (v7 : Int64) (v9 : Int64) (s0 : Int64) (σ : Sto) (hf : b_X8_plus_187 c101 v3 v4 v6 v7 v9 s0 σ = some (r, σr)) (H : Heap) (locs : List Loc) (hH : HX G layM B σ H) (hS : va_S (inW layM B) s.heap H locs) (ls : Array Slot) (hl : lv_has ls 13 [(0, .ref (B + 0)), (3, .int v3), (4, .long v4), (6, .int v6), (7, .long v7), (9, .long v9)]) : WM p l e 3 s m args below meth c H locs G layM B (some (.int r)) σr (F0 m 187 ls [.long s0]) := by
  unfold b_X8_plus_187 at hf
  have hx := X.1.1
  have hb := X.1.2.1
  refine lv_lstore (lv' := [(11, .long s0), (0, .ref (B + 0)), (3, .int v3), (4, .long v4), (6, .int v6), (7, .long v7), (9, .long v9)]) hx hb dX8_plus_187 hl (by decide) rfl (fun ls hl => ?_)
  refine lv_lload hx hb dX8_plus_189 (lv_at hl 3 rfl) ?_
  refine lv_lload hx hb dX8_plus_191 (lv_at hl 0 rfl) ?_
  refine g_lge (tgt := 201) X.1 dX8_plus_193 dX8_plus_194 (by decide) (fun q849 => ?_) (fun q849 => ?_)
  · replace hf := brT hf q849
    refine lv_lload hx hb dX8_plus_201 (lv_at hl 3 rfl) ?_
    refine lv_lload hx hb dX8_plus_203 (lv_at hl 0 rfl) ?_
    refine lv_lsub hx hb dX8_plus_205 ?_
    exact w_X8_plus_206 X c101 ih101 v3 v6 v7 v9 (v4 - s0) σ hf _ _ hH hS _ (lv_sub hl [1, 2, 4, 5, 6] rfl)
  · replace hf := brF hf q849
    refine lv_lconst (v := 0) hx hb dX8_plus_197 (by decide) ?_
    refine lv_goto (tgt := 206) hx hb dX8_plus_198 (by decide) ?_
    exact w_X8_plus_206 X c101 ih101 v3 v6 v7 v9 (0 : Int64) σ hf _ _ hH hS _ (lv_sub hl [1, 2, 4, 5, 6] rfl)
def b_X8_plus_160 (c101 : Int32 → Int64 → Int32 → Sto → Option (Int32 × Sto)) (v3 : Int32) (v4 : Int64) (v6 : Int32) (v7 : Int64) (v9 : Int64) (σ : Sto) : Option (Int32 × Sto) :=
  bd2 (f_X8_size v7 σ) fun r743 σ742 => bd2 (f_X8_size v9 σ742) fun r745 σ744 => if r745 ≤ r743 then (bd2 (f_X8_size v9 σ744) fun r748 σ747 => b_X8_plus_187 c101 v3 v4 v6 v7 v9 r748 σ747) else (bd2 (f_X8_size v7 σ744) fun r951 σ950 => b_X8_plus_187 c101 v3 v4 v6 v7 v9 r951 σ950)
set_option maxHeartbeats 4000000 in
set_option maxRecDepth 100000 in
theorem w_X8_plus_160 {p : Program} {l : Launch} {e : Env} {s : State} {m : MethodId} {args : Array Value} {below : List Frame} {meth : Method} {c : Code} {G : Gd} {B : Nat} (X : Cm p s m args meth c cX8_plus 13 RX8 G (some .int)) (c101 : Int32 → Int64 → Int32 → Sto → Option (Int32 × Sto)) {r : Int32} {σr : Sto} (ih101 : ∀ (v3 : Int32) (v4 : Int64) (v6 : Int32) (σ : Sto) (H : Heap) (locs : List Loc) (ls : Array Slot), c101 v3 v4 v6 σ = some (r, σr) → HX G layM B σ H → va_S (inW layM B) s.heap H locs → lv_has ls 13 [(0, .ref (B + 0)), (3, .int v3), (4, .long v4), (6, .int v6)] → WM p l e 3 s m args below meth c H locs G layM B (some (.int r)) σr (F0 m 101 ls [])) (v3 : Int32) (v4 : Int64) (v6 : Int32) (v7 : Int64) (v9 : Int64) (σ : Sto) (hf : b_X8_plus_160 c101 v3 v4 v6 v7 v9 σ = some (r, σr)) (H : Heap) (locs : List Loc) (hH : HX G layM B σ H) (hS : va_S (inW layM B) s.heap H locs) (ls : Array Slot) (hl : lv_has ls 13 [(0, .ref (B + 0)), (3, .int v3), (4, .long v4), (6, .int v6), (7, .long v7), (9, .long v9)]) : WM p l e 3 s m args below meth c H locs G layM B (some (.int r)) σr (F0 m 160 ls []) := by
  unfold b_X8_plus_160 at hf
  have hx := X.1.1
  have hb := X.1.2.1
  refine lv_lload hx hb dX8_plus_160 (lv_at hl 4 rfl) ?_
  obtain ⟨r743, σ742, eσ742, hf⟩ := bnd2 hf
  refine g_cSl (As := [.long v7]) X.1 hH hS (c_X8_size l G B v7 σ σ742 r743 eσ742) kw_RX8_187 (by decide) rfl hl (Nat.le_of_ble_eq_true rfl) rfl dX8_plus_162 (fun H locs hH hS => ?_)
  refine lv_lload hx hb dX8_plus_165 (lv_at hl 5 rfl) ?_
  obtain ⟨r745, σ744, eσ744, hf⟩ := bnd2 hf
  refine g_cSl (As := [.long v9]) X.1 hH hS (c_X8_size l G B v9 σ742 σ744 r745 eσ744) kw_RX8_187 (by decide) rfl hl (Nat.le_of_ble_eq_true rfl) rfl dX8_plus_167 (fun H locs hH hS => ?_)
  refine g_lge (tgt := 182) X.1 dX8_plus_170 dX8_plus_171 (by decide) (fun q746 => ?_) (fun q746 => ?_)
  · replace hf := brT hf q746
    refine lv_lload hx hb dX8_plus_182 (lv_at hl 5 rfl) ?_
    obtain ⟨r748, σ747, eσ747, hf⟩ := bnd2 hf
    refine g_cSl (As := [.long v9]) X.1 hH hS (c_X8_size l G B v9 σ744 σ747 r748 eσ747) kw_RX8_187 (by decide) rfl hl (Nat.le_of_ble_eq_true rfl) rfl dX8_plus_184 (fun H locs hH hS => ?_)
    exact w_X8_plus_187 X c101 ih101 v3 v4 v6 v7 v9 r748 σ747 hf _ _ hH hS _ (lv_sub hl [0, 1, 2, 3, 4, 5] rfl)
  · replace hf := brF hf q746
    refine lv_lload hx hb dX8_plus_174 (lv_at hl 4 rfl) ?_
    obtain ⟨r951, σ950, eσ950, hf⟩ := bnd2 hf
    refine g_cSl (As := [.long v7]) X.1 hH hS (c_X8_size l G B v7 σ744 σ950 r951 eσ950) kw_RX8_187 (by decide) rfl hl (Nat.le_of_ble_eq_true rfl) rfl dX8_plus_176 (fun H locs hH hS => ?_)
    refine lv_goto (tgt := 187) hx hb dX8_plus_179 (by decide) ?_
    exact w_X8_plus_187 X c101 ih101 v3 v4 v6 v7 v9 r951 σ950 hf _ _ hH hS _ (lv_sub hl [0, 1, 2, 3, 4, 5] rfl)
def b_X8_plus_146 (c101 : Int32 → Int64 → Int32 → Sto → Option (Int32 × Sto)) (v3 : Int32) (v4 : Int64) (v6 : Int32) (v7 : Int64) (v9 : Int64) (σ : Sto) : Option (Int32 × Sto) :=
  if v7 ≤ (0 : Int64) then (b_X8_plus_211 c101 v3 v4 v6 v7 v9 σ) else (if (0 : Int64) ≤ v9 then (b_X8_plus_211 c101 v3 v4 v6 v7 v9 σ) else (b_X8_plus_160 c101 v3 v4 v6 v7 v9 σ))
set_option maxHeartbeats 4000000 in
set_option maxRecDepth 100000 in
theorem w_X8_plus_146 {p : Program} {l : Launch} {e : Env} {s : State} {m : MethodId} {args : Array Value} {below : List Frame} {meth : Method} {c : Code} {G : Gd} {B : Nat} (X : Cm p s m args meth c cX8_plus 13 RX8 G (some .int)) (c101 : Int32 → Int64 → Int32 → Sto → Option (Int32 × Sto)) {r : Int32} {σr : Sto} (ih101 : ∀ (v3 : Int32) (v4 : Int64) (v6 : Int32) (σ : Sto) (H : Heap) (locs : List Loc) (ls : Array Slot), c101 v3 v4 v6 σ = some (r, σr) → HX G layM B σ H → va_S (inW layM B) s.heap H locs → lv_has ls 13 [(0, .ref (B + 0)), (3, .int v3), (4, .long v4), (6, .int v6)] → WM p l e 3 s m args below meth c H locs G layM B (some (.int r)) σr (F0 m 101 ls [])) (v3 : Int32) (v4 : Int64) (v6 : Int32) (v7 : Int64) (v9 : Int64) (σ : Sto) (hf : b_X8_plus_146 c101 v3 v4 v6 v7 v9 σ = some (r, σr)) (H : Heap) (locs : List Loc) (hH : HX G layM B σ H) (hS : va_S (inW layM B) s.heap H locs) (ls : Array Slot) (hl : lv_has ls 13 [(0, .ref (B + 0)), (3, .int v3), (4, .long v4), (6, .int v6), (7, .long v7), (9, .long v9)]) : WM p l e 3 s m args below meth c H locs G layM B (some (.int r)) σr (F0 m 146 ls []) := by
  unfold b_X8_plus_146 at hf
  have hx := X.1.1
  have hb := X.1.2.1
  refine lv_lload hx hb dX8_plus_146 (lv_at hl 4 rfl) ?_
  refine lv_lconst (v := 0) hx hb dX8_plus_148 (by decide) ?_
  refine g_lle (tgt := 211) X.1 dX8_plus_149 dX8_plus_150 (by decide) (fun q431 => ?_) (fun q431 => ?_)
  · replace hf := brT hf q431
    exact w_X8_plus_211 X c101 ih101 v3 v4 v6 v7 v9 σ hf _ _ hH hS _ (lv_sub hl [0, 1, 2, 3, 4, 5] rfl)
  · replace hf := brF hf q431
    refine lv_lload hx hb dX8_plus_153 (lv_at hl 5 rfl) ?_
    refine lv_lconst (v := 0) hx hb dX8_plus_155 (by decide) ?_
    refine g_lge (tgt := 211) X.1 dX8_plus_156 dX8_plus_157 (by decide) (fun q641 => ?_) (fun q641 => ?_)
    · replace hf := brT hf q641
      exact w_X8_plus_211 X c101 ih101 v3 v4 v6 v7 v9 σ hf _ _ hH hS _ (lv_sub hl [0, 1, 2, 3, 4, 5] rfl)
    · replace hf := brF hf q641
      exact w_X8_plus_160 X c101 ih101 v3 v4 v6 v7 v9 σ hf _ _ hH hS _ (lv_sub hl [0, 1, 2, 3, 4, 5] rfl)
def b_X8_plus_101 (c101 : Int32 → Int64 → Int32 → Sto → Option (Int32 × Sto)) (v3 : Int32) (v4 : Int64) (v6 : Int32) (σ : Sto) : Option (Int32 × Sto) :=
  if (8 : Int32) ≤ v6 then (nmS (pL σ 11 1 v4) fun σ321 => bd2 (f_X8_comes (4 : Int32) σ321) fun r323 σ322 => bd2 (f_X8_well r323 σ322) fun r325 σ324 => some (r325, σ324)) else (if (((2 : Int32) + v6) < 0 ∨ 10 ≤ ((2 : Int32) + v6).toNatClampNeg) then none else nmS (σ.2 11 ((2 : Int32) + v6).toNatClampNeg) fun y327 => if (((v3 + (2 : Int32)) + v6) < 0 ∨ 312 ≤ ((v3 + (2 : Int32)) + v6).toNatClampNeg) then none else nmS (σ.2 6 ((v3 + (2 : Int32)) + v6).toNatClampNeg) fun y329 => if (0 : Int64) ≤ y327 then (b_X8_plus_146 c101 v3 v4 v6 y327 y329 σ) else (if (0 : Int64) < y329 then (b_X8_plus_160 c101 v3 v4 v6 y327 y329 σ) else (b_X8_plus_146 c101 v3 v4 v6 y327 y329 σ)))
set_option maxHeartbeats 4000000 in
set_option maxRecDepth 100000 in
theorem w_X8_plus_101 {p : Program} {l : Launch} {e : Env} {s : State} {m : MethodId} {args : Array Value} {below : List Frame} {meth : Method} {c : Code} {G : Gd} {B : Nat} (X : Cm p s m args meth c cX8_plus 13 RX8 G (some .int)) (c101 : Int32 → Int64 → Int32 → Sto → Option (Int32 × Sto)) {r : Int32} {σr : Sto} (ih101 : ∀ (v3 : Int32) (v4 : Int64) (v6 : Int32) (σ : Sto) (H : Heap) (locs : List Loc) (ls : Array Slot), c101 v3 v4 v6 σ = some (r, σr) → HX G layM B σ H → va_S (inW layM B) s.heap H locs → lv_has ls 13 [(0, .ref (B + 0)), (3, .int v3), (4, .long v4), (6, .int v6)] → WM p l e 3 s m args below meth c H locs G layM B (some (.int r)) σr (F0 m 101 ls [])) (v3 : Int32) (v4 : Int64) (v6 : Int32) (σ : Sto) (hf : b_X8_plus_101 c101 v3 v4 v6 σ = some (r, σr)) (H : Heap) (locs : List Loc) (hH : HX G layM B σ H) (hS : va_S (inW layM B) s.heap H locs) (ls : Array Slot) (hl : lv_has ls 13 [(0, .ref (B + 0)), (3, .int v3), (4, .long v4), (6, .int v6)]) : WM p l e 3 s m args below meth c H locs G layM B (some (.int r)) σr (F0 m 101 ls []) := by
  unfold b_X8_plus_101 at hf
  have hx := X.1.1
  have hb := X.1.2.1
  refine lv_iload hx hb dX8_plus_101 (lv_at hl 3 rfl) ?_
  refine lv_bipush (v := 8) hx hb dX8_plus_103 (by decide) ?_
  refine lv_icmp_ge (tgt := 256) hx hb dX8_plus_105 (by decide) (fun q320 => ?_) (fun q320 => ?_)
  · replace hf := brT hf q320
    refine lv_aload_n hx hb dX8_plus_256 rfl (lv_at hl 0 rfl) ?_
    refine g_get (v := .ref (B + 11)) kX8 (by decide) fl_RX8_42 X.1 hH km_0 rfl dX8_plus_257 ?_
    refine lv_iconst (v := 1) hx hb dX8_plus_260 (by decide) ?_
    refine lv_lload hx hb dX8_plus_261 (lv_at hl 2 rfl) ?_
    refine g_last (j := 1) X.1 hH hS km_11 (by decide) rfl dX8_plus_263 (fun H locs hH hS => ?_)
    obtain ⟨σ321, eσ321, hH⟩ := nmX hH
    replace hf := nmU hf eσ321
    refine lv_aload_n hx hb dX8_plus_264 rfl (lv_at hl 0 rfl) ?_
    refine lv_aload_n hx hb dX8_plus_265 rfl (lv_at hl 0 rfl) ?_
    refine lv_iconst (v := 4) hx hb dX8_plus_266 (by decide) ?_
    obtain ⟨r323, σ322, eσ322, hf⟩ := bnd2 hf
    refine g_cVi (As := [.int (4 : Int32)]) X.1 hH hS (c_X8_comes l G B (4 : Int32) σ321 σ322 r323 eσ322) kw_RX8_191 kX8 km_0 (by decide) rfl hl (Nat.le_of_ble_eq_true rfl) rfl dX8_plus_267 (fun H locs hH hS => ?_)
    obtain ⟨r325, σ324, eσ324, hf⟩ := bnd2 hf
    refine g_cVi (As := [.int r323]) X.1 hH hS (c_X8_well l G B r323 σ322 σ324 r325 eσ324) kw_RX8_81 kX8 km_0 (by decide) rfl hl (Nat.le_of_ble_eq_true rfl) rfl dX8_plus_270 (fun H locs hH hS => ?_)
    obtain ⟨rfl, rfl⟩ := rt2 hf
    exact g_iret X hH hS dX8_plus_273
  · replace hf := brF hf q320
    refine lv_aload_n hx hb dX8_plus_108 rfl (lv_at hl 0 rfl) ?_
    refine g_get (v := .ref (B + 11)) kX8 (by decide) fl_RX8_42 X.1 hH km_0 rfl dX8_plus_109 ?_
    refine lv_iconst (v := 2) hx hb dX8_plus_112 (by decide) ?_
    refine lv_iload hx hb dX8_plus_113 (lv_at hl 3 rfl) ?_
    refine lv_iadd hx hb dX8_plus_115 ?_
    obtain ⟨q326, hf⟩ := chk hf
    refine g_lald (j := ((2 : Int32) + v6).toNatClampNeg) X.1 hH km_11 q326 rfl dX8_plus_116 ?_
    refine lv_topl (fun y327 ey327 => ?_)
    replace hf := nmU hf ey327
    refine lv_lstore (lv' := [(7, .long y327), (0, .ref (B + 0)), (3, .int v3), (4, .long v4), (6, .int v6)]) hx hb dX8_plus_117 hl (by decide) rfl (fun ls hl => ?_)
    refine lv_aload_n hx hb dX8_plus_119 rfl (lv_at hl 1 rfl) ?_
    refine g_get (v := .ref (B + 6)) kX8 (by decide) fl_RX8_25 X.1 hH km_0 rfl dX8_plus_120 ?_
    refine lv_iload_n hx hb dX8_plus_123 rfl (lv_at hl 2 rfl) ?_
    refine lv_iconst (v := 2) hx hb dX8_plus_124 (by decide) ?_
    refine lv_iadd hx hb dX8_plus_125 ?_
    refine lv_iload hx hb dX8_plus_126 (lv_at hl 4 rfl) ?_
    refine lv_iadd hx hb dX8_plus_128 ?_
    obtain ⟨q328, hf⟩ := chk hf
    refine g_lald (j := ((v3 + (2 : Int32)) + v6).toNatClampNeg) X.1 hH km_6 q328 rfl dX8_plus_129 ?_
    refine lv_topl (fun y329 ey329 => ?_)
    replace hf := nmU hf ey329
    refine lv_lstore (lv' := [(9, .long y329), (7, .long y327), (0, .ref (B + 0)), (3, .int v3), (4, .long v4), (6, .int v6)]) hx hb dX8_plus_130 hl (by decide) rfl (fun ls hl => ?_)
    refine lv_lload hx hb dX8_plus_132 (lv_at hl 1 rfl) ?_
    refine lv_lconst (v := 0) hx hb dX8_plus_134 (by decide) ?_
    refine g_lge (tgt := 146) X.1 dX8_plus_135 dX8_plus_136 (by decide) (fun q330 => ?_) (fun q330 => ?_)
    · replace hf := brT hf q330
      exact w_X8_plus_146 X c101 ih101 v3 v4 v6 y327 y329 σ hf _ _ hH hS _ (lv_sub hl [2, 3, 4, 5, 1, 0] rfl)
    · replace hf := brF hf q330
      refine lv_lload hx hb dX8_plus_139 (lv_at hl 0 rfl) ?_
      refine lv_lconst (v := 0) hx hb dX8_plus_141 (by decide) ?_
      refine g_lgt (tgt := 160) X.1 dX8_plus_142 dX8_plus_143 (by decide) (fun q952 => ?_) (fun q952 => ?_)
      · replace hf := brT hf q952
        exact w_X8_plus_160 X c101 ih101 v3 v4 v6 y327 y329 σ hf _ _ hH hS _ (lv_sub hl [2, 3, 4, 5, 1, 0] rfl)
      · replace hf := brF hf q952
        exact w_X8_plus_146 X c101 ih101 v3 v4 v6 y327 y329 σ hf _ _ hH hS _ (lv_sub hl [2, 3, 4, 5, 1, 0] rfl)
def l_X8_plus_101 : Nat → Int32 → Int64 → Int32 → Sto → Option (Int32 × Sto)
  | 0, _, _, _, _ => none
  | n + 1, v3, v4, v6, σ => b_X8_plus_101 (l_X8_plus_101 n) v3 v4 v6 σ
set_option maxHeartbeats 4000000 in
set_option maxRecDepth 100000 in
theorem wl_X8_plus_101 {p : Program} {l : Launch} {e : Env} {s : State} {m : MethodId} {args : Array Value} {below : List Frame} {meth : Method} {c : Code} {G : Gd} {B : Nat} (X : Cm p s m args meth c cX8_plus 13 RX8 G (some .int)) {r : Int32} {σr : Sto} (n : Nat) : ∀ (v3 : Int32) (v4 : Int64) (v6 : Int32) (σ : Sto) (H : Heap) (locs : List Loc) (ls : Array Slot), l_X8_plus_101 n v3 v4 v6 σ = some (r, σr) → HX G layM B σ H → va_S (inW layM B) s.heap H locs → lv_has ls 13 [(0, .ref (B + 0)), (3, .int v3), (4, .long v4), (6, .int v6)] → WM p l e 3 s m args below meth c H locs G layM B (some (.int r)) σr (F0 m 101 ls []) := by
  induction n with
  | zero =>
    intro _ _ _ σ H locs ls hf
    cases hf
  | succ n ih =>
    intro v3 v4 v6 σ H locs ls hf hH hS hl
    exact w_X8_plus_101 X (l_X8_plus_101 n) ih v3 v4 v6 σ hf H locs hH hS ls hl
def f_X8_plus (x1 : Int32) (x2 : Int32) (σ : Sto) : Option (Int32 × Sto) :=
  bd2 (f_X8_isFormula σ) fun r102 σ101 => if r102 = 0 then (some ((-1000002 : Int32), σ101)) else (bd2 (f_X8_isLive x1 σ101) fun r105 σ104 => if r105 = 0 then (b_X8_plus_26 σ104) else (bd2 (f_X8_isLive x2 σ104) fun r208 σ207 => if r208 = 0 then (b_X8_plus_26 σ207) else (bd2 (f_X8_isFull σ207) fun r211 σ210 => if r211 = 0 then (bd1 (f_X8_takesClause x1 σ210) fun σ213 => nmS ((12 : Int32) + ((10 : Int32) * x2)) fun y215 => if ((y215 + (1 : Int32)) < 0 ∨ 312 ≤ (y215 + (1 : Int32)).toNatClampNeg) then none else if (σ213.2 11 1) ≤ ((9223372036854775807 : Int64) - (σ213.2 6 (y215 + (1 : Int32)).toNatClampNeg)) then (if ((y215 + (1 : Int32)) < 0 ∨ 312 ≤ (y215 + (1 : Int32)).toNatClampNeg) then none else nmS ((σ213.2 11 1) + (σ213.2 6 (y215 + (1 : Int32)).toNatClampNeg)) fun y219 => l_X8_plus_101 400 y215 y219 (0 : Int32) σ213) else (bd2 (f_X8_found (6 : Int32) σ213) fun r954 σ953 => some (r954, σ953))) else (some ((-1000003 : Int32), σ210)))))
set_option maxHeartbeats 4000000 in
set_option maxRecDepth 100000 in
theorem w_X8_plus {p : Program} {l : Launch} {e : Env} {s : State} {m : MethodId} {args : Array Value} {below : List Frame} {meth : Method} {c : Code} {G : Gd} {B : Nat} (X : Cm p s m args meth c cX8_plus 13 RX8 G (some .int)) {r : Int32} {σr : Sto} (x1 : Int32) (x2 : Int32) (σ : Sto) (hf : f_X8_plus x1 x2 σ = some (r, σr)) (H : Heap) (locs : List Loc) (hH : HX G layM B σ H) (hS : va_S (inW layM B) s.heap H locs) (ls : Array Slot) (hl : lv_has ls 13 [(0, .ref (B + 0)), (1, .int x1), (2, .int x2)]) : WM p l e 3 s m args below meth c H locs G layM B (some (.int r)) σr (F0 m 0 ls []) := by
  unfold f_X8_plus at hf
  have hx := X.1.1
  have hb := X.1.2.1
  refine lv_aload_n hx hb dX8_plus_0 rfl (lv_at hl 0 rfl) ?_
  obtain ⟨r102, σ101, eσ101, hf⟩ := bnd2 hf
  refine g_cVi (As := []) X.1 hH hS (c_X8_isFormula l G B σ σ101 r102 eσ101) kw_RX8_171 kX8 km_0 (by decide) rfl hl (Nat.le_of_ble_eq_true rfl) rfl dX8_plus_1 (fun H locs hH hS => ?_)
  refine lv_if_ne (tgt := 10) hx hb dX8_plus_4 (by decide) (fun q103 => ?_) (fun q103 => ?_)
  · replace hf := brF hf q103
    refine lv_aload_n hx hb dX8_plus_10 rfl (lv_at hl 0 rfl) ?_
    refine lv_iload_n hx hb dX8_plus_11 rfl (lv_at hl 1 rfl) ?_
    obtain ⟨r105, σ104, eσ104, hf⟩ := bnd2 hf
    refine g_cVi (As := [.int x1]) X.1 hH hS (c_X8_isLive l G B x1 σ101 σ104 r105 eσ104) kw_RX8_175 kX8 km_0 (by decide) rfl hl (Nat.le_of_ble_eq_true rfl) rfl dX8_plus_12 (fun H locs hH hS => ?_)
    refine lv_if_eq (tgt := 26) hx hb dX8_plus_15 (by decide) (fun q106 => ?_) (fun q106 => ?_)
    · replace hf := brT hf q106
      exact w_X8_plus_26 X σ104 hf _ _ hH hS _ (lv_sub hl [] rfl)
    · replace hf := brF hf q106
      refine lv_aload_n hx hb dX8_plus_18 rfl (lv_at hl 0 rfl) ?_
      refine lv_iload_n hx hb dX8_plus_19 rfl (lv_at hl 2 rfl) ?_
      obtain ⟨r208, σ207, eσ207, hf⟩ := bnd2 hf
      refine g_cVi (As := [.int x2]) X.1 hH hS (c_X8_isLive l G B x2 σ104 σ207 r208 eσ207) kw_RX8_175 kX8 km_0 (by decide) rfl hl (Nat.le_of_ble_eq_true rfl) rfl dX8_plus_20 (fun H locs hH hS => ?_)
      refine lv_if_ne (tgt := 29) hx hb dX8_plus_23 (by decide) (fun q209 => ?_) (fun q209 => ?_)
      · replace hf := brF hf q209
        refine lv_aload_n hx hb dX8_plus_29 rfl (lv_at hl 0 rfl) ?_
        obtain ⟨r211, σ210, eσ210, hf⟩ := bnd2 hf
        refine g_cVi (As := []) X.1 hH hS (c_X8_isFull l G B σ207 σ210 r211 eσ210) kw_RX8_178 kX8 km_0 (by decide) rfl hl (Nat.le_of_ble_eq_true rfl) rfl dX8_plus_30 (fun H locs hH hS => ?_)
        refine lv_if_eq (tgt := 39) hx hb dX8_plus_33 (by decide) (fun q212 => ?_) (fun q212 => ?_)
        · replace hf := brT hf q212
          refine lv_aload_n hx hb dX8_plus_39 rfl (lv_at hl 0 rfl) ?_
          refine lv_iload_n hx hb dX8_plus_40 rfl (lv_at hl 1 rfl) ?_
          obtain ⟨σ213, eσ213, hf⟩ := bnd1 hf
          refine g_cVv (As := [.int x1]) X.1 hH hS (c_X8_takesClause l G B x1 σ210 σ213 eσ213) kw_RX8_181 kX8 km_0 (by decide) rfl hl (Nat.le_of_ble_eq_true rfl) rfl dX8_plus_41 (fun H locs hH hS => ?_)
          refine lv_bipush (v := 12) hx hb dX8_plus_44 (by decide) ?_
          refine lv_bipush (v := 10) hx hb dX8_plus_46 (by decide) ?_
          refine lv_iload_n hx hb dX8_plus_48 rfl (lv_at hl 2 rfl) ?_
          refine lv_imul hx hb dX8_plus_49 ?_
          refine lv_iadd hx hb dX8_plus_50 ?_
          refine lv_topi (fun y215 ey215 => ?_)
          replace hf := nmU hf ey215
          refine lv_istore_n (lv' := [(3, .int y215), (0, .ref (B + 0)), (1, .int x1), (2, .int x2)]) hx hb dX8_plus_51 rfl hl (by decide) rfl (fun ls hl => ?_)
          refine lv_aload_n hx hb dX8_plus_52 rfl (lv_at hl 1 rfl) ?_
          refine g_get (v := .ref (B + 11)) kX8 (by decide) fl_RX8_42 X.1 hH km_0 rfl dX8_plus_53 ?_
          refine lv_iconst (v := 1) hx hb dX8_plus_56 (by decide) ?_
          refine g_lald (j := 1) X.1 hH km_11 (by decide) rfl dX8_plus_57 ?_
          refine lv_ldc2 (v := 9223372036854775807) hx hb X.1.2.2.2.1 (X.1.2.2.2.2.1 _ kc_RX8_185) dX8_plus_58 ?_
          refine lv_aload_n hx hb dX8_plus_61 rfl (lv_at hl 1 rfl) ?_
          refine g_get (v := .ref (B + 6)) kX8 (by decide) fl_RX8_25 X.1 hH km_0 rfl dX8_plus_62 ?_
          refine lv_iload_n hx hb dX8_plus_65 rfl (lv_at hl 0 rfl) ?_
          refine lv_iconst (v := 1) hx hb dX8_plus_66 (by decide) ?_
          refine lv_iadd hx hb dX8_plus_67 ?_
          obtain ⟨q216, hf⟩ := chk hf
          refine g_lald (j := (y215 + (1 : Int32)).toNatClampNeg) X.1 hH km_6 q216 rfl dX8_plus_68 ?_
          refine lv_lsub hx hb dX8_plus_69 ?_
          refine g_lle (tgt := 81) X.1 dX8_plus_70 dX8_plus_71 (by decide) (fun q217 => ?_) (fun q217 => ?_)
          · replace hf := brT hf q217
            refine lv_aload_n hx hb dX8_plus_81 rfl (lv_at hl 1 rfl) ?_
            refine g_get (v := .ref (B + 11)) kX8 (by decide) fl_RX8_42 X.1 hH km_0 rfl dX8_plus_82 ?_
            refine lv_iconst (v := 1) hx hb dX8_plus_85 (by decide) ?_
            refine g_lald (j := 1) X.1 hH km_11 (by decide) rfl dX8_plus_86 ?_
            refine lv_aload_n hx hb dX8_plus_87 rfl (lv_at hl 1 rfl) ?_
            refine g_get (v := .ref (B + 6)) kX8 (by decide) fl_RX8_25 X.1 hH km_0 rfl dX8_plus_88 ?_
            refine lv_iload_n hx hb dX8_plus_91 rfl (lv_at hl 0 rfl) ?_
            refine lv_iconst (v := 1) hx hb dX8_plus_92 (by decide) ?_
            refine lv_iadd hx hb dX8_plus_93 ?_
            obtain ⟨q218, hf⟩ := chk hf
            refine g_lald (j := (y215 + (1 : Int32)).toNatClampNeg) X.1 hH km_6 q218 rfl dX8_plus_94 ?_
            refine lv_ladd hx hb dX8_plus_95 ?_
            refine lv_topl (fun y219 ey219 => ?_)
            replace hf := nmU hf ey219
            refine lv_lstore (lv' := [(4, .long y219), (3, .int y215), (0, .ref (B + 0)), (1, .int x1), (2, .int x2)]) hx hb dX8_plus_96 hl (by decide) rfl (fun ls hl => ?_)
            refine lv_iconst (v := 0) hx hb dX8_plus_98 (by decide) ?_
            refine lv_istore (lv' := [(6, .int (0 : Int32)), (4, .long y219), (3, .int y215), (0, .ref (B + 0)), (1, .int x1), (2, .int x2)]) hx hb dX8_plus_99 hl (by decide) rfl (fun ls hl => ?_)
            exact wl_X8_plus_101 X 400 y215 y219 (0 : Int32) σ213 _ _ _ hf hH hS (lv_sub hl [3, 2, 1, 0] rfl)
          · replace hf := brF hf q217
            refine lv_aload_n hx hb dX8_plus_74 rfl (lv_at hl 1 rfl) ?_
            refine lv_bipush (v := 6) hx hb dX8_plus_75 (by decide) ?_
            obtain ⟨r954, σ953, eσ953, hf⟩ := bnd2 hf
            refine g_cVi (As := [.int (6 : Int32)]) X.1 hH hS (c_X8_found l G B (6 : Int32) σ213 σ953 r954 eσ953) kw_RX8_77 kX8 km_0 (by decide) rfl hl (Nat.le_of_ble_eq_true rfl) rfl dX8_plus_77 (fun H locs hH hS => ?_)
            obtain ⟨rfl, rfl⟩ := rt2 hf
            exact g_iret X hH hS dX8_plus_80
        · replace hf := brF hf q212
          refine lv_ldc (v := -1000003) hx hb X.1.2.2.2.1 (X.1.2.2.2.2.1 _ kc_RX8_97) dX8_plus_36 ?_
          obtain ⟨rfl, rfl⟩ := rt2 hf
          exact g_iret X hH hS dX8_plus_38
      · replace hf := brT hf q209
        exact w_X8_plus_26 X σ207 hf _ _ hH hS _ (lv_sub hl [] rfl)
  · replace hf := brT hf q103
    refine lv_ldc (v := -1000002) hx hb X.1.2.2.2.1 (X.1.2.2.2.2.1 _ kc_RX8_174) dX8_plus_7 ?_
    obtain ⟨rfl, rfl⟩ := rt2 hf
    exact g_iret X hH hS dX8_plus_9
theorem c_X8_plus (l : Launch) (G : Gd) (B : Nat) (x1 : Int32) (x2 : Int32) (σ σr : Sto) (r : Int32) (hf : f_X8_plus x1 x2 σ = some (r, σr)) : Ct l G layM B yX8_plus cX8_plus 13 (some .int) 3 [.ref (B + 0), .int x1, .int x2] (some (.int r)) σ σr :=
  Ct.ofW (by decide) (Nat.le_of_ble_eq_true rfl) (fun _ _ _ _ _ _ _ X hH hS ls hl => w_X8_plus X x1 x2 σ hf _ _ hH hS ls (show lv_has ls 13 [(0, .ref (B + 0)), (1, .int x1), (2, .int x2)] from hl))
-- SlackProofsModel.price(I)I  (D 1)
def b_X8_price_22 (s0 : Int32) (σ : Sto) : Option (Int32 × Sto) :=
  some (s0, σ)
set_option maxHeartbeats 4000000 in
set_option maxRecDepth 100000 in
theorem w_X8_price_22 {p : Program} {l : Launch} {e : Env} {s : State} {m : MethodId} {args : Array Value} {below : List Frame} {meth : Method} {c : Code} {G : Gd} {B : Nat} (X : Cm p s m args meth c cX8_price 2 RX8 G (some .int)) {r : Int32} {σr : Sto} (s0 : Int32) (σ : Sto) (hf : b_X8_price_22 s0 σ = some (r, σr)) (H : Heap) (locs : List Loc) (hH : HX G layM B σ H) (hS : va_S (inW layM B) s.heap H locs) (ls : Array Slot) (hl : lv_has ls 2 []) : WM p l e 1 s m args below meth c H locs G layM B (some (.int r)) σr (F0 m 22 ls [.int s0]) := by
  unfold b_X8_price_22 at hf
  have hx := X.1.1
  have hb := X.1.2.1
  obtain ⟨rfl, rfl⟩ := rt2 hf
  exact g_iret X hH hS dX8_price_22
def f_X8_price (x1 : Int32) (σ : Sto) : Option (Int32 × Sto) :=
  bd2 (f_X8_in x1 (0 : Int32) (7 : Int32) σ) fun r102 σ101 => if r102 = 0 then (b_X8_price_22 (-1000001 : Int32) σ101) else (if (x1 < 0 ∨ 312 ≤ x1.toNatClampNeg) then none else b_X8_price_22 ((σ101.2 6 x1.toNatClampNeg).toInt32) σ101)
set_option maxHeartbeats 4000000 in
set_option maxRecDepth 100000 in
theorem w_X8_price {p : Program} {l : Launch} {e : Env} {s : State} {m : MethodId} {args : Array Value} {below : List Frame} {meth : Method} {c : Code} {G : Gd} {B : Nat} (X : Cm p s m args meth c cX8_price 2 RX8 G (some .int)) {r : Int32} {σr : Sto} (x1 : Int32) (σ : Sto) (hf : f_X8_price x1 σ = some (r, σr)) (H : Heap) (locs : List Loc) (hH : HX G layM B σ H) (hS : va_S (inW layM B) s.heap H locs) (ls : Array Slot) (hl : lv_has ls 2 [(0, .ref (B + 0)), (1, .int x1)]) : WM p l e 1 s m args below meth c H locs G layM B (some (.int r)) σr (F0 m 0 ls []) := by
  unfold f_X8_price at hf
  have hx := X.1.1
  have hb := X.1.2.1
  refine lv_iload_n hx hb dX8_price_0 rfl (lv_at hl 1 rfl) ?_
  refine lv_iconst (v := 0) hx hb dX8_price_1 (by decide) ?_
  refine lv_bipush (v := 7) hx hb dX8_price_2 (by decide) ?_
  obtain ⟨r102, σ101, eσ101, hf⟩ := bnd2 hf
  refine g_cSi (As := [.int x1, .int (0 : Int32), .int (7 : Int32)]) X.1 hH hS (c_X8_in l G B x1 (0 : Int32) (7 : Int32) σ σ101 r102 eσ101) kw_RX8_68 (by decide) rfl hl (Nat.le_of_ble_eq_true rfl) rfl dX8_price_4 (fun H locs hH hS => ?_)
  refine lv_if_eq (tgt := 20) hx hb dX8_price_7 (by decide) (fun q103 => ?_) (fun q103 => ?_)
  · replace hf := brT hf q103
    refine lv_ldc (v := -1000001) hx hb X.1.2.2.2.1 (X.1.2.2.2.2.1 _ kc_RX8_76) dX8_price_20 ?_
    exact w_X8_price_22 X (-1000001 : Int32) σ101 hf _ _ hH hS _ (lv_sub hl [] rfl)
  · replace hf := brF hf q103
    refine lv_aload_n hx hb dX8_price_10 rfl (lv_at hl 0 rfl) ?_
    refine g_get (v := .ref (B + 6)) kX8 (by decide) fl_RX8_25 X.1 hH km_0 rfl dX8_price_11 ?_
    refine lv_iload_n hx hb dX8_price_14 rfl (lv_at hl 1 rfl) ?_
    obtain ⟨q204, hf⟩ := chk hf
    refine g_lald (j := x1.toNatClampNeg) X.1 hH km_6 q204 rfl dX8_price_15 ?_
    refine lv_l2i hx hb dX8_price_16 rfl ?_
    refine lv_goto (tgt := 22) hx hb dX8_price_17 (by decide) ?_
    exact w_X8_price_22 X ((σ101.2 6 x1.toNatClampNeg).toInt32) σ101 hf _ _ hH hS _ (lv_sub hl [] rfl)
theorem c_X8_price (l : Launch) (G : Gd) (B : Nat) (x1 : Int32) (σ σr : Sto) (r : Int32) (hf : f_X8_price x1 σ = some (r, σr)) : Ct l G layM B yX8_price cX8_price 2 (some .int) 1 [.ref (B + 0), .int x1] (some (.int r)) σ σr :=
  Ct.ofW (by decide) (Nat.le_of_ble_eq_true rfl) (fun _ _ _ _ _ _ _ X hH hS ls hl => w_X8_price X x1 σ hf _ _ hH hS ls (show lv_has ls 2 [(0, .ref (B + 0)), (1, .int x1)] from hl))
-- SlackProofsModel.priceOf(I)I  (D 1)
def b_X8_priceOf_30 (c4 : Int32 → Int32 → Int32 → Sto → Option (Int32 × Sto)) (v1 : Int32) (v3 : Int32) (s0 : Int32) (s1 : Int32) (σ : Sto) : Option (Int32 × Sto) :=
  nmS (s1 + s0) fun y305 => c4 v1 y305 (v3 + (1 : Int32)) σ
set_option maxHeartbeats 4000000 in
set_option maxRecDepth 100000 in
theorem w_X8_priceOf_30 {p : Program} {l : Launch} {e : Env} {s : State} {m : MethodId} {args : Array Value} {below : List Frame} {meth : Method} {c : Code} {G : Gd} {B : Nat} (X : Cm p s m args meth c cX8_priceOf 4 RX8 G (some .int)) (c4 : Int32 → Int32 → Int32 → Sto → Option (Int32 × Sto)) {r : Int32} {σr : Sto} (ih4 : ∀ (v1 : Int32) (v2 : Int32) (v3 : Int32) (σ : Sto) (H : Heap) (locs : List Loc) (ls : Array Slot), c4 v1 v2 v3 σ = some (r, σr) → HX G layM B σ H → va_S (inW layM B) s.heap H locs → lv_has ls 4 [(0, .ref (B + 0)), (1, .int v1), (2, .int v2), (3, .int v3)] → WM p l e 1 s m args below meth c H locs G layM B (some (.int r)) σr (F0 m 4 ls [])) (v1 : Int32) (v3 : Int32) (s0 : Int32) (s1 : Int32) (σ : Sto) (hf : b_X8_priceOf_30 c4 v1 v3 s0 s1 σ = some (r, σr)) (H : Heap) (locs : List Loc) (hH : HX G layM B σ H) (hS : va_S (inW layM B) s.heap H locs) (ls : Array Slot) (hl : lv_has ls 4 [(0, .ref (B + 0)), (1, .int v1), (3, .int v3)]) : WM p l e 1 s m args below meth c H locs G layM B (some (.int r)) σr (F0 m 30 ls [.int s0, .int s1]) := by
  unfold b_X8_priceOf_30 at hf
  have hx := X.1.1
  have hb := X.1.2.1
  refine lv_iadd hx hb dX8_priceOf_30 ?_
  refine lv_topi (fun y305 ey305 => ?_)
  replace hf := nmU hf ey305
  refine lv_istore_n (lv' := [(2, .int y305), (0, .ref (B + 0)), (1, .int v1), (3, .int v3)]) hx hb dX8_priceOf_31 rfl hl (by decide) rfl (fun ls hl => ?_)
  refine lv_iinc (v := (v3 + (1 : Int32))) (lv' := [(3, .int (v3 + (1 : Int32))), (2, .int y305), (0, .ref (B + 0)), (1, .int v1)]) hx hb dX8_priceOf_32 hl (k := 3) rfl rfl (by decide) rfl (fun ls hl => ?_)
  refine lv_goto (tgt := 4) hx hb dX8_priceOf_35 (by decide) ?_
  exact ih4 v1 y305 (v3 + (1 : Int32)) σ _ _ _ hf hH hS (lv_sub hl [2, 3, 1, 0] rfl)
def b_X8_priceOf_4 (c4 : Int32 → Int32 → Int32 → Sto → Option (Int32 × Sto)) (v1 : Int32) (v2 : Int32) (v3 : Int32) (σ : Sto) : Option (Int32 × Sto) :=
  if (8 : Int32) ≤ v3 then (some (v2, σ)) else (bd2 (f_X8_has v1 v3 σ) fun r203 σ202 => if r203 = 0 then (b_X8_priceOf_30 c4 v1 v3 (0 : Int32) v2 σ202) else (if (v3 < 0 ∨ 312 ≤ v3.toNatClampNeg) then none else b_X8_priceOf_30 c4 v1 v3 ((σ202.2 6 v3.toNatClampNeg).toInt32) v2 σ202))
set_option maxHeartbeats 4000000 in
set_option maxRecDepth 100000 in
theorem w_X8_priceOf_4 {p : Program} {l : Launch} {e : Env} {s : State} {m : MethodId} {args : Array Value} {below : List Frame} {meth : Method} {c : Code} {G : Gd} {B : Nat} (X : Cm p s m args meth c cX8_priceOf 4 RX8 G (some .int)) (c4 : Int32 → Int32 → Int32 → Sto → Option (Int32 × Sto)) {r : Int32} {σr : Sto} (ih4 : ∀ (v1 : Int32) (v2 : Int32) (v3 : Int32) (σ : Sto) (H : Heap) (locs : List Loc) (ls : Array Slot), c4 v1 v2 v3 σ = some (r, σr) → HX G layM B σ H → va_S (inW layM B) s.heap H locs → lv_has ls 4 [(0, .ref (B + 0)), (1, .int v1), (2, .int v2), (3, .int v3)] → WM p l e 1 s m args below meth c H locs G layM B (some (.int r)) σr (F0 m 4 ls [])) (v1 : Int32) (v2 : Int32) (v3 : Int32) (σ : Sto) (hf : b_X8_priceOf_4 c4 v1 v2 v3 σ = some (r, σr)) (H : Heap) (locs : List Loc) (hH : HX G layM B σ H) (hS : va_S (inW layM B) s.heap H locs) (ls : Array Slot) (hl : lv_has ls 4 [(0, .ref (B + 0)), (1, .int v1), (2, .int v2), (3, .int v3)]) : WM p l e 1 s m args below meth c H locs G layM B (some (.int r)) σr (F0 m 4 ls []) := by
  unfold b_X8_priceOf_4 at hf
  have hx := X.1.1
  have hb := X.1.2.1
  refine lv_iload_n hx hb dX8_priceOf_4 rfl (lv_at hl 3 rfl) ?_
  refine lv_bipush (v := 8) hx hb dX8_priceOf_5 (by decide) ?_
  refine lv_icmp_ge (tgt := 38) hx hb dX8_priceOf_7 (by decide) (fun q201 => ?_) (fun q201 => ?_)
  · replace hf := brT hf q201
    refine lv_iload_n hx hb dX8_priceOf_38 rfl (lv_at hl 2 rfl) ?_
    obtain ⟨rfl, rfl⟩ := rt2 hf
    exact g_iret X hH hS dX8_priceOf_39
  · replace hf := brF hf q201
    refine lv_iload_n hx hb dX8_priceOf_10 rfl (lv_at hl 2 rfl) ?_
    refine lv_iload_n hx hb dX8_priceOf_11 rfl (lv_at hl 1 rfl) ?_
    refine lv_iload_n hx hb dX8_priceOf_12 rfl (lv_at hl 3 rfl) ?_
    obtain ⟨r203, σ202, eσ202, hf⟩ := bnd2 hf
    refine g_cSi (As := [.int v1, .int v3]) X.1 hH hS (c_X8_has l G B v1 v3 σ σ202 r203 eσ202) kw_RX8_133 (by decide) rfl hl (Nat.le_of_ble_eq_true rfl) rfl dX8_priceOf_13 (fun H locs hH hS => ?_)
    refine lv_if_eq (tgt := 29) hx hb dX8_priceOf_16 (by decide) (fun q204 => ?_) (fun q204 => ?_)
    · replace hf := brT hf q204
      refine lv_iconst (v := 0) hx hb dX8_priceOf_29 (by decide) ?_
      exact w_X8_priceOf_30 X c4 ih4 v1 v3 (0 : Int32) v2 σ202 hf _ _ hH hS _ (lv_sub hl [0, 1, 3] rfl)
    · replace hf := brF hf q204
      refine lv_aload_n hx hb dX8_priceOf_19 rfl (lv_at hl 0 rfl) ?_
      refine g_get (v := .ref (B + 6)) kX8 (by decide) fl_RX8_25 X.1 hH km_0 rfl dX8_priceOf_20 ?_
      refine lv_iload_n hx hb dX8_priceOf_23 rfl (lv_at hl 3 rfl) ?_
      obtain ⟨q306, hf⟩ := chk hf
      refine g_lald (j := v3.toNatClampNeg) X.1 hH km_6 q306 rfl dX8_priceOf_24 ?_
      refine lv_l2i hx hb dX8_priceOf_25 rfl ?_
      refine lv_goto (tgt := 30) hx hb dX8_priceOf_26 (by decide) ?_
      exact w_X8_priceOf_30 X c4 ih4 v1 v3 ((σ202.2 6 v3.toNatClampNeg).toInt32) v2 σ202 hf _ _ hH hS _ (lv_sub hl [0, 1, 3] rfl)
def l_X8_priceOf_4 : Nat → Int32 → Int32 → Int32 → Sto → Option (Int32 × Sto)
  | 0, _, _, _, _ => none
  | n + 1, v1, v2, v3, σ => b_X8_priceOf_4 (l_X8_priceOf_4 n) v1 v2 v3 σ
set_option maxHeartbeats 4000000 in
set_option maxRecDepth 100000 in
theorem wl_X8_priceOf_4 {p : Program} {l : Launch} {e : Env} {s : State} {m : MethodId} {args : Array Value} {below : List Frame} {meth : Method} {c : Code} {G : Gd} {B : Nat} (X : Cm p s m args meth c cX8_priceOf 4 RX8 G (some .int)) {r : Int32} {σr : Sto} (n : Nat) : ∀ (v1 : Int32) (v2 : Int32) (v3 : Int32) (σ : Sto) (H : Heap) (locs : List Loc) (ls : Array Slot), l_X8_priceOf_4 n v1 v2 v3 σ = some (r, σr) → HX G layM B σ H → va_S (inW layM B) s.heap H locs → lv_has ls 4 [(0, .ref (B + 0)), (1, .int v1), (2, .int v2), (3, .int v3)] → WM p l e 1 s m args below meth c H locs G layM B (some (.int r)) σr (F0 m 4 ls []) := by
  induction n with
  | zero =>
    intro _ _ _ σ H locs ls hf
    cases hf
  | succ n ih =>
    intro v1 v2 v3 σ H locs ls hf hH hS hl
    exact w_X8_priceOf_4 X (l_X8_priceOf_4 n) ih v1 v2 v3 σ hf H locs hH hS ls hl
def f_X8_priceOf (x1 : Int32) (σ : Sto) : Option (Int32 × Sto) :=
  l_X8_priceOf_4 400 x1 (0 : Int32) (0 : Int32) σ
set_option maxHeartbeats 4000000 in
set_option maxRecDepth 100000 in
theorem w_X8_priceOf {p : Program} {l : Launch} {e : Env} {s : State} {m : MethodId} {args : Array Value} {below : List Frame} {meth : Method} {c : Code} {G : Gd} {B : Nat} (X : Cm p s m args meth c cX8_priceOf 4 RX8 G (some .int)) {r : Int32} {σr : Sto} (x1 : Int32) (σ : Sto) (hf : f_X8_priceOf x1 σ = some (r, σr)) (H : Heap) (locs : List Loc) (hH : HX G layM B σ H) (hS : va_S (inW layM B) s.heap H locs) (ls : Array Slot) (hl : lv_has ls 4 [(0, .ref (B + 0)), (1, .int x1)]) : WM p l e 1 s m args below meth c H locs G layM B (some (.int r)) σr (F0 m 0 ls []) := by
  unfold f_X8_priceOf at hf
  have hx := X.1.1
  have hb := X.1.2.1
  refine lv_iconst (v := 0) hx hb dX8_priceOf_0 (by decide) ?_
  refine lv_istore_n (lv' := [(2, .int (0 : Int32)), (0, .ref (B + 0)), (1, .int x1)]) hx hb dX8_priceOf_1 rfl hl (by decide) rfl (fun ls hl => ?_)
  refine lv_iconst (v := 0) hx hb dX8_priceOf_2 (by decide) ?_
  refine lv_istore_n (lv' := [(3, .int (0 : Int32)), (2, .int (0 : Int32)), (0, .ref (B + 0)), (1, .int x1)]) hx hb dX8_priceOf_3 rfl hl (by decide) rfl (fun ls hl => ?_)
  exact wl_X8_priceOf_4 X 400 x1 (0 : Int32) (0 : Int32) σ _ _ _ hf hH hS (lv_sub hl [2, 3, 1, 0] rfl)
theorem c_X8_priceOf (l : Launch) (G : Gd) (B : Nat) (x1 : Int32) (σ σr : Sto) (r : Int32) (hf : f_X8_priceOf x1 σ = some (r, σr)) : Ct l G layM B yX8_priceOf cX8_priceOf 4 (some .int) 1 [.ref (B + 0), .int x1] (some (.int r)) σ σr :=
  Ct.ofW (by decide) (Nat.le_of_ble_eq_true rfl) (fun _ _ _ _ _ _ _ X hH hS ls hl => w_X8_priceOf X x1 σ hf _ _ hH hS ls (show lv_has ls 4 [(0, .ref (B + 0)), (1, .int x1)] from hl))
