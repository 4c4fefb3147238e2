-- SlackProofs.as(II)I  (D 2)
def b_X7_as_20 (σ : Sto) : Option (Int32 × Sto) :=
  some ((-1000001 : Int32), σ)
set_option maxHeartbeats 4000000 in
set_option maxRecDepth 100000 in
theorem w_X7_as_20 {p : Program} {l : Launch} {e : Env} {s : State} {m : MethodId} {args : Array Value} {below : List Frame} {meth : Method} {c : Code} {G : Gd} {B : Nat} (X : Cm p s m args meth c cX7_as 3 RX7 G (some .int)) {r : Int32} {σr : Sto} (σ : Sto) (hf : b_X7_as_20 σ = some (r, σr)) (H : Heap) (locs : List Loc) (hH : HX G layX B σ H) (hS : va_S (inW layX B) s.heap H locs) (ls : Array Slot) (hl : lv_has ls 3 []) : WM p l e 2 s m args below meth c H locs G layX B (some (.int r)) σr (F0 m 20 ls []) := by
  unfold b_X7_as_20 at hf
  have hx := X.1.1
  have hb := X.1.2.1
  refine lv_ldc (v := -1000001) hx hb X.1.2.2.2.1 (X.1.2.2.2.2.1 _ kc_RX7_65) dX7_as_20 ?_
  obtain ⟨rfl, rfl⟩ := rt2 hf
  exact g_iret X hH hS dX7_as_22
def f_X7_as (x1 : Int32) (x2 : Int32) (σ : Sto) : Option (Int32 × Sto) :=
  bd2 (f_X2_has 33 x1 σ) fun r102 σ101 => if r102 = 0 then (b_X7_as_20 σ101) else (if x2 < 0 then (b_X7_as_20 σ101) else (if x2 ≤ (5 : Int32) then (if (x1 < 0 ∨ 30 ≤ x1.toNatClampNeg) then none else bd2 (f_X7_isOfKind (σ101.1 (36 + 2 * x1.toNatClampNeg) 3) x2 σ101) fun r208 σ207 => if r208 = 0 then (bd2 (f_X7_found (3 : Int32) σ207) fun r213 σ212 => some (r213, σ212)) else (bd2 (f_X7_well x1 σ207) fun r211 σ210 => some (r211, σ210))) else (b_X7_as_20 σ101)))
set_option maxHeartbeats 4000000 in
set_option maxRecDepth 100000 in
theorem w_X7_as {p : Program} {l : Launch} {e : Env} {s : State} {m : MethodId} {args : Array Value} {below : List Frame} {meth : Method} {c : Code} {G : Gd} {B : Nat} (X : Cm p s m args meth c cX7_as 3 RX7 G (some .int)) {r : Int32} {σr : Sto} (x1 : Int32) (x2 : Int32) (σ : Sto) (hf : f_X7_as x1 x2 σ = some (r, σr)) (H : Heap) (locs : List Loc) (hH : HX G layX B σ H) (hS : va_S (inW layX B) s.heap H locs) (ls : Array Slot) (hl : lv_has ls 3 [(0, .ref (B + 0)), (1, .int x1), (2, .int x2)]) : WM p l e 2 s m args below meth c H locs G layX B (some (.int r)) σr (F0 m 0 ls []) := by
  unfold f_X7_as at hf
  have hx := X.1.1
  have hb := X.1.2.1
  refine lv_aload_n hx hb dX7_as_0 rfl (lv_at hl 0 rfl) ?_
  refine g_get (v := .ref (B + 33)) kX7 (by decide) fl_RX7_26 X.1 hH kx_0 rfl dX7_as_1 ?_
  refine lv_iload_n hx hb dX7_as_4 rfl (lv_at hl 1 rfl) ?_
  obtain ⟨r102, σ101, eσ101, hf⟩ := bnd2 hf
  refine g_cVi (As := [.int x1]) X.1 hH hS (c_X2_has l G B 33 kx_33 x1 σ σ101 r102 eσ101) kw_RX7_156 kX2 kx_33 (by decide) rfl hl (Nat.le_of_ble_eq_true rfl) rfl dX7_as_5 (fun H locs hH hS => ?_)
  refine lv_if_eq (tgt := 20) hx hb dX7_as_8 (by decide) (fun q103 => ?_) (fun q103 => ?_)
  · replace hf := brT hf q103
    exact w_X7_as_20 X σ101 hf _ _ hH hS _ (lv_sub hl [] rfl)
  · replace hf := brF hf q103
    refine lv_iload_n hx hb dX7_as_11 rfl (lv_at hl 2 rfl) ?_
    refine lv_if_lt (tgt := 20) hx hb dX7_as_12 (by decide) (fun q204 => ?_) (fun q204 => ?_)
    · replace hf := brT hf q204
      exact w_X7_as_20 X σ101 hf _ _ hH hS _ (lv_sub hl [] rfl)
    · replace hf := brF hf q204
      refine lv_iload_n hx hb dX7_as_15 rfl (lv_at hl 2 rfl) ?_
      refine lv_iconst (v := 5) hx hb dX7_as_16 (by decide) ?_
      refine lv_icmp_le (tgt := 23) hx hb dX7_as_17 (by decide) (fun q205 => ?_) (fun q205 => ?_)
      · replace hf := brT hf q205
        refine lv_aload_n hx hb dX7_as_23 rfl (lv_at hl 0 rfl) ?_
        refine g_get (v := .ref (B + 33)) kX7 (by decide) fl_RX7_26 X.1 hH kx_0 rfl dX7_as_24 ?_
        refine g_get (v := .ref (B + 34)) kX2 (by decide) fl_RX7_163 X.1 hH kx_33 rfl dX7_as_27 ?_
        refine lv_iload_n hx hb dX7_as_30 rfl (lv_at hl 1 rfl) ?_
        obtain ⟨q206, hf⟩ := chk hf
        refine g_aald (b := (36 + 2 * x1.toNatClampNeg)) X.1 hH kx_34 (by decide) q206 rfl dX7_as_31 ?_
        refine g_get (v := .int (σ101.1 (36 + 2 * x1.toNatClampNeg) 3)) kX3 (by decide) fl_RX7_239 X.1 hH (kB33 q206) rfl dX7_as_32 ?_
        refine lv_iload_n hx hb dX7_as_35 rfl (lv_at hl 2 rfl) ?_
        obtain ⟨r208, σ207, eσ207, hf⟩ := bnd2 hf
        refine g_cSi (As := [.int (σ101.1 (36 + 2 * x1.toNatClampNeg) 3), .int x2]) X.1 hH hS (c_X7_isOfKind l G B (σ101.1 (36 + 2 * x1.toNatClampNeg) 3) x2 σ101 σ207 r208 eσ207) kw_RX7_242 (by decide) rfl hl (Nat.le_of_ble_eq_true rfl) rfl dX7_as_36 (fun H locs hH hS => ?_)
        refine lv_if_ne (tgt := 48) hx hb dX7_as_39 (by decide) (fun q209 => ?_) (fun q209 => ?_)
        · replace hf := brF hf q209
          refine lv_aload_n hx hb dX7_as_48 rfl (lv_at hl 0 rfl) ?_
          refine lv_iload_n hx hb dX7_as_49 rfl (lv_at hl 1 rfl) ?_
          obtain ⟨r211, σ210, eσ210, hf⟩ := bnd2 hf
          refine g_cVi (As := [.int x1]) X.1 hH hS (c_X7_well l G B x1 σ207 σ210 r211 eσ210) kw_RX7_74 kX7 kx_0 (by decide) rfl hl (Nat.le_of_ble_eq_true rfl) rfl dX7_as_50 (fun H locs hH hS => ?_)
          obtain ⟨rfl, rfl⟩ := rt2 hf
          exact g_iret X hH hS dX7_as_53
        · replace hf := brT hf q209
          refine lv_aload_n hx hb dX7_as_42 rfl (lv_at hl 0 rfl) ?_
          refine lv_iconst (v := 3) hx hb dX7_as_43 (by decide) ?_
          obtain ⟨r213, σ212, eσ212, hf⟩ := bnd2 hf
          refine g_cVi (As := [.int (3 : Int32)]) X.1 hH hS (c_X7_found l G B (3 : Int32) σ207 σ212 r213 eσ212) kw_RX7_66 kX7 kx_0 (by decide) rfl hl (Nat.le_of_ble_eq_true rfl) rfl dX7_as_44 (fun H locs hH hS => ?_)
          obtain ⟨rfl, rfl⟩ := rt2 hf
          exact g_iret X hH hS dX7_as_47
      · replace hf := brF hf q205
        exact w_X7_as_20 X σ101 hf _ _ hH hS _ (lv_sub hl [] rfl)
theorem c_X7_as (l : Launch) (G : Gd) (B : Nat) (x1 : Int32) (x2 : Int32) (σ σr : Sto) (r : Int32) (hf : f_X7_as x1 x2 σ = some (r, σr)) : Ct l G layX B yX7_as cX7_as 3 (some .int) 2 [.ref (B + 0), .int x1, .int x2] (some (.int r)) σ σr :=
  Ct.ofW (by decide) (Nat.le_of_ble_eq_true rfl) (fun _ _ _ _ _ _ _ X hH hS ls hl => w_X7_as X x1 x2 σ hf _ _ hH hS ls (show lv_has ls 3 [(0, .ref (B + 0)), (1, .int x1), (2, .int x2)] from hl))
-- SlackProofs.ask(II)I  (D 8)
def b_X7_ask_20 (σ : Sto) : Option (Int32 × Sto) :=
  some ((-1000001 : Int32), σ)
set_option maxHeartbeats 4000000 in
set_option maxRecDepth 100000 in
theorem w_X7_ask_20 {p : Program} {l : Launch} {e : Env} {s : State} {m : MethodId} {args : Array Value} {below : List Frame} {meth : Method} {c : Code} {G : Gd} {B : Nat} (X : Cm p s m args meth c cX7_ask 3 RX7 G (some .int)) {r : Int32} {σr : Sto} (σ : Sto) (hf : b_X7_ask_20 σ = some (r, σr)) (H : Heap) (locs : List Loc) (hH : HX G layX B σ H) (hS : va_S (inW layX B) s.heap H locs) (ls : Array Slot) (hl : lv_has ls 3 []) : WM p l e 8 s m args below meth c H locs G layX B (some (.int r)) σr (F0 m 20 ls []) := by
  unfold b_X7_ask_20 at hf
  have hx := X.1.1
  have hb := X.1.2.1
  refine lv_ldc (v := -1000001) hx hb X.1.2.2.2.1 (X.1.2.2.2.2.1 _ kc_RX7_65) dX7_ask_20 ?_
  obtain ⟨rfl, rfl⟩ := rt2 hf
  exact g_iret X hH hS dX7_ask_22
def b_X7_ask_72 (s0 : Int32) (σ : Sto) : Option (Int32 × Sto) :=
  some (s0, σ)
set_option maxHeartbeats 4000000 in
set_option maxRecDepth 100000 in
theorem w_X7_ask_72 {p : Program} {l : Launch} {e : Env} {s : State} {m : MethodId} {args : Array Value} {below : List Frame} {meth : Method} {c : Code} {G : Gd} {B : Nat} (X : Cm p s m args meth c cX7_ask 3 RX7 G (some .int)) {r : Int32} {σr : Sto} (s0 : Int32) (σ : Sto) (hf : b_X7_ask_72 s0 σ = some (r, σr)) (H : Heap) (locs : List Loc) (hH : HX G layX B σ H) (hS : va_S (inW layX B) s.heap H locs) (ls : Array Slot) (hl : lv_has ls 3 []) : WM p l e 8 s m args below meth c H locs G layX B (some (.int r)) σr (F0 m 72 ls [.int s0]) := by
  unfold b_X7_ask_72 at hf
  have hx := X.1.1
  have hb := X.1.2.1
  obtain ⟨rfl, rfl⟩ := rt2 hf
  exact g_iret X hH hS dX7_ask_72
def f_X7_ask (x1 : Int32) (x2 : Int32) (σ : Sto) : Option (Int32 × Sto) :=
  bd2 (f_X2_has 33 x1 σ) fun r102 σ101 => if r102 = 0 then (b_X7_ask_20 σ101) else (if x2 < 0 then (b_X7_ask_20 σ101) else (if x2 ≤ (1 : Int32) then (nmS (pI σ101 236 1 (0 : Int32)) fun σ206 => if x2 = 0 then (if (x1 < 0 ∨ 30 ≤ x1.toNatClampNeg) then none else bd2 (f_X1_sizeOf (36 + 2 * x1.toNatClampNeg) (0 : Int32) σ206) fun r313 σ312 => b_X7_ask_72 r313 σ312) else (if (x1 < 0 ∨ 30 ≤ x1.toNatClampNeg) then none else bd2 (f_X1_markOf (36 + 2 * x1.toNatClampNeg) (0 : Int32) σ206) fun r210 σ209 => b_X7_ask_72 r210 σ209)) else (b_X7_ask_20 σ101)))
set_option maxHeartbeats 4000000 in
set_option maxRecDepth 100000 in
theorem w_X7_ask {p : Program} {l : Launch} {e : Env} {s : State} {m : MethodId} {args : Array Value} {below : List Frame} {meth : Method} {c : Code} {G : Gd} {B : Nat} (X : Cm p s m args meth c cX7_ask 3 RX7 G (some .int)) {r : Int32} {σr : Sto} (x1 : Int32) (x2 : Int32) (σ : Sto) (hf : f_X7_ask x1 x2 σ = some (r, σr)) (H : Heap) (locs : List Loc) (hH : HX G layX B σ H) (hS : va_S (inW layX B) s.heap H locs) (ls : Array Slot) (hl : lv_has ls 3 [(0, .ref (B + 0)), (1, .int x1), (2, .int x2)]) : WM p l e 8 s m args below meth c H locs G layX B (some (.int r)) σr (F0 m 0 ls []) := by
  unfold f_X7_ask at hf
  have hx := X.1.1
  have hb := X.1.2.1
  refine lv_aload_n hx hb dX7_ask_0 rfl (lv_at hl 0 rfl) ?_
  refine g_get (v := .ref (B + 33)) kX7 (by decide) fl_RX7_26 X.1 hH kx_0 rfl dX7_ask_1 ?_
  refine lv_iload_n hx hb dX7_ask_4 rfl (lv_at hl 1 rfl) ?_
  obtain ⟨r102, σ101, eσ101, hf⟩ := bnd2 hf
  refine g_cVi (As := [.int x1]) X.1 hH hS (c_X2_has l G B 33 kx_33 x1 σ σ101 r102 eσ101) kw_RX7_156 kX2 kx_33 (by decide) rfl hl (Nat.le_of_ble_eq_true rfl) rfl dX7_ask_5 (fun H locs hH hS => ?_)
  refine lv_if_eq (tgt := 20) hx hb dX7_ask_8 (by decide) (fun q103 => ?_) (fun q103 => ?_)
  · replace hf := brT hf q103
    exact w_X7_ask_20 X σ101 hf _ _ hH hS _ (lv_sub hl [] rfl)
  · replace hf := brF hf q103
    refine lv_iload_n hx hb dX7_ask_11 rfl (lv_at hl 2 rfl) ?_
    refine lv_if_lt (tgt := 20) hx hb dX7_ask_12 (by decide) (fun q204 => ?_) (fun q204 => ?_)
    · replace hf := brT hf q204
      exact w_X7_ask_20 X σ101 hf _ _ hH hS _ (lv_sub hl [] rfl)
    · replace hf := brF hf q204
      refine lv_iload_n hx hb dX7_ask_15 rfl (lv_at hl 2 rfl) ?_
      refine lv_iconst (v := 1) hx hb dX7_ask_16 (by decide) ?_
      refine lv_icmp_le (tgt := 23) hx hb dX7_ask_17 (by decide) (fun q205 => ?_) (fun q205 => ?_)
      · replace hf := brT hf q205
        refine lv_aload_n hx hb dX7_ask_23 rfl (lv_at hl 0 rfl) ?_
        refine g_get (v := .ref (B + 236)) kX7 (by decide) fl_RX7_53 X.1 hH kx_0 rfl dX7_ask_24 ?_
        refine lv_iconst (v := 0) hx hb dX7_ask_27 (by decide) ?_
        refine g_putI kX1 (by decide) fl_RX7_302 rfl rfl X.1 hH hS kx_236 dX7_ask_28 (fun H locs hH hS => ?_)
        obtain ⟨σ206, eσ206, hH⟩ := nmX hH
        replace hf := nmU hf eσ206
        refine lv_iload_n hx hb dX7_ask_31 rfl (lv_at hl 2 rfl) ?_
        refine lv_if_ne (tgt := 55) hx hb dX7_ask_32 (by decide) (fun q207 => ?_) (fun q207 => ?_)
        · replace hf := brF hf q207
          refine lv_aload_n hx hb dX7_ask_55 rfl (lv_at hl 0 rfl) ?_
          refine g_get (v := .ref (B + 236)) kX7 (by decide) fl_RX7_53 X.1 hH kx_0 rfl dX7_ask_56 ?_
          refine lv_aload_n hx hb dX7_ask_59 rfl (lv_at hl 0 rfl) ?_
          refine g_get (v := .ref (B + 33)) kX7 (by decide) fl_RX7_26 X.1 hH kx_0 rfl dX7_ask_60 ?_
          refine g_get (v := .ref (B + 34)) kX2 (by decide) fl_RX7_163 X.1 hH kx_33 rfl dX7_ask_63 ?_
          refine lv_iload_n hx hb dX7_ask_66 rfl (lv_at hl 1 rfl) ?_
          obtain ⟨q208, hf⟩ := chk hf
          refine g_aald (b := (36 + 2 * x1.toNatClampNeg)) X.1 hH kx_34 (by decide) q208 rfl dX7_ask_67 ?_
          refine lv_iconst (v := 0) hx hb dX7_ask_68 (by decide) ?_
          obtain ⟨r210, σ209, eσ209, hf⟩ := bnd2 hf
          refine g_cVi (As := [.ref (B + (36 + 2 * x1.toNatClampNeg)), .int (0 : Int32)]) X.1 hH hS (c_X1_markOf l G B (36 + 2 * x1.toNatClampNeg) (kB33 q208) (0 : Int32) σ206 σ209 r210 eσ209) kw_RX7_307 kX1 kx_236 (by decide) rfl hl (Nat.le_of_ble_eq_true rfl) rfl dX7_ask_69 (fun H locs hH hS => ?_)
          exact w_X7_ask_72 X r210 σ209 hf _ _ hH hS _ (lv_sub hl [] rfl)
        · replace hf := brT hf q207
          refine lv_aload_n hx hb dX7_ask_35 rfl (lv_at hl 0 rfl) ?_
          refine g_get (v := .ref (B + 236)) kX7 (by decide) fl_RX7_53 X.1 hH kx_0 rfl dX7_ask_36 ?_
          refine lv_aload_n hx hb dX7_ask_39 rfl (lv_at hl 0 rfl) ?_
          refine g_get (v := .ref (B + 33)) kX7 (by decide) fl_RX7_26 X.1 hH kx_0 rfl dX7_ask_40 ?_
          refine g_get (v := .ref (B + 34)) kX2 (by decide) fl_RX7_163 X.1 hH kx_33 rfl dX7_ask_43 ?_
          refine lv_iload_n hx hb dX7_ask_46 rfl (lv_at hl 1 rfl) ?_
          obtain ⟨q311, hf⟩ := chk hf
          refine g_aald (b := (36 + 2 * x1.toNatClampNeg)) X.1 hH kx_34 (by decide) q311 rfl dX7_ask_47 ?_
          refine lv_iconst (v := 0) hx hb dX7_ask_48 (by decide) ?_
          obtain ⟨r313, σ312, eσ312, hf⟩ := bnd2 hf
          refine g_cVi (As := [.ref (B + (36 + 2 * x1.toNatClampNeg)), .int (0 : Int32)]) X.1 hH hS (c_X1_sizeOf l G B (36 + 2 * x1.toNatClampNeg) (kB33 q311) (0 : Int32) σ206 σ312 r313 eσ312) kw_RX7_303 kX1 kx_236 (by decide) rfl hl (Nat.le_of_ble_eq_true rfl) rfl dX7_ask_49 (fun H locs hH hS => ?_)
          refine lv_goto (tgt := 72) hx hb dX7_ask_52 (by decide) ?_
          exact w_X7_ask_72 X r313 σ312 hf _ _ hH hS _ (lv_sub hl [] rfl)
      · replace hf := brF hf q205
        exact w_X7_ask_20 X σ101 hf _ _ hH hS _ (lv_sub hl [] rfl)
theorem c_X7_ask (l : Launch) (G : Gd) (B : Nat) (x1 : Int32) (x2 : Int32) (σ σr : Sto) (r : Int32) (hf : f_X7_ask x1 x2 σ = some (r, σr)) : Ct l G layX B yX7_ask cX7_ask 3 (some .int) 8 [.ref (B + 0), .int x1, .int x2] (some (.int r)) σ σr :=
  Ct.ofW (by decide) (Nat.le_of_ble_eq_true rfl) (fun _ _ _ _ _ _ _ X hH hS ls hl => w_X7_ask X x1 x2 σ hf _ _ hH hS ls (show lv_has ls 3 [(0, .ref (B + 0)), (1, .int x1), (2, .int x2)] from hl))
-- SlackProofs.isVariable(I)Z  (D 0)
def b_X7_isVariable_15 (s0 : Int32) (σ : Sto) : Option (Int32 × Sto) :=
  if ¬ (s0 = 0 ∨ s0 = 1) then none else some (s0, σ)
set_option maxHeartbeats 4000000 in
set_option maxRecDepth 100000 in
theorem w_X7_isVariable_15 {p : Program} {l : Launch} {e : Env} {s : State} {m : MethodId} {args : Array Value} {below : List Frame} {meth : Method} {c : Code} {G : Gd} {B : Nat} (X : Cm p s m args meth c cX7_isVariable 1 RX7 G (some .boolean)) {r : Int32} {σr : Sto} (s0 : Int32) (σ : Sto) (hf : b_X7_isVariable_15 s0 σ = some (r, σr)) (H : Heap) (locs : List Loc) (hH : HX G layX B σ H) (hS : va_S (inW layX B) s.heap H locs) (ls : Array Slot) (hl : lv_has ls 1 []) : WM p l e 0 s m args below meth c H locs G layX B (some (.int r)) σr (F0 m 15 ls [.int s0]) := by
  unfold b_X7_isVariable_15 at hf
  have hx := X.1.1
  have hb := X.1.2.1
  obtain ⟨q302, hf⟩ := chk hf
  obtain ⟨rfl, rfl⟩ := rt2 hf
  exact g_zret X hH hS (Decidable.not_not.mp q302) dX7_isVariable_15
def b_X7_isVariable_14 (σ : Sto) : Option (Int32 × Sto) :=
  b_X7_isVariable_15 (0 : Int32) σ
set_option maxHeartbeats 4000000 in
set_option maxRecDepth 100000 in
theorem w_X7_isVariable_14 {p : Program} {l : Launch} {e : Env} {s : State} {m : MethodId} {args : Array Value} {below : List Frame} {meth : Method} {c : Code} {G : Gd} {B : Nat} (X : Cm p s m args meth c cX7_isVariable 1 RX7 G (some .boolean)) {r : Int32} {σr : Sto} (σ : Sto) (hf : b_X7_isVariable_14 σ = some (r, σr)) (H : Heap) (locs : List Loc) (hH : HX G layX B σ H) (hS : va_S (inW layX B) s.heap H locs) (ls : Array Slot) (hl : lv_has ls 1 []) : WM p l e 0 s m args below meth c H locs G layX B (some (.int r)) σr (F0 m 14 ls []) := by
  unfold b_X7_isVariable_14 at hf
  have hx := X.1.1
  have hb := X.1.2.1
  refine lv_iconst (v := 0) hx hb dX7_isVariable_14 (by decide) ?_
  exact w_X7_isVariable_15 X (0 : Int32) σ hf _ _ hH hS _ (lv_sub hl [] rfl)
def f_X7_isVariable (x0 : Int32) (σ : Sto) : Option (Int32 × Sto) :=
  if x0 < 0 then (b_X7_isVariable_14 σ) else (if (8 : Int32) ≤ x0 then (b_X7_isVariable_14 σ) else (b_X7_isVariable_15 (1 : Int32) σ))
set_option maxHeartbeats 4000000 in
set_option maxRecDepth 100000 in
theorem w_X7_isVariable {p : Program} {l : Launch} {e : Env} {s : State} {m : MethodId} {args : Array Value} {below : List Frame} {meth : Method} {c : Code} {G : Gd} {B : Nat} (X : Cm p s m args meth c cX7_isVariable 1 RX7 G (some .boolean)) {r : Int32} {σr : Sto} (x0 : Int32) (σ : Sto) (hf : f_X7_isVariable x0 σ = some (r, σr)) (H : Heap) (locs : List Loc) (hH : HX G layX B σ H) (hS : va_S (inW layX B) s.heap H locs) (ls : Array Slot) (hl : lv_has ls 1 [(0, .int x0)]) : WM p l e 0 s m args below meth c H locs G layX B (some (.int r)) σr (F0 m 0 ls []) := by
  unfold f_X7_isVariable at hf
  have hx := X.1.1
  have hb := X.1.2.1
  refine lv_iload_n hx hb dX7_isVariable_0 rfl (lv_at hl 0 rfl) ?_
  refine lv_if_lt (tgt := 14) hx hb dX7_isVariable_1 (by decide) (fun q101 => ?_) (fun q101 => ?_)
  · replace hf := brT hf q101
    exact w_X7_isVariable_14 X σ hf _ _ hH hS _ (lv_sub hl [] rfl)
  · replace hf := brF hf q101
    refine lv_iload_n hx hb dX7_isVariable_4 rfl (lv_at hl 0 rfl) ?_
    refine lv_bipush (v := 8) hx hb dX7_isVariable_5 (by decide) ?_
    refine lv_icmp_ge (tgt := 14) hx hb dX7_isVariable_7 (by decide) (fun q303 => ?_) (fun q303 => ?_)
    · replace hf := brT hf q303
      exact w_X7_isVariable_14 X σ hf _ _ hH hS _ (lv_sub hl [] rfl)
    · replace hf := brF hf q303
      refine lv_iconst (v := 1) hx hb dX7_isVariable_10 (by decide) ?_
      refine lv_goto (tgt := 15) hx hb dX7_isVariable_11 (by decide) ?_
      exact w_X7_isVariable_15 X (1 : Int32) σ hf _ _ hH hS _ (lv_sub hl [] rfl)
theorem c_X7_isVariable (l : Launch) (G : Gd) (B : Nat) (x0 : Int32) (σ σr : Sto) (r : Int32) (hf : f_X7_isVariable x0 σ = some (r, σr)) : Ct l G layX B yX7_isVariable cX7_isVariable 1 (some .boolean) 0 [.int x0] (some (.int r)) σ σr :=
  Ct.ofW (by decide) (Nat.le_of_ble_eq_true rfl) (fun _ _ _ _ _ _ _ X hH hS ls hl => w_X7_isVariable X x0 σ hf _ _ hH hS ls (show lv_has ls 1 [(0, .int x0)] from hl))
-- SlackProofs.stepRefusal(Z)I  (D 1)
def b_X7_stepRefusal_36 (s0 : Int32) (σ : Sto) : Option (Int32 × Sto) :=
  some (s0, σ)
set_option maxHeartbeats 4000000 in
set_option maxRecDepth 100000 in
theorem w_X7_stepRefusal_36 {p : Program} {l : Launch} {e : Env} {s : State} {m : MethodId} {args : Array Value} {below : List Frame} {meth : Method} {c : Code} {G : Gd} {B : Nat} (X : Cm p s m args meth c cX7_stepRefusal 2 RX7 G (some .int)) {r : Int32} {σr : Sto} (s0 : Int32) (σ : Sto) (hf : b_X7_stepRefusal_36 s0 σ = some (r, σr)) (H : Heap) (locs : List Loc) (hH : HX G layX B σ H) (hS : va_S (inW layX B) s.heap H locs) (ls : Array Slot) (hl : lv_has ls 2 []) : WM p l e 1 s m args below meth c H locs G layX B (some (.int r)) σr (F0 m 36 ls [.int s0]) := by
  unfold b_X7_stepRefusal_36 at hf
  have hx := X.1.1
  have hb := X.1.2.1
  obtain ⟨rfl, rfl⟩ := rt2 hf
  exact g_iret X hH hS dX7_stepRefusal_36
def f_X7_stepRefusal (x1 : Int32) (σ : Sto) : Option (Int32 × Sto) :=
  if (σ.1 33 2) = 0 then (some ((-1000002 : Int32), σ)) else (if x1 = 0 then (some ((-1000001 : Int32), σ)) else (bd2 (f_X2_isFull 33 σ) fun r104 σ103 => if r104 = 0 then (b_X7_stepRefusal_36 (0 : Int32) σ103) else (b_X7_stepRefusal_36 (-1000003 : Int32) σ103)))
set_option maxHeartbeats 4000000 in
set_option maxRecDepth 100000 in
theorem w_X7_stepRefusal {p : Program} {l : Launch} {e : Env} {s : State} {m : MethodId} {args : Array Value} {below : List Frame} {meth : Method} {c : Code} {G : Gd} {B : Nat} (X : Cm p s m args meth c cX7_stepRefusal 2 RX7 G (some .int)) {r : Int32} {σr : Sto} (x1 : Int32) (σ : Sto) (hf : f_X7_stepRefusal x1 σ = some (r, σr)) (H : Heap) (locs : List Loc) (hH : HX G layX B σ H) (hS : va_S (inW layX B) s.heap H locs) (ls : Array Slot) (hl : lv_has ls 2 [(0, .ref (B + 0)), (1, .int x1)]) : WM p l e 1 s m args below meth c H locs G layX B (some (.int r)) σr (F0 m 0 ls []) := by
  unfold f_X7_stepRefusal at hf
  have hx := X.1.1
  have hb := X.1.2.1
  refine lv_aload_n hx hb dX7_stepRefusal_0 rfl (lv_at hl 0 rfl) ?_
  refine g_get (v := .ref (B + 33)) kX7 (by decide) fl_RX7_26 X.1 hH kx_0 rfl dX7_stepRefusal_1 ?_
  refine g_get (v := .int (σ.1 33 2)) kX2 (by decide) fl_RX7_197 X.1 hH kx_33 rfl dX7_stepRefusal_4 ?_
  refine lv_if_ne (tgt := 13) hx hb dX7_stepRefusal_7 (by decide) (fun q101 => ?_) (fun q101 => ?_)
  · replace hf := brF hf q101
    refine lv_iload_n hx hb dX7_stepRefusal_13 rfl (lv_at hl 1 rfl) ?_
    refine lv_if_ne (tgt := 20) hx hb dX7_stepRefusal_14 (by decide) (fun q102 => ?_) (fun q102 => ?_)
    · replace hf := brF hf q102
      refine lv_aload_n hx hb dX7_stepRefusal_20 rfl (lv_at hl 0 rfl) ?_
      refine g_get (v := .ref (B + 33)) kX7 (by decide) fl_RX7_26 X.1 hH kx_0 rfl dX7_stepRefusal_21 ?_
      obtain ⟨r104, σ103, eσ103, hf⟩ := bnd2 hf
      refine g_cVi (As := []) X.1 hH hS (c_X2_isFull l G B 33 kx_33 σ σ103 r104 eσ103) kw_RX7_215 kX2 kx_33 (by decide) rfl hl (Nat.le_of_ble_eq_true rfl) rfl dX7_stepRefusal_24 (fun H locs hH hS => ?_)
      refine lv_if_eq (tgt := 35) hx hb dX7_stepRefusal_27 (by decide) (fun q105 => ?_) (fun q105 => ?_)
      · replace hf := brT hf q105
        refine lv_iconst (v := 0) hx hb dX7_stepRefusal_35 (by decide) ?_
        exact w_X7_stepRefusal_36 X (0 : Int32) σ103 hf _ _ hH hS _ (lv_sub hl [] rfl)
      · replace hf := brF hf q105
        refine lv_ldc (v := -1000003) hx hb X.1.2.2.2.1 (X.1.2.2.2.2.1 _ kc_RX7_111) dX7_stepRefusal_30 ?_
        refine lv_goto (tgt := 36) hx hb dX7_stepRefusal_32 (by decide) ?_
        exact w_X7_stepRefusal_36 X (-1000003 : Int32) σ103 hf _ _ hH hS _ (lv_sub hl [] rfl)
    · replace hf := brT hf q102
      refine lv_ldc (v := -1000001) hx hb X.1.2.2.2.1 (X.1.2.2.2.2.1 _ kc_RX7_65) dX7_stepRefusal_17 ?_
      obtain ⟨rfl, rfl⟩ := rt2 hf
      exact g_iret X hH hS dX7_stepRefusal_19
  · replace hf := brT hf q101
    refine lv_ldc (v := -1000002) hx hb X.1.2.2.2.1 (X.1.2.2.2.2.1 _ kc_RX7_201) dX7_stepRefusal_10 ?_
    obtain ⟨rfl, rfl⟩ := rt2 hf
    exact g_iret X hH hS dX7_stepRefusal_12
theorem c_X7_stepRefusal (l : Launch) (G : Gd) (B : Nat) (x1 : Int32) (σ σr : Sto) (r : Int32) (hf : f_X7_stepRefusal x1 σ = some (r, σr)) : Ct l G layX B yX7_stepRefusal cX7_stepRefusal 2 (some .int) 1 [.ref (B + 0), .int x1] (some (.int r)) σ σr :=
  Ct.ofW (by decide) (Nat.le_of_ble_eq_true rfl) (fun _ _ _ _ _ _ _ X hH hS ls hl => w_X7_stepRefusal X x1 σ hf _ _ hH hS ls (show lv_has ls 2 [(0, .ref (B + 0)), (1, .int x1)] from hl))
-- SlackProofs.comes(I)I  (D 1)
def f_X7_comes (x1 : Int32) (σ : Sto) : Option (Int32 × Sto) :=
  bd1 (f_X0_keep 33 σ) fun σ101 => bd2 (f_X2_add 33 x1 σ101) fun r104 σ103 => some (r104, σ103)
set_option maxHeartbeats 4000000 in
set_option maxRecDepth 100000 in
theorem w_X7_comes {p : Program} {l : Launch} {e : Env} {s : State} {m : MethodId} {args : Array Value} {below : List Frame} {meth : Method} {c : Code} {G : Gd} {B : Nat} (X : Cm p s m args meth c cX7_comes 2 RX7 G (some .int)) {r : Int32} {σr : Sto} (x1 : Int32) (σ : Sto) (hf : f_X7_comes x1 σ = some (r, σr)) (H : Heap) (locs : List Loc) (hH : HX G layX B σ H) (hS : va_S (inW layX B) s.heap H locs) (ls : Array Slot) (hl : lv_has ls 2 [(0, .ref (B + 0)), (1, .int x1)]) : WM p l e 1 s m args below meth c H locs G layX B (some (.int r)) σr (F0 m 0 ls []) := by
  unfold f_X7_comes at hf
  have hx := X.1.1
  have hb := X.1.2.1
  refine lv_aload_n hx hb dX7_comes_0 rfl (lv_at hl 0 rfl) ?_
  refine g_get (v := .ref (B + 223)) kX7 (by decide) fl_RX7_37 X.1 hH kx_0 rfl dX7_comes_1 ?_
  refine lv_aload_n hx hb dX7_comes_4 rfl (lv_at hl 0 rfl) ?_
  refine g_get (v := .ref (B + 33)) kX7 (by decide) fl_RX7_26 X.1 hH kx_0 rfl dX7_comes_5 ?_
  obtain ⟨σ101, eσ101, hf⟩ := bnd1 hf
  refine g_cVv (As := [.ref (B + 33)]) X.1 hH hS (c_X0_keep l G B 33 kx_33 σ σ101 eσ101) kw_RX7_225 kX0 kx_223 (by decide) rfl hl (Nat.le_of_ble_eq_true rfl) rfl dX7_comes_8 (fun H locs hH hS => ?_)
  refine lv_aload_n hx hb dX7_comes_11 rfl (lv_at hl 0 rfl) ?_
  refine g_get (v := .ref (B + 33)) kX7 (by decide) fl_RX7_26 X.1 hH kx_0 rfl dX7_comes_12 ?_
  refine lv_iload_n hx hb dX7_comes_15 rfl (lv_at hl 1 rfl) ?_
  obtain ⟨r104, σ103, eσ103, hf⟩ := bnd2 hf
  refine g_cVi (As := [.int x1]) X.1 hH hS (c_X2_add l G B 33 kx_33 x1 σ101 σ103 r104 eσ103) kw_RX7_147 kX2 kx_33 (by decide) rfl hl (Nat.le_of_ble_eq_true rfl) rfl dX7_comes_16 (fun H locs hH hS => ?_)
  obtain ⟨rfl, rfl⟩ := rt2 hf
  exact g_iret X hH hS dX7_comes_19
theorem c_X7_comes (l : Launch) (G : Gd) (B : Nat) (x1 : Int32) (σ σr : Sto) (r : Int32) (hf : f_X7_comes x1 σ = some (r, σr)) : Ct l G layX B yX7_comes cX7_comes 2 (some .int) 1 [.ref (B + 0), .int x1] (some (.int r)) σ σr :=
  Ct.ofW (by decide) (Nat.le_of_ble_eq_true rfl) (fun _ _ _ _ _ _ _ X hH hS ls hl => w_X7_comes X x1 σ hf _ _ hH hS ls (show lv_has ls 2 [(0, .ref (B + 0)), (1, .int x1)] from hl))
-- SlackProofs.axiom(II)I  (D 2)
def b_X7_axiom_64 (s0 : Int64) (s1 : Int32) (s2 : Nat) (σ : Sto) : Option (Int32 × Sto) :=
  if (s1 < 0 ∨ 8 ≤ s1.toNatClampNeg) then none else nmS (pL σ s2 s1.toNatClampNeg s0) fun σ414 => bd2 (f_X7_comes (2 : Int32) σ414) fun r416 σ415 => some (r416, σ415)
set_option maxHeartbeats 4000000 in
set_option maxRecDepth 100000 in
theorem w_X7_axiom_64 {p : Program} {l : Launch} {e : Env} {s : State} {m : MethodId} {args : Array Value} {below : List Frame} {meth : Method} {c : Code} {G : Gd} {B : Nat} (X : Cm p s m args meth c cX7_axiom 5 RX7 G (some .int)) {r : Int32} {σr : Sto} (s0 : Int64) (s1 : Int32) (s2 : Nat) (hs2 : (s2 < layX.2.2 ∧ layX.1 s2 = .inr (.long, 8))) (σ : Sto) (hf : b_X7_axiom_64 s0 s1 s2 σ = some (r, σr)) (H : Heap) (locs : List Loc) (hH : HX G layX B σ H) (hS : va_S (inW layX B) s.heap H locs) (ls : Array Slot) (hl : lv_has ls 5 [(0, .ref (B + 0))]) : WM p l e 2 s m args below meth c H locs G layX B (some (.int r)) σr (F0 m 64 ls [.long s0, .int s1, .ref (B + s2)]) := by
  unfold b_X7_axiom_64 at hf
  have hx := X.1.1
  have hb := X.1.2.1
  obtain ⟨q413, hf⟩ := chk hf
  refine g_last (j := s1.toNatClampNeg) X.1 hH hS hs2 q413 rfl dX7_axiom_64 (fun H locs hH hS => ?_)
  obtain ⟨σ414, eσ414, hH⟩ := nmX hH
  replace hf := nmU hf eσ414
  refine lv_aload_n hx hb dX7_axiom_65 rfl (lv_at hl 0 rfl) ?_
  refine lv_iconst (v := 2) hx hb dX7_axiom_66 (by decide) ?_
  obtain ⟨r416, σ415, eσ415, hf⟩ := bnd2 hf
  refine g_cVi (As := [.int (2 : Int32)]) X.1 hH hS (c_X7_comes l G B (2 : Int32) σ414 σ415 r416 eσ415) kw_RX7_168 kX7 kx_0 (by decide) rfl hl (Nat.le_of_ble_eq_true rfl) rfl dX7_axiom_67 (fun H locs hH hS => ?_)
  obtain ⟨rfl, rfl⟩ := rt2 hf
  exact g_iret X hH hS dX7_axiom_70
def b_X7_axiom_22 (v1 : Int32) (v2 : Int32) (s0 : Int32) (σ : Sto) : Option (Int32 × Sto) :=
  bd2 (f_X7_stepRefusal s0 σ) fun r305 σ304 => if r305 = 0 then (bd2 (f_X2_next 33 σ304) fun r308 σ307 => if ¬ (r308 < layX.2.2 ∧ layX.1 r308 = .inl 3) then none else bd1 (f_X3_clear r308 σ307) fun σ310 => if v2 = (1 : Int32) then (b_X7_axiom_64 (1 : Int64) v1 (r308 + 1) σ310) else (b_X7_axiom_64 (-1 : Int64) v1 (r308 + 1) σ310)) else (some (r305, σ304))
set_option maxHeartbeats 4000000 in
set_option maxRecDepth 100000 in
theorem w_X7_axiom_22 {p : Program} {l : Launch} {e : Env} {s : State} {m : MethodId} {args : Array Value} {below : List Frame} {meth : Method} {c : Code} {G : Gd} {B : Nat} (X : Cm p s m args meth c cX7_axiom 5 RX7 G (some .int)) {r : Int32} {σr : Sto} (v1 : Int32) (v2 : Int32) (s0 : Int32) (σ : Sto) (hf : b_X7_axiom_22 v1 v2 s0 σ = some (r, σr)) (H : Heap) (locs : List Loc) (hH : HX G layX B σ H) (hS : va_S (inW layX B) s.heap H locs) (ls : Array Slot) (hl : lv_has ls 5 [(0, .ref (B + 0)), (1, .int v1), (2, .int v2)]) : WM p l e 2 s m args below meth c H locs G layX B (some (.int r)) σr (F0 m 22 ls [.int s0, .ref (B + 0)]) := by
  unfold b_X7_axiom_22 at hf
  have hx := X.1.1
  have hb := X.1.2.1
  obtain ⟨r305, σ304, eσ304, hf⟩ := bnd2 hf
  refine g_cVi (As := [.int s0]) X.1 hH hS (c_X7_stepRefusal l G B s0 σ σ304 r305 eσ304) kw_RX7_159 kX7 kx_0 (by decide) rfl hl (Nat.le_of_ble_eq_true rfl) rfl dX7_axiom_22 (fun H locs hH hS => ?_)
  refine lv_istore_n (lv' := [(3, .int r305), (0, .ref (B + 0)), (1, .int v1), (2, .int v2)]) hx hb dX7_axiom_25 rfl hl (by decide) rfl (fun ls hl => ?_)
  refine lv_iload_n hx hb dX7_axiom_26 rfl (lv_at hl 0 rfl) ?_
  refine lv_if_eq (tgt := 32) hx hb dX7_axiom_27 (by decide) (fun q306 => ?_) (fun q306 => ?_)
  · replace hf := brT hf q306
    refine lv_aload_n hx hb dX7_axiom_32 rfl (lv_at hl 1 rfl) ?_
    refine g_get (v := .ref (B + 33)) kX7 (by decide) fl_RX7_26 X.1 hH kx_0 rfl dX7_axiom_33 ?_
    obtain ⟨r308, σ307, eσ307, hf⟩ := bnd2 hf
    refine g_cVr (As := []) X.1 hH hS (c_X2_next l G B 33 kx_33 σ304 σ307 r308 eσ307) kw_RX7_133 kX2 kx_33 (by decide) rfl hl (Nat.le_of_ble_eq_true rfl) rfl dX7_axiom_36 (fun H locs hH hS => ?_)
    obtain ⟨q309, hf⟩ := chk hf
    replace q309 := Decidable.not_not.mp q309
    refine lv_astore (lv' := [(4, .ref (B + r308)), (3, .int r305), (0, .ref (B + 0)), (1, .int v1), (2, .int v2)]) hx hb dX7_axiom_39 hl (by decide) rfl (fun ls hl => ?_)
    refine lv_aload hx hb dX7_axiom_41 (lv_at hl 0 rfl) ?_
    obtain ⟨σ310, eσ310, hf⟩ := bnd1 hf
    refine g_cVv (As := []) X.1 hH hS (c_X3_clear l G B r308 q309 σ307 σ310 eσ310) kw_RX7_192 kX3 q309 (by decide) rfl hl (Nat.le_of_ble_eq_true rfl) rfl dX7_axiom_43 (fun H locs hH hS => ?_)
    refine lv_aload hx hb dX7_axiom_46 (lv_at hl 0 rfl) ?_
    refine g_get (v := .ref (B + (r308 + 1))) kX3 (by decide) fl_RX7_185 X.1 hH q309 (cRef q309) dX7_axiom_48 ?_
    refine lv_iload_n hx hb dX7_axiom_51 rfl (lv_at hl 3 rfl) ?_
    refine lv_iload_n hx hb dX7_axiom_52 rfl (lv_at hl 4 rfl) ?_
    refine lv_iconst (v := 1) hx hb dX7_axiom_53 (by decide) ?_
    refine lv_icmp_ne (tgt := 61) hx hb dX7_axiom_54 (by decide) (fun q312 => ?_) (fun q312 => ?_)
    · replace hf := brF hf q312
      refine lv_ldc2 (v := -1) hx hb X.1.2.2.2.1 (X.1.2.2.2.2.1 _ kc_RX7_195) dX7_axiom_61 ?_
      exact w_X7_axiom_64 X (-1 : Int64) v1 (r308 + 1) (cArr q309) σ310 hf _ _ hH hS _ (lv_sub hl [2] rfl)
    · replace hf := brT hf q312
      refine lv_lconst (v := 1) hx hb dX7_axiom_57 (by decide) ?_
      refine lv_goto (tgt := 64) hx hb dX7_axiom_58 (by decide) ?_
      exact w_X7_axiom_64 X (1 : Int64) v1 (r308 + 1) (cArr q309) σ310 hf _ _ hH hS _ (lv_sub hl [2] rfl)
  · replace hf := brF hf q306
    refine lv_iload_n hx hb dX7_axiom_30 rfl (lv_at hl 0 rfl) ?_
    obtain ⟨rfl, rfl⟩ := rt2 hf
    exact g_iret X hH hS dX7_axiom_31
def b_X7_axiom_21 (v1 : Int32) (v2 : Int32) (σ : Sto) : Option (Int32 × Sto) :=
  b_X7_axiom_22 v1 v2 (0 : Int32) σ
set_option maxHeartbeats 4000000 in
set_option maxRecDepth 100000 in
theorem w_X7_axiom_21 {p : Program} {l : Launch} {e : Env} {s : State} {m : MethodId} {args : Array Value} {below : List Frame} {meth : Method} {c : Code} {G : Gd} {B : Nat} (X : Cm p s m args meth c cX7_axiom 5 RX7 G (some .int)) {r : Int32} {σr : Sto} (v1 : Int32) (v2 : Int32) (σ : Sto) (hf : b_X7_axiom_21 v1 v2 σ = some (r, σr)) (H : Heap) (locs : List Loc) (hH : HX G layX B σ H) (hS : va_S (inW layX B) s.heap H locs) (ls : Array Slot) (hl : lv_has ls 5 [(0, .ref (B + 0)), (1, .int v1), (2, .int v2)]) : WM p l e 2 s m args below meth c H locs G layX B (some (.int r)) σr (F0 m 21 ls [.ref (B + 0)]) := by
  unfold b_X7_axiom_21 at hf
  have hx := X.1.1
  have hb := X.1.2.1
  refine lv_iconst (v := 0) hx hb dX7_axiom_21 (by decide) ?_
  exact w_X7_axiom_22 X v1 v2 (0 : Int32) σ hf _ _ hH hS _ (lv_sub hl [0, 1, 2] rfl)
def b_X7_axiom_17 (v1 : Int32) (v2 : Int32) (σ : Sto) : Option (Int32 × Sto) :=
  b_X7_axiom_22 v1 v2 (1 : Int32) σ
set_option maxHeartbeats 4000000 in
set_option maxRecDepth 100000 in
theorem w_X7_axiom_17 {p : Program} {l : Launch} {e : Env} {s : State} {m : MethodId} {args : Array Value} {below : List Frame} {meth : Method} {c : Code} {G : Gd} {B : Nat} (X : Cm p s m args meth c cX7_axiom 5 RX7 G (some .int)) {r : Int32} {σr : Sto} (v1 : Int32) (v2 : Int32) (σ : Sto) (hf : b_X7_axiom_17 v1 v2 σ = some (r, σr)) (H : Heap) (locs : List Loc) (hH : HX G layX B σ H) (hS : va_S (inW layX B) s.heap H locs) (ls : Array Slot) (hl : lv_has ls 5 [(0, .ref (B + 0)), (1, .int v1), (2, .int v2)]) : WM p l e 2 s m args below meth c H locs G layX B (some (.int r)) σr (F0 m 17 ls [.ref (B + 0)]) := by
  unfold b_X7_axiom_17 at hf
  have hx := X.1.1
  have hb := X.1.2.1
  refine lv_iconst (v := 1) hx hb dX7_axiom_17 (by decide) ?_
  refine lv_goto (tgt := 22) hx hb dX7_axiom_18 (by decide) ?_
  exact w_X7_axiom_22 X v1 v2 (1 : Int32) σ hf _ _ hH hS _ (lv_sub hl [0, 1, 2] rfl)
def f_X7_axiom (x1 : Int32) (x2 : Int32) (σ : Sto) : Option (Int32 × Sto) :=
  bd2 (f_X7_isVariable x1 σ) fun r102 σ101 => if r102 = 0 then (b_X7_axiom_21 x1 x2 σ101) else (if x2 = 0 then (b_X7_axiom_17 x1 x2 σ101) else (if x2 = (1 : Int32) then (b_X7_axiom_17 x1 x2 σ101) else (b_X7_axiom_21 x1 x2 σ101)))
set_option maxHeartbeats 4000000 in
set_option maxRecDepth 100000 in
theorem w_X7_axiom {p : Program} {l : Launch} {e : Env} {s : State} {m : MethodId} {args : Array Value} {below : List Frame} {meth : Method} {c : Code} {G : Gd} {B : Nat} (X : Cm p s m args meth c cX7_axiom 5 RX7 G (some .int)) {r : Int32} {σr : Sto} (x1 : Int32) (x2 : Int32) (σ : Sto) (hf : f_X7_axiom x1 x2 σ = some (r, σr)) (H : Heap) (locs : List Loc) (hH : HX G layX B σ H) (hS : va_S (inW layX B) s.heap H locs) (ls : Array Slot) (hl : lv_has ls 5 [(0, .ref (B + 0)), (1, .int x1), (2, .int x2)]) : WM p l e 2 s m args below meth c H locs G layX B (some (.int r)) σr (F0 m 0 ls []) := by
  unfold f_X7_axiom at hf
  have hx := X.1.1
  have hb := X.1.2.1
  refine lv_aload_n hx hb dX7_axiom_0 rfl (lv_at hl 0 rfl) ?_
  refine lv_iload_n hx hb dX7_axiom_1 rfl (lv_at hl 1 rfl) ?_
  obtain ⟨r102, σ101, eσ101, hf⟩ := bnd2 hf
  refine g_cSi (As := [.int x1]) X.1 hH hS (c_X7_isVariable l G B x1 σ σ101 r102 eσ101) kw_RX7_182 (by decide) rfl hl (Nat.le_of_ble_eq_true rfl) rfl dX7_axiom_2 (fun H locs hH hS => ?_)
  refine lv_if_eq (tgt := 21) hx hb dX7_axiom_5 (by decide) (fun q103 => ?_) (fun q103 => ?_)
  · replace hf := brT hf q103
    exact w_X7_axiom_21 X x1 x2 σ101 hf _ _ hH hS _ (lv_sub hl [0, 1, 2] rfl)
  · replace hf := brF hf q103
    refine lv_iload_n hx hb dX7_axiom_8 rfl (lv_at hl 2 rfl) ?_
    refine lv_if_eq (tgt := 17) hx hb dX7_axiom_9 (by decide) (fun q417 => ?_) (fun q417 => ?_)
    · replace hf := brT hf q417
      exact w_X7_axiom_17 X x1 x2 σ101 hf _ _ hH hS _ (lv_sub hl [0, 1, 2] rfl)
    · replace hf := brF hf q417
      refine lv_iload_n hx hb dX7_axiom_12 rfl (lv_at hl 2 rfl) ?_
      refine lv_iconst (v := 1) hx hb dX7_axiom_13 (by decide) ?_
      refine lv_icmp_ne (tgt := 21) hx hb dX7_axiom_14 (by decide) (fun q518 => ?_) (fun q518 => ?_)
      · replace hf := brF hf q518
        exact w_X7_axiom_21 X x1 x2 σ101 hf _ _ hH hS _ (lv_sub hl [0, 1, 2] rfl)
      · replace hf := brT hf q518
        exact w_X7_axiom_17 X x1 x2 σ101 hf _ _ hH hS _ (lv_sub hl [0, 1, 2] rfl)
theorem c_X7_axiom (l : Launch) (G : Gd) (B : Nat) (x1 : Int32) (x2 : Int32) (σ σr : Sto) (r : Int32) (hf : f_X7_axiom x1 x2 σ = some (r, σr)) : Ct l G layX B yX7_axiom cX7_axiom 5 (some .int) 2 [.ref (B + 0), .int x1, .int x2] (some (.int r)) σ σr :=
  Ct.ofW (by decide) (Nat.le_of_ble_eq_true rfl) (fun _ _ _ _ _ _ _ X hH hS ls hl => w_X7_axiom X x1 x2 σ hf _ _ hH hS ls (show lv_has ls 5 [(0, .ref (B + 0)), (1, .int x1), (2, .int x2)] from hl))
-- SlackProofs.bestOfAll(I)I  (D 5)
def b_X7_bestOfAll_34 (s0 : Int32) (σ : Sto) : Option (Int32 × Sto) :=
  some (s0, σ)
set_option maxHeartbeats 4000000 in
set_option maxRecDepth 100000 in
theorem w_X7_bestOfAll_34 {p : Program} {l : Launch} {e : Env} {s : State} {m : MethodId} {args : Array Value} {below : List Frame} {meth : Method} {c : Code} {G : Gd} {B : Nat} (X : Cm p s m args meth c cX7_bestOfAll 3 RX7 G (some .int)) {r : Int32} {σr : Sto} (s0 : Int32) (σ : Sto) (hf : b_X7_bestOfAll_34 s0 σ = some (r, σr)) (H : Heap) (locs : List Loc) (hH : HX G layX B σ H) (hS : va_S (inW layX B) s.heap H locs) (ls : Array Slot) (hl : lv_has ls 3 []) : WM p l e 5 s m args below meth c H locs G layX B (some (.int r)) σr (F0 m 34 ls [.int s0]) := by
  unfold b_X7_bestOfAll_34 at hf
  have hx := X.1.1
  have hb := X.1.2.1
  obtain ⟨rfl, rfl⟩ := rt2 hf
  exact g_iret X hH hS dX7_bestOfAll_34
def f_X7_bestOfAll (x1 : Int32) (σ : Sto) : Option (Int32 × Sto) :=
  bd2 (f_X2_bestValues 33 σ) fun r102 σ101 => if r102 = (-1000000 : Int32) then (some ((-1000000 : Int32), σ101)) else (if x1 = (1 : Int32) then (bd2 (f_X2_priceOf 33 r102 σ101) fun r206 σ205 => b_X7_bestOfAll_34 r206 σ205) else (b_X7_bestOfAll_34 r102 σ101))
set_option maxHeartbeats 4000000 in
set_option maxRecDepth 100000 in
theorem w_X7_bestOfAll {p : Program} {l : Launch} {e : Env} {s : State} {m : MethodId} {args : Array Value} {below : List Frame} {meth : Method} {c : Code} {G : Gd} {B : Nat} (X : Cm p s m args meth c cX7_bestOfAll 3 RX7 G (some .int)) {r : Int32} {σr : Sto} (x1 : Int32) (σ : Sto) (hf : f_X7_bestOfAll x1 σ = some (r, σr)) (H : Heap) (locs : List Loc) (hH : HX G layX B σ H) (hS : va_S (inW layX B) s.heap H locs) (ls : Array Slot) (hl : lv_has ls 3 [(0, .ref (B + 0)), (1, .int x1)]) : WM p l e 5 s m args below meth c H locs G layX B (some (.int r)) σr (F0 m 0 ls []) := by
  unfold f_X7_bestOfAll at hf
  have hx := X.1.1
  have hb := X.1.2.1
  refine lv_aload_n hx hb dX7_bestOfAll_0 rfl (lv_at hl 0 rfl) ?_
  refine g_get (v := .ref (B + 33)) kX7 (by decide) fl_RX7_26 X.1 hH kx_0 rfl dX7_bestOfAll_1 ?_
  obtain ⟨r102, σ101, eσ101, hf⟩ := bnd2 hf
  refine g_cVi (As := []) X.1 hH hS (c_X2_bestValues l G B 33 kx_33 σ σ101 r102 eσ101) kw_RX7_331 kX2 kx_33 (by decide) rfl hl (Nat.le_of_ble_eq_true rfl) rfl dX7_bestOfAll_4 (fun H locs hH hS => ?_)
  refine lv_istore_n (lv' := [(2, .int r102), (0, .ref (B + 0)), (1, .int x1)]) hx hb dX7_bestOfAll_7 rfl hl (by decide) rfl (fun ls hl => ?_)
  refine lv_iload_n hx hb dX7_bestOfAll_8 rfl (lv_at hl 0 rfl) ?_
  refine lv_ldc (v := -1000000) hx hb X.1.2.2.2.1 (X.1.2.2.2.2.1 _ kc_RX7_224) dX7_bestOfAll_9 ?_
  refine lv_icmp_ne (tgt := 17) hx hb dX7_bestOfAll_11 (by decide) (fun q103 => ?_) (fun q103 => ?_)
  · replace hf := brF hf q103
    refine lv_iload_n hx hb dX7_bestOfAll_17 rfl (lv_at hl 2 rfl) ?_
    refine lv_iconst (v := 1) hx hb dX7_bestOfAll_18 (by decide) ?_
    refine lv_icmp_ne (tgt := 33) hx hb dX7_bestOfAll_19 (by decide) (fun q104 => ?_) (fun q104 => ?_)
    · replace hf := brF hf q104
      refine lv_iload_n hx hb dX7_bestOfAll_33 rfl (lv_at hl 0 rfl) ?_
      exact w_X7_bestOfAll_34 X r102 σ101 hf _ _ hH hS _ (lv_sub hl [] rfl)
    · replace hf := brT hf q104
      refine lv_aload_n hx hb dX7_bestOfAll_22 rfl (lv_at hl 1 rfl) ?_
      refine g_get (v := .ref (B + 33)) kX7 (by decide) fl_RX7_26 X.1 hH kx_0 rfl dX7_bestOfAll_23 ?_
      refine lv_iload_n hx hb dX7_bestOfAll_26 rfl (lv_at hl 0 rfl) ?_
      obtain ⟨r206, σ205, eσ205, hf⟩ := bnd2 hf
      refine g_cVi (As := [.int r102]) X.1 hH hS (c_X2_priceOf l G B 33 kx_33 r102 σ101 σ205 r206 eσ205) kw_RX7_228 kX2 kx_33 (by decide) rfl hl (Nat.le_of_ble_eq_true rfl) rfl dX7_bestOfAll_27 (fun H locs hH hS => ?_)
      refine lv_goto (tgt := 34) hx hb dX7_bestOfAll_30 (by decide) ?_
      exact w_X7_bestOfAll_34 X r206 σ205 hf _ _ hH hS _ (lv_sub hl [] rfl)
  · replace hf := brT hf q103
    refine lv_ldc (v := -1000000) hx hb X.1.2.2.2.1 (X.1.2.2.2.2.1 _ kc_RX7_224) dX7_bestOfAll_14 ?_
    obtain ⟨rfl, rfl⟩ := rt2 hf
    exact g_iret X hH hS dX7_bestOfAll_16
theorem c_X7_bestOfAll (l : Launch) (G : Gd) (B : Nat) (x1 : Int32) (σ σr : Sto) (r : Int32) (hf : f_X7_bestOfAll x1 σ = some (r, σr)) : Ct l G layX B yX7_bestOfAll cX7_bestOfAll 3 (some .int) 5 [.ref (B + 0), .int x1] (some (.int r)) σ σr :=
  Ct.ofW (by decide) (Nat.le_of_ble_eq_true rfl) (fun _ _ _ _ _ _ _ X hH hS ls hl => w_X7_bestOfAll X x1 σ hf _ _ hH hS ls (show lv_has ls 3 [(0, .ref (B + 0)), (1, .int x1)] from hl))
-- SlackProofs.claimOfTape(I)I  (D 6)
def b_X7_claimOfTape_93 (v2 : Nat) (s0 : Int32) (σ : Sto) : Option (Int32 × Sto) :=
  if s0 = 0 then (bd2 (f_X7_well (-1000000 : Int32) σ) fun r225 σ224 => some (r225, σ224)) else (bd2 (f_X2_next 33 σ) fun r216 σ215 => if ¬ (r216 < layX.2.2 ∧ layX.1 r216 = .inl 3) then none else bd1 (f_X3_become r216 v2 σ215) fun σ218 => bd2 (f_X7_comes (5 : Int32) σ218) fun r221 σ220 => bd2 (f_X7_well r221 σ220) fun r223 σ222 => some (r223, σ222))
set_option maxHeartbeats 4000000 in
set_option maxRecDepth 100000 in
theorem w_X7_claimOfTape_93 {p : Program} {l : Launch} {e : Env} {s : State} {m : MethodId} {args : Array Value} {below : List Frame} {meth : Method} {c : Code} {G : Gd} {B : Nat} (X : Cm p s m args meth c cX7_claimOfTape 4 RX7 G (some .int)) {r : Int32} {σr : Sto} (v2 : Nat) (s0 : Int32) (hv2 : (v2 < layX.2.2 ∧ layX.1 v2 = .inl 3)) (σ : Sto) (hf : b_X7_claimOfTape_93 v2 s0 σ = some (r, σr)) (H : Heap) (locs : List Loc) (hH : HX G layX B σ H) (hS : va_S (inW layX B) s.heap H locs) (ls : Array Slot) (hl : lv_has ls 4 [(0, .ref (B + 0)), (2, .ref (B + v2))]) : WM p l e 6 s m args below meth c H locs G layX B (some (.int r)) σr (F0 m 93 ls [.int s0]) := by
  unfold b_X7_claimOfTape_93 at hf
  have hx := X.1.1
  have hb := X.1.2.1
  refine lv_istore_n (lv' := [(3, .int s0), (0, .ref (B + 0)), (2, .ref (B + v2))]) hx hb dX7_claimOfTape_93 rfl hl (by decide) rfl (fun ls hl => ?_)
  refine lv_iload_n hx hb dX7_claimOfTape_94 rfl (lv_at hl 0 rfl) ?_
  refine lv_if_ne (tgt := 105) hx hb dX7_claimOfTape_95 (by decide) (fun q214 => ?_) (fun q214 => ?_)
  · replace hf := brF hf q214
    refine lv_aload_n hx hb dX7_claimOfTape_105 rfl (lv_at hl 1 rfl) ?_
    refine g_get (v := .ref (B + 33)) kX7 (by decide) fl_RX7_26 X.1 hH kx_0 rfl dX7_claimOfTape_106 ?_
    obtain ⟨r216, σ215, eσ215, hf⟩ := bnd2 hf
    refine g_cVr (As := []) X.1 hH hS (c_X2_next l G B 33 kx_33 σ σ215 r216 eσ215) kw_RX7_133 kX2 kx_33 (by decide) rfl hl (Nat.le_of_ble_eq_true rfl) rfl dX7_claimOfTape_109 (fun H locs hH hS => ?_)
    obtain ⟨q217, hf⟩ := chk hf
    replace q217 := Decidable.not_not.mp q217
    refine lv_aload_n hx hb dX7_claimOfTape_112 rfl (lv_at hl 2 rfl) ?_
    obtain ⟨σ218, eσ218, hf⟩ := bnd1 hf
    refine g_cVv (As := [.ref (B + v2)]) X.1 hH hS (c_X3_become l G B r216 q217 v2 hv2 σ215 σ218 eσ218) kw_RX7_141 kX3 q217 (by decide) rfl hl (Nat.le_of_ble_eq_true rfl) rfl dX7_claimOfTape_113 (fun H locs hH hS => ?_)
    refine lv_aload_n hx hb dX7_claimOfTape_116 rfl (lv_at hl 1 rfl) ?_
    refine lv_aload_n hx hb dX7_claimOfTape_117 rfl (lv_at hl 1 rfl) ?_
    refine lv_iconst (v := 5) hx hb dX7_claimOfTape_118 (by decide) ?_
    obtain ⟨r221, σ220, eσ220, hf⟩ := bnd2 hf
    refine g_cVi (As := [.int (5 : Int32)]) X.1 hH hS (c_X7_comes l G B (5 : Int32) σ218 σ220 r221 eσ220) kw_RX7_168 kX7 kx_0 (by decide) rfl hl (Nat.le_of_ble_eq_true rfl) rfl dX7_claimOfTape_119 (fun H locs hH hS => ?_)
    obtain ⟨r223, σ222, eσ222, hf⟩ := bnd2 hf
    refine g_cVi (As := [.int r221]) X.1 hH hS (c_X7_well l G B r221 σ220 σ222 r223 eσ222) kw_RX7_74 kX7 kx_0 (by decide) rfl hl (Nat.le_of_ble_eq_true rfl) rfl dX7_claimOfTape_122 (fun H locs hH hS => ?_)
    obtain ⟨rfl, rfl⟩ := rt2 hf
    exact g_iret X hH hS dX7_claimOfTape_125
  · replace hf := brT hf q214
    refine lv_aload_n hx hb dX7_claimOfTape_98 rfl (lv_at hl 1 rfl) ?_
    refine lv_ldc (v := -1000000) hx hb X.1.2.2.2.1 (X.1.2.2.2.2.1 _ kc_RX7_224) dX7_claimOfTape_99 ?_
    obtain ⟨r225, σ224, eσ224, hf⟩ := bnd2 hf
    refine g_cVi (As := [.int (-1000000 : Int32)]) X.1 hH hS (c_X7_well l G B (-1000000 : Int32) σ σ224 r225 eσ224) kw_RX7_74 kX7 kx_0 (by decide) rfl hl (Nat.le_of_ble_eq_true rfl) rfl dX7_claimOfTape_101 (fun H locs hH hS => ?_)
    obtain ⟨rfl, rfl⟩ := rt2 hf
    exact g_iret X hH hS dX7_claimOfTape_104
def f_X7_claimOfTape (x1 : Int32) (σ : Sto) : Option (Int32 × Sto) :=
  bd2 (f_X5_readsClaim σ) fun r102 σ101 => if r102 = 0 then (some (((-1000100 : Int32) - (σ101.1 13 6)), σ101)) else (bd2 (f_X2_isFull 33 σ101) fun r105 σ104 => if r105 = 0 then (bd2 (f_X2_isBeyond 33 σ104) fun r108 σ107 => if r108 = 0 then (if 0 ≤ x1 then (if (x1 < 0 ∨ 8 ≤ x1.toNatClampNeg) then none else bd2 (f_X4_comesByWitness (17 + 2 * 0) (3 + x1.toNatClampNeg) 40 σ107) fun r113 σ112 => b_X7_claimOfTape_93 (17 + 2 * 0) r113 σ112) else (bd2 (f_X4_followsFromAll (17 + 2 * 0) σ107) fun r227 σ226 => b_X7_claimOfTape_93 (17 + 2 * 0) r227 σ226)) else (bd2 (f_X7_found (6 : Int32) σ107) fun r229 σ228 => some (r229, σ228))) else (some ((-1000003 : Int32), σ104)))
set_option maxHeartbeats 4000000 in
set_option maxRecDepth 100000 in
theorem w_X7_claimOfTape {p : Program} {l : Launch} {e : Env} {s : State} {m : MethodId} {args : Array Value} {below : List Frame} {meth : Method} {c : Code} {G : Gd} {B : Nat} (X : Cm p s m args meth c cX7_claimOfTape 4 RX7 G (some .int)) {r : Int32} {σr : Sto} (x1 : Int32) (σ : Sto) (hf : f_X7_claimOfTape x1 σ = some (r, σr)) (H : Heap) (locs : List Loc) (hH : HX G layX B σ H) (hS : va_S (inW layX B) s.heap H locs) (ls : Array Slot) (hl : lv_has ls 4 [(0, .ref (B + 0)), (1, .int x1)]) : WM p l e 6 s m args below meth c H locs G layX B (some (.int r)) σr (F0 m 0 ls []) := by
  unfold f_X7_claimOfTape at hf
  have hx := X.1.1
  have hb := X.1.2.1
  refine lv_aload_n hx hb dX7_claimOfTape_0 rfl (lv_at hl 0 rfl) ?_
  refine g_get (v := .ref (B + 13)) kX7 (by decide) fl_RX7_19 X.1 hH kx_0 rfl dX7_claimOfTape_1 ?_
  obtain ⟨r102, σ101, eσ101, hf⟩ := bnd2 hf
  refine g_cVi (As := []) X.1 hH hS (c_X5_readsClaim l G B σ σ101 r102 eσ101) kw_RX7_320 kX5 kx_13 (by decide) rfl hl (Nat.le_of_ble_eq_true rfl) rfl dX7_claimOfTape_4 (fun H locs hH hS => ?_)
  refine lv_if_ne (tgt := 21) hx hb dX7_claimOfTape_7 (by decide) (fun q103 => ?_) (fun q103 => ?_)
  · replace hf := brF hf q103
    refine lv_aload_n hx hb dX7_claimOfTape_21 rfl (lv_at hl 0 rfl) ?_
    refine g_get (v := .ref (B + 33)) kX7 (by decide) fl_RX7_26 X.1 hH kx_0 rfl dX7_claimOfTape_22 ?_
    obtain ⟨r105, σ104, eσ104, hf⟩ := bnd2 hf
    refine g_cVi (As := []) X.1 hH hS (c_X2_isFull l G B 33 kx_33 σ101 σ104 r105 eσ104) kw_RX7_215 kX2 kx_33 (by decide) rfl hl (Nat.le_of_ble_eq_true rfl) rfl dX7_claimOfTape_25 (fun H locs hH hS => ?_)
    refine lv_if_eq (tgt := 34) hx hb dX7_claimOfTape_28 (by decide) (fun q106 => ?_) (fun q106 => ?_)
    · replace hf := brT hf q106
      refine lv_aload_n hx hb dX7_claimOfTape_34 rfl (lv_at hl 0 rfl) ?_
      refine g_get (v := .ref (B + 33)) kX7 (by decide) fl_RX7_26 X.1 hH kx_0 rfl dX7_claimOfTape_35 ?_
      obtain ⟨r108, σ107, eσ107, hf⟩ := bnd2 hf
      refine g_cVi (As := []) X.1 hH hS (c_X2_isBeyond l G B 33 kx_33 σ104 σ107 r108 eσ107) kw_RX7_218 kX2 kx_33 (by decide) rfl hl (Nat.le_of_ble_eq_true rfl) rfl dX7_claimOfTape_38 (fun H locs hH hS => ?_)
      refine lv_if_eq (tgt := 51) hx hb dX7_claimOfTape_41 (by decide) (fun q109 => ?_) (fun q109 => ?_)
      · replace hf := brT hf q109
        refine lv_aload_n hx hb dX7_claimOfTape_51 rfl (lv_at hl 0 rfl) ?_
        refine g_get (v := .ref (B + 13)) kX7 (by decide) fl_RX7_19 X.1 hH kx_0 rfl dX7_claimOfTape_52 ?_
        refine g_get (v := .ref (B + 15)) kX5 (by decide) fl_RX7_137 X.1 hH kx_13 rfl dX7_claimOfTape_55 ?_
        refine lv_iconst (v := 0) hx hb dX7_claimOfTape_58 (by decide) ?_
        refine g_aald (b := (17 + 2 * 0)) X.1 hH kx_15 (by decide) (show ¬ ((0 : Int32) < 0 ∨ 8 ≤ 0) by decide) rfl dX7_claimOfTape_59 ?_
        refine lv_astore_n (lv' := [(2, .ref (B + (17 + 2 * 0))), (0, .ref (B + 0)), (1, .int x1)]) hx hb dX7_claimOfTape_60 rfl hl (by decide) rfl (fun ls hl => ?_)
        refine lv_iload_n hx hb dX7_claimOfTape_61 rfl (lv_at hl 2 rfl) ?_
        refine lv_if_ge (tgt := 76) hx hb dX7_claimOfTape_62 (by decide) (fun q110 => ?_) (fun q110 => ?_)
        · replace hf := brT hf q110
          refine lv_aload_n hx hb dX7_claimOfTape_76 rfl (lv_at hl 1 rfl) ?_
          refine g_get (v := .ref (B + 227)) kX7 (by decide) fl_RX7_46 X.1 hH kx_0 rfl dX7_claimOfTape_77 ?_
          refine lv_aload_n hx hb dX7_claimOfTape_80 rfl (lv_at hl 0 rfl) ?_
          refine lv_aload_n hx hb dX7_claimOfTape_81 rfl (lv_at hl 1 rfl) ?_
          refine g_get (v := .ref (B + 1)) kX7 (by decide) fl_RX7_10 X.1 hH kx_0 rfl dX7_claimOfTape_82 ?_
          refine g_get (v := .ref (B + 2)) kX6 (by decide) fl_RX7_95 X.1 hH kx_1 rfl dX7_claimOfTape_85 ?_
          refine lv_iload_n hx hb dX7_claimOfTape_88 rfl (lv_at hl 2 rfl) ?_
          obtain ⟨q111, hf⟩ := chk hf
          refine g_aald (b := (3 + x1.toNatClampNeg)) X.1 hH kx_2 (by decide) q111 rfl dX7_claimOfTape_89 ?_
          obtain ⟨r113, σ112, eσ112, hf⟩ := bnd2 hf
          refine g_cVi (As := [.ref (B + (17 + 2 * 0)), .ref (B + (3 + x1.toNatClampNeg))]) X.1 hH hS (c_X4_comesByWitness l G B (17 + 2 * 0) (kRd (show ¬ ((0 : Int32) < 0 ∨ 8 ≤ 0) by decide)) (3 + x1.toNatClampNeg) 40 (kRow q111) σ107 σ112 r113 eσ112) kw_RX7_327 kX4 kx_227 (by decide) rfl hl (Nat.le_of_ble_eq_true rfl) rfl dX7_claimOfTape_90 (fun H locs hH hS => ?_)
          exact w_X7_claimOfTape_93 X (17 + 2 * 0) r113 (kRd (show ¬ ((0 : Int32) < 0 ∨ 8 ≤ 0) by decide)) σ112 hf _ _ hH hS _ (lv_sub hl [1, 0] rfl)
        · replace hf := brF hf q110
          refine lv_aload_n hx hb dX7_claimOfTape_65 rfl (lv_at hl 1 rfl) ?_
          refine g_get (v := .ref (B + 227)) kX7 (by decide) fl_RX7_46 X.1 hH kx_0 rfl dX7_claimOfTape_66 ?_
          refine lv_aload_n hx hb dX7_claimOfTape_69 rfl (lv_at hl 0 rfl) ?_
          obtain ⟨r227, σ226, eσ226, hf⟩ := bnd2 hf
          refine g_cVi (As := [.ref (B + (17 + 2 * 0))]) X.1 hH hS (c_X4_followsFromAll l G B (17 + 2 * 0) (kRd (show ¬ ((0 : Int32) < 0 ∨ 8 ≤ 0) by decide)) σ107 σ226 r227 eσ226) kw_RX7_323 kX4 kx_227 (by decide) rfl hl (Nat.le_of_ble_eq_true rfl) rfl dX7_claimOfTape_70 (fun H locs hH hS => ?_)
          refine lv_goto (tgt := 93) hx hb dX7_claimOfTape_73 (by decide) ?_
          exact w_X7_claimOfTape_93 X (17 + 2 * 0) r227 (kRd (show ¬ ((0 : Int32) < 0 ∨ 8 ≤ 0) by decide)) σ226 hf _ _ hH hS _ (lv_sub hl [1, 0] rfl)
      · replace hf := brF hf q109
        refine lv_aload_n hx hb dX7_claimOfTape_44 rfl (lv_at hl 0 rfl) ?_
        refine lv_bipush (v := 6) hx hb dX7_claimOfTape_45 (by decide) ?_
        obtain ⟨r229, σ228, eσ228, hf⟩ := bnd2 hf
        refine g_cVi (As := [.int (6 : Int32)]) X.1 hH hS (c_X7_found l G B (6 : Int32) σ107 σ228 r229 eσ228) kw_RX7_66 kX7 kx_0 (by decide) rfl hl (Nat.le_of_ble_eq_true rfl) rfl dX7_claimOfTape_47 (fun H locs hH hS => ?_)
        obtain ⟨rfl, rfl⟩ := rt2 hf
        exact g_iret X hH hS dX7_claimOfTape_50
    · replace hf := brF hf q106
      refine lv_ldc (v := -1000003) hx hb X.1.2.2.2.1 (X.1.2.2.2.2.1 _ kc_RX7_111) dX7_claimOfTape_31 ?_
      obtain ⟨rfl, rfl⟩ := rt2 hf
      exact g_iret X hH hS dX7_claimOfTape_33
  · replace hf := brT hf q103
    refine lv_ldc (v := -1000100) hx hb X.1.2.2.2.1 (X.1.2.2.2.2.1 _ kc_RX7_119) dX7_claimOfTape_10 ?_
    refine lv_aload_n hx hb dX7_claimOfTape_12 rfl (lv_at hl 0 rfl) ?_
    refine g_get (v := .ref (B + 13)) kX7 (by decide) fl_RX7_19 X.1 hH kx_0 rfl dX7_claimOfTape_13 ?_
    refine g_get (v := .int (σ101.1 13 6)) kX5 (by decide) fl_RX7_120 X.1 hH kx_13 rfl dX7_claimOfTape_16 ?_
    refine lv_isub hx hb dX7_claimOfTape_19 ?_
    obtain ⟨rfl, rfl⟩ := rt2 hf
    exact g_iret X hH hS dX7_claimOfTape_20
theorem c_X7_claimOfTape (l : Launch) (G : Gd) (B : Nat) (x1 : Int32) (σ σr : Sto) (r : Int32) (hf : f_X7_claimOfTape x1 σ = some (r, σr)) : Ct l G layX B yX7_claimOfTape cX7_claimOfTape 4 (some .int) 6 [.ref (B + 0), .int x1] (some (.int r)) σ σr :=
  Ct.ofW (by decide) (Nat.le_of_ble_eq_true rfl) (fun _ _ _ _ _ _ _ X hH hS ls hl => w_X7_claimOfTape X x1 σ hf _ _ hH hS ls (show lv_has ls 4 [(0, .ref (B + 0)), (1, .int x1)] from hl))
-- SlackProofs.claim()I  (D 7)
def f_X7_claim (σ : Sto) : Option (Int32 × Sto) :=
  if (σ.1 33 2) = 0 then (some ((-1000002 : Int32), σ)) else (bd2 (f_X7_claimOfTape (-1 : Int32) σ) fun r103 σ102 => some (r103, σ102))
set_option maxHeartbeats 4000000 in
set_option maxRecDepth 100000 in
theorem w_X7_claim {p : Program} {l : Launch} {e : Env} {s : State} {m : MethodId} {args : Array Value} {below : List Frame} {meth : Method} {c : Code} {G : Gd} {B : Nat} (X : Cm p s m args meth c cX7_claim 1 RX7 G (some .int)) {r : Int32} {σr : Sto} (σ : Sto) (hf : f_X7_claim σ = some (r, σr)) (H : Heap) (locs : List Loc) (hH : HX G layX B σ H) (hS : va_S (inW layX B) s.heap H locs) (ls : Array Slot) (hl : lv_has ls 1 [(0, .ref (B + 0))]) : WM p l e 7 s m args below meth c H locs G layX B (some (.int r)) σr (F0 m 0 ls []) := by
  unfold f_X7_claim at hf
  have hx := X.1.1
  have hb := X.1.2.1
  refine lv_aload_n hx hb dX7_claim_0 rfl (lv_at hl 0 rfl) ?_
  refine g_get (v := .ref (B + 33)) kX7 (by decide) fl_RX7_26 X.1 hH kx_0 rfl dX7_claim_1 ?_
  refine g_get (v := .int (σ.1 33 2)) kX2 (by decide) fl_RX7_197 X.1 hH kx_33 rfl dX7_claim_4 ?_
  refine lv_if_ne (tgt := 13) hx hb dX7_claim_7 (by decide) (fun q101 => ?_) (fun q101 => ?_)
  · replace hf := brF hf q101
    refine lv_aload_n hx hb dX7_claim_13 rfl (lv_at hl 0 rfl) ?_
    refine lv_iconst (v := -1) hx hb dX7_claim_14 (by decide) ?_
    obtain ⟨r103, σ102, eσ102, hf⟩ := bnd2 hf
    refine g_cVi (As := [.int (-1 : Int32)]) X.1 hH hS (c_X7_claimOfTape l G B (-1 : Int32) σ σ102 r103 eσ102) kw_RX7_202 kX7 kx_0 (by decide) rfl hl (Nat.le_of_ble_eq_true rfl) rfl dX7_claim_15 (fun H locs hH hS => ?_)
    obtain ⟨rfl, rfl⟩ := rt2 hf
    exact g_iret X hH hS dX7_claim_18
  · replace hf := brT hf q101
    refine lv_ldc (v := -1000002) hx hb X.1.2.2.2.1 (X.1.2.2.2.2.1 _ kc_RX7_201) dX7_claim_10 ?_
    obtain ⟨rfl, rfl⟩ := rt2 hf
    exact g_iret X hH hS dX7_claim_12
theorem c_X7_claim (l : Launch) (G : Gd) (B : Nat) (σ σr : Sto) (r : Int32) (hf : f_X7_claim σ = some (r, σr)) : Ct l G layX B yX7_claim cX7_claim 1 (some .int) 7 [.ref (B + 0)] (some (.int r)) σ σr :=
  Ct.ofW (by decide) (Nat.le_of_ble_eq_true rfl) (fun _ _ _ _ _ _ _ X hH hS ls hl => w_X7_claim X σ hf _ _ hH hS ls (show lv_has ls 1 [(0, .ref (B + 0))] from hl))
-- SlackProofs.coefficient(II)J  (D 2)
def b_X7_coefficient_38 (s0 : Int64) (σ : Sto) : Option (Int64 × Sto) :=
  some (s0, σ)
set_option maxHeartbeats 4000000 in
set_option maxRecDepth 100000 in
theorem w_X7_coefficient_38 {p : Program} {l : Launch} {e : Env} {s : State} {m : MethodId} {args : Array Value} {below : List Frame} {meth : Method} {c : Code} {G : Gd} {B : Nat} (X : Cm p s m args meth c cX7_coefficient 3 RX7 G (some .long)) {r : Int64} {σr : Sto} (s0 : Int64) (σ : Sto) (hf : b_X7_coefficient_38 s0 σ = some (r, σr)) (H : Heap) (locs : List Loc) (hH : HX G layX B σ H) (hS : va_S (inW layX B) s.heap H locs) (ls : Array Slot) (hl : lv_has ls 3 []) : WM p l e 2 s m args below meth c H locs G layX B (some (.long r)) σr (F0 m 38 ls [.long s0]) := by
  unfold b_X7_coefficient_38 at hf
  have hx := X.1.1
  have hb := X.1.2.1
  obtain ⟨rfl, rfl⟩ := rt2 hf
  exact g_lret X hH hS dX7_coefficient_38
def b_X7_coefficient_35 (σ : Sto) : Option (Int64 × Sto) :=
  b_X7_coefficient_38 (-1000001 : Int64) σ
set_option maxHeartbeats 4000000 in
set_option maxRecDepth 100000 in
theorem w_X7_coefficient_35 {p : Program} {l : Launch} {e : Env} {s : State} {m : MethodId} {args : Array Value} {below : List Frame} {meth : Method} {c : Code} {G : Gd} {B : Nat} (X : Cm p s m args meth c cX7_coefficient 3 RX7 G (some .long)) {r : Int64} {σr : Sto} (σ : Sto) (hf : b_X7_coefficient_35 σ = some (r, σr)) (H : Heap) (locs : List Loc) (hH : HX G layX B σ H) (hS : va_S (inW layX B) s.heap H locs) (ls : Array Slot) (hl : lv_has ls 3 []) : WM p l e 2 s m args below meth c H locs G layX B (some (.long r)) σr (F0 m 35 ls []) := by
  unfold b_X7_coefficient_35 at hf
  have hx := X.1.1
  have hb := X.1.2.1
  refine lv_ldc2 (v := -1000001) hx hb X.1.2.2.2.1 (X.1.2.2.2.2.1 _ kc_RX7_268) dX7_coefficient_35 ?_
  exact w_X7_coefficient_38 X (-1000001 : Int64) σ hf _ _ hH hS _ (lv_sub hl [] rfl)
def f_X7_coefficient (x1 : Int32) (x2 : Int32) (σ : Sto) : Option (Int64 × Sto) :=
  bd2 (f_X2_has 33 x1 σ) fun r102 σ101 => if r102 = 0 then (b_X7_coefficient_35 σ101) else (bd2 (f_X7_isVariable x2 σ101) fun r305 σ304 => if r305 = 0 then (b_X7_coefficient_35 σ304) else (if (x1 < 0 ∨ 30 ≤ x1.toNatClampNeg) then none else if (x2 < 0 ∨ 8 ≤ x2.toNatClampNeg) then none else b_X7_coefficient_38 (σ304.2 ((36 + 2 * x1.toNatClampNeg) + 1) x2.toNatClampNeg) σ304))
set_option maxHeartbeats 4000000 in
set_option maxRecDepth 100000 in
theorem w_X7_coefficient {p : Program} {l : Launch} {e : Env} {s : State} {m : MethodId} {args : Array Value} {below : List Frame} {meth : Method} {c : Code} {G : Gd} {B : Nat} (X : Cm p s m args meth c cX7_coefficient 3 RX7 G (some .long)) {r : Int64} {σr : Sto} (x1 : Int32) (x2 : Int32) (σ : Sto) (hf : f_X7_coefficient x1 x2 σ = some (r, σr)) (H : Heap) (locs : List Loc) (hH : HX G layX B σ H) (hS : va_S (inW layX B) s.heap H locs) (ls : Array Slot) (hl : lv_has ls 3 [(0, .ref (B + 0)), (1, .int x1), (2, .int x2)]) : WM p l e 2 s m args below meth c H locs G layX B (some (.long r)) σr (F0 m 0 ls []) := by
  unfold f_X7_coefficient at hf
  have hx := X.1.1
  have hb := X.1.2.1
  refine lv_aload_n hx hb dX7_coefficient_0 rfl (lv_at hl 0 rfl) ?_
  refine g_get (v := .ref (B + 33)) kX7 (by decide) fl_RX7_26 X.1 hH kx_0 rfl dX7_coefficient_1 ?_
  refine lv_iload_n hx hb dX7_coefficient_4 rfl (lv_at hl 1 rfl) ?_
  obtain ⟨r102, σ101, eσ101, hf⟩ := bnd2 hf
  refine g_cVi (As := [.int x1]) X.1 hH hS (c_X2_has l G B 33 kx_33 x1 σ σ101 r102 eσ101) kw_RX7_156 kX2 kx_33 (by decide) rfl hl (Nat.le_of_ble_eq_true rfl) rfl dX7_coefficient_5 (fun H locs hH hS => ?_)
  refine lv_if_eq (tgt := 35) hx hb dX7_coefficient_8 (by decide) (fun q103 => ?_) (fun q103 => ?_)
  · replace hf := brT hf q103
    exact w_X7_coefficient_35 X σ101 hf _ _ hH hS _ (lv_sub hl [] rfl)
  · replace hf := brF hf q103
    refine lv_iload_n hx hb dX7_coefficient_11 rfl (lv_at hl 2 rfl) ?_
    obtain ⟨r305, σ304, eσ304, hf⟩ := bnd2 hf
    refine g_cSi (As := [.int x2]) X.1 hH hS (c_X7_isVariable l G B x2 σ101 σ304 r305 eσ304) kw_RX7_182 (by decide) rfl hl (Nat.le_of_ble_eq_true rfl) rfl dX7_coefficient_12 (fun H locs hH hS => ?_)
    refine lv_if_eq (tgt := 35) hx hb dX7_coefficient_15 (by decide) (fun q306 => ?_) (fun q306 => ?_)
    · replace hf := brT hf q306
      exact w_X7_coefficient_35 X σ304 hf _ _ hH hS _ (lv_sub hl [] rfl)
    · replace hf := brF hf q306
      refine lv_aload_n hx hb dX7_coefficient_18 rfl (lv_at hl 0 rfl) ?_
      refine g_get (v := .ref (B + 33)) kX7 (by decide) fl_RX7_26 X.1 hH kx_0 rfl dX7_coefficient_19 ?_
      refine g_get (v := .ref (B + 34)) kX2 (by decide) fl_RX7_163 X.1 hH kx_33 rfl dX7_coefficient_22 ?_
      refine lv_iload_n hx hb dX7_coefficient_25 rfl (lv_at hl 1 rfl) ?_
      obtain ⟨q307, hf⟩ := chk hf
      refine g_aald (b := (36 + 2 * x1.toNatClampNeg)) X.1 hH kx_34 (by decide) q307 rfl dX7_coefficient_26 ?_
      refine g_get (v := .ref (B + ((36 + 2 * x1.toNatClampNeg) + 1))) kX3 (by decide) fl_RX7_185 X.1 hH (kB33 q307) (cRef (kB33 q307)) dX7_coefficient_27 ?_
      refine lv_iload_n hx hb dX7_coefficient_30 rfl (lv_at hl 2 rfl) ?_
      obtain ⟨q308, hf⟩ := chk hf
      refine g_lald (j := x2.toNatClampNeg) X.1 hH (cArr (kB33 q307)) q308 rfl dX7_coefficient_31 ?_
      refine lv_goto (tgt := 38) hx hb dX7_coefficient_32 (by decide) ?_
      exact w_X7_coefficient_38 X (σ304.2 ((36 + 2 * x1.toNatClampNeg) + 1) x2.toNatClampNeg) σ304 hf _ _ hH hS _ (lv_sub hl [] rfl)
theorem c_X7_coefficient (l : Launch) (G : Gd) (B : Nat) (x1 : Int32) (x2 : Int32) (σ σr : Sto) (r : Int64) (hf : f_X7_coefficient x1 x2 σ = some (r, σr)) : Ct l G layX B yX7_coefficient cX7_coefficient 3 (some .long) 2 [.ref (B + 0), .int x1, .int x2] (some (.long r)) σ σr :=
  Ct.ofW (by decide) (Nat.le_of_ble_eq_true rfl) (fun _ _ _ _ _ _ _ X hH hS ls hl => w_X7_coefficient X x1 x2 σ hf _ _ hH hS ls (show lv_has ls 3 [(0, .ref (B + 0)), (1, .int x1), (2, .int x2)] from hl))
