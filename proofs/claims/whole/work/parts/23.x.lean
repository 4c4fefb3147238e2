-- SlackProofs.plus(II)I  (D 3)
def b_X7_plus_28 (v1 : Int32) (v2 : Int32) (s0 : Int32) (σ : Sto) : Option (Int32 × Sto) :=
  bd2 (f_X7_stepRefusal s0 σ) fun r305 σ304 => if r305 = 0 then (bd2 (f_X2_next 33 σ304) fun r308 σ307 => if ¬ (r308 < layX.2.2 ∧ layX.1 r308 = .inl 3) then none else if (v1 < 0 ∨ 30 ≤ v1.toNatClampNeg) then none else if (v2 < 0 ∨ 30 ≤ v2.toNatClampNeg) then none else bd2 (f_X3_becomePlus r308 (36 + 2 * v1.toNatClampNeg) (36 + 2 * v2.toNatClampNeg) σ307) fun r313 σ312 => if r313 = 0 then (bd2 (f_X7_found (6 : Int32) σ312) fun r320 σ319 => some (r320, σ319)) else (bd2 (f_X7_comes (4 : Int32) σ312) fun r316 σ315 => bd2 (f_X7_well r316 σ315) fun r318 σ317 => some (r318, σ317))) else (some (r305, σ304))
set_option maxHeartbeats 4000000 in
set_option maxRecDepth 100000 in
theorem w_X7_plus_28 {p : Program} {l : Launch} {e : Env} {s : State} {m : MethodId} {args : Array Value} {below : List Frame} {meth : Method} {c : Code} {G : Gd} {B : Nat} (X : Cm p s m args meth c cX7_plus 4 RX7 G (some .int)) {r : Int32} {σr : Sto} (v1 : Int32) (v2 : Int32) (s0 : Int32) (σ : Sto) (hf : b_X7_plus_28 v1 v2 s0 σ = some (r, σr)) (H : Heap) (locs : List Loc) (hH : HX G layX B σ H) (hS : va_S (inW layX B) s.heap H locs) (ls : Array Slot) (hl : lv_has ls 4 [(0, .ref (B + 0)), (1, .int v1), (2, .int v2)]) : WM p l e 3 s m args below meth c H locs G layX B (some (.int r)) σr (F0 m 28 ls [.int s0, .ref (B + 0)]) := by
  unfold b_X7_plus_28 at hf
  have hx := X.1.1
  have hb := X.1.2.1
  obtain ⟨r305, σ304, eσ304, hf⟩ := bnd2 hf
  refine g_cVi (As := [.int s0]) X.1 hH hS (c_X7_stepRefusal l G B s0 σ σ304 r305 eσ304) kw_RX7_159 kX7 kx_0 (by decide) rfl hl (Nat.le_of_ble_eq_true rfl) rfl dX7_plus_28 (fun H locs hH hS => ?_)
  refine lv_istore_n (lv' := [(3, .int r305), (0, .ref (B + 0)), (1, .int v1), (2, .int v2)]) hx hb dX7_plus_31 rfl hl (by decide) rfl (fun ls hl => ?_)
  refine lv_iload_n hx hb dX7_plus_32 rfl (lv_at hl 0 rfl) ?_
  refine lv_if_eq (tgt := 38) hx hb dX7_plus_33 (by decide) (fun q306 => ?_) (fun q306 => ?_)
  · replace hf := brT hf q306
    refine lv_aload_n hx hb dX7_plus_38 rfl (lv_at hl 1 rfl) ?_
    refine g_get (v := .ref (B + 33)) kX7 (by decide) fl_RX7_26 X.1 hH kx_0 rfl dX7_plus_39 ?_
    obtain ⟨r308, σ307, eσ307, hf⟩ := bnd2 hf
    refine g_cVr (As := []) X.1 hH hS (c_X2_next l G B 33 kx_33 σ304 σ307 r308 eσ307) kw_RX7_133 kX2 kx_33 (by decide) rfl hl (Nat.le_of_ble_eq_true rfl) rfl dX7_plus_42 (fun H locs hH hS => ?_)
    obtain ⟨q309, hf⟩ := chk hf
    replace q309 := Decidable.not_not.mp q309
    refine lv_aload_n hx hb dX7_plus_45 rfl (lv_at hl 1 rfl) ?_
    refine g_get (v := .ref (B + 33)) kX7 (by decide) fl_RX7_26 X.1 hH kx_0 rfl dX7_plus_46 ?_
    refine g_get (v := .ref (B + 34)) kX2 (by decide) fl_RX7_163 X.1 hH kx_33 rfl dX7_plus_49 ?_
    refine lv_iload_n hx hb dX7_plus_52 rfl (lv_at hl 2 rfl) ?_
    obtain ⟨q310, hf⟩ := chk hf
    refine g_aald (b := (36 + 2 * v1.toNatClampNeg)) X.1 hH kx_34 (by decide) q310 rfl dX7_plus_53 ?_
    refine lv_aload_n hx hb dX7_plus_54 rfl (lv_at hl 1 rfl) ?_
    refine g_get (v := .ref (B + 33)) kX7 (by decide) fl_RX7_26 X.1 hH kx_0 rfl dX7_plus_55 ?_
    refine g_get (v := .ref (B + 34)) kX2 (by decide) fl_RX7_163 X.1 hH kx_33 rfl dX7_plus_58 ?_
    refine lv_iload_n hx hb dX7_plus_61 rfl (lv_at hl 3 rfl) ?_
    obtain ⟨q311, hf⟩ := chk hf
    refine g_aald (b := (36 + 2 * v2.toNatClampNeg)) X.1 hH kx_34 (by decide) q311 rfl dX7_plus_62 ?_
    obtain ⟨r313, σ312, eσ312, hf⟩ := bnd2 hf
    refine g_cVi (As := [.ref (B + (36 + 2 * v1.toNatClampNeg)), .ref (B + (36 + 2 * v2.toNatClampNeg))]) X.1 hH hS (c_X3_becomePlus l G B r308 q309 (36 + 2 * v1.toNatClampNeg) (kB33 q310) (36 + 2 * v2.toNatClampNeg) (kB33 q311) σ307 σ312 r313 eσ312) kw_RX7_164 kX3 q309 (by decide) rfl hl (Nat.le_of_ble_eq_true rfl) rfl dX7_plus_63 (fun H locs hH hS => ?_)
    refine lv_if_ne (tgt := 76) hx hb dX7_plus_66 (by decide) (fun q314 => ?_) (fun q314 => ?_)
    · replace hf := brF hf q314
      refine lv_aload_n hx hb dX7_plus_76 rfl (lv_at hl 1 rfl) ?_
      refine lv_aload_n hx hb dX7_plus_77 rfl (lv_at hl 1 rfl) ?_
      refine lv_iconst (v := 4) hx hb dX7_plus_78 (by decide) ?_
      obtain ⟨r316, σ315, eσ315, hf⟩ := bnd2 hf
      refine g_cVi (As := [.int (4 : Int32)]) X.1 hH hS (c_X7_comes l G B (4 : Int32) σ312 σ315 r316 eσ315) kw_RX7_168 kX7 kx_0 (by decide) rfl hl (Nat.le_of_ble_eq_true rfl) rfl dX7_plus_79 (fun H locs hH hS => ?_)
      obtain ⟨r318, σ317, eσ317, hf⟩ := bnd2 hf
      refine g_cVi (As := [.int r316]) X.1 hH hS (c_X7_well l G B r316 σ315 σ317 r318 eσ317) kw_RX7_74 kX7 kx_0 (by decide) rfl hl (Nat.le_of_ble_eq_true rfl) rfl dX7_plus_82 (fun H locs hH hS => ?_)
      obtain ⟨rfl, rfl⟩ := rt2 hf
      exact g_iret X hH hS dX7_plus_85
    · replace hf := brT hf q314
      refine lv_aload_n hx hb dX7_plus_69 rfl (lv_at hl 1 rfl) ?_
      refine lv_bipush (v := 6) hx hb dX7_plus_70 (by decide) ?_
      obtain ⟨r320, σ319, eσ319, hf⟩ := bnd2 hf
      refine g_cVi (As := [.int (6 : Int32)]) X.1 hH hS (c_X7_found l G B (6 : Int32) σ312 σ319 r320 eσ319) kw_RX7_66 kX7 kx_0 (by decide) rfl hl (Nat.le_of_ble_eq_true rfl) rfl dX7_plus_72 (fun H locs hH hS => ?_)
      obtain ⟨rfl, rfl⟩ := rt2 hf
      exact g_iret X hH hS dX7_plus_75
  · replace hf := brF hf q306
    refine lv_iload_n hx hb dX7_plus_36 rfl (lv_at hl 0 rfl) ?_
    obtain ⟨rfl, rfl⟩ := rt2 hf
    exact g_iret X hH hS dX7_plus_37
def b_X7_plus_27 (v1 : Int32) (v2 : Int32) (σ : Sto) : Option (Int32 × Sto) :=
  b_X7_plus_28 v1 v2 (0 : Int32) σ
set_option maxHeartbeats 4000000 in
set_option maxRecDepth 100000 in
theorem w_X7_plus_27 {p : Program} {l : Launch} {e : Env} {s : State} {m : MethodId} {args : Array Value} {below : List Frame} {meth : Method} {c : Code} {G : Gd} {B : Nat} (X : Cm p s m args meth c cX7_plus 4 RX7 G (some .int)) {r : Int32} {σr : Sto} (v1 : Int32) (v2 : Int32) (σ : Sto) (hf : b_X7_plus_27 v1 v2 σ = some (r, σr)) (H : Heap) (locs : List Loc) (hH : HX G layX B σ H) (hS : va_S (inW layX B) s.heap H locs) (ls : Array Slot) (hl : lv_has ls 4 [(0, .ref (B + 0)), (1, .int v1), (2, .int v2)]) : WM p l e 3 s m args below meth c H locs G layX B (some (.int r)) σr (F0 m 27 ls [.ref (B + 0)]) := by
  unfold b_X7_plus_27 at hf
  have hx := X.1.1
  have hb := X.1.2.1
  refine lv_iconst (v := 0) hx hb dX7_plus_27 (by decide) ?_
  exact w_X7_plus_28 X v1 v2 (0 : Int32) σ hf _ _ hH hS _ (lv_sub hl [0, 1, 2] rfl)
def f_X7_plus (x1 : Int32) (x2 : Int32) (σ : Sto) : Option (Int32 × Sto) :=
  bd2 (f_X2_has 33 x1 σ) fun r102 σ101 => if r102 = 0 then (b_X7_plus_27 x1 x2 σ101) else (bd2 (f_X2_has 33 x2 σ101) fun r322 σ321 => if r322 = 0 then (b_X7_plus_27 x1 x2 σ321) else (b_X7_plus_28 x1 x2 (1 : Int32) σ321))
set_option maxHeartbeats 4000000 in
set_option maxRecDepth 100000 in
theorem w_X7_plus {p : Program} {l : Launch} {e : Env} {s : State} {m : MethodId} {args : Array Value} {below : List Frame} {meth : Method} {c : Code} {G : Gd} {B : Nat} (X : Cm p s m args meth c cX7_plus 4 RX7 G (some .int)) {r : Int32} {σr : Sto} (x1 : Int32) (x2 : Int32) (σ : Sto) (hf : f_X7_plus x1 x2 σ = some (r, σr)) (H : Heap) (locs : List Loc) (hH : HX G layX B σ H) (hS : va_S (inW layX B) s.heap H locs) (ls : Array Slot) (hl : lv_has ls 4 [(0, .ref (B + 0)), (1, .int x1), (2, .int x2)]) : WM p l e 3 s m args below meth c H locs G layX B (some (.int r)) σr (F0 m 0 ls []) := by
  unfold f_X7_plus at hf
  have hx := X.1.1
  have hb := X.1.2.1
  refine lv_aload_n hx hb dX7_plus_0 rfl (lv_at hl 0 rfl) ?_
  refine lv_aload_n hx hb dX7_plus_1 rfl (lv_at hl 0 rfl) ?_
  refine g_get (v := .ref (B + 33)) kX7 (by decide) fl_RX7_26 X.1 hH kx_0 rfl dX7_plus_2 ?_
  refine lv_iload_n hx hb dX7_plus_5 rfl (lv_at hl 1 rfl) ?_
  obtain ⟨r102, σ101, eσ101, hf⟩ := bnd2 hf
  refine g_cVi (As := [.int x1]) X.1 hH hS (c_X2_has l G B 33 kx_33 x1 σ σ101 r102 eσ101) kw_RX7_156 kX2 kx_33 (by decide) rfl hl (Nat.le_of_ble_eq_true rfl) rfl dX7_plus_6 (fun H locs hH hS => ?_)
  refine lv_if_eq (tgt := 27) hx hb dX7_plus_9 (by decide) (fun q103 => ?_) (fun q103 => ?_)
  · replace hf := brT hf q103
    exact w_X7_plus_27 X x1 x2 σ101 hf _ _ hH hS _ (lv_sub hl [0, 1, 2] rfl)
  · replace hf := brF hf q103
    refine lv_aload_n hx hb dX7_plus_12 rfl (lv_at hl 0 rfl) ?_
    refine g_get (v := .ref (B + 33)) kX7 (by decide) fl_RX7_26 X.1 hH kx_0 rfl dX7_plus_13 ?_
    refine lv_iload_n hx hb dX7_plus_16 rfl (lv_at hl 2 rfl) ?_
    obtain ⟨r322, σ321, eσ321, hf⟩ := bnd2 hf
    refine g_cVi (As := [.int x2]) X.1 hH hS (c_X2_has l G B 33 kx_33 x2 σ101 σ321 r322 eσ321) kw_RX7_156 kX2 kx_33 (by decide) rfl hl (Nat.le_of_ble_eq_true rfl) rfl dX7_plus_17 (fun H locs hH hS => ?_)
    refine lv_if_eq (tgt := 27) hx hb dX7_plus_20 (by decide) (fun q323 => ?_) (fun q323 => ?_)
    · replace hf := brT hf q323
      exact w_X7_plus_27 X x1 x2 σ321 hf _ _ hH hS _ (lv_sub hl [0, 1, 2] rfl)
    · replace hf := brF hf q323
      refine lv_iconst (v := 1) hx hb dX7_plus_23 (by decide) ?_
      refine lv_goto (tgt := 28) hx hb dX7_plus_24 (by decide) ?_
      exact w_X7_plus_28 X x1 x2 (1 : Int32) σ321 hf _ _ hH hS _ (lv_sub hl [0, 1, 2] rfl)
theorem c_X7_plus (l : Launch) (G : Gd) (B : Nat) (x1 : Int32) (x2 : Int32) (σ σr : Sto) (r : Int32) (hf : f_X7_plus x1 x2 σ = some (r, σr)) : Ct l G layX B yX7_plus cX7_plus 4 (some .int) 3 [.ref (B + 0), .int x1, .int x2] (some (.int r)) σ σr :=
  Ct.ofW (by decide) (Nat.le_of_ble_eq_true rfl) (fun _ _ _ _ _ _ _ X hH hS ls hl => w_X7_plus X x1 x2 σ hf _ _ hH hS ls (show lv_has ls 4 [(0, .ref (B + 0)), (1, .int x1), (2, .int x2)] from hl))
-- SlackProofs.price(I)I  (D 1)
def b_X7_price_21 (s0 : Int32) (σ : Sto) : Option (Int32 × Sto) :=
  some (s0, σ)
set_option maxHeartbeats 4000000 in
set_option maxRecDepth 100000 in
theorem w_X7_price_21 {p : Program} {l : Launch} {e : Env} {s : State} {m : MethodId} {args : Array Value} {below : List Frame} {meth : Method} {c : Code} {G : Gd} {B : Nat} (X : Cm p s m args meth c cX7_price 2 RX7 G (some .int)) {r : Int32} {σr : Sto} (s0 : Int32) (σ : Sto) (hf : b_X7_price_21 s0 σ = some (r, σr)) (H : Heap) (locs : List Loc) (hH : HX G layX B σ H) (hS : va_S (inW layX B) s.heap H locs) (ls : Array Slot) (hl : lv_has ls 2 []) : WM p l e 1 s m args below meth c H locs G layX B (some (.int r)) σr (F0 m 21 ls [.int s0]) := by
  unfold b_X7_price_21 at hf
  have hx := X.1.1
  have hb := X.1.2.1
  obtain ⟨rfl, rfl⟩ := rt2 hf
  exact g_iret X hH hS dX7_price_21
def f_X7_price (x1 : Int32) (σ : Sto) : Option (Int32 × Sto) :=
  bd2 (f_X7_isVariable x1 σ) fun r102 σ101 => if r102 = 0 then (b_X7_price_21 (-1000001 : Int32) σ101) else (if (x1 < 0 ∨ 8 ≤ x1.toNatClampNeg) then none else b_X7_price_21 (σ101.1 35 x1.toNatClampNeg) σ101)
set_option maxHeartbeats 4000000 in
set_option maxRecDepth 100000 in
theorem w_X7_price {p : Program} {l : Launch} {e : Env} {s : State} {m : MethodId} {args : Array Value} {below : List Frame} {meth : Method} {c : Code} {G : Gd} {B : Nat} (X : Cm p s m args meth c cX7_price 2 RX7 G (some .int)) {r : Int32} {σr : Sto} (x1 : Int32) (σ : Sto) (hf : f_X7_price x1 σ = some (r, σr)) (H : Heap) (locs : List Loc) (hH : HX G layX B σ H) (hS : va_S (inW layX B) s.heap H locs) (ls : Array Slot) (hl : lv_has ls 2 [(0, .ref (B + 0)), (1, .int x1)]) : WM p l e 1 s m args below meth c H locs G layX B (some (.int r)) σr (F0 m 0 ls []) := by
  unfold f_X7_price at hf
  have hx := X.1.1
  have hb := X.1.2.1
  refine lv_iload_n hx hb dX7_price_0 rfl (lv_at hl 1 rfl) ?_
  obtain ⟨r102, σ101, eσ101, hf⟩ := bnd2 hf
  refine g_cSi (As := [.int x1]) X.1 hH hS (c_X7_isVariable l G B x1 σ σ101 r102 eσ101) kw_RX7_182 (by decide) rfl hl (Nat.le_of_ble_eq_true rfl) rfl dX7_price_1 (fun H locs hH hS => ?_)
  refine lv_if_eq (tgt := 19) hx hb dX7_price_4 (by decide) (fun q103 => ?_) (fun q103 => ?_)
  · replace hf := brT hf q103
    refine lv_ldc (v := -1000001) hx hb X.1.2.2.2.1 (X.1.2.2.2.2.1 _ kc_RX7_65) dX7_price_19 ?_
    exact w_X7_price_21 X (-1000001 : Int32) σ101 hf _ _ hH hS _ (lv_sub hl [] rfl)
  · replace hf := brF hf q103
    refine lv_aload_n hx hb dX7_price_7 rfl (lv_at hl 0 rfl) ?_
    refine g_get (v := .ref (B + 33)) kX7 (by decide) fl_RX7_26 X.1 hH kx_0 rfl dX7_price_8 ?_
    refine g_get (v := .ref (B + 35)) kX2 (by decide) fl_RX7_234 X.1 hH kx_33 rfl dX7_price_11 ?_
    refine lv_iload_n hx hb dX7_price_14 rfl (lv_at hl 1 rfl) ?_
    obtain ⟨q204, hf⟩ := chk hf
    refine g_iald (j := x1.toNatClampNeg) X.1 hH kx_35 q204 rfl dX7_price_15 ?_
    refine lv_goto (tgt := 21) hx hb dX7_price_16 (by decide) ?_
    exact w_X7_price_21 X (σ101.1 35 x1.toNatClampNeg) σ101 hf _ _ hH hS _ (lv_sub hl [] rfl)
theorem c_X7_price (l : Launch) (G : Gd) (B : Nat) (x1 : Int32) (σ σr : Sto) (r : Int32) (hf : f_X7_price x1 σ = some (r, σr)) : Ct l G layX B yX7_price cX7_price 2 (some .int) 1 [.ref (B + 0), .int x1] (some (.int r)) σ σr :=
  Ct.ofW (by decide) (Nat.le_of_ble_eq_true rfl) (fun _ _ _ _ _ _ _ X hH hS ls hl => w_X7_price X x1 σ hf _ _ hH hS ls (show lv_has ls 2 [(0, .ref (B + 0)), (1, .int x1)] from hl))
-- SlackProofs.remove(I)I  (D 6)
def b_X7_remove_81 (v1 : Int32) (σ : Sto) : Option (Int32 × Sto) :=
  bd1 (f_X0_keep 33 σ) fun σ209 => nmS (pI σ209 33 4 ((σ209.1 33 4) &&& (((1 : Int32) <<< (v1 &&& 31)) ^^^ (-1 : Int32)))) fun σ211 => bd2 (f_J6_bitCount_0f7a4 (σ211.1 33 4) σ211) fun r213 σ212 => bd2 (f_X7_well r213 σ212) fun r215 σ214 => some (r215, σ214)
set_option maxHeartbeats 4000000 in
set_option maxRecDepth 100000 in
theorem w_X7_remove_81 {p : Program} {l : Launch} {e : Env} {s : State} {m : MethodId} {args : Array Value} {below : List Frame} {meth : Method} {c : Code} {G : Gd} {B : Nat} (X : Cm p s m args meth c cX7_remove 2 RX7 G (some .int)) {r : Int32} {σr : Sto} (v1 : Int32) (σ : Sto) (hf : b_X7_remove_81 v1 σ = some (r, σr)) (H : Heap) (locs : List Loc) (hH : HX G layX B σ H) (hS : va_S (inW layX B) s.heap H locs) (ls : Array Slot) (hl : lv_has ls 2 [(0, .ref (B + 0)), (1, .int v1)]) : WM p l e 6 s m args below meth c H locs G layX B (some (.int r)) σr (F0 m 81 ls []) := by
  unfold b_X7_remove_81 at hf
  have hx := X.1.1
  have hb := X.1.2.1
  refine lv_aload_n hx hb dX7_remove_81 rfl (lv_at hl 0 rfl) ?_
  refine g_get (v := .ref (B + 223)) kX7 (by decide) fl_RX7_37 X.1 hH kx_0 rfl dX7_remove_82 ?_
  refine lv_aload_n hx hb dX7_remove_85 rfl (lv_at hl 0 rfl) ?_
  refine g_get (v := .ref (B + 33)) kX7 (by decide) fl_RX7_26 X.1 hH kx_0 rfl dX7_remove_86 ?_
  obtain ⟨σ209, eσ209, hf⟩ := bnd1 hf
  refine g_cVv (As := [.ref (B + 33)]) X.1 hH hS (c_X0_keep l G B 33 kx_33 σ σ209 eσ209) kw_RX7_225 kX0 kx_223 (by decide) rfl hl (Nat.le_of_ble_eq_true rfl) rfl dX7_remove_89 (fun H locs hH hS => ?_)
  refine lv_aload_n hx hb dX7_remove_92 rfl (lv_at hl 0 rfl) ?_
  refine g_get (v := .ref (B + 33)) kX7 (by decide) fl_RX7_26 X.1 hH kx_0 rfl dX7_remove_93 ?_
  refine lv_dup hx hb dX7_remove_96 rfl ?_
  refine g_get (v := .int (σ209.1 33 4)) kX2 (by decide) fl_RX7_249 X.1 hH kx_33 rfl dX7_remove_97 ?_
  refine lv_iconst (v := 1) hx hb dX7_remove_100 (by decide) ?_
  refine lv_iload_n hx hb dX7_remove_101 rfl (lv_at hl 1 rfl) ?_
  refine lv_ishl hx hb dX7_remove_102 ?_
  refine lv_iconst (v := -1) hx hb dX7_remove_103 (by decide) ?_
  refine lv_ixor hx hb dX7_remove_104 ?_
  refine lv_iand hx hb dX7_remove_105 ?_
  refine g_putI kX2 (by decide) fl_RX7_249 rfl rfl X.1 hH hS kx_33 dX7_remove_106 (fun H locs hH hS => ?_)
  obtain ⟨σ211, eσ211, hH⟩ := nmX hH
  replace hf := nmU hf eσ211
  refine lv_aload_n hx hb dX7_remove_109 rfl (lv_at hl 0 rfl) ?_
  refine lv_aload_n hx hb dX7_remove_110 rfl (lv_at hl 0 rfl) ?_
  refine g_get (v := .ref (B + 33)) kX7 (by decide) fl_RX7_26 X.1 hH kx_0 rfl dX7_remove_111 ?_
  refine g_get (v := .int (σ211.1 33 4)) kX2 (by decide) fl_RX7_249 X.1 hH kx_33 rfl dX7_remove_114 ?_
  obtain ⟨r213, σ212, eσ212, hf⟩ := bnd2 hf
  refine g_cSi (As := [.int (σ211.1 33 4)]) X.1 hH hS (c_J6_bitCount_0f7a4 l G B (σ211.1 33 4) σ211 σ212 r213 eσ212) kw_RX7_252 (by decide) rfl hl (Nat.le_of_ble_eq_true rfl) rfl dX7_remove_117 (fun H locs hH hS => ?_)
  obtain ⟨r215, σ214, eσ214, hf⟩ := bnd2 hf
  refine g_cVi (As := [.int r213]) X.1 hH hS (c_X7_well l G B r213 σ212 σ214 r215 eσ214) kw_RX7_74 kX7 kx_0 (by decide) rfl hl (Nat.le_of_ble_eq_true rfl) rfl dX7_remove_120 (fun H locs hH hS => ?_)
  obtain ⟨rfl, rfl⟩ := rt2 hf
  exact g_iret X hH hS dX7_remove_123
def f_X7_remove (x1 : Int32) (σ : Sto) : Option (Int32 × Sto) :=
  if (σ.1 33 2) = 0 then (some ((-1000002 : Int32), σ)) else (bd2 (f_X2_has 33 x1 σ) fun r103 σ102 => if r103 = 0 then (some ((-1000001 : Int32), σ102)) else (if (x1 < 0 ∨ 30 ≤ x1.toNatClampNeg) then none else bd2 (f_X7_isOfKind (σ102.1 (36 + 2 * x1.toNatClampNeg) 3) (4 : Int32) σ102) fun r107 σ106 => if r107 = 0 then (bd2 (f_X2_isBeyond 33 σ106) fun r217 σ216 => if r217 = 0 then (bd2 (f_X4_followsFromOthers x1 σ216) fun r220 σ219 => if r220 = 0 then (bd2 (f_X7_well (-1000000 : Int32) σ219) fun r223 σ222 => some (r223, σ222)) else (b_X7_remove_81 x1 σ219)) else (bd2 (f_X7_found (6 : Int32) σ216) fun r225 σ224 => some (r225, σ224))) else (b_X7_remove_81 x1 σ106)))
set_option maxHeartbeats 4000000 in
set_option maxRecDepth 100000 in
theorem w_X7_remove {p : Program} {l : Launch} {e : Env} {s : State} {m : MethodId} {args : Array Value} {below : List Frame} {meth : Method} {c : Code} {G : Gd} {B : Nat} (X : Cm p s m args meth c cX7_remove 2 RX7 G (some .int)) {r : Int32} {σr : Sto} (x1 : Int32) (σ : Sto) (hf : f_X7_remove x1 σ = some (r, σr)) (H : Heap) (locs : List Loc) (hH : HX G layX B σ H) (hS : va_S (inW layX B) s.heap H locs) (ls : Array Slot) (hl : lv_has ls 2 [(0, .ref (B + 0)), (1, .int x1)]) : WM p l e 6 s m args below meth c H locs G layX B (some (.int r)) σr (F0 m 0 ls []) := by
  unfold f_X7_remove at hf
  have hx := X.1.1
  have hb := X.1.2.1
  refine lv_aload_n hx hb dX7_remove_0 rfl (lv_at hl 0 rfl) ?_
  refine g_get (v := .ref (B + 33)) kX7 (by decide) fl_RX7_26 X.1 hH kx_0 rfl dX7_remove_1 ?_
  refine g_get (v := .int (σ.1 33 2)) kX2 (by decide) fl_RX7_197 X.1 hH kx_33 rfl dX7_remove_4 ?_
  refine lv_if_ne (tgt := 13) hx hb dX7_remove_7 (by decide) (fun q101 => ?_) (fun q101 => ?_)
  · replace hf := brF hf q101
    refine lv_aload_n hx hb dX7_remove_13 rfl (lv_at hl 0 rfl) ?_
    refine g_get (v := .ref (B + 33)) kX7 (by decide) fl_RX7_26 X.1 hH kx_0 rfl dX7_remove_14 ?_
    refine lv_iload_n hx hb dX7_remove_17 rfl (lv_at hl 1 rfl) ?_
    obtain ⟨r103, σ102, eσ102, hf⟩ := bnd2 hf
    refine g_cVi (As := [.int x1]) X.1 hH hS (c_X2_has l G B 33 kx_33 x1 σ σ102 r103 eσ102) kw_RX7_156 kX2 kx_33 (by decide) rfl hl (Nat.le_of_ble_eq_true rfl) rfl dX7_remove_18 (fun H locs hH hS => ?_)
    refine lv_if_ne (tgt := 27) hx hb dX7_remove_21 (by decide) (fun q104 => ?_) (fun q104 => ?_)
    · replace hf := brF hf q104
      refine lv_aload_n hx hb dX7_remove_27 rfl (lv_at hl 0 rfl) ?_
      refine g_get (v := .ref (B + 33)) kX7 (by decide) fl_RX7_26 X.1 hH kx_0 rfl dX7_remove_28 ?_
      refine g_get (v := .ref (B + 34)) kX2 (by decide) fl_RX7_163 X.1 hH kx_33 rfl dX7_remove_31 ?_
      refine lv_iload_n hx hb dX7_remove_34 rfl (lv_at hl 1 rfl) ?_
      obtain ⟨q105, hf⟩ := chk hf
      refine g_aald (b := (36 + 2 * x1.toNatClampNeg)) X.1 hH kx_34 (by decide) q105 rfl dX7_remove_35 ?_
      refine g_get (v := .int (σ102.1 (36 + 2 * x1.toNatClampNeg) 3)) kX3 (by decide) fl_RX7_239 X.1 hH (kB33 q105) rfl dX7_remove_36 ?_
      refine lv_iconst (v := 4) hx hb dX7_remove_39 (by decide) ?_
      obtain ⟨r107, σ106, eσ106, hf⟩ := bnd2 hf
      refine g_cSi (As := [.int (σ102.1 (36 + 2 * x1.toNatClampNeg) 3), .int (4 : Int32)]) X.1 hH hS (c_X7_isOfKind l G B (σ102.1 (36 + 2 * x1.toNatClampNeg) 3) (4 : Int32) σ102 σ106 r107 eσ106) kw_RX7_242 (by decide) rfl hl (Nat.le_of_ble_eq_true rfl) rfl dX7_remove_40 (fun H locs hH hS => ?_)
      refine lv_if_ne (tgt := 81) hx hb dX7_remove_43 (by decide) (fun q108 => ?_) (fun q108 => ?_)
      · replace hf := brF hf q108
        exact w_X7_remove_81 X x1 σ106 hf _ _ hH hS _ (lv_sub hl [0, 1] rfl)
      · replace hf := brT hf q108
        refine lv_aload_n hx hb dX7_remove_46 rfl (lv_at hl 0 rfl) ?_
        refine g_get (v := .ref (B + 33)) kX7 (by decide) fl_RX7_26 X.1 hH kx_0 rfl dX7_remove_47 ?_
        obtain ⟨r217, σ216, eσ216, hf⟩ := bnd2 hf
        refine g_cVi (As := []) X.1 hH hS (c_X2_isBeyond l G B 33 kx_33 σ106 σ216 r217 eσ216) kw_RX7_218 kX2 kx_33 (by decide) rfl hl (Nat.le_of_ble_eq_true rfl) rfl dX7_remove_50 (fun H locs hH hS => ?_)
        refine lv_if_eq (tgt := 63) hx hb dX7_remove_53 (by decide) (fun q218 => ?_) (fun q218 => ?_)
        · replace hf := brT hf q218
          refine lv_aload_n hx hb dX7_remove_63 rfl (lv_at hl 0 rfl) ?_
          refine g_get (v := .ref (B + 227)) kX7 (by decide) fl_RX7_46 X.1 hH kx_0 rfl dX7_remove_64 ?_
          refine lv_iload_n hx hb dX7_remove_67 rfl (lv_at hl 1 rfl) ?_
          obtain ⟨r220, σ219, eσ219, hf⟩ := bnd2 hf
          refine g_cVi (As := [.int x1]) X.1 hH hS (c_X4_followsFromOthers l G B x1 σ216 σ219 r220 eσ219) kw_RX7_246 kX4 kx_227 (by decide) rfl hl (Nat.le_of_ble_eq_true rfl) rfl dX7_remove_68 (fun H locs hH hS => ?_)
          refine lv_if_ne (tgt := 81) hx hb dX7_remove_71 (by decide) (fun q221 => ?_) (fun q221 => ?_)
          · replace hf := brF hf q221
            exact w_X7_remove_81 X x1 σ219 hf _ _ hH hS _ (lv_sub hl [0, 1] rfl)
          · replace hf := brT hf q221
            refine lv_aload_n hx hb dX7_remove_74 rfl (lv_at hl 0 rfl) ?_
            refine lv_ldc (v := -1000000) hx hb X.1.2.2.2.1 (X.1.2.2.2.2.1 _ kc_RX7_224) dX7_remove_75 ?_
            obtain ⟨r223, σ222, eσ222, hf⟩ := bnd2 hf
            refine g_cVi (As := [.int (-1000000 : Int32)]) X.1 hH hS (c_X7_well l G B (-1000000 : Int32) σ219 σ222 r223 eσ222) kw_RX7_74 kX7 kx_0 (by decide) rfl hl (Nat.le_of_ble_eq_true rfl) rfl dX7_remove_77 (fun H locs hH hS => ?_)
            obtain ⟨rfl, rfl⟩ := rt2 hf
            exact g_iret X hH hS dX7_remove_80
        · replace hf := brF hf q218
          refine lv_aload_n hx hb dX7_remove_56 rfl (lv_at hl 0 rfl) ?_
          refine lv_bipush (v := 6) hx hb dX7_remove_57 (by decide) ?_
          obtain ⟨r225, σ224, eσ224, hf⟩ := bnd2 hf
          refine g_cVi (As := [.int (6 : Int32)]) X.1 hH hS (c_X7_found l G B (6 : Int32) σ216 σ224 r225 eσ224) kw_RX7_66 kX7 kx_0 (by decide) rfl hl (Nat.le_of_ble_eq_true rfl) rfl dX7_remove_59 (fun H locs hH hS => ?_)
          obtain ⟨rfl, rfl⟩ := rt2 hf
          exact g_iret X hH hS dX7_remove_62
    · replace hf := brT hf q104
      refine lv_ldc (v := -1000001) hx hb X.1.2.2.2.1 (X.1.2.2.2.2.1 _ kc_RX7_65) dX7_remove_24 ?_
      obtain ⟨rfl, rfl⟩ := rt2 hf
      exact g_iret X hH hS dX7_remove_26
  · replace hf := brT hf q101
    refine lv_ldc (v := -1000002) hx hb X.1.2.2.2.1 (X.1.2.2.2.2.1 _ kc_RX7_201) dX7_remove_10 ?_
    obtain ⟨rfl, rfl⟩ := rt2 hf
    exact g_iret X hH hS dX7_remove_12
theorem c_X7_remove (l : Launch) (G : Gd) (B : Nat) (x1 : Int32) (σ σr : Sto) (r : Int32) (hf : f_X7_remove x1 σ = some (r, σr)) : Ct l G layX B yX7_remove cX7_remove 2 (some .int) 6 [.ref (B + 0), .int x1] (some (.int r)) σ σr :=
  Ct.ofW (by decide) (Nat.le_of_ble_eq_true rfl) (fun _ _ _ _ _ _ _ X hH hS ls hl => w_X7_remove X x1 σ hf _ _ hH hS ls (show lv_has ls 2 [(0, .ref (B + 0)), (1, .int x1)] from hl))
-- SlackProofs.restore(I)I  (D 4)
def b_X7_restore_9 (σ : Sto) : Option (Int32 × Sto) :=
  some ((-1000001 : Int32), σ)
set_option maxHeartbeats 4000000 in
set_option maxRecDepth 100000 in
theorem w_X7_restore_9 {p : Program} {l : Launch} {e : Env} {s : State} {m : MethodId} {args : Array Value} {below : List Frame} {meth : Method} {c : Code} {G : Gd} {B : Nat} (X : Cm p s m args meth c cX7_restore 2 RX7 G (some .int)) {r : Int32} {σr : Sto} (σ : Sto) (hf : b_X7_restore_9 σ = some (r, σr)) (H : Heap) (locs : List Loc) (hH : HX G layX B σ H) (hS : va_S (inW layX B) s.heap H locs) (ls : Array Slot) (hl : lv_has ls 2 []) : WM p l e 4 s m args below meth c H locs G layX B (some (.int r)) σr (F0 m 9 ls []) := by
  unfold b_X7_restore_9 at hf
  have hx := X.1.1
  have hb := X.1.2.1
  refine lv_ldc (v := -1000001) hx hb X.1.2.2.2.1 (X.1.2.2.2.2.1 _ kc_RX7_65) dX7_restore_9 ?_
  obtain ⟨rfl, rfl⟩ := rt2 hf
  exact g_iret X hH hS dX7_restore_11
def f_X7_restore (x1 : Int32) (σ : Sto) : Option (Int32 × Sto) :=
  if x1 < 0 then (b_X7_restore_9 σ) else (if x1 < (2 : Int32) then (if (x1 < 0 ∨ 2 ≤ x1.toNatClampNeg) then none else if (σ.1 (imgC x1.toNatClampNeg) 2) = 0 then (some ((-1000002 : Int32), σ)) else (if (x1 < 0 ∨ 2 ≤ x1.toNatClampNeg) then none else bd1 (f_X2_become 33 (imgC x1.toNatClampNeg) σ) fun σ206 => bd1 (f_X0_forget σ206) fun σ208 => bd2 (f_J6_bitCount_0f7a4 (σ208.1 33 4) σ208) fun r211 σ210 => some (r211, σ210))) else (b_X7_restore_9 σ))
set_option maxHeartbeats 4000000 in
set_option maxRecDepth 100000 in
theorem w_X7_restore {p : Program} {l : Launch} {e : Env} {s : State} {m : MethodId} {args : Array Value} {below : List Frame} {meth : Method} {c : Code} {G : Gd} {B : Nat} (X : Cm p s m args meth c cX7_restore 2 RX7 G (some .int)) {r : Int32} {σr : Sto} (x1 : Int32) (σ : Sto) (hf : f_X7_restore x1 σ = some (r, σr)) (H : Heap) (locs : List Loc) (hH : HX G layX B σ H) (hS : va_S (inW layX B) s.heap H locs) (ls : Array Slot) (hl : lv_has ls 2 [(0, .ref (B + 0)), (1, .int x1)]) : WM p l e 4 s m args below meth c H locs G layX B (some (.int r)) σr (F0 m 0 ls []) := by
  unfold f_X7_restore at hf
  have hx := X.1.1
  have hb := X.1.2.1
  refine lv_iload_n hx hb dX7_restore_0 rfl (lv_at hl 1 rfl) ?_
  refine lv_if_lt (tgt := 9) hx hb dX7_restore_1 (by decide) (fun q101 => ?_) (fun q101 => ?_)
  · replace hf := brT hf q101
    exact w_X7_restore_9 X σ hf _ _ hH hS _ (lv_sub hl [] rfl)
  · replace hf := brF hf q101
    refine lv_iload_n hx hb dX7_restore_4 rfl (lv_at hl 1 rfl) ?_
    refine lv_iconst (v := 2) hx hb dX7_restore_5 (by decide) ?_
    refine lv_icmp_lt (tgt := 12) hx hb dX7_restore_6 (by decide) (fun q202 => ?_) (fun q202 => ?_)
    · replace hf := brT hf q202
      refine lv_aload_n hx hb dX7_restore_12 rfl (lv_at hl 0 rfl) ?_
      refine g_get (v := .ref (B + 96)) kX7 (by decide) fl_RX7_30 X.1 hH kx_0 rfl dX7_restore_13 ?_
      refine lv_iload_n hx hb dX7_restore_16 rfl (lv_at hl 1 rfl) ?_
      obtain ⟨q203, hf⟩ := chk hf
      refine g_aald (b := (imgC x1.toNatClampNeg)) X.1 hH kx_96 (by decide) q203 rfl dX7_restore_17 ?_
      refine g_get (v := .int (σ.1 (imgC x1.toNatClampNeg) 2)) kX2 (by decide) fl_RX7_197 X.1 hH (kImg q203) rfl dX7_restore_18 ?_
      refine lv_if_ne (tgt := 27) hx hb dX7_restore_21 (by decide) (fun q204 => ?_) (fun q204 => ?_)
      · replace hf := brF hf q204
        refine lv_aload_n hx hb dX7_restore_27 rfl (lv_at hl 0 rfl) ?_
        refine g_get (v := .ref (B + 33)) kX7 (by decide) fl_RX7_26 X.1 hH kx_0 rfl dX7_restore_28 ?_
        refine lv_aload_n hx hb dX7_restore_31 rfl (lv_at hl 0 rfl) ?_
        refine g_get (v := .ref (B + 96)) kX7 (by decide) fl_RX7_30 X.1 hH kx_0 rfl dX7_restore_32 ?_
        refine lv_iload_n hx hb dX7_restore_35 rfl (lv_at hl 1 rfl) ?_
        obtain ⟨q205, hf⟩ := chk hf
        refine g_aald (b := (imgC x1.toNatClampNeg)) X.1 hH kx_96 (by decide) q205 rfl dX7_restore_36 ?_
        obtain ⟨σ206, eσ206, hf⟩ := bnd1 hf
        refine g_cVv (As := [.ref (B + (imgC x1.toNatClampNeg))]) X.1 hH hS (c_X2_become l G B 33 kx_33 (imgC x1.toNatClampNeg) (kImg q205) σ σ206 eσ206) kw_RX7_300 kX2 kx_33 (by decide) rfl hl (Nat.le_of_ble_eq_true rfl) rfl dX7_restore_37 (fun H locs hH hS => ?_)
        refine lv_aload_n hx hb dX7_restore_40 rfl (lv_at hl 0 rfl) ?_
        refine g_get (v := .ref (B + 223)) kX7 (by decide) fl_RX7_37 X.1 hH kx_0 rfl dX7_restore_41 ?_
        obtain ⟨σ208, eσ208, hf⟩ := bnd1 hf
        refine g_cVv (As := []) X.1 hH hS (c_X0_forget l G B σ206 σ208 eσ208) kw_RX7_150 kX0 kx_223 (by decide) rfl hl (Nat.le_of_ble_eq_true rfl) rfl dX7_restore_44 (fun H locs hH hS => ?_)
        refine lv_aload_n hx hb dX7_restore_47 rfl (lv_at hl 0 rfl) ?_
        refine g_get (v := .ref (B + 33)) kX7 (by decide) fl_RX7_26 X.1 hH kx_0 rfl dX7_restore_48 ?_
        refine g_get (v := .int (σ208.1 33 4)) kX2 (by decide) fl_RX7_249 X.1 hH kx_33 rfl dX7_restore_51 ?_
        obtain ⟨r211, σ210, eσ210, hf⟩ := bnd2 hf
        refine g_cSi (As := [.int (σ208.1 33 4)]) X.1 hH hS (c_J6_bitCount_0f7a4 l G B (σ208.1 33 4) σ208 σ210 r211 eσ210) kw_RX7_252 (by decide) rfl hl (Nat.le_of_ble_eq_true rfl) rfl dX7_restore_54 (fun H locs hH hS => ?_)
        obtain ⟨rfl, rfl⟩ := rt2 hf
        exact g_iret X hH hS dX7_restore_57
      · replace hf := brT hf q204
        refine lv_ldc (v := -1000002) hx hb X.1.2.2.2.1 (X.1.2.2.2.2.1 _ kc_RX7_201) dX7_restore_24 ?_
        obtain ⟨rfl, rfl⟩ := rt2 hf
        exact g_iret X hH hS dX7_restore_26
    · replace hf := brF hf q202
      exact w_X7_restore_9 X σ hf _ _ hH hS _ (lv_sub hl [] rfl)
theorem c_X7_restore (l : Launch) (G : Gd) (B : Nat) (x1 : Int32) (σ σr : Sto) (r : Int32) (hf : f_X7_restore x1 σ = some (r, σr)) : Ct l G layX B yX7_restore cX7_restore 2 (some .int) 4 [.ref (B + 0), .int x1] (some (.int r)) σ σr :=
  Ct.ofW (by decide) (Nat.le_of_ble_eq_true rfl) (fun _ _ _ _ _ _ _ X hH hS ls hl => w_X7_restore X x1 σ hf _ _ hH hS ls (show lv_has ls 2 [(0, .ref (B + 0)), (1, .int x1)] from hl))
-- SlackProofs.row(III)I  (D 2)
def b_X7_row_22 (σ : Sto) : Option (Int32 × Sto) :=
  some ((-1000001 : Int32), σ)
set_option maxHeartbeats 4000000 in
set_option maxRecDepth 100000 in
theorem w_X7_row_22 {p : Program} {l : Launch} {e : Env} {s : State} {m : MethodId} {args : Array Value} {below : List Frame} {meth : Method} {c : Code} {G : Gd} {B : Nat} (X : Cm p s m args meth c cX7_row 4 RX7 G (some .int)) {r : Int32} {σr : Sto} (σ : Sto) (hf : b_X7_row_22 σ = some (r, σr)) (H : Heap) (locs : List Loc) (hH : HX G layX B σ H) (hS : va_S (inW layX B) s.heap H locs) (ls : Array Slot) (hl : lv_has ls 4 []) : WM p l e 2 s m args below meth c H locs G layX B (some (.int r)) σr (F0 m 22 ls []) := by
  unfold b_X7_row_22 at hf
  have hx := X.1.1
  have hb := X.1.2.1
  refine lv_ldc (v := -1000001) hx hb X.1.2.2.2.1 (X.1.2.2.2.2.1 _ kc_RX7_65) dX7_row_22 ?_
  obtain ⟨rfl, rfl⟩ := rt2 hf
  exact g_iret X hH hS dX7_row_24
def f_X7_row (x1 : Int32) (x2 : Int32) (x3 : Int32) (σ : Sto) : Option (Int32 × Sto) :=
  bd2 (f_X7_isRow x1 σ) fun r102 σ101 => if r102 = 0 then (b_X7_row_22 σ101) else (if x2 < 0 then (b_X7_row_22 σ101) else (if (3 : Int32) ≤ x2 then (b_X7_row_22 σ101) else (if x3 ≤ (40 : Int32) then (if 0 ≤ x3 then (bd1 (f_X6_make x1 x2 x3 σ101) fun σ208 => bd2 (f_X7_well x3 σ208) fun r211 σ210 => some (r211, σ210)) else (bd2 (f_X7_found (4 : Int32) σ101) fun r213 σ212 => some (r213, σ212))) else (b_X7_row_22 σ101))))
set_option maxHeartbeats 4000000 in
set_option maxRecDepth 100000 in
theorem w_X7_row {p : Program} {l : Launch} {e : Env} {s : State} {m : MethodId} {args : Array Value} {below : List Frame} {meth : Method} {c : Code} {G : Gd} {B : Nat} (X : Cm p s m args meth c cX7_row 4 RX7 G (some .int)) {r : Int32} {σr : Sto} (x1 : Int32) (x2 : Int32) (x3 : Int32) (σ : Sto) (hf : f_X7_row x1 x2 x3 σ = some (r, σr)) (H : Heap) (locs : List Loc) (hH : HX G layX B σ H) (hS : va_S (inW layX B) s.heap H locs) (ls : Array Slot) (hl : lv_has ls 4 [(0, .ref (B + 0)), (1, .int x1), (2, .int x2), (3, .int x3)]) : WM p l e 2 s m args below meth c H locs G layX B (some (.int r)) σr (F0 m 0 ls []) := by
  unfold f_X7_row at hf
  have hx := X.1.1
  have hb := X.1.2.1
  refine lv_iload_n hx hb dX7_row_0 rfl (lv_at hl 1 rfl) ?_
  obtain ⟨r102, σ101, eσ101, hf⟩ := bnd2 hf
  refine g_cSi (As := [.int x1]) X.1 hH hS (c_X7_isRow l G B x1 σ σ101 r102 eσ101) kw_RX7_61 (by decide) rfl hl (Nat.le_of_ble_eq_true rfl) rfl dX7_row_1 (fun H locs hH hS => ?_)
  refine lv_if_eq (tgt := 22) hx hb dX7_row_4 (by decide) (fun q103 => ?_) (fun q103 => ?_)
  · replace hf := brT hf q103
    exact w_X7_row_22 X σ101 hf _ _ hH hS _ (lv_sub hl [] rfl)
  · replace hf := brF hf q103
    refine lv_iload_n hx hb dX7_row_7 rfl (lv_at hl 2 rfl) ?_
    refine lv_if_lt (tgt := 22) hx hb dX7_row_8 (by decide) (fun q204 => ?_) (fun q204 => ?_)
    · replace hf := brT hf q204
      exact w_X7_row_22 X σ101 hf _ _ hH hS _ (lv_sub hl [] rfl)
    · replace hf := brF hf q204
      refine lv_iload_n hx hb dX7_row_11 rfl (lv_at hl 2 rfl) ?_
      refine lv_iconst (v := 3) hx hb dX7_row_12 (by decide) ?_
      refine lv_icmp_ge (tgt := 22) hx hb dX7_row_13 (by decide) (fun q205 => ?_) (fun q205 => ?_)
      · replace hf := brT hf q205
        exact w_X7_row_22 X σ101 hf _ _ hH hS _ (lv_sub hl [] rfl)
      · replace hf := brF hf q205
        refine lv_iload_n hx hb dX7_row_16 rfl (lv_at hl 3 rfl) ?_
        refine lv_bipush (v := 40) hx hb dX7_row_17 (by decide) ?_
        refine lv_icmp_le (tgt := 25) hx hb dX7_row_19 (by decide) (fun q206 => ?_) (fun q206 => ?_)
        · replace hf := brT hf q206
          refine lv_iload_n hx hb dX7_row_25 rfl (lv_at hl 3 rfl) ?_
          refine lv_if_ge (tgt := 35) hx hb dX7_row_26 (by decide) (fun q207 => ?_) (fun q207 => ?_)
          · replace hf := brT hf q207
            refine lv_aload_n hx hb dX7_row_35 rfl (lv_at hl 0 rfl) ?_
            refine g_get (v := .ref (B + 1)) kX7 (by decide) fl_RX7_10 X.1 hH kx_0 rfl dX7_row_36 ?_
            refine lv_iload_n hx hb dX7_row_39 rfl (lv_at hl 1 rfl) ?_
            refine lv_iload_n hx hb dX7_row_40 rfl (lv_at hl 2 rfl) ?_
            refine lv_iload_n hx hb dX7_row_41 rfl (lv_at hl 3 rfl) ?_
            obtain ⟨σ208, eσ208, hf⟩ := bnd1 hf
            refine g_cVv (As := [.int x1, .int x2, .int x3]) X.1 hH hS (c_X6_make l G B x1 x2 x3 σ101 σ208 eσ208) kw_RX7_70 kX6 kx_1 (by decide) rfl hl (Nat.le_of_ble_eq_true rfl) rfl dX7_row_42 (fun H locs hH hS => ?_)
            refine lv_aload_n hx hb dX7_row_45 rfl (lv_at hl 0 rfl) ?_
            refine lv_iload_n hx hb dX7_row_46 rfl (lv_at hl 3 rfl) ?_
            obtain ⟨r211, σ210, eσ210, hf⟩ := bnd2 hf
            refine g_cVi (As := [.int x3]) X.1 hH hS (c_X7_well l G B x3 σ208 σ210 r211 eσ210) kw_RX7_74 kX7 kx_0 (by decide) rfl hl (Nat.le_of_ble_eq_true rfl) rfl dX7_row_47 (fun H locs hH hS => ?_)
            obtain ⟨rfl, rfl⟩ := rt2 hf
            exact g_iret X hH hS dX7_row_50
          · replace hf := brF hf q207
            refine lv_aload_n hx hb dX7_row_29 rfl (lv_at hl 0 rfl) ?_
            refine lv_iconst (v := 4) hx hb dX7_row_30 (by decide) ?_
            obtain ⟨r213, σ212, eσ212, hf⟩ := bnd2 hf
            refine g_cVi (As := [.int (4 : Int32)]) X.1 hH hS (c_X7_found l G B (4 : Int32) σ101 σ212 r213 eσ212) kw_RX7_66 kX7 kx_0 (by decide) rfl hl (Nat.le_of_ble_eq_true rfl) rfl dX7_row_31 (fun H locs hH hS => ?_)
            obtain ⟨rfl, rfl⟩ := rt2 hf
            exact g_iret X hH hS dX7_row_34
        · replace hf := brF hf q206
          exact w_X7_row_22 X σ101 hf _ _ hH hS _ (lv_sub hl [] rfl)
theorem c_X7_row (l : Launch) (G : Gd) (B : Nat) (x1 : Int32) (x2 : Int32) (x3 : Int32) (σ σr : Sto) (r : Int32) (hf : f_X7_row x1 x2 x3 σ = some (r, σr)) : Ct l G layX B yX7_row cX7_row 4 (some .int) 2 [.ref (B + 0), .int x1, .int x2, .int x3] (some (.int r)) σ σr :=
  Ct.ofW (by decide) (Nat.le_of_ble_eq_true rfl) (fun _ _ _ _ _ _ _ X hH hS ls hl => w_X7_row X x1 x2 x3 σ hf _ _ hH hS ls (show lv_has ls 4 [(0, .ref (B + 0)), (1, .int x1), (2, .int x2), (3, .int x3)] from hl))
-- SlackProofs.saturate(I)I  (D 2)
def f_X7_saturate (x1 : Int32) (σ : Sto) : Option (Int32 × Sto) :=
  bd2 (f_X2_has 33 x1 σ) fun r102 σ101 => bd2 (f_X7_stepRefusal r102 σ101) fun r104 σ103 => if r104 = 0 then (bd2 (f_X2_next 33 σ103) fun r107 σ106 => if ¬ (r107 < layX.2.2 ∧ layX.1 r107 = .inl 3) then none else if (x1 < 0 ∨ 30 ≤ x1.toNatClampNeg) then none else bd1 (f_X3_becomeSaturated r107 (36 + 2 * x1.toNatClampNeg) σ106) fun σ110 => bd2 (f_X7_comes (4 : Int32) σ110) fun r113 σ112 => some (r113, σ112)) else (some (r104, σ103))
set_option maxHeartbeats 4000000 in
set_option maxRecDepth 100000 in
theorem w_X7_saturate {p : Program} {l : Launch} {e : Env} {s : State} {m : MethodId} {args : Array Value} {below : List Frame} {meth : Method} {c : Code} {G : Gd} {B : Nat} (X : Cm p s m args meth c cX7_saturate 3 RX7 G (some .int)) {r : Int32} {σr : Sto} (x1 : Int32) (σ : Sto) (hf : f_X7_saturate x1 σ = some (r, σr)) (H : Heap) (locs : List Loc) (hH : HX G layX B σ H) (hS : va_S (inW layX B) s.heap H locs) (ls : Array Slot) (hl : lv_has ls 3 [(0, .ref (B + 0)), (1, .int x1)]) : WM p l e 2 s m args below meth c H locs G layX B (some (.int r)) σr (F0 m 0 ls []) := by
  unfold f_X7_saturate at hf
  have hx := X.1.1
  have hb := X.1.2.1
  refine lv_aload_n hx hb dX7_saturate_0 rfl (lv_at hl 0 rfl) ?_
  refine lv_aload_n hx hb dX7_saturate_1 rfl (lv_at hl 0 rfl) ?_
  refine g_get (v := .ref (B + 33)) kX7 (by decide) fl_RX7_26 X.1 hH kx_0 rfl dX7_saturate_2 ?_
  refine lv_iload_n hx hb dX7_saturate_5 rfl (lv_at hl 1 rfl) ?_
  obtain ⟨r102, σ101, eσ101, hf⟩ := bnd2 hf
  refine g_cVi (As := [.int x1]) X.1 hH hS (c_X2_has l G B 33 kx_33 x1 σ σ101 r102 eσ101) kw_RX7_156 kX2 kx_33 (by decide) rfl hl (Nat.le_of_ble_eq_true rfl) rfl dX7_saturate_6 (fun H locs hH hS => ?_)
  obtain ⟨r104, σ103, eσ103, hf⟩ := bnd2 hf
  refine g_cVi (As := [.int r102]) X.1 hH hS (c_X7_stepRefusal l G B r102 σ101 σ103 r104 eσ103) kw_RX7_159 kX7 kx_0 (by decide) rfl hl (Nat.le_of_ble_eq_true rfl) rfl dX7_saturate_9 (fun H locs hH hS => ?_)
  refine lv_istore_n (lv' := [(2, .int r104), (0, .ref (B + 0)), (1, .int x1)]) hx hb dX7_saturate_12 rfl hl (by decide) rfl (fun ls hl => ?_)
  refine lv_iload_n hx hb dX7_saturate_13 rfl (lv_at hl 0 rfl) ?_
  refine lv_if_eq (tgt := 19) hx hb dX7_saturate_14 (by decide) (fun q105 => ?_) (fun q105 => ?_)
  · replace hf := brT hf q105
    refine lv_aload_n hx hb dX7_saturate_19 rfl (lv_at hl 1 rfl) ?_
    refine g_get (v := .ref (B + 33)) kX7 (by decide) fl_RX7_26 X.1 hH kx_0 rfl dX7_saturate_20 ?_
    obtain ⟨r107, σ106, eσ106, hf⟩ := bnd2 hf
    refine g_cVr (As := []) X.1 hH hS (c_X2_next l G B 33 kx_33 σ103 σ106 r107 eσ106) kw_RX7_133 kX2 kx_33 (by decide) rfl hl (Nat.le_of_ble_eq_true rfl) rfl dX7_saturate_23 (fun H locs hH hS => ?_)
    obtain ⟨q108, hf⟩ := chk hf
    replace q108 := Decidable.not_not.mp q108
    refine lv_aload_n hx hb dX7_saturate_26 rfl (lv_at hl 1 rfl) ?_
    refine g_get (v := .ref (B + 33)) kX7 (by decide) fl_RX7_26 X.1 hH kx_0 rfl dX7_saturate_27 ?_
    refine g_get (v := .ref (B + 34)) kX2 (by decide) fl_RX7_163 X.1 hH kx_33 rfl dX7_saturate_30 ?_
    refine lv_iload_n hx hb dX7_saturate_33 rfl (lv_at hl 2 rfl) ?_
    obtain ⟨q109, hf⟩ := chk hf
    refine g_aald (b := (36 + 2 * x1.toNatClampNeg)) X.1 hH kx_34 (by decide) q109 rfl dX7_saturate_34 ?_
    obtain ⟨σ110, eσ110, hf⟩ := bnd1 hf
    refine g_cVv (As := [.ref (B + (36 + 2 * x1.toNatClampNeg))]) X.1 hH hS (c_X3_becomeSaturated l G B r107 q108 (36 + 2 * x1.toNatClampNeg) (kB33 q109) σ106 σ110 eσ110) kw_RX7_179 kX3 q108 (by decide) rfl hl (Nat.le_of_ble_eq_true rfl) rfl dX7_saturate_35 (fun H locs hH hS => ?_)
    refine lv_aload_n hx hb dX7_saturate_38 rfl (lv_at hl 1 rfl) ?_
    refine lv_iconst (v := 4) hx hb dX7_saturate_39 (by decide) ?_
    obtain ⟨r113, σ112, eσ112, hf⟩ := bnd2 hf
    refine g_cVi (As := [.int (4 : Int32)]) X.1 hH hS (c_X7_comes l G B (4 : Int32) σ110 σ112 r113 eσ112) kw_RX7_168 kX7 kx_0 (by decide) rfl hl (Nat.le_of_ble_eq_true rfl) rfl dX7_saturate_40 (fun H locs hH hS => ?_)
    obtain ⟨rfl, rfl⟩ := rt2 hf
    exact g_iret X hH hS dX7_saturate_43
  · replace hf := brF hf q105
    refine lv_iload_n hx hb dX7_saturate_17 rfl (lv_at hl 0 rfl) ?_
    obtain ⟨rfl, rfl⟩ := rt2 hf
    exact g_iret X hH hS dX7_saturate_18
theorem c_X7_saturate (l : Launch) (G : Gd) (B : Nat) (x1 : Int32) (σ σr : Sto) (r : Int32) (hf : f_X7_saturate x1 σ = some (r, σr)) : Ct l G layX B yX7_saturate cX7_saturate 3 (some .int) 2 [.ref (B + 0), .int x1] (some (.int r)) σ σr :=
  Ct.ofW (by decide) (Nat.le_of_ble_eq_true rfl) (fun _ _ _ _ _ _ _ X hH hS ls hl => w_X7_saturate X x1 σ hf _ _ hH hS ls (show lv_has ls 3 [(0, .ref (B + 0)), (1, .int x1)] from hl))
-- SlackProofs.set(III)I  (D 1)
def b_X7_set_44 (σ : Sto) : Option (Int32 × Sto) :=
  bd2 (f_X7_found (2 : Int32) σ) fun r209 σ208 => some (r209, σ208)
set_option maxHeartbeats 4000000 in
set_option maxRecDepth 100000 in
theorem w_X7_set_44 {p : Program} {l : Launch} {e : Env} {s : State} {m : MethodId} {args : Array Value} {below : List Frame} {meth : Method} {c : Code} {G : Gd} {B : Nat} (X : Cm p s m args meth c cX7_set 4 RX7 G (some .int)) {r : Int32} {σr : Sto} (σ : Sto) (hf : b_X7_set_44 σ = some (r, σr)) (H : Heap) (locs : List Loc) (hH : HX G layX B σ H) (hS : va_S (inW layX B) s.heap H locs) (ls : Array Slot) (hl : lv_has ls 4 [(0, .ref (B + 0))]) : WM p l e 1 s m args below meth c H locs G layX B (some (.int r)) σr (F0 m 44 ls []) := by
  unfold b_X7_set_44 at hf
  have hx := X.1.1
  have hb := X.1.2.1
  refine lv_aload_n hx hb dX7_set_44 rfl (lv_at hl 0 rfl) ?_
  refine lv_iconst (v := 2) hx hb dX7_set_45 (by decide) ?_
  obtain ⟨r209, σ208, eσ208, hf⟩ := bnd2 hf
  refine g_cVi (As := [.int (2 : Int32)]) X.1 hH hS (c_X7_found l G B (2 : Int32) σ σ208 r209 eσ208) kw_RX7_66 kX7 kx_0 (by decide) rfl hl (Nat.le_of_ble_eq_true rfl) rfl dX7_set_46 (fun H locs hH hS => ?_)
  obtain ⟨rfl, rfl⟩ := rt2 hf
  exact g_iret X hH hS dX7_set_49
def f_X7_set (x1 : Int32) (x2 : Int32) (x3 : Int32) (σ : Sto) : Option (Int32 × Sto) :=
  bd2 (f_X7_isRow x1 σ) fun r102 σ101 => if r102 = 0 then (some ((-1000001 : Int32), σ101)) else (bd2 (f_X6_isMissing x1 σ101) fun r105 σ104 => if r105 = 0 then (if x2 < 0 then (b_X7_set_44 σ104) else (if (x1 < 0 ∨ 8 ≤ x1.toNatClampNeg) then none else if x2 < (σ104.1 12 x1.toNatClampNeg) then (bd2 (f_X6_put x1 x2 x3 σ104) fun r213 σ212 => bd2 (f_X7_well r213 σ212) fun r215 σ214 => some (r215, σ214)) else (b_X7_set_44 σ104))) else (bd2 (f_X7_found (1 : Int32) σ104) fun r217 σ216 => some (r217, σ216)))
set_option maxHeartbeats 4000000 in
set_option maxRecDepth 100000 in
theorem w_X7_set {p : Program} {l : Launch} {e : Env} {s : State} {m : MethodId} {args : Array Value} {below : List Frame} {meth : Method} {c : Code} {G : Gd} {B : Nat} (X : Cm p s m args meth c cX7_set 4 RX7 G (some .int)) {r : Int32} {σr : Sto} (x1 : Int32) (x2 : Int32) (x3 : Int32) (σ : Sto) (hf : f_X7_set x1 x2 x3 σ = some (r, σr)) (H : Heap) (locs : List Loc) (hH : HX G layX B σ H) (hS : va_S (inW layX B) s.heap H locs) (ls : Array Slot) (hl : lv_has ls 4 [(0, .ref (B + 0)), (1, .int x1), (2, .int x2), (3, .int x3)]) : WM p l e 1 s m args below meth c H locs G layX B (some (.int r)) σr (F0 m 0 ls []) := by
  unfold f_X7_set at hf
  have hx := X.1.1
  have hb := X.1.2.1
  refine lv_iload_n hx hb dX7_set_0 rfl (lv_at hl 1 rfl) ?_
  obtain ⟨r102, σ101, eσ101, hf⟩ := bnd2 hf
  refine g_cSi (As := [.int x1]) X.1 hH hS (c_X7_isRow l G B x1 σ σ101 r102 eσ101) kw_RX7_61 (by decide) rfl hl (Nat.le_of_ble_eq_true rfl) rfl dX7_set_1 (fun H locs hH hS => ?_)
  refine lv_if_ne (tgt := 10) hx hb dX7_set_4 (by decide) (fun q103 => ?_) (fun q103 => ?_)
  · replace hf := brF hf q103
    refine lv_aload_n hx hb dX7_set_10 rfl (lv_at hl 0 rfl) ?_
    refine g_get (v := .ref (B + 1)) kX7 (by decide) fl_RX7_10 X.1 hH kx_0 rfl dX7_set_11 ?_
    refine lv_iload_n hx hb dX7_set_14 rfl (lv_at hl 1 rfl) ?_
    obtain ⟨r105, σ104, eσ104, hf⟩ := bnd2 hf
    refine g_cVi (As := [.int x1]) X.1 hH hS (c_X6_isMissing l G B x1 σ101 σ104 r105 eσ104) kw_RX7_77 kX6 kx_1 (by decide) rfl hl (Nat.le_of_ble_eq_true rfl) rfl dX7_set_15 (fun H locs hH hS => ?_)
    refine lv_if_eq (tgt := 27) hx hb dX7_set_18 (by decide) (fun q106 => ?_) (fun q106 => ?_)
    · replace hf := brT hf q106
      refine lv_iload_n hx hb dX7_set_27 rfl (lv_at hl 2 rfl) ?_
      refine lv_if_lt (tgt := 44) hx hb dX7_set_28 (by decide) (fun q107 => ?_) (fun q107 => ?_)
      · replace hf := brT hf q107
        exact w_X7_set_44 X σ104 hf _ _ hH hS _ (lv_sub hl [0] rfl)
      · replace hf := brF hf q107
        refine lv_iload_n hx hb dX7_set_31 rfl (lv_at hl 2 rfl) ?_
        refine lv_aload_n hx hb dX7_set_32 rfl (lv_at hl 0 rfl) ?_
        refine g_get (v := .ref (B + 1)) kX7 (by decide) fl_RX7_10 X.1 hH kx_0 rfl dX7_set_33 ?_
        refine g_get (v := .ref (B + 12)) kX6 (by decide) fl_RX7_80 X.1 hH kx_1 rfl dX7_set_36 ?_
        refine lv_iload_n hx hb dX7_set_39 rfl (lv_at hl 1 rfl) ?_
        obtain ⟨q210, hf⟩ := chk hf
        refine g_iald (j := x1.toNatClampNeg) X.1 hH kx_12 q210 rfl dX7_set_40 ?_
        refine lv_icmp_lt (tgt := 50) hx hb dX7_set_41 (by decide) (fun q211 => ?_) (fun q211 => ?_)
        · replace hf := brT hf q211
          refine lv_aload_n hx hb dX7_set_50 rfl (lv_at hl 0 rfl) ?_
          refine lv_aload_n hx hb dX7_set_51 rfl (lv_at hl 0 rfl) ?_
          refine g_get (v := .ref (B + 1)) kX7 (by decide) fl_RX7_10 X.1 hH kx_0 rfl dX7_set_52 ?_
          refine lv_iload_n hx hb dX7_set_55 rfl (lv_at hl 1 rfl) ?_
          refine lv_iload_n hx hb dX7_set_56 rfl (lv_at hl 2 rfl) ?_
          refine lv_iload_n hx hb dX7_set_57 rfl (lv_at hl 3 rfl) ?_
          obtain ⟨r213, σ212, eσ212, hf⟩ := bnd2 hf
          refine g_cVi (As := [.int x1, .int x2, .int x3]) X.1 hH hS (c_X6_put l G B x1 x2 x3 σ104 σ212 r213 eσ212) kw_RX7_84 kX6 kx_1 (by decide) rfl hl (Nat.le_of_ble_eq_true rfl) rfl dX7_set_58 (fun H locs hH hS => ?_)
          obtain ⟨r215, σ214, eσ214, hf⟩ := bnd2 hf
          refine g_cVi (As := [.int r213]) X.1 hH hS (c_X7_well l G B r213 σ212 σ214 r215 eσ214) kw_RX7_74 kX7 kx_0 (by decide) rfl hl (Nat.le_of_ble_eq_true rfl) rfl dX7_set_61 (fun H locs hH hS => ?_)
          obtain ⟨rfl, rfl⟩ := rt2 hf
          exact g_iret X hH hS dX7_set_64
        · replace hf := brF hf q211
          exact w_X7_set_44 X σ104 hf _ _ hH hS _ (lv_sub hl [0] rfl)
    · replace hf := brF hf q106
      refine lv_aload_n hx hb dX7_set_21 rfl (lv_at hl 0 rfl) ?_
      refine lv_iconst (v := 1) hx hb dX7_set_22 (by decide) ?_
      obtain ⟨r217, σ216, eσ216, hf⟩ := bnd2 hf
      refine g_cVi (As := [.int (1 : Int32)]) X.1 hH hS (c_X7_found l G B (1 : Int32) σ104 σ216 r217 eσ216) kw_RX7_66 kX7 kx_0 (by decide) rfl hl (Nat.le_of_ble_eq_true rfl) rfl dX7_set_23 (fun H locs hH hS => ?_)
      obtain ⟨rfl, rfl⟩ := rt2 hf
      exact g_iret X hH hS dX7_set_26
  · replace hf := brT hf q103
    refine lv_ldc (v := -1000001) hx hb X.1.2.2.2.1 (X.1.2.2.2.2.1 _ kc_RX7_65) dX7_set_7 ?_
    obtain ⟨rfl, rfl⟩ := rt2 hf
    exact g_iret X hH hS dX7_set_9
theorem c_X7_set (l : Launch) (G : Gd) (B : Nat) (x1 : Int32) (x2 : Int32) (x3 : Int32) (σ σr : Sto) (r : Int32) (hf : f_X7_set x1 x2 x3 σ = some (r, σr)) : Ct l G layX B yX7_set cX7_set 4 (some .int) 1 [.ref (B + 0), .int x1, .int x2, .int x3] (some (.int r)) σ σr :=
  Ct.ofW (by decide) (Nat.le_of_ble_eq_true rfl) (fun _ _ _ _ _ _ _ X hH hS ls hl => w_X7_set X x1 x2 x3 σ hf _ _ hH hS ls (show lv_has ls 4 [(0, .ref (B + 0)), (1, .int x1), (2, .int x2), (3, .int x3)] from hl))
-- SlackProofs.slack(III)J  (D 3)
def b_X7_slack_25 (σ : Sto) : Option (Int64 × Sto) :=
  some ((-1000001 : Int64), σ)
set_option maxHeartbeats 4000000 in
set_option maxRecDepth 100000 in
theorem w_X7_slack_25 {p : Program} {l : Launch} {e : Env} {s : State} {m : MethodId} {args : Array Value} {below : List Frame} {meth : Method} {c : Code} {G : Gd} {B : Nat} (X : Cm p s m args meth c cX7_slack 4 RX7 G (some .long)) {r : Int64} {σr : Sto} (σ : Sto) (hf : b_X7_slack_25 σ = some (r, σr)) (H : Heap) (locs : List Loc) (hH : HX G layX B σ H) (hS : va_S (inW layX B) s.heap H locs) (ls : Array Slot) (hl : lv_has ls 4 []) : WM p l e 3 s m args below meth c H locs G layX B (some (.long r)) σr (F0 m 25 ls []) := by
  unfold b_X7_slack_25 at hf
  have hx := X.1.1
  have hb := X.1.2.1
  refine lv_ldc2 (v := -1000001) hx hb X.1.2.2.2.1 (X.1.2.2.2.2.1 _ kc_RX7_268) dX7_slack_25 ?_
  obtain ⟨rfl, rfl⟩ := rt2 hf
  exact g_lret X hH hS dX7_slack_28
def f_X7_slack (x1 : Int32) (x2 : Int32) (x3 : Int32) (σ : Sto) : Option (Int64 × Sto) :=
  bd2 (f_X2_has 33 x1 σ) fun r102 σ101 => if r102 = 0 then (b_X7_slack_25 σ101) else (bd2 (f_X7_isSet x2 σ101) fun r205 σ204 => if r205 = 0 then (b_X7_slack_25 σ204) else (bd2 (f_X7_isSet x3 σ204) fun r208 σ207 => if r208 = 0 then (b_X7_slack_25 σ207) else (if (x1 < 0 ∨ 30 ≤ x1.toNatClampNeg) then none else bd2 (f_X3_isBeyond (36 + 2 * x1.toNatClampNeg) σ207) fun r212 σ211 => if r212 = 0 then (nmS (pI σ211 0 7 (0 : Int32)) fun σ214 => if (x1 < 0 ∨ 30 ≤ x1.toNatClampNeg) then none else bd2 (f_X3_slackBy (36 + 2 * x1.toNatClampNeg) x2 x3 σ214) fun r217 σ216 => some (r217, σ216)) else (bd2 (f_X7_found (6 : Int32) σ211) fun r219 σ218 => some (r219.toInt64, σ218)))))
set_option maxHeartbeats 4000000 in
set_option maxRecDepth 100000 in
theorem w_X7_slack {p : Program} {l : Launch} {e : Env} {s : State} {m : MethodId} {args : Array Value} {below : List Frame} {meth : Method} {c : Code} {G : Gd} {B : Nat} (X : Cm p s m args meth c cX7_slack 4 RX7 G (some .long)) {r : Int64} {σr : Sto} (x1 : Int32) (x2 : Int32) (x3 : Int32) (σ : Sto) (hf : f_X7_slack x1 x2 x3 σ = some (r, σr)) (H : Heap) (locs : List Loc) (hH : HX G layX B σ H) (hS : va_S (inW layX B) s.heap H locs) (ls : Array Slot) (hl : lv_has ls 4 [(0, .ref (B + 0)), (1, .int x1), (2, .int x2), (3, .int x3)]) : WM p l e 3 s m args below meth c H locs G layX B (some (.long r)) σr (F0 m 0 ls []) := by
  unfold f_X7_slack at hf
  have hx := X.1.1
  have hb := X.1.2.1
  refine lv_aload_n hx hb dX7_slack_0 rfl (lv_at hl 0 rfl) ?_
  refine g_get (v := .ref (B + 33)) kX7 (by decide) fl_RX7_26 X.1 hH kx_0 rfl dX7_slack_1 ?_
  refine lv_iload_n hx hb dX7_slack_4 rfl (lv_at hl 1 rfl) ?_
  obtain ⟨r102, σ101, eσ101, hf⟩ := bnd2 hf
  refine g_cVi (As := [.int x1]) X.1 hH hS (c_X2_has l G B 33 kx_33 x1 σ σ101 r102 eσ101) kw_RX7_156 kX2 kx_33 (by decide) rfl hl (Nat.le_of_ble_eq_true rfl) rfl dX7_slack_5 (fun H locs hH hS => ?_)
  refine lv_if_eq (tgt := 25) hx hb dX7_slack_8 (by decide) (fun q103 => ?_) (fun q103 => ?_)
  · replace hf := brT hf q103
    exact w_X7_slack_25 X σ101 hf _ _ hH hS _ (lv_sub hl [] rfl)
  · replace hf := brF hf q103
    refine lv_iload_n hx hb dX7_slack_11 rfl (lv_at hl 2 rfl) ?_
    obtain ⟨r205, σ204, eσ204, hf⟩ := bnd2 hf
    refine g_cSi (As := [.int x2]) X.1 hH hS (c_X7_isSet l G B x2 σ101 σ204 r205 eσ204) kw_RX7_208 (by decide) rfl hl (Nat.le_of_ble_eq_true rfl) rfl dX7_slack_12 (fun H locs hH hS => ?_)
    refine lv_if_eq (tgt := 25) hx hb dX7_slack_15 (by decide) (fun q206 => ?_) (fun q206 => ?_)
    · replace hf := brT hf q206
      exact w_X7_slack_25 X σ204 hf _ _ hH hS _ (lv_sub hl [] rfl)
    · replace hf := brF hf q206
      refine lv_iload_n hx hb dX7_slack_18 rfl (lv_at hl 3 rfl) ?_
      obtain ⟨r208, σ207, eσ207, hf⟩ := bnd2 hf
      refine g_cSi (As := [.int x3]) X.1 hH hS (c_X7_isSet l G B x3 σ204 σ207 r208 eσ207) kw_RX7_208 (by decide) rfl hl (Nat.le_of_ble_eq_true rfl) rfl dX7_slack_19 (fun H locs hH hS => ?_)
      refine lv_if_ne (tgt := 29) hx hb dX7_slack_22 (by decide) (fun q209 => ?_) (fun q209 => ?_)
      · replace hf := brF hf q209
        refine lv_aload_n hx hb dX7_slack_29 rfl (lv_at hl 0 rfl) ?_
        refine g_get (v := .ref (B + 33)) kX7 (by decide) fl_RX7_26 X.1 hH kx_0 rfl dX7_slack_30 ?_
        refine g_get (v := .ref (B + 34)) kX2 (by decide) fl_RX7_163 X.1 hH kx_33 rfl dX7_slack_33 ?_
        refine lv_iload_n hx hb dX7_slack_36 rfl (lv_at hl 1 rfl) ?_
        obtain ⟨q210, hf⟩ := chk hf
        refine g_aald (b := (36 + 2 * x1.toNatClampNeg)) X.1 hH kx_34 (by decide) q210 rfl dX7_slack_37 ?_
        obtain ⟨r212, σ211, eσ211, hf⟩ := bnd2 hf
        refine g_cVi (As := []) X.1 hH hS (c_X3_isBeyond l G B (36 + 2 * x1.toNatClampNeg) (kB33 q210) σ207 σ211 r212 eσ211) kw_RX7_270 kX3 (kB33 q210) (by decide) rfl hl (Nat.le_of_ble_eq_true rfl) rfl dX7_slack_38 (fun H locs hH hS => ?_)
        refine lv_if_eq (tgt := 52) hx hb dX7_slack_41 (by decide) (fun q213 => ?_) (fun q213 => ?_)
        · replace hf := brT hf q213
          refine lv_aload_n hx hb dX7_slack_52 rfl (lv_at hl 0 rfl) ?_
          refine lv_iconst (v := 0) hx hb dX7_slack_53 (by decide) ?_
          refine g_putI kX7 (by decide) fl_RX7_57 rfl rfl X.1 hH hS kx_0 dX7_slack_54 (fun H locs hH hS => ?_)
          obtain ⟨σ214, eσ214, hH⟩ := nmX hH
          replace hf := nmU hf eσ214
          refine lv_aload_n hx hb dX7_slack_57 rfl (lv_at hl 0 rfl) ?_
          refine g_get (v := .ref (B + 33)) kX7 (by decide) fl_RX7_26 X.1 hH kx_0 rfl dX7_slack_58 ?_
          refine g_get (v := .ref (B + 34)) kX2 (by decide) fl_RX7_163 X.1 hH kx_33 rfl dX7_slack_61 ?_
          refine lv_iload_n hx hb dX7_slack_64 rfl (lv_at hl 1 rfl) ?_
          obtain ⟨q215, hf⟩ := chk hf
          refine g_aald (b := (36 + 2 * x1.toNatClampNeg)) X.1 hH kx_34 (by decide) q215 rfl dX7_slack_65 ?_
          refine lv_iload_n hx hb dX7_slack_66 rfl (lv_at hl 2 rfl) ?_
          refine lv_iload_n hx hb dX7_slack_67 rfl (lv_at hl 3 rfl) ?_
          obtain ⟨r217, σ216, eσ216, hf⟩ := bnd2 hf
          refine g_cVl (As := [.int x2, .int x3]) X.1 hH hS (c_X3_slackBy l G B (36 + 2 * x1.toNatClampNeg) (kB33 q215) x2 x3 σ214 σ216 r217 eσ216) kw_RX7_275 kX3 (kB33 q215) (by decide) rfl hl (Nat.le_of_ble_eq_true rfl) rfl dX7_slack_68 (fun H locs hH hS => ?_)
          obtain ⟨rfl, rfl⟩ := rt2 hf
          exact g_lret X hH hS dX7_slack_71
        · replace hf := brF hf q213
          refine lv_aload_n hx hb dX7_slack_44 rfl (lv_at hl 0 rfl) ?_
          refine lv_bipush (v := 6) hx hb dX7_slack_45 (by decide) ?_
          obtain ⟨r219, σ218, eσ218, hf⟩ := bnd2 hf
          refine g_cVi (As := [.int (6 : Int32)]) X.1 hH hS (c_X7_found l G B (6 : Int32) σ211 σ218 r219 eσ218) kw_RX7_66 kX7 kx_0 (by decide) rfl hl (Nat.le_of_ble_eq_true rfl) rfl dX7_slack_47 (fun H locs hH hS => ?_)
          refine lv_i2l hx hb dX7_slack_50 rfl ?_
          obtain ⟨rfl, rfl⟩ := rt2 hf
          exact g_lret X hH hS dX7_slack_51
      · replace hf := brT hf q209
        exact w_X7_slack_25 X σ207 hf _ _ hH hS _ (lv_sub hl [] rfl)
theorem c_X7_slack (l : Launch) (G : Gd) (B : Nat) (x1 : Int32) (x2 : Int32) (x3 : Int32) (σ σr : Sto) (r : Int64) (hf : f_X7_slack x1 x2 x3 σ = some (r, σr)) : Ct l G layX B yX7_slack cX7_slack 4 (some .long) 3 [.ref (B + 0), .int x1, .int x2, .int x3] (some (.long r)) σ σr :=
  Ct.ofW (by decide) (Nat.le_of_ble_eq_true rfl) (fun _ _ _ _ _ _ _ X hH hS ls hl => w_X7_slack X x1 x2 x3 σ hf _ _ hH hS ls (show lv_has ls 4 [(0, .ref (B + 0)), (1, .int x1), (2, .int x2), (3, .int x3)] from hl))
