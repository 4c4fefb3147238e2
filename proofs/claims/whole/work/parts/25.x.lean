-- SlackProofs.weaken(II)I  (D 3)
def b_X7_weaken_43 (v1 : Int32) (v2 : Int32) (s0 : Int32) (σ : Sto) : Option (Int32 × Sto) :=
  bd2 (f_X7_stepRefusal s0 σ) fun r305 σ304 => if r305 = 0 then (bd2 (f_X2_next 33 σ304) fun r308 σ307 => if ¬ (r308 < layX.2.2 ∧ layX.1 r308 = .inl 3) then none else if (v1 < 0 ∨ 30 ≤ v1.toNatClampNeg) then none else bd1 (f_X3_becomeWeakened r308 (36 + 2 * v1.toNatClampNeg) v2 σ307) fun σ311 => bd2 (f_X7_comes (4 : Int32) σ311) fun r314 σ313 => some (r314, σ313)) else (some (r305, σ304))
set_option maxHeartbeats 4000000 in
set_option maxRecDepth 100000 in
theorem w_X7_weaken_43 {p : Program} {l : Launch} {e : Env} {s : State} {m : MethodId} {args : Array Value} {below : List Frame} {meth : Method} {c : Code} {G : Gd} {B : Nat} (X : Cm p s m args meth c cX7_weaken 4 RX7 G (some .int)) {r : Int32} {σr : Sto} (v1 : Int32) (v2 : Int32) (s0 : Int32) (σ : Sto) (hf : b_X7_weaken_43 v1 v2 s0 σ = some (r, σr)) (H : Heap) (locs : List Loc) (hH : HX G layX B σ H) (hS : va_S (inW layX B) s.heap H locs) (ls : Array Slot) (hl : lv_has ls 4 [(0, .ref (B + 0)), (1, .int v1), (2, .int v2)]) : WM p l e 3 s m args below meth c H locs G layX B (some (.int r)) σr (F0 m 43 ls [.int s0, .ref (B + 0)]) := by
  unfold b_X7_weaken_43 at hf
  have hx := X.1.1
  have hb := X.1.2.1
  obtain ⟨r305, σ304, eσ304, hf⟩ := bnd2 hf
  refine g_cVi (As := [.int s0]) X.1 hH hS (c_X7_stepRefusal l G B s0 σ σ304 r305 eσ304) kw_RX7_159 kX7 kx_0 (by decide) rfl hl (Nat.le_of_ble_eq_true rfl) rfl dX7_weaken_43 (fun H locs hH hS => ?_)
  refine lv_istore_n (lv' := [(3, .int r305), (0, .ref (B + 0)), (1, .int v1), (2, .int v2)]) hx hb dX7_weaken_46 rfl hl (by decide) rfl (fun ls hl => ?_)
  refine lv_iload_n hx hb dX7_weaken_47 rfl (lv_at hl 0 rfl) ?_
  refine lv_if_eq (tgt := 53) hx hb dX7_weaken_48 (by decide) (fun q306 => ?_) (fun q306 => ?_)
  · replace hf := brT hf q306
    refine lv_aload_n hx hb dX7_weaken_53 rfl (lv_at hl 1 rfl) ?_
    refine g_get (v := .ref (B + 33)) kX7 (by decide) fl_RX7_26 X.1 hH kx_0 rfl dX7_weaken_54 ?_
    obtain ⟨r308, σ307, eσ307, hf⟩ := bnd2 hf
    refine g_cVr (As := []) X.1 hH hS (c_X2_next l G B 33 kx_33 σ304 σ307 r308 eσ307) kw_RX7_133 kX2 kx_33 (by decide) rfl hl (Nat.le_of_ble_eq_true rfl) rfl dX7_weaken_57 (fun H locs hH hS => ?_)
    obtain ⟨q309, hf⟩ := chk hf
    replace q309 := Decidable.not_not.mp q309
    refine lv_aload_n hx hb dX7_weaken_60 rfl (lv_at hl 1 rfl) ?_
    refine g_get (v := .ref (B + 33)) kX7 (by decide) fl_RX7_26 X.1 hH kx_0 rfl dX7_weaken_61 ?_
    refine g_get (v := .ref (B + 34)) kX2 (by decide) fl_RX7_163 X.1 hH kx_33 rfl dX7_weaken_64 ?_
    refine lv_iload_n hx hb dX7_weaken_67 rfl (lv_at hl 2 rfl) ?_
    obtain ⟨q310, hf⟩ := chk hf
    refine g_aald (b := (36 + 2 * v1.toNatClampNeg)) X.1 hH kx_34 (by decide) q310 rfl dX7_weaken_68 ?_
    refine lv_iload_n hx hb dX7_weaken_69 rfl (lv_at hl 3 rfl) ?_
    obtain ⟨σ311, eσ311, hf⟩ := bnd1 hf
    refine g_cVv (As := [.ref (B + (36 + 2 * v1.toNatClampNeg)), .int v2]) X.1 hH hS (c_X3_becomeWeakened l G B r308 q309 (36 + 2 * v1.toNatClampNeg) (kB33 q310) v2 σ307 σ311 eσ311) kw_RX7_189 kX3 q309 (by decide) rfl hl (Nat.le_of_ble_eq_true rfl) rfl dX7_weaken_70 (fun H locs hH hS => ?_)
    refine lv_aload_n hx hb dX7_weaken_73 rfl (lv_at hl 1 rfl) ?_
    refine lv_iconst (v := 4) hx hb dX7_weaken_74 (by decide) ?_
    obtain ⟨r314, σ313, eσ313, hf⟩ := bnd2 hf
    refine g_cVi (As := [.int (4 : Int32)]) X.1 hH hS (c_X7_comes l G B (4 : Int32) σ311 σ313 r314 eσ313) kw_RX7_168 kX7 kx_0 (by decide) rfl hl (Nat.le_of_ble_eq_true rfl) rfl dX7_weaken_75 (fun H locs hH hS => ?_)
    obtain ⟨rfl, rfl⟩ := rt2 hf
    exact g_iret X hH hS dX7_weaken_78
  · replace hf := brF hf q306
    refine lv_iload_n hx hb dX7_weaken_51 rfl (lv_at hl 0 rfl) ?_
    obtain ⟨rfl, rfl⟩ := rt2 hf
    exact g_iret X hH hS dX7_weaken_52
def b_X7_weaken_42 (v1 : Int32) (v2 : Int32) (σ : Sto) : Option (Int32 × Sto) :=
  b_X7_weaken_43 v1 v2 (0 : Int32) σ
set_option maxHeartbeats 4000000 in
set_option maxRecDepth 100000 in
theorem w_X7_weaken_42 {p : Program} {l : Launch} {e : Env} {s : State} {m : MethodId} {args : Array Value} {below : List Frame} {meth : Method} {c : Code} {G : Gd} {B : Nat} (X : Cm p s m args meth c cX7_weaken 4 RX7 G (some .int)) {r : Int32} {σr : Sto} (v1 : Int32) (v2 : Int32) (σ : Sto) (hf : b_X7_weaken_42 v1 v2 σ = some (r, σr)) (H : Heap) (locs : List Loc) (hH : HX G layX B σ H) (hS : va_S (inW layX B) s.heap H locs) (ls : Array Slot) (hl : lv_has ls 4 [(0, .ref (B + 0)), (1, .int v1), (2, .int v2)]) : WM p l e 3 s m args below meth c H locs G layX B (some (.int r)) σr (F0 m 42 ls [.ref (B + 0)]) := by
  unfold b_X7_weaken_42 at hf
  have hx := X.1.1
  have hb := X.1.2.1
  refine lv_iconst (v := 0) hx hb dX7_weaken_42 (by decide) ?_
  exact w_X7_weaken_43 X v1 v2 (0 : Int32) σ hf _ _ hH hS _ (lv_sub hl [0, 1, 2] rfl)
def f_X7_weaken (x1 : Int32) (x2 : Int32) (σ : Sto) : Option (Int32 × Sto) :=
  bd2 (f_X2_has 33 x1 σ) fun r102 σ101 => if r102 = 0 then (b_X7_weaken_42 x1 x2 σ101) else (bd2 (f_X7_isVariable x2 σ101) fun r316 σ315 => if r316 = 0 then (b_X7_weaken_42 x1 x2 σ315) else (if (x1 < 0 ∨ 30 ≤ x1.toNatClampNeg) then none else if (x2 < 0 ∨ 8 ≤ x2.toNatClampNeg) then none else if (σ315.2 ((36 + 2 * x1.toNatClampNeg) + 1) x2.toNatClampNeg) = (0 : Int64) then (b_X7_weaken_42 x1 x2 σ315) else (b_X7_weaken_43 x1 x2 (1 : Int32) σ315)))
set_option maxHeartbeats 4000000 in
set_option maxRecDepth 100000 in
theorem w_X7_weaken {p : Program} {l : Launch} {e : Env} {s : State} {m : MethodId} {args : Array Value} {below : List Frame} {meth : Method} {c : Code} {G : Gd} {B : Nat} (X : Cm p s m args meth c cX7_weaken 4 RX7 G (some .int)) {r : Int32} {σr : Sto} (x1 : Int32) (x2 : Int32) (σ : Sto) (hf : f_X7_weaken x1 x2 σ = some (r, σr)) (H : Heap) (locs : List Loc) (hH : HX G layX B σ H) (hS : va_S (inW layX B) s.heap H locs) (ls : Array Slot) (hl : lv_has ls 4 [(0, .ref (B + 0)), (1, .int x1), (2, .int x2)]) : WM p l e 3 s m args below meth c H locs G layX B (some (.int r)) σr (F0 m 0 ls []) := by
  unfold f_X7_weaken at hf
  have hx := X.1.1
  have hb := X.1.2.1
  refine lv_aload_n hx hb dX7_weaken_0 rfl (lv_at hl 0 rfl) ?_
  refine lv_aload_n hx hb dX7_weaken_1 rfl (lv_at hl 0 rfl) ?_
  refine g_get (v := .ref (B + 33)) kX7 (by decide) fl_RX7_26 X.1 hH kx_0 rfl dX7_weaken_2 ?_
  refine lv_iload_n hx hb dX7_weaken_5 rfl (lv_at hl 1 rfl) ?_
  obtain ⟨r102, σ101, eσ101, hf⟩ := bnd2 hf
  refine g_cVi (As := [.int x1]) X.1 hH hS (c_X2_has l G B 33 kx_33 x1 σ σ101 r102 eσ101) kw_RX7_156 kX2 kx_33 (by decide) rfl hl (Nat.le_of_ble_eq_true rfl) rfl dX7_weaken_6 (fun H locs hH hS => ?_)
  refine lv_if_eq (tgt := 42) hx hb dX7_weaken_9 (by decide) (fun q103 => ?_) (fun q103 => ?_)
  · replace hf := brT hf q103
    exact w_X7_weaken_42 X x1 x2 σ101 hf _ _ hH hS _ (lv_sub hl [0, 1, 2] rfl)
  · replace hf := brF hf q103
    refine lv_iload_n hx hb dX7_weaken_12 rfl (lv_at hl 2 rfl) ?_
    obtain ⟨r316, σ315, eσ315, hf⟩ := bnd2 hf
    refine g_cSi (As := [.int x2]) X.1 hH hS (c_X7_isVariable l G B x2 σ101 σ315 r316 eσ315) kw_RX7_182 (by decide) rfl hl (Nat.le_of_ble_eq_true rfl) rfl dX7_weaken_13 (fun H locs hH hS => ?_)
    refine lv_if_eq (tgt := 42) hx hb dX7_weaken_16 (by decide) (fun q317 => ?_) (fun q317 => ?_)
    · replace hf := brT hf q317
      exact w_X7_weaken_42 X x1 x2 σ315 hf _ _ hH hS _ (lv_sub hl [0, 1, 2] rfl)
    · replace hf := brF hf q317
      refine lv_aload_n hx hb dX7_weaken_19 rfl (lv_at hl 0 rfl) ?_
      refine g_get (v := .ref (B + 33)) kX7 (by decide) fl_RX7_26 X.1 hH kx_0 rfl dX7_weaken_20 ?_
      refine g_get (v := .ref (B + 34)) kX2 (by decide) fl_RX7_163 X.1 hH kx_33 rfl dX7_weaken_23 ?_
      refine lv_iload_n hx hb dX7_weaken_26 rfl (lv_at hl 1 rfl) ?_
      obtain ⟨q318, hf⟩ := chk hf
      refine g_aald (b := (36 + 2 * x1.toNatClampNeg)) X.1 hH kx_34 (by decide) q318 rfl dX7_weaken_27 ?_
      refine g_get (v := .ref (B + ((36 + 2 * x1.toNatClampNeg) + 1))) kX3 (by decide) fl_RX7_185 X.1 hH (kB33 q318) (cRef (kB33 q318)) dX7_weaken_28 ?_
      refine lv_iload_n hx hb dX7_weaken_31 rfl (lv_at hl 2 rfl) ?_
      obtain ⟨q319, hf⟩ := chk hf
      refine g_lald (j := x2.toNatClampNeg) X.1 hH (cArr (kB33 q318)) q319 rfl dX7_weaken_32 ?_
      refine lv_lconst (v := 0) hx hb dX7_weaken_33 (by decide) ?_
      refine g_leq (tgt := 42) X.1 dX7_weaken_34 dX7_weaken_35 (by decide) (fun q320 => ?_) (fun q320 => ?_)
      · replace hf := brT hf q320
        exact w_X7_weaken_42 X x1 x2 σ315 hf _ _ hH hS _ (lv_sub hl [0, 1, 2] rfl)
      · replace hf := brF hf q320
        refine lv_iconst (v := 1) hx hb dX7_weaken_38 (by decide) ?_
        refine lv_goto (tgt := 43) hx hb dX7_weaken_39 (by decide) ?_
        exact w_X7_weaken_43 X x1 x2 (1 : Int32) σ315 hf _ _ hH hS _ (lv_sub hl [0, 1, 2] rfl)
theorem c_X7_weaken (l : Launch) (G : Gd) (B : Nat) (x1 : Int32) (x2 : Int32) (σ σr : Sto) (r : Int32) (hf : f_X7_weaken x1 x2 σ = some (r, σr)) : Ct l G layX B yX7_weaken cX7_weaken 4 (some .int) 3 [.ref (B + 0), .int x1, .int x2] (some (.int r)) σ σr :=
  Ct.ofW (by decide) (Nat.le_of_ble_eq_true rfl) (fun _ _ _ _ _ _ _ X hH hS ls hl => w_X7_weaken X x1 x2 σ hf _ _ hH hS ls (show lv_has ls 4 [(0, .ref (B + 0)), (1, .int x1), (2, .int x2)] from hl))
-- SlackProofs.witness(I)I  (D 8)
def f_X7_witness (x1 : Int32) (σ : Sto) : Option (Int32 × Sto) :=
  if (σ.1 33 2) = 0 then (some ((-1000002 : Int32), σ)) else (bd2 (f_X7_isRow x1 σ) fun r103 σ102 => if r103 = 0 then (some ((-1000001 : Int32), σ102)) else (bd2 (f_X6_isMissing x1 σ102) fun r106 σ105 => if r106 = 0 then (bd2 (f_X6_isWitness x1 σ105) fun r109 σ108 => if r109 = 0 then (bd2 (f_X7_found (2 : Int32) σ108) fun r114 σ113 => some (r114, σ113)) else (bd2 (f_X7_claimOfTape x1 σ108) fun r112 σ111 => some (r112, σ111))) else (bd2 (f_X7_found (1 : Int32) σ105) fun r116 σ115 => some (r116, σ115))))
set_option maxHeartbeats 4000000 in
set_option maxRecDepth 100000 in
theorem w_X7_witness {p : Program} {l : Launch} {e : Env} {s : State} {m : MethodId} {args : Array Value} {below : List Frame} {meth : Method} {c : Code} {G : Gd} {B : Nat} (X : Cm p s m args meth c cX7_witness 2 RX7 G (some .int)) {r : Int32} {σr : Sto} (x1 : Int32) (σ : Sto) (hf : f_X7_witness x1 σ = some (r, σr)) (H : Heap) (locs : List Loc) (hH : HX G layX B σ H) (hS : va_S (inW layX B) s.heap H locs) (ls : Array Slot) (hl : lv_has ls 2 [(0, .ref (B + 0)), (1, .int x1)]) : WM p l e 8 s m args below meth c H locs G layX B (some (.int r)) σr (F0 m 0 ls []) := by
  unfold f_X7_witness at hf
  have hx := X.1.1
  have hb := X.1.2.1
  refine lv_aload_n hx hb dX7_witness_0 rfl (lv_at hl 0 rfl) ?_
  refine g_get (v := .ref (B + 33)) kX7 (by decide) fl_RX7_26 X.1 hH kx_0 rfl dX7_witness_1 ?_
  refine g_get (v := .int (σ.1 33 2)) kX2 (by decide) fl_RX7_197 X.1 hH kx_33 rfl dX7_witness_4 ?_
  refine lv_if_ne (tgt := 13) hx hb dX7_witness_7 (by decide) (fun q101 => ?_) (fun q101 => ?_)
  · replace hf := brF hf q101
    refine lv_iload_n hx hb dX7_witness_13 rfl (lv_at hl 1 rfl) ?_
    obtain ⟨r103, σ102, eσ102, hf⟩ := bnd2 hf
    refine g_cSi (As := [.int x1]) X.1 hH hS (c_X7_isRow l G B x1 σ σ102 r103 eσ102) kw_RX7_61 (by decide) rfl hl (Nat.le_of_ble_eq_true rfl) rfl dX7_witness_14 (fun H locs hH hS => ?_)
    refine lv_if_ne (tgt := 23) hx hb dX7_witness_17 (by decide) (fun q104 => ?_) (fun q104 => ?_)
    · replace hf := brF hf q104
      refine lv_aload_n hx hb dX7_witness_23 rfl (lv_at hl 0 rfl) ?_
      refine g_get (v := .ref (B + 1)) kX7 (by decide) fl_RX7_10 X.1 hH kx_0 rfl dX7_witness_24 ?_
      refine lv_iload_n hx hb dX7_witness_27 rfl (lv_at hl 1 rfl) ?_
      obtain ⟨r106, σ105, eσ105, hf⟩ := bnd2 hf
      refine g_cVi (As := [.int x1]) X.1 hH hS (c_X6_isMissing l G B x1 σ102 σ105 r106 eσ105) kw_RX7_77 kX6 kx_1 (by decide) rfl hl (Nat.le_of_ble_eq_true rfl) rfl dX7_witness_28 (fun H locs hH hS => ?_)
      refine lv_if_eq (tgt := 40) hx hb dX7_witness_31 (by decide) (fun q107 => ?_) (fun q107 => ?_)
      · replace hf := brT hf q107
        refine lv_aload_n hx hb dX7_witness_40 rfl (lv_at hl 0 rfl) ?_
        refine g_get (v := .ref (B + 1)) kX7 (by decide) fl_RX7_10 X.1 hH kx_0 rfl dX7_witness_41 ?_
        refine lv_iload_n hx hb dX7_witness_44 rfl (lv_at hl 1 rfl) ?_
        obtain ⟨r109, σ108, eσ108, hf⟩ := bnd2 hf
        refine g_cVi (As := [.int x1]) X.1 hH hS (c_X6_isWitness l G B x1 σ105 σ108 r109 eσ108) kw_RX7_205 kX6 kx_1 (by decide) rfl hl (Nat.le_of_ble_eq_true rfl) rfl dX7_witness_45 (fun H locs hH hS => ?_)
        refine lv_if_ne (tgt := 57) hx hb dX7_witness_48 (by decide) (fun q110 => ?_) (fun q110 => ?_)
        · replace hf := brF hf q110
          refine lv_aload_n hx hb dX7_witness_57 rfl (lv_at hl 0 rfl) ?_
          refine lv_iload_n hx hb dX7_witness_58 rfl (lv_at hl 1 rfl) ?_
          obtain ⟨r112, σ111, eσ111, hf⟩ := bnd2 hf
          refine g_cVi (As := [.int x1]) X.1 hH hS (c_X7_claimOfTape l G B x1 σ108 σ111 r112 eσ111) kw_RX7_202 kX7 kx_0 (by decide) rfl hl (Nat.le_of_ble_eq_true rfl) rfl dX7_witness_59 (fun H locs hH hS => ?_)
          obtain ⟨rfl, rfl⟩ := rt2 hf
          exact g_iret X hH hS dX7_witness_62
        · replace hf := brT hf q110
          refine lv_aload_n hx hb dX7_witness_51 rfl (lv_at hl 0 rfl) ?_
          refine lv_iconst (v := 2) hx hb dX7_witness_52 (by decide) ?_
          obtain ⟨r114, σ113, eσ113, hf⟩ := bnd2 hf
          refine g_cVi (As := [.int (2 : Int32)]) X.1 hH hS (c_X7_found l G B (2 : Int32) σ108 σ113 r114 eσ113) kw_RX7_66 kX7 kx_0 (by decide) rfl hl (Nat.le_of_ble_eq_true rfl) rfl dX7_witness_53 (fun H locs hH hS => ?_)
          obtain ⟨rfl, rfl⟩ := rt2 hf
          exact g_iret X hH hS dX7_witness_56
      · replace hf := brF hf q107
        refine lv_aload_n hx hb dX7_witness_34 rfl (lv_at hl 0 rfl) ?_
        refine lv_iconst (v := 1) hx hb dX7_witness_35 (by decide) ?_
        obtain ⟨r116, σ115, eσ115, hf⟩ := bnd2 hf
        refine g_cVi (As := [.int (1 : Int32)]) X.1 hH hS (c_X7_found l G B (1 : Int32) σ105 σ115 r116 eσ115) kw_RX7_66 kX7 kx_0 (by decide) rfl hl (Nat.le_of_ble_eq_true rfl) rfl dX7_witness_36 (fun H locs hH hS => ?_)
        obtain ⟨rfl, rfl⟩ := rt2 hf
        exact g_iret X hH hS dX7_witness_39
    · replace hf := brT hf q104
      refine lv_ldc (v := -1000001) hx hb X.1.2.2.2.1 (X.1.2.2.2.2.1 _ kc_RX7_65) dX7_witness_20 ?_
      obtain ⟨rfl, rfl⟩ := rt2 hf
      exact g_iret X hH hS dX7_witness_22
  · replace hf := brT hf q101
    refine lv_ldc (v := -1000002) hx hb X.1.2.2.2.1 (X.1.2.2.2.2.1 _ kc_RX7_201) dX7_witness_10 ?_
    obtain ⟨rfl, rfl⟩ := rt2 hf
    exact g_iret X hH hS dX7_witness_12
theorem c_X7_witness (l : Launch) (G : Gd) (B : Nat) (x1 : Int32) (σ σr : Sto) (r : Int32) (hf : f_X7_witness x1 σ = some (r, σr)) : Ct l G layX B yX7_witness cX7_witness 2 (some .int) 8 [.ref (B + 0), .int x1] (some (.int r)) σ σr :=
  Ct.ofW (by decide) (Nat.le_of_ble_eq_true rfl) (fun _ _ _ _ _ _ _ X hH hS ls hl => w_X7_witness X x1 σ hf _ _ hH hS ls (show lv_has ls 2 [(0, .ref (B + 0)), (1, .int x1)] from hl))
