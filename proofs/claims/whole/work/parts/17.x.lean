-- SlackProofs$Prover.conflictByKnown(II)Z  (D 4)
def f_X4_conflictByKnown (x1 : Int32) (x2 : Int32) (σ : Sto) : Option (Int32 × Sto) :=
  nmS (pI σ 227 5 x1) fun σ101 => nmS (pI σ101 227 6 (x1 &&& x2)) fun σ102 => bd2 (f_X4_drives (σ102.1 33 4) 228 228 σ102) fun r104 σ103 => if ¬ (r104 = 0 ∨ r104 = 1) then none else some (r104, σ103)
set_option maxHeartbeats 4000000 in
set_option maxRecDepth 100000 in
theorem w_X4_conflictByKnown {p : Program} {l : Launch} {e : Env} {s : State} {m : MethodId} {args : Array Value} {below : List Frame} {meth : Method} {c : Code} {G : Gd} {B : Nat} (X : Cm p s m args meth c cX4_conflictByKnown 3 RX4 G (some .boolean)) {r : Int32} {σr : Sto} (x1 : Int32) (x2 : Int32) (σ : Sto) (hf : f_X4_conflictByKnown x1 x2 σ = some (r, σr)) (H : Heap) (locs : List Loc) (hH : HX G layX B σ H) (hS : va_S (inW layX B) s.heap H locs) (ls : Array Slot) (hl : lv_has ls 3 [(0, .ref (B + 227)), (1, .int x1), (2, .int x2)]) : WM p l e 4 s m args below meth c H locs G layX B (some (.int r)) σr (F0 m 0 ls []) := by
  unfold f_X4_conflictByKnown at hf
  have hx := X.1.1
  have hb := X.1.2.1
  refine lv_aload_n hx hb dX4_conflictByKnown_0 rfl (lv_at hl 0 rfl) ?_
  refine lv_iload_n hx hb dX4_conflictByKnown_1 rfl (lv_at hl 1 rfl) ?_
  refine g_putI kX4 (by decide) fl_RX4_33 rfl rfl X.1 hH hS kx_227 dX4_conflictByKnown_2 (fun H locs hH hS => ?_)
  obtain ⟨σ101, eσ101, hH⟩ := nmX hH
  replace hf := nmU hf eσ101
  refine lv_aload_n hx hb dX4_conflictByKnown_5 rfl (lv_at hl 0 rfl) ?_
  refine lv_iload_n hx hb dX4_conflictByKnown_6 rfl (lv_at hl 1 rfl) ?_
  refine lv_iload_n hx hb dX4_conflictByKnown_7 rfl (lv_at hl 2 rfl) ?_
  refine lv_iand hx hb dX4_conflictByKnown_8 ?_
  refine g_putI kX4 (by decide) fl_RX4_37 rfl rfl X.1 hH hS kx_227 dX4_conflictByKnown_9 (fun H locs hH hS => ?_)
  obtain ⟨σ102, eσ102, hH⟩ := nmX hH
  replace hf := nmU hf eσ102
  refine lv_aload_n hx hb dX4_conflictByKnown_12 rfl (lv_at hl 0 rfl) ?_
  refine lv_aload_n hx hb dX4_conflictByKnown_13 rfl (lv_at hl 0 rfl) ?_
  refine g_get (v := .ref (B + 33)) kX4 (by decide) fl_RX4_29 X.1 hH kx_227 rfl dX4_conflictByKnown_14 ?_
  refine g_get (v := .int (σ102.1 33 4)) kX2 (by decide) fl_RX4_40 X.1 hH kx_33 rfl dX4_conflictByKnown_17 ?_
  refine lv_aload_n hx hb dX4_conflictByKnown_20 rfl (lv_at hl 0 rfl) ?_
  refine g_get (v := .ref (B + 228)) kX4 (by decide) fl_RX4_14 X.1 hH kx_227 rfl dX4_conflictByKnown_21 ?_
  refine lv_aload_n hx hb dX4_conflictByKnown_24 rfl (lv_at hl 0 rfl) ?_
  refine g_get (v := .ref (B + 228)) kX4 (by decide) fl_RX4_14 X.1 hH kx_227 rfl dX4_conflictByKnown_25 ?_
  obtain ⟨r104, σ103, eσ103, hf⟩ := bnd2 hf
  refine g_cVi (As := [.int (σ102.1 33 4), .ref (B + 228), .ref (B + 228)]) X.1 hH hS (c_X4_drives l G B (σ102.1 33 4) 228 kx_228 228 kx_228 σ102 σ103 r104 eσ103) kw_RX4_45 kX4 kx_227 (by decide) rfl hl (Nat.le_of_ble_eq_true rfl) rfl dX4_conflictByKnown_28 (fun H locs hH hS => ?_)
  obtain ⟨q105, hf⟩ := chk hf
  obtain ⟨rfl, rfl⟩ := rt2 hf
  exact g_zret X hH hS (Decidable.not_not.mp q105) dX4_conflictByKnown_31
theorem c_X4_conflictByKnown (l : Launch) (G : Gd) (B : Nat) (x1 : Int32) (x2 : Int32) (σ σr : Sto) (r : Int32) (hf : f_X4_conflictByKnown x1 x2 σ = some (r, σr)) : Ct l G layX B yX4_conflictByKnown cX4_conflictByKnown 3 (some .boolean) 4 [.ref (B + 227), .int x1, .int x2] (some (.int r)) σ σr :=
  Ct.ofW (by decide) (Nat.le_of_ble_eq_true rfl) (fun _ _ _ _ _ _ _ X hH hS ls hl => w_X4_conflictByKnown X x1 x2 σ hf _ _ hH hS ls (show lv_has ls 3 [(0, .ref (B + 227)), (1, .int x1), (2, .int x2)] from hl))
-- SlackProofs$Prover.followsFromAll(LSlackProofs$Clause;)Z  (D 5)
def f_X4_followsFromAll (k0 : Nat) (σ : Sto) : Option (Int32 × Sto) :=
  bd2 (f_X4_followsFrom k0 (σ.1 33 4) 228 σ) fun r102 σ101 => if ¬ (r102 = 0 ∨ r102 = 1) then none else some (r102, σ101)
set_option maxHeartbeats 4000000 in
set_option maxRecDepth 100000 in
theorem w_X4_followsFromAll {p : Program} {l : Launch} {e : Env} {s : State} {m : MethodId} {args : Array Value} {below : List Frame} {meth : Method} {c : Code} {G : Gd} {B : Nat} (X : Cm p s m args meth c cX4_followsFromAll 2 RX4 G (some .boolean)) (k0 : Nat) (h0 : (k0 < layX.2.2 ∧ layX.1 k0 = .inl 3)) {r : Int32} {σr : Sto} (σ : Sto) (hf : f_X4_followsFromAll k0 σ = some (r, σr)) (H : Heap) (locs : List Loc) (hH : HX G layX B σ H) (hS : va_S (inW layX B) s.heap H locs) (ls : Array Slot) (hl : lv_has ls 2 [(0, .ref (B + 227)), (1, .ref (B + k0))]) : WM p l e 5 s m args below meth c H locs G layX B (some (.int r)) σr (F0 m 0 ls []) := by
  unfold f_X4_followsFromAll at hf
  have hx := X.1.1
  have hb := X.1.2.1
  refine lv_aload_n hx hb dX4_followsFromAll_0 rfl (lv_at hl 0 rfl) ?_
  refine lv_aload_n hx hb dX4_followsFromAll_1 rfl (lv_at hl 1 rfl) ?_
  refine lv_aload_n hx hb dX4_followsFromAll_2 rfl (lv_at hl 0 rfl) ?_
  refine g_get (v := .ref (B + 33)) kX4 (by decide) fl_RX4_29 X.1 hH kx_227 rfl dX4_followsFromAll_3 ?_
  refine g_get (v := .int (σ.1 33 4)) kX2 (by decide) fl_RX4_40 X.1 hH kx_33 rfl dX4_followsFromAll_6 ?_
  refine lv_aload_n hx hb dX4_followsFromAll_9 rfl (lv_at hl 0 rfl) ?_
  refine g_get (v := .ref (B + 228)) kX4 (by decide) fl_RX4_14 X.1 hH kx_227 rfl dX4_followsFromAll_10 ?_
  obtain ⟨r102, σ101, eσ101, hf⟩ := bnd2 hf
  refine g_cVi (As := [.ref (B + k0), .int (σ.1 33 4), .ref (B + 228)]) X.1 hH hS (c_X4_followsFrom l G B k0 h0 (σ.1 33 4) 228 kx_228 σ σ101 r102 eσ101) kw_RX4_49 kX4 kx_227 (by decide) rfl hl (Nat.le_of_ble_eq_true rfl) rfl dX4_followsFromAll_13 (fun H locs hH hS => ?_)
  obtain ⟨q103, hf⟩ := chk hf
  obtain ⟨rfl, rfl⟩ := rt2 hf
  exact g_zret X hH hS (Decidable.not_not.mp q103) dX4_followsFromAll_16
theorem c_X4_followsFromAll (l : Launch) (G : Gd) (B : Nat) (k0 : Nat) (h0 : (k0 < layX.2.2 ∧ layX.1 k0 = .inl 3)) (σ σr : Sto) (r : Int32) (hf : f_X4_followsFromAll k0 σ = some (r, σr)) : Ct l G layX B yX4_followsFromAll cX4_followsFromAll 2 (some .boolean) 5 [.ref (B + 227), .ref (B + k0)] (some (.int r)) σ σr :=
  Ct.ofW (by decide) (Nat.le_of_ble_eq_true rfl) (fun _ _ _ _ _ _ _ X hH hS ls hl => w_X4_followsFromAll X k0 h0 σ hf _ _ hH hS ls (show lv_has ls 2 [(0, .ref (B + 227)), (1, .ref (B + k0))] from hl))
-- SlackProofs$Prover.followsFromOthers(I)Z  (D 5)
def f_X4_followsFromOthers (x1 : Int32) (σ : Sto) : Option (Int32 × Sto) :=
  if (x1 < 0 ∨ 30 ≤ x1.toNatClampNeg) then none else bd2 (f_X4_followsFrom (36 + 2 * x1.toNatClampNeg) ((σ.1 33 4) &&& (((1 : Int32) <<< (x1 &&& 31)) ^^^ (-1 : Int32))) 228 σ) fun r103 σ102 => if ¬ (r103 = 0 ∨ r103 = 1) then none else some (r103, σ102)
set_option maxHeartbeats 4000000 in
set_option maxRecDepth 100000 in
theorem w_X4_followsFromOthers {p : Program} {l : Launch} {e : Env} {s : State} {m : MethodId} {args : Array Value} {below : List Frame} {meth : Method} {c : Code} {G : Gd} {B : Nat} (X : Cm p s m args meth c cX4_followsFromOthers 2 RX4 G (some .boolean)) {r : Int32} {σr : Sto} (x1 : Int32) (σ : Sto) (hf : f_X4_followsFromOthers x1 σ = some (r, σr)) (H : Heap) (locs : List Loc) (hH : HX G layX B σ H) (hS : va_S (inW layX B) s.heap H locs) (ls : Array Slot) (hl : lv_has ls 2 [(0, .ref (B + 227)), (1, .int x1)]) : WM p l e 5 s m args below meth c H locs G layX B (some (.int r)) σr (F0 m 0 ls []) := by
  unfold f_X4_followsFromOthers at hf
  have hx := X.1.1
  have hb := X.1.2.1
  refine lv_aload_n hx hb dX4_followsFromOthers_0 rfl (lv_at hl 0 rfl) ?_
  refine lv_aload_n hx hb dX4_followsFromOthers_1 rfl (lv_at hl 0 rfl) ?_
  refine g_get (v := .ref (B + 33)) kX4 (by decide) fl_RX4_29 X.1 hH kx_227 rfl dX4_followsFromOthers_2 ?_
  refine g_get (v := .ref (B + 34)) kX2 (by decide) fl_RX4_53 X.1 hH kx_33 rfl dX4_followsFromOthers_5 ?_
  refine lv_iload_n hx hb dX4_followsFromOthers_8 rfl (lv_at hl 1 rfl) ?_
  obtain ⟨q101, hf⟩ := chk hf
  refine g_aald (b := (36 + 2 * x1.toNatClampNeg)) X.1 hH kx_34 (by decide) q101 rfl dX4_followsFromOthers_9 ?_
  refine lv_aload_n hx hb dX4_followsFromOthers_10 rfl (lv_at hl 0 rfl) ?_
  refine g_get (v := .ref (B + 33)) kX4 (by decide) fl_RX4_29 X.1 hH kx_227 rfl dX4_followsFromOthers_11 ?_
  refine g_get (v := .int (σ.1 33 4)) kX2 (by decide) fl_RX4_40 X.1 hH kx_33 rfl dX4_followsFromOthers_14 ?_
  refine lv_iconst (v := 1) hx hb dX4_followsFromOthers_17 (by decide) ?_
  refine lv_iload_n hx hb dX4_followsFromOthers_18 rfl (lv_at hl 1 rfl) ?_
  refine lv_ishl hx hb dX4_followsFromOthers_19 ?_
  refine lv_iconst (v := -1) hx hb dX4_followsFromOthers_20 (by decide) ?_
  refine lv_ixor hx hb dX4_followsFromOthers_21 ?_
  refine lv_iand hx hb dX4_followsFromOthers_22 ?_
  refine lv_aload_n hx hb dX4_followsFromOthers_23 rfl (lv_at hl 0 rfl) ?_
  refine g_get (v := .ref (B + 228)) kX4 (by decide) fl_RX4_14 X.1 hH kx_227 rfl dX4_followsFromOthers_24 ?_
  obtain ⟨r103, σ102, eσ102, hf⟩ := bnd2 hf
  refine g_cVi (As := [.ref (B + (36 + 2 * x1.toNatClampNeg)), .int ((σ.1 33 4) &&& (((1 : Int32) <<< (x1 &&& 31)) ^^^ (-1 : Int32))), .ref (B + 228)]) X.1 hH hS (c_X4_followsFrom l G B (36 + 2 * x1.toNatClampNeg) (kB33 q101) ((σ.1 33 4) &&& (((1 : Int32) <<< (x1 &&& 31)) ^^^ (-1 : Int32))) 228 kx_228 σ σ102 r103 eσ102) kw_RX4_49 kX4 kx_227 (by decide) rfl hl (Nat.le_of_ble_eq_true rfl) rfl dX4_followsFromOthers_27 (fun H locs hH hS => ?_)
  obtain ⟨q104, hf⟩ := chk hf
  obtain ⟨rfl, rfl⟩ := rt2 hf
  exact g_zret X hH hS (Decidable.not_not.mp q104) dX4_followsFromOthers_30
theorem c_X4_followsFromOthers (l : Launch) (G : Gd) (B : Nat) (x1 : Int32) (σ σr : Sto) (r : Int32) (hf : f_X4_followsFromOthers x1 σ = some (r, σr)) : Ct l G layX B yX4_followsFromOthers cX4_followsFromOthers 2 (some .boolean) 5 [.ref (B + 227), .int x1] (some (.int r)) σ σr :=
  Ct.ofW (by decide) (Nat.le_of_ble_eq_true rfl) (fun _ _ _ _ _ _ _ X hH hS ls hl => w_X4_followsFromOthers X x1 σ hf _ _ hH hS ls (show lv_has ls 2 [(0, .ref (B + 227)), (1, .int x1)] from hl))
-- SlackProofs$Reader.begin()V  (D 1)
def f_X5_begin (σ : Sto) : Option (Sto) :=
  nmS (pI σ 13 4 (σ.1 13 3)) fun σ101 => nmS (pI σ101 13 3 (0 : Int32)) fun σ102 => nmS (pI σ102 13 6 (0 : Int32)) fun σ103 => nmS (pI σ103 13 5 (0 : Int32)) fun σ104 => bd1 (f_J7_fill_53178 16 8 (0 : Int32) σ104) fun σ105 => some σ105
set_option maxHeartbeats 4000000 in
set_option maxRecDepth 100000 in
theorem w_X5_begin {p : Program} {l : Launch} {e : Env} {s : State} {m : MethodId} {args : Array Value} {below : List Frame} {meth : Method} {c : Code} {G : Gd} {B : Nat} (X : Cm p s m args meth c cX5_begin 1 RX5 G none) {σr : Sto} (σ : Sto) (hf : f_X5_begin σ = some σr) (H : Heap) (locs : List Loc) (hH : HX G layX B σ H) (hS : va_S (inW layX B) s.heap H locs) (ls : Array Slot) (hl : lv_has ls 1 [(0, .ref (B + 13))]) : WM p l e 1 s m args below meth c H locs G layX B none σr (F0 m 0 ls []) := by
  unfold f_X5_begin at hf
  have hx := X.1.1
  have hb := X.1.2.1
  refine lv_aload_n hx hb dX5_begin_0 rfl (lv_at hl 0 rfl) ?_
  refine lv_aload_n hx hb dX5_begin_1 rfl (lv_at hl 0 rfl) ?_
  refine g_get (v := .int (σ.1 13 3)) kX5 (by decide) fl_RX5_27 X.1 hH kx_13 rfl dX5_begin_2 ?_
  refine g_putI kX5 (by decide) fl_RX5_31 rfl rfl X.1 hH hS kx_13 dX5_begin_5 (fun H locs hH hS => ?_)
  obtain ⟨σ101, eσ101, hH⟩ := nmX hH
  replace hf := nmU hf eσ101
  refine lv_aload_n hx hb dX5_begin_8 rfl (lv_at hl 0 rfl) ?_
  refine lv_iconst (v := 0) hx hb dX5_begin_9 (by decide) ?_
  refine g_putI kX5 (by decide) fl_RX5_27 rfl rfl X.1 hH hS kx_13 dX5_begin_10 (fun H locs hH hS => ?_)
  obtain ⟨σ102, eσ102, hH⟩ := nmX hH
  replace hf := nmU hf eσ102
  refine lv_aload_n hx hb dX5_begin_13 rfl (lv_at hl 0 rfl) ?_
  refine lv_iconst (v := 0) hx hb dX5_begin_14 (by decide) ?_
  refine g_putI kX5 (by decide) fl_RX5_34 rfl rfl X.1 hH hS kx_13 dX5_begin_15 (fun H locs hH hS => ?_)
  obtain ⟨σ103, eσ103, hH⟩ := nmX hH
  replace hf := nmU hf eσ103
  refine lv_aload_n hx hb dX5_begin_18 rfl (lv_at hl 0 rfl) ?_
  refine lv_iconst (v := 0) hx hb dX5_begin_19 (by decide) ?_
  refine g_putI kX5 (by decide) fl_RX5_37 rfl rfl X.1 hH hS kx_13 dX5_begin_20 (fun H locs hH hS => ?_)
  obtain ⟨σ104, eσ104, hH⟩ := nmX hH
  replace hf := nmU hf eσ104
  refine lv_aload_n hx hb dX5_begin_23 rfl (lv_at hl 0 rfl) ?_
  refine g_get (v := .ref (B + 16)) kX5 (by decide) fl_RX5_21 X.1 hH kx_13 rfl dX5_begin_24 ?_
  refine lv_iconst (v := 0) hx hb dX5_begin_27 (by decide) ?_
  obtain ⟨σ105, eσ105, hf⟩ := bnd1 hf
  refine g_cSv (As := [.ref (B + 16), .int (0 : Int32)]) X.1 hH hS (c_J7_fill_53178 l G B 16 8 kx_16 (0 : Int32) σ104 σ105 eσ105) kw_RX5_40 (by decide) rfl hl (Nat.le_of_ble_eq_true rfl) rfl dX5_begin_28 (fun H locs hH hS => ?_)
  obtain rfl := rt1 hf
  exact g_vret X hH hS dX5_begin_31
theorem c_X5_begin (l : Launch) (G : Gd) (B : Nat) (σ σr : Sto) (hf : f_X5_begin σ = some σr) : Ct l G layX B yX5_begin cX5_begin 1 none 1 [.ref (B + 13)] none σ σr :=
  Ct.ofW (by decide) (Nat.le_of_ble_eq_true rfl) (fun _ _ _ _ _ _ _ X hH hS ls hl => w_X5_begin X σ hf _ _ hH hS ls (show lv_has ls 1 [(0, .ref (B + 13))] from hl))
-- SlackProofs$Reader.faulty(I)Z  (D 0)
def f_X5_faulty (x1 : Int32) (σ : Sto) : Option (Int32 × Sto) :=
  nmS (pI σ 13 7 x1) fun σ101 => some ((0 : Int32), σ101)
set_option maxHeartbeats 4000000 in
set_option maxRecDepth 100000 in
theorem w_X5_faulty {p : Program} {l : Launch} {e : Env} {s : State} {m : MethodId} {args : Array Value} {below : List Frame} {meth : Method} {c : Code} {G : Gd} {B : Nat} (X : Cm p s m args meth c cX5_faulty 2 RX5 G (some .boolean)) {r : Int32} {σr : Sto} (x1 : Int32) (σ : Sto) (hf : f_X5_faulty x1 σ = some (r, σr)) (H : Heap) (locs : List Loc) (hH : HX G layX B σ H) (hS : va_S (inW layX B) s.heap H locs) (ls : Array Slot) (hl : lv_has ls 2 [(0, .ref (B + 13)), (1, .int x1)]) : WM p l e 0 s m args below meth c H locs G layX B (some (.int r)) σr (F0 m 0 ls []) := by
  unfold f_X5_faulty at hf
  have hx := X.1.1
  have hb := X.1.2.1
  refine lv_aload_n hx hb dX5_faulty_0 rfl (lv_at hl 0 rfl) ?_
  refine lv_iload_n hx hb dX5_faulty_1 rfl (lv_at hl 1 rfl) ?_
  refine g_putI kX5 (by decide) fl_RX5_95 rfl rfl X.1 hH hS kx_13 dX5_faulty_2 (fun H locs hH hS => ?_)
  obtain ⟨σ101, eσ101, hH⟩ := nmX hH
  replace hf := nmU hf eσ101
  refine lv_iconst (v := 0) hx hb dX5_faulty_5 (by decide) ?_
  obtain ⟨rfl, rfl⟩ := rt2 hf
  exact g_zret X hH hS (by decide) dX5_faulty_6
theorem c_X5_faulty (l : Launch) (G : Gd) (B : Nat) (x1 : Int32) (σ σr : Sto) (r : Int32) (hf : f_X5_faulty x1 σ = some (r, σr)) : Ct l G layX B yX5_faulty cX5_faulty 2 (some .boolean) 0 [.ref (B + 13), .int x1] (some (.int r)) σ σr :=
  Ct.ofW (by decide) (Nat.le_of_ble_eq_true rfl) (fun _ _ _ _ _ _ _ X hH hS ls hl => w_X5_faulty X x1 σ hf _ _ hH hS ls (show lv_has ls 2 [(0, .ref (B + 13)), (1, .int x1)] from hl))
-- SlackProofs$Reader.isFigure(I)Z  (D 0)
def b_X5_isFigure_17 (s0 : Int32) (σ : Sto) : Option (Int32 × Sto) :=
  if ¬ (s0 = 0 ∨ s0 = 1) then none else some (s0, σ)
set_option maxHeartbeats 4000000 in
set_option maxRecDepth 100000 in
theorem w_X5_isFigure_17 {p : Program} {l : Launch} {e : Env} {s : State} {m : MethodId} {args : Array Value} {below : List Frame} {meth : Method} {c : Code} {G : Gd} {B : Nat} (X : Cm p s m args meth c cX5_isFigure 1 RX5 G (some .boolean)) {r : Int32} {σr : Sto} (s0 : Int32) (σ : Sto) (hf : b_X5_isFigure_17 s0 σ = some (r, σr)) (H : Heap) (locs : List Loc) (hH : HX G layX B σ H) (hS : va_S (inW layX B) s.heap H locs) (ls : Array Slot) (hl : lv_has ls 1 []) : WM p l e 0 s m args below meth c H locs G layX B (some (.int r)) σr (F0 m 17 ls [.int s0]) := by
  unfold b_X5_isFigure_17 at hf
  have hx := X.1.1
  have hb := X.1.2.1
  obtain ⟨q302, hf⟩ := chk hf
  obtain ⟨rfl, rfl⟩ := rt2 hf
  exact g_zret X hH hS (Decidable.not_not.mp q302) dX5_isFigure_17
def b_X5_isFigure_16 (σ : Sto) : Option (Int32 × Sto) :=
  b_X5_isFigure_17 (0 : Int32) σ
set_option maxHeartbeats 4000000 in
set_option maxRecDepth 100000 in
theorem w_X5_isFigure_16 {p : Program} {l : Launch} {e : Env} {s : State} {m : MethodId} {args : Array Value} {below : List Frame} {meth : Method} {c : Code} {G : Gd} {B : Nat} (X : Cm p s m args meth c cX5_isFigure 1 RX5 G (some .boolean)) {r : Int32} {σr : Sto} (σ : Sto) (hf : b_X5_isFigure_16 σ = some (r, σr)) (H : Heap) (locs : List Loc) (hH : HX G layX B σ H) (hS : va_S (inW layX B) s.heap H locs) (ls : Array Slot) (hl : lv_has ls 1 []) : WM p l e 0 s m args below meth c H locs G layX B (some (.int r)) σr (F0 m 16 ls []) := by
  unfold b_X5_isFigure_16 at hf
  have hx := X.1.1
  have hb := X.1.2.1
  refine lv_iconst (v := 0) hx hb dX5_isFigure_16 (by decide) ?_
  exact w_X5_isFigure_17 X (0 : Int32) σ hf _ _ hH hS _ (lv_sub hl [] rfl)
def f_X5_isFigure (x0 : Int32) (σ : Sto) : Option (Int32 × Sto) :=
  if x0 < (48 : Int32) then (b_X5_isFigure_16 σ) else (if (57 : Int32) < x0 then (b_X5_isFigure_16 σ) else (b_X5_isFigure_17 (1 : Int32) σ))
set_option maxHeartbeats 4000000 in
set_option maxRecDepth 100000 in
theorem w_X5_isFigure {p : Program} {l : Launch} {e : Env} {s : State} {m : MethodId} {args : Array Value} {below : List Frame} {meth : Method} {c : Code} {G : Gd} {B : Nat} (X : Cm p s m args meth c cX5_isFigure 1 RX5 G (some .boolean)) {r : Int32} {σr : Sto} (x0 : Int32) (σ : Sto) (hf : f_X5_isFigure x0 σ = some (r, σr)) (H : Heap) (locs : List Loc) (hH : HX G layX B σ H) (hS : va_S (inW layX B) s.heap H locs) (ls : Array Slot) (hl : lv_has ls 1 [(0, .int x0)]) : WM p l e 0 s m args below meth c H locs G layX B (some (.int r)) σr (F0 m 0 ls []) := by
  unfold f_X5_isFigure at hf
  have hx := X.1.1
  have hb := X.1.2.1
  refine lv_iload_n hx hb dX5_isFigure_0 rfl (lv_at hl 0 rfl) ?_
  refine lv_bipush (v := 48) hx hb dX5_isFigure_1 (by decide) ?_
  refine lv_icmp_lt (tgt := 16) hx hb dX5_isFigure_3 (by decide) (fun q101 => ?_) (fun q101 => ?_)
  · replace hf := brT hf q101
    exact w_X5_isFigure_16 X σ hf _ _ hH hS _ (lv_sub hl [] rfl)
  · replace hf := brF hf q101
    refine lv_iload_n hx hb dX5_isFigure_6 rfl (lv_at hl 0 rfl) ?_
    refine lv_bipush (v := 57) hx hb dX5_isFigure_7 (by decide) ?_
    refine lv_icmp_gt (tgt := 16) hx hb dX5_isFigure_9 (by decide) (fun q303 => ?_) (fun q303 => ?_)
    · replace hf := brT hf q303
      exact w_X5_isFigure_16 X σ hf _ _ hH hS _ (lv_sub hl [] rfl)
    · replace hf := brF hf q303
      refine lv_iconst (v := 1) hx hb dX5_isFigure_12 (by decide) ?_
      refine lv_goto (tgt := 17) hx hb dX5_isFigure_13 (by decide) ?_
      exact w_X5_isFigure_17 X (1 : Int32) σ hf _ _ hH hS _ (lv_sub hl [] rfl)
theorem c_X5_isFigure (l : Launch) (G : Gd) (B : Nat) (x0 : Int32) (σ σr : Sto) (r : Int32) (hf : f_X5_isFigure x0 σ = some (r, σr)) : Ct l G layX B yX5_isFigure cX5_isFigure 1 (some .boolean) 0 [.int x0] (some (.int r)) σ σr :=
  Ct.ofW (by decide) (Nat.le_of_ble_eq_true rfl) (fun _ _ _ _ _ _ _ X hH hS ls hl => w_X5_isFigure X x0 σ hf _ _ hH hS ls (show lv_has ls 1 [(0, .int x0)] from hl))
-- SlackProofs$Reader.letter()I  (D 0)
def b_X5_letter_24 (s0 : Int32) (σ : Sto) : Option (Int32 × Sto) :=
  some (s0, σ)
set_option maxHeartbeats 4000000 in
set_option maxRecDepth 100000 in
theorem w_X5_letter_24 {p : Program} {l : Launch} {e : Env} {s : State} {m : MethodId} {args : Array Value} {below : List Frame} {meth : Method} {c : Code} {G : Gd} {B : Nat} (X : Cm p s m args meth c cX5_letter 1 RX5 G (some .int)) {r : Int32} {σr : Sto} (s0 : Int32) (σ : Sto) (hf : b_X5_letter_24 s0 σ = some (r, σr)) (H : Heap) (locs : List Loc) (hH : HX G layX B σ H) (hS : va_S (inW layX B) s.heap H locs) (ls : Array Slot) (hl : lv_has ls 1 []) : WM p l e 0 s m args below meth c H locs G layX B (some (.int r)) σr (F0 m 24 ls [.int s0]) := by
  unfold b_X5_letter_24 at hf
  have hx := X.1.1
  have hb := X.1.2.1
  obtain ⟨rfl, rfl⟩ := rt2 hf
  exact g_iret X hH hS dX5_letter_24
def f_X5_letter (σ : Sto) : Option (Int32 × Sto) :=
  if (σ.1 13 4) ≤ (σ.1 13 6) then (b_X5_letter_24 (-1 : Int32) σ) else (if ((σ.1 13 6) < 0 ∨ 200 ≤ (σ.1 13 6).toNatClampNeg) then none else b_X5_letter_24 (σ.1 14 (σ.1 13 6).toNatClampNeg) σ)
set_option maxHeartbeats 4000000 in
set_option maxRecDepth 100000 in
theorem w_X5_letter {p : Program} {l : Launch} {e : Env} {s : State} {m : MethodId} {args : Array Value} {below : List Frame} {meth : Method} {c : Code} {G : Gd} {B : Nat} (X : Cm p s m args meth c cX5_letter 1 RX5 G (some .int)) {r : Int32} {σr : Sto} (σ : Sto) (hf : f_X5_letter σ = some (r, σr)) (H : Heap) (locs : List Loc) (hH : HX G layX B σ H) (hS : va_S (inW layX B) s.heap H locs) (ls : Array Slot) (hl : lv_has ls 1 [(0, .ref (B + 13))]) : WM p l e 0 s m args below meth c H locs G layX B (some (.int r)) σr (F0 m 0 ls []) := by
  unfold f_X5_letter at hf
  have hx := X.1.1
  have hb := X.1.2.1
  refine lv_aload_n hx hb dX5_letter_0 rfl (lv_at hl 0 rfl) ?_
  refine g_get (v := .int (σ.1 13 6)) kX5 (by decide) fl_RX5_34 X.1 hH kx_13 rfl dX5_letter_1 ?_
  refine lv_aload_n hx hb dX5_letter_4 rfl (lv_at hl 0 rfl) ?_
  refine g_get (v := .int (σ.1 13 4)) kX5 (by decide) fl_RX5_31 X.1 hH kx_13 rfl dX5_letter_5 ?_
  refine lv_icmp_ge (tgt := 23) hx hb dX5_letter_8 (by decide) (fun q101 => ?_) (fun q101 => ?_)
  · replace hf := brT hf q101
    refine lv_iconst (v := -1) hx hb dX5_letter_23 (by decide) ?_
    exact w_X5_letter_24 X (-1 : Int32) σ hf _ _ hH hS _ (lv_sub hl [] rfl)
  · replace hf := brF hf q101
    refine lv_aload_n hx hb dX5_letter_11 rfl (lv_at hl 0 rfl) ?_
    refine g_get (v := .ref (B + 14)) kX5 (by decide) fl_RX5_9 X.1 hH kx_13 rfl dX5_letter_12 ?_
    refine lv_aload_n hx hb dX5_letter_15 rfl (lv_at hl 0 rfl) ?_
    refine g_get (v := .int (σ.1 13 6)) kX5 (by decide) fl_RX5_34 X.1 hH kx_13 rfl dX5_letter_16 ?_
    obtain ⟨q202, hf⟩ := chk hf
    refine g_iald (j := (σ.1 13 6).toNatClampNeg) X.1 hH kx_14 q202 rfl dX5_letter_19 ?_
    refine lv_goto (tgt := 24) hx hb dX5_letter_20 (by decide) ?_
    exact w_X5_letter_24 X (σ.1 14 (σ.1 13 6).toNatClampNeg) σ hf _ _ hH hS _ (lv_sub hl [] rfl)
theorem c_X5_letter (l : Launch) (G : Gd) (B : Nat) (σ σr : Sto) (r : Int32) (hf : f_X5_letter σ = some (r, σr)) : Ct l G layX B yX5_letter cX5_letter 1 (some .int) 0 [.ref (B + 13)] (some (.int r)) σ σr :=
  Ct.ofW (by decide) (Nat.le_of_ble_eq_true rfl) (fun _ _ _ _ _ _ _ X hH hS ls hl => w_X5_letter X σ hf _ _ hH hS ls (show lv_has ls 1 [(0, .ref (B + 13))] from hl))
-- SlackProofs$Reader.takesNumber(III)Z  (D 1)
def b_X5_takesNumber_85 (σ : Sto) : Option (Int32 × Sto) :=
  bd2 (f_X5_faulty (1 : Int32) σ) fun r406 σ405 => if ¬ (r406 = 0 ∨ r406 = 1) then none else some (r406, σ405)
set_option maxHeartbeats 4000000 in
set_option maxRecDepth 100000 in
theorem w_X5_takesNumber_85 {p : Program} {l : Launch} {e : Env} {s : State} {m : MethodId} {args : Array Value} {below : List Frame} {meth : Method} {c : Code} {G : Gd} {B : Nat} (X : Cm p s m args meth c cX5_takesNumber 6 RX5 G (some .boolean)) {r : Int32} {σr : Sto} (σ : Sto) (hf : b_X5_takesNumber_85 σ = some (r, σr)) (H : Heap) (locs : List Loc) (hH : HX G layX B σ H) (hS : va_S (inW layX B) s.heap H locs) (ls : Array Slot) (hl : lv_has ls 6 [(0, .ref (B + 13))]) : WM p l e 1 s m args below meth c H locs G layX B (some (.int r)) σr (F0 m 85 ls []) := by
  unfold b_X5_takesNumber_85 at hf
  have hx := X.1.1
  have hb := X.1.2.1
  refine lv_aload_n hx hb dX5_takesNumber_85 rfl (lv_at hl 0 rfl) ?_
  refine lv_iconst (v := 1) hx hb dX5_takesNumber_86 (by decide) ?_
  obtain ⟨r406, σ405, eσ405, hf⟩ := bnd2 hf
  refine g_cVi (As := [.int (1 : Int32)]) X.1 hH hS (c_X5_faulty l G B (1 : Int32) σ σ405 r406 eσ405) kw_RX5_64 kX5 kx_13 (by decide) rfl hl (Nat.le_of_ble_eq_true rfl) rfl dX5_takesNumber_87 (fun H locs hH hS => ?_)
  obtain ⟨q407, hf⟩ := chk hf
  obtain ⟨rfl, rfl⟩ := rt2 hf
  exact g_zret X hH hS (Decidable.not_not.mp q407) dX5_takesNumber_90
def b_X5_takesNumber_123 (σ : Sto) : Option (Int32 × Sto) :=
  bd2 (f_X5_faulty (2 : Int32) σ) fun r511 σ510 => if ¬ (r511 = 0 ∨ r511 = 1) then none else some (r511, σ510)
set_option maxHeartbeats 4000000 in
set_option maxRecDepth 100000 in
theorem w_X5_takesNumber_123 {p : Program} {l : Launch} {e : Env} {s : State} {m : MethodId} {args : Array Value} {below : List Frame} {meth : Method} {c : Code} {G : Gd} {B : Nat} (X : Cm p s m args meth c cX5_takesNumber 6 RX5 G (some .boolean)) {r : Int32} {σr : Sto} (σ : Sto) (hf : b_X5_takesNumber_123 σ = some (r, σr)) (H : Heap) (locs : List Loc) (hH : HX G layX B σ H) (hS : va_S (inW layX B) s.heap H locs) (ls : Array Slot) (hl : lv_has ls 6 [(0, .ref (B + 13))]) : WM p l e 1 s m args below meth c H locs G layX B (some (.int r)) σr (F0 m 123 ls []) := by
  unfold b_X5_takesNumber_123 at hf
  have hx := X.1.1
  have hb := X.1.2.1
  refine lv_aload_n hx hb dX5_takesNumber_123 rfl (lv_at hl 0 rfl) ?_
  refine lv_iconst (v := 2) hx hb dX5_takesNumber_124 (by decide) ?_
  obtain ⟨r511, σ510, eσ510, hf⟩ := bnd2 hf
  refine g_cVi (As := [.int (2 : Int32)]) X.1 hH hS (c_X5_faulty l G B (2 : Int32) σ σ510 r511 eσ510) kw_RX5_64 kX5 kx_13 (by decide) rfl hl (Nat.le_of_ble_eq_true rfl) rfl dX5_takesNumber_125 (fun H locs hH hS => ?_)
  obtain ⟨q512, hf⟩ := chk hf
  obtain ⟨rfl, rfl⟩ := rt2 hf
  exact g_zret X hH hS (Decidable.not_not.mp q512) dX5_takesNumber_128
def b_X5_takesNumber_129 (v4 : Int32) (σ : Sto) : Option (Int32 × Sto) :=
  nmS (pI σ 13 6 ((σ.1 13 6) + v4)) fun σ615 => some ((1 : Int32), σ615)
set_option maxHeartbeats 4000000 in
set_option maxRecDepth 100000 in
theorem w_X5_takesNumber_129 {p : Program} {l : Launch} {e : Env} {s : State} {m : MethodId} {args : Array Value} {below : List Frame} {meth : Method} {c : Code} {G : Gd} {B : Nat} (X : Cm p s m args meth c cX5_takesNumber 6 RX5 G (some .boolean)) {r : Int32} {σr : Sto} (v4 : Int32) (σ : Sto) (hf : b_X5_takesNumber_129 v4 σ = some (r, σr)) (H : Heap) (locs : List Loc) (hH : HX G layX B σ H) (hS : va_S (inW layX B) s.heap H locs) (ls : Array Slot) (hl : lv_has ls 6 [(0, .ref (B + 13)), (4, .int v4)]) : WM p l e 1 s m args below meth c H locs G layX B (some (.int r)) σr (F0 m 129 ls []) := by
  unfold b_X5_takesNumber_129 at hf
  have hx := X.1.1
  have hb := X.1.2.1
  refine lv_aload_n hx hb dX5_takesNumber_129 rfl (lv_at hl 0 rfl) ?_
  refine lv_dup hx hb dX5_takesNumber_130 rfl ?_
  refine g_get (v := .int (σ.1 13 6)) kX5 (by decide) fl_RX5_34 X.1 hH kx_13 rfl dX5_takesNumber_131 ?_
  refine lv_iload hx hb dX5_takesNumber_134 (lv_at hl 1 rfl) ?_
  refine lv_iadd hx hb dX5_takesNumber_136 ?_
  refine g_putI kX5 (by decide) fl_RX5_34 rfl rfl X.1 hH hS kx_13 dX5_takesNumber_137 (fun H locs hH hS => ?_)
  obtain ⟨σ615, eσ615, hH⟩ := nmX hH
  replace hf := nmU hf eσ615
  refine lv_iconst (v := 1) hx hb dX5_takesNumber_140 (by decide) ?_
  obtain ⟨rfl, rfl⟩ := rt2 hf
  exact g_zret X hH hS (by decide) dX5_takesNumber_141
def b_X5_takesNumber_73 (v1 : Int32) (v2 : Int32) (v3 : Int32) (v4 : Int32) (σ : Sto) : Option (Int32 × Sto) :=
  if v4 < (1 : Int32) then (b_X5_takesNumber_85 σ) else (if v4 ≤ (2 : Int32) then (if (σ.1 13 8) < v1 then (b_X5_takesNumber_123 σ) else (if v2 < (σ.1 13 8) then (b_X5_takesNumber_123 σ) else (if v3 = 0 then (b_X5_takesNumber_129 v4 σ) else (if ((v3.toUInt32 >>> ((σ.1 13 8).toUInt32 &&& Int32.toUInt32 31)).toInt32 &&& (1 : Int32)) = (1 : Int32) then (b_X5_takesNumber_123 σ) else (b_X5_takesNumber_129 v4 σ))))) else (b_X5_takesNumber_85 σ))
set_option maxHeartbeats 4000000 in
set_option maxRecDepth 100000 in
theorem w_X5_takesNumber_73 {p : Program} {l : Launch} {e : Env} {s : State} {m : MethodId} {args : Array Value} {below : List Frame} {meth : Method} {c : Code} {G : Gd} {B : Nat} (X : Cm p s m args meth c cX5_takesNumber 6 RX5 G (some .boolean)) {r : Int32} {σr : Sto} (v1 : Int32) (v2 : Int32) (v3 : Int32) (v4 : Int32) (σ : Sto) (hf : b_X5_takesNumber_73 v1 v2 v3 v4 σ = some (r, σr)) (H : Heap) (locs : List Loc) (hH : HX G layX B σ H) (hS : va_S (inW layX B) s.heap H locs) (ls : Array Slot) (hl : lv_has ls 6 [(0, .ref (B + 13)), (1, .int v1), (2, .int v2), (3, .int v3), (4, .int v4)]) : WM p l e 1 s m args below meth c H locs G layX B (some (.int r)) σr (F0 m 73 ls []) := by
  unfold b_X5_takesNumber_73 at hf
  have hx := X.1.1
  have hb := X.1.2.1
  refine lv_iload hx hb dX5_takesNumber_73 (lv_at hl 4 rfl) ?_
  refine lv_iconst (v := 1) hx hb dX5_takesNumber_75 (by decide) ?_
  refine lv_icmp_lt (tgt := 85) hx hb dX5_takesNumber_76 (by decide) (fun q304 => ?_) (fun q304 => ?_)
  · replace hf := brT hf q304
    exact w_X5_takesNumber_85 X σ hf _ _ hH hS _ (lv_sub hl [0] rfl)
  · replace hf := brF hf q304
    refine lv_iload hx hb dX5_takesNumber_79 (lv_at hl 4 rfl) ?_
    refine lv_iconst (v := 2) hx hb dX5_takesNumber_81 (by decide) ?_
    refine lv_icmp_le (tgt := 91) hx hb dX5_takesNumber_82 (by decide) (fun q408 => ?_) (fun q408 => ?_)
    · replace hf := brT hf q408
      refine lv_aload_n hx hb dX5_takesNumber_91 rfl (lv_at hl 0 rfl) ?_
      refine g_get (v := .int (σ.1 13 8)) kX5 (by decide) fl_RX5_78 X.1 hH kx_13 rfl dX5_takesNumber_92 ?_
      refine lv_iload_n hx hb dX5_takesNumber_95 rfl (lv_at hl 1 rfl) ?_
      refine lv_icmp_lt (tgt := 123) hx hb dX5_takesNumber_96 (by decide) (fun q409 => ?_) (fun q409 => ?_)
      · replace hf := brT hf q409
        exact w_X5_takesNumber_123 X σ hf _ _ hH hS _ (lv_sub hl [0] rfl)
      · replace hf := brF hf q409
        refine lv_aload_n hx hb dX5_takesNumber_99 rfl (lv_at hl 0 rfl) ?_
        refine g_get (v := .int (σ.1 13 8)) kX5 (by decide) fl_RX5_78 X.1 hH kx_13 rfl dX5_takesNumber_100 ?_
        refine lv_iload_n hx hb dX5_takesNumber_103 rfl (lv_at hl 2 rfl) ?_
        refine lv_icmp_gt (tgt := 123) hx hb dX5_takesNumber_104 (by decide) (fun q513 => ?_) (fun q513 => ?_)
        · replace hf := brT hf q513
          exact w_X5_takesNumber_123 X σ hf _ _ hH hS _ (lv_sub hl [0] rfl)
        · replace hf := brF hf q513
          refine lv_iload_n hx hb dX5_takesNumber_107 rfl (lv_at hl 3 rfl) ?_
          refine lv_if_eq (tgt := 129) hx hb dX5_takesNumber_108 (by decide) (fun q514 => ?_) (fun q514 => ?_)
          · replace hf := brT hf q514
            exact w_X5_takesNumber_129 X v4 σ hf _ _ hH hS _ (lv_sub hl [0, 4] rfl)
          · replace hf := brF hf q514
            refine lv_iload_n hx hb dX5_takesNumber_111 rfl (lv_at hl 3 rfl) ?_
            refine lv_aload_n hx hb dX5_takesNumber_112 rfl (lv_at hl 0 rfl) ?_
            refine g_get (v := .int (σ.1 13 8)) kX5 (by decide) fl_RX5_78 X.1 hH kx_13 rfl dX5_takesNumber_113 ?_
            refine lv_iushr hx hb dX5_takesNumber_116 rfl ?_
            refine lv_iconst (v := 1) hx hb dX5_takesNumber_117 (by decide) ?_
            refine lv_iand hx hb dX5_takesNumber_118 ?_
            refine lv_iconst (v := 1) hx hb dX5_takesNumber_119 (by decide) ?_
            refine lv_icmp_ne (tgt := 129) hx hb dX5_takesNumber_120 (by decide) (fun q616 => ?_) (fun q616 => ?_)
            · replace hf := brF hf q616
              exact w_X5_takesNumber_129 X v4 σ hf _ _ hH hS _ (lv_sub hl [0, 4] rfl)
            · replace hf := brT hf q616
              exact w_X5_takesNumber_123 X σ hf _ _ hH hS _ (lv_sub hl [0] rfl)
    · replace hf := brF hf q408
      exact w_X5_takesNumber_85 X σ hf _ _ hH hS _ (lv_sub hl [0] rfl)
def b_X5_takesNumber_14 (c14 : Int32 → Int32 → Int32 → Int32 → Int32 → Sto → Option (Int32 × Sto)) (v1 : Int32) (v2 : Int32) (v3 : Int32) (v4 : Int32) (v5 : Int32) (σ : Sto) : Option (Int32 × Sto) :=
  if (σ.1 13 4) ≤ v5 then (b_X5_takesNumber_73 v1 v2 v3 v4 σ) else (if (3 : Int32) ≤ v4 then (b_X5_takesNumber_73 v1 v2 v3 v4 σ) else (if (v5 < 0 ∨ 200 ≤ v5.toNatClampNeg) then none else bd2 (f_X5_isFigure (σ.1 14 v5.toNatClampNeg) σ) fun r620 σ619 => if r620 = 0 then (b_X5_takesNumber_73 v1 v2 v3 v4 σ619) else (if (v5 < 0 ∨ 200 ≤ v5.toNatClampNeg) then none else nmS (pI σ619 13 8 ((((σ619.1 13 8) * (10 : Int32)) + (σ619.1 14 v5.toNatClampNeg)) - (48 : Int32))) fun σ623 => c14 v1 v2 v3 (v4 + (1 : Int32)) (v5 + (1 : Int32)) σ623)))
set_option maxHeartbeats 4000000 in
set_option maxRecDepth 100000 in
theorem w_X5_takesNumber_14 {p : Program} {l : Launch} {e : Env} {s : State} {m : MethodId} {args : Array Value} {below : List Frame} {meth : Method} {c : Code} {G : Gd} {B : Nat} (X : Cm p s m args meth c cX5_takesNumber 6 RX5 G (some .boolean)) (c14 : Int32 → Int32 → Int32 → Int32 → Int32 → Sto → Option (Int32 × Sto)) {r : Int32} {σr : Sto} (ih14 : ∀ (v1 : Int32) (v2 : Int32) (v3 : Int32) (v4 : Int32) (v5 : Int32) (σ : Sto) (H : Heap) (locs : List Loc) (ls : Array Slot), c14 v1 v2 v3 v4 v5 σ = some (r, σr) → HX G layX B σ H → va_S (inW layX B) s.heap H locs → lv_has ls 6 [(0, .ref (B + 13)), (1, .int v1), (2, .int v2), (3, .int v3), (4, .int v4), (5, .int v5)] → WM p l e 1 s m args below meth c H locs G layX B (some (.int r)) σr (F0 m 14 ls [])) (v1 : Int32) (v2 : Int32) (v3 : Int32) (v4 : Int32) (v5 : Int32) (σ : Sto) (hf : b_X5_takesNumber_14 c14 v1 v2 v3 v4 v5 σ = some (r, σr)) (H : Heap) (locs : List Loc) (hH : HX G layX B σ H) (hS : va_S (inW layX B) s.heap H locs) (ls : Array Slot) (hl : lv_has ls 6 [(0, .ref (B + 13)), (1, .int v1), (2, .int v2), (3, .int v3), (4, .int v4), (5, .int v5)]) : WM p l e 1 s m args below meth c H locs G layX B (some (.int r)) σr (F0 m 14 ls []) := by
  unfold b_X5_takesNumber_14 at hf
  have hx := X.1.1
  have hb := X.1.2.1
  refine lv_iload hx hb dX5_takesNumber_14 (lv_at hl 5 rfl) ?_
  refine lv_aload_n hx hb dX5_takesNumber_16 rfl (lv_at hl 0 rfl) ?_
  refine g_get (v := .int (σ.1 13 4)) kX5 (by decide) fl_RX5_31 X.1 hH kx_13 rfl dX5_takesNumber_17 ?_
  refine lv_icmp_ge (tgt := 73) hx hb dX5_takesNumber_20 (by decide) (fun q203 => ?_) (fun q203 => ?_)
  · replace hf := brT hf q203
    exact w_X5_takesNumber_73 X v1 v2 v3 v4 σ hf _ _ hH hS _ (lv_sub hl [0, 1, 2, 3, 4] rfl)
  · replace hf := brF hf q203
    refine lv_iload hx hb dX5_takesNumber_23 (lv_at hl 4 rfl) ?_
    refine lv_iconst (v := 3) hx hb dX5_takesNumber_25 (by decide) ?_
    refine lv_icmp_ge (tgt := 73) hx hb dX5_takesNumber_26 (by decide) (fun q617 => ?_) (fun q617 => ?_)
    · replace hf := brT hf q617
      exact w_X5_takesNumber_73 X v1 v2 v3 v4 σ hf _ _ hH hS _ (lv_sub hl [0, 1, 2, 3, 4] rfl)
    · replace hf := brF hf q617
      refine lv_aload_n hx hb dX5_takesNumber_29 rfl (lv_at hl 0 rfl) ?_
      refine g_get (v := .ref (B + 14)) kX5 (by decide) fl_RX5_9 X.1 hH kx_13 rfl dX5_takesNumber_30 ?_
      refine lv_iload hx hb dX5_takesNumber_33 (lv_at hl 5 rfl) ?_
      obtain ⟨q618, hf⟩ := chk hf
      refine g_iald (j := v5.toNatClampNeg) X.1 hH kx_14 q618 rfl dX5_takesNumber_35 ?_
      obtain ⟨r620, σ619, eσ619, hf⟩ := bnd2 hf
      refine g_cSi (As := [.int (σ.1 14 v5.toNatClampNeg)]) X.1 hH hS (c_X5_isFigure l G B (σ.1 14 v5.toNatClampNeg) σ σ619 r620 eσ619) kw_RX5_92 (by decide) rfl hl (Nat.le_of_ble_eq_true rfl) rfl dX5_takesNumber_36 (fun H locs hH hS => ?_)
      refine lv_if_eq (tgt := 73) hx hb dX5_takesNumber_39 (by decide) (fun q621 => ?_) (fun q621 => ?_)
      · replace hf := brT hf q621
        exact w_X5_takesNumber_73 X v1 v2 v3 v4 σ619 hf _ _ hH hS _ (lv_sub hl [0, 1, 2, 3, 4] rfl)
      · replace hf := brF hf q621
        refine lv_aload_n hx hb dX5_takesNumber_42 rfl (lv_at hl 0 rfl) ?_
        refine lv_aload_n hx hb dX5_takesNumber_43 rfl (lv_at hl 0 rfl) ?_
        refine g_get (v := .int (σ619.1 13 8)) kX5 (by decide) fl_RX5_78 X.1 hH kx_13 rfl dX5_takesNumber_44 ?_
        refine lv_bipush (v := 10) hx hb dX5_takesNumber_47 (by decide) ?_
        refine lv_imul hx hb dX5_takesNumber_49 ?_
        refine lv_aload_n hx hb dX5_takesNumber_50 rfl (lv_at hl 0 rfl) ?_
        refine g_get (v := .ref (B + 14)) kX5 (by decide) fl_RX5_9 X.1 hH kx_13 rfl dX5_takesNumber_51 ?_
        refine lv_iload hx hb dX5_takesNumber_54 (lv_at hl 5 rfl) ?_
        obtain ⟨q622, hf⟩ := chk hf
        refine g_iald (j := v5.toNatClampNeg) X.1 hH kx_14 q622 rfl dX5_takesNumber_56 ?_
        refine lv_iadd hx hb dX5_takesNumber_57 ?_
        refine lv_bipush (v := 48) hx hb dX5_takesNumber_58 (by decide) ?_
        refine lv_isub hx hb dX5_takesNumber_60 ?_
        refine g_putI kX5 (by decide) fl_RX5_78 rfl rfl X.1 hH hS kx_13 dX5_takesNumber_61 (fun H locs hH hS => ?_)
        obtain ⟨σ623, eσ623, hH⟩ := nmX hH
        replace hf := nmU hf eσ623
        refine lv_iinc (v := (v4 + (1 : Int32))) (lv' := [(4, .int (v4 + (1 : Int32))), (0, .ref (B + 13)), (1, .int v1), (2, .int v2), (3, .int v3), (5, .int v5)]) hx hb dX5_takesNumber_64 hl (k := 4) rfl rfl (by decide) rfl (fun ls hl => ?_)
        refine lv_iinc (v := (v5 + (1 : Int32))) (lv' := [(5, .int (v5 + (1 : Int32))), (4, .int (v4 + (1 : Int32))), (0, .ref (B + 13)), (1, .int v1), (2, .int v2), (3, .int v3)]) hx hb dX5_takesNumber_67 hl (k := 5) rfl rfl (by decide) rfl (fun ls hl => ?_)
        refine lv_goto (tgt := 14) hx hb dX5_takesNumber_70 (by decide) ?_
        exact ih14 v1 v2 v3 (v4 + (1 : Int32)) (v5 + (1 : Int32)) σ623 _ _ _ hf hH hS (lv_sub hl [2, 3, 4, 5, 1, 0] rfl)
def l_X5_takesNumber_14 : Nat → Int32 → Int32 → Int32 → Int32 → Int32 → Sto → Option (Int32 × Sto)
  | 0, _, _, _, _, _, _ => none
  | n + 1, v1, v2, v3, v4, v5, σ => b_X5_takesNumber_14 (l_X5_takesNumber_14 n) v1 v2 v3 v4 v5 σ
set_option maxHeartbeats 4000000 in
set_option maxRecDepth 100000 in
theorem wl_X5_takesNumber_14 {p : Program} {l : Launch} {e : Env} {s : State} {m : MethodId} {args : Array Value} {below : List Frame} {meth : Method} {c : Code} {G : Gd} {B : Nat} (X : Cm p s m args meth c cX5_takesNumber 6 RX5 G (some .boolean)) {r : Int32} {σr : Sto} (n : Nat) : ∀ (v1 : Int32) (v2 : Int32) (v3 : Int32) (v4 : Int32) (v5 : Int32) (σ : Sto) (H : Heap) (locs : List Loc) (ls : Array Slot), l_X5_takesNumber_14 n v1 v2 v3 v4 v5 σ = some (r, σr) → HX G layX B σ H → va_S (inW layX B) s.heap H locs → lv_has ls 6 [(0, .ref (B + 13)), (1, .int v1), (2, .int v2), (3, .int v3), (4, .int v4), (5, .int v5)] → WM p l e 1 s m args below meth c H locs G layX B (some (.int r)) σr (F0 m 14 ls []) := by
  induction n with
  | zero =>
    intro _ _ _ _ _ σ H locs ls hf
    cases hf
  | succ n ih =>
    intro v1 v2 v3 v4 v5 σ H locs ls hf hH hS hl
    exact w_X5_takesNumber_14 X (l_X5_takesNumber_14 n) ih v1 v2 v3 v4 v5 σ hf H locs hH hS ls hl
def f_X5_takesNumber (x1 : Int32) (x2 : Int32) (x3 : Int32) (σ : Sto) : Option (Int32 × Sto) :=
  nmS (pI σ 13 8 (0 : Int32)) fun σ101 => nmS (σ101.1 13 6) fun y102 => l_X5_takesNumber_14 400 x1 x2 x3 (0 : Int32) y102 σ101
set_option maxHeartbeats 4000000 in
set_option maxRecDepth 100000 in
theorem w_X5_takesNumber {p : Program} {l : Launch} {e : Env} {s : State} {m : MethodId} {args : Array Value} {below : List Frame} {meth : Method} {c : Code} {G : Gd} {B : Nat} (X : Cm p s m args meth c cX5_takesNumber 6 RX5 G (some .boolean)) {r : Int32} {σr : Sto} (x1 : Int32) (x2 : Int32) (x3 : Int32) (σ : Sto) (hf : f_X5_takesNumber x1 x2 x3 σ = some (r, σr)) (H : Heap) (locs : List Loc) (hH : HX G layX B σ H) (hS : va_S (inW layX B) s.heap H locs) (ls : Array Slot) (hl : lv_has ls 6 [(0, .ref (B + 13)), (1, .int x1), (2, .int x2), (3, .int x3)]) : WM p l e 1 s m args below meth c H locs G layX B (some (.int r)) σr (F0 m 0 ls []) := by
  unfold f_X5_takesNumber at hf
  have hx := X.1.1
  have hb := X.1.2.1
  refine lv_iconst (v := 0) hx hb dX5_takesNumber_0 (by decide) ?_
  refine lv_istore (lv' := [(4, .int (0 : Int32)), (0, .ref (B + 13)), (1, .int x1), (2, .int x2), (3, .int x3)]) hx hb dX5_takesNumber_1 hl (by decide) rfl (fun ls hl => ?_)
  refine lv_aload_n hx hb dX5_takesNumber_3 rfl (lv_at hl 1 rfl) ?_
  refine lv_iconst (v := 0) hx hb dX5_takesNumber_4 (by decide) ?_
  refine g_putI kX5 (by decide) fl_RX5_78 rfl rfl X.1 hH hS kx_13 dX5_takesNumber_5 (fun H locs hH hS => ?_)
  obtain ⟨σ101, eσ101, hH⟩ := nmX hH
  replace hf := nmU hf eσ101
  refine lv_aload_n hx hb dX5_takesNumber_8 rfl (lv_at hl 1 rfl) ?_
  refine g_get (v := .int (σ101.1 13 6)) kX5 (by decide) fl_RX5_34 X.1 hH kx_13 rfl dX5_takesNumber_9 ?_
  refine lv_topi (fun y102 ey102 => ?_)
  replace hf := nmU hf ey102
  refine lv_istore (lv' := [(5, .int y102), (4, .int (0 : Int32)), (0, .ref (B + 13)), (1, .int x1), (2, .int x2), (3, .int x3)]) hx hb dX5_takesNumber_12 hl (by decide) rfl (fun ls hl => ?_)
  exact wl_X5_takesNumber_14 X 400 x1 x2 x3 (0 : Int32) y102 σ101 _ _ _ hf hH hS (lv_sub hl [2, 3, 4, 5, 1, 0] rfl)
theorem c_X5_takesNumber (l : Launch) (G : Gd) (B : Nat) (x1 : Int32) (x2 : Int32) (x3 : Int32) (σ σr : Sto) (r : Int32) (hf : f_X5_takesNumber x1 x2 x3 σ = some (r, σr)) : Ct l G layX B yX5_takesNumber cX5_takesNumber 6 (some .boolean) 1 [.ref (B + 13), .int x1, .int x2, .int x3] (some (.int r)) σ σr :=
  Ct.ofW (by decide) (Nat.le_of_ble_eq_true rfl) (fun _ _ _ _ _ _ _ X hH hS ls hl => w_X5_takesNumber X x1 x2 x3 σ hf _ _ hH hS ls (show lv_has ls 6 [(0, .ref (B + 13)), (1, .int x1), (2, .int x2), (3, .int x3)] from hl))
-- SlackProofs$Reader.takes(I)Z  (D 1)
def f_X5_takes (x1 : Int32) (σ : Sto) : Option (Int32 × Sto) :=
  bd2 (f_X5_letter σ) fun r102 σ101 => if r102 = x1 then (nmS (pI σ101 13 6 ((σ101.1 13 6) + (1 : Int32))) fun σ104 => some ((1 : Int32), σ104)) else (bd2 (f_X5_faulty (1 : Int32) σ101) fun r106 σ105 => if ¬ (r106 = 0 ∨ r106 = 1) then none else some (r106, σ105))
set_option maxHeartbeats 4000000 in
set_option maxRecDepth 100000 in
theorem w_X5_takes {p : Program} {l : Launch} {e : Env} {s : State} {m : MethodId} {args : Array Value} {below : List Frame} {meth : Method} {c : Code} {G : Gd} {B : Nat} (X : Cm p s m args meth c cX5_takes 2 RX5 G (some .boolean)) {r : Int32} {σr : Sto} (x1 : Int32) (σ : Sto) (hf : f_X5_takes x1 σ = some (r, σr)) (H : Heap) (locs : List Loc) (hH : HX G layX B σ H) (hS : va_S (inW layX B) s.heap H locs) (ls : Array Slot) (hl : lv_has ls 2 [(0, .ref (B + 13)), (1, .int x1)]) : WM p l e 1 s m args below meth c H locs G layX B (some (.int r)) σr (F0 m 0 ls []) := by
  unfold f_X5_takes at hf
  have hx := X.1.1
  have hb := X.1.2.1
  refine lv_aload_n hx hb dX5_takes_0 rfl (lv_at hl 0 rfl) ?_
  obtain ⟨r102, σ101, eσ101, hf⟩ := bnd2 hf
  refine g_cVi (As := []) X.1 hH hS (c_X5_letter l G B σ σ101 r102 eσ101) kw_RX5_60 kX5 kx_13 (by decide) rfl hl (Nat.le_of_ble_eq_true rfl) rfl dX5_takes_1 (fun H locs hH hS => ?_)
  refine lv_iload_n hx hb dX5_takes_4 rfl (lv_at hl 1 rfl) ?_
  refine lv_icmp_eq (tgt := 14) hx hb dX5_takes_5 (by decide) (fun q103 => ?_) (fun q103 => ?_)
  · replace hf := brT hf q103
    refine lv_aload_n hx hb dX5_takes_14 rfl (lv_at hl 0 rfl) ?_
    refine lv_dup hx hb dX5_takes_15 rfl ?_
    refine g_get (v := .int (σ101.1 13 6)) kX5 (by decide) fl_RX5_34 X.1 hH kx_13 rfl dX5_takes_16 ?_
    refine lv_iconst (v := 1) hx hb dX5_takes_19 (by decide) ?_
    refine lv_iadd hx hb dX5_takes_20 ?_
    refine g_putI kX5 (by decide) fl_RX5_34 rfl rfl X.1 hH hS kx_13 dX5_takes_21 (fun H locs hH hS => ?_)
    obtain ⟨σ104, eσ104, hH⟩ := nmX hH
    replace hf := nmU hf eσ104
    refine lv_iconst (v := 1) hx hb dX5_takes_24 (by decide) ?_
    obtain ⟨rfl, rfl⟩ := rt2 hf
    exact g_zret X hH hS (by decide) dX5_takes_25
  · replace hf := brF hf q103
    refine lv_aload_n hx hb dX5_takes_8 rfl (lv_at hl 0 rfl) ?_
    refine lv_iconst (v := 1) hx hb dX5_takes_9 (by decide) ?_
    obtain ⟨r106, σ105, eσ105, hf⟩ := bnd2 hf
    refine g_cVi (As := [.int (1 : Int32)]) X.1 hH hS (c_X5_faulty l G B (1 : Int32) σ101 σ105 r106 eσ105) kw_RX5_64 kX5 kx_13 (by decide) rfl hl (Nat.le_of_ble_eq_true rfl) rfl dX5_takes_10 (fun H locs hH hS => ?_)
    obtain ⟨q107, hf⟩ := chk hf
    obtain ⟨rfl, rfl⟩ := rt2 hf
    exact g_zret X hH hS (Decidable.not_not.mp q107) dX5_takes_13
theorem c_X5_takes (l : Launch) (G : Gd) (B : Nat) (x1 : Int32) (σ σr : Sto) (r : Int32) (hf : f_X5_takes x1 σ = some (r, σr)) : Ct l G layX B yX5_takes cX5_takes 2 (some .boolean) 1 [.ref (B + 13), .int x1] (some (.int r)) σ σr :=
  Ct.ofW (by decide) (Nat.le_of_ble_eq_true rfl) (fun _ _ _ _ _ _ _ X hH hS ls hl => w_X5_takes X x1 σ hf _ _ hH hS ls (show lv_has ls 2 [(0, .ref (B + 13)), (1, .int x1)] from hl))
-- SlackProofs$Reader.readsDegree(LSlackProofs$Clause;)Z  (D 2)
def f_X5_readsDegree (k0 : Nat) (σ : Sto) : Option (Int32 × Sto) :=
  nmS (pI σ 13 6 ((σ.1 13 6) + (1 : Int32))) fun σ101 => bd2 (f_X5_takesNumber (0 : Int32) (99 : Int32) (0 : Int32) σ101) fun r103 σ102 => if r103 = 0 then (some ((0 : Int32), σ102)) else (nmS (pL σ102 k0 2 ((σ102.1 13 8).toInt64)) fun σ105 => bd2 (f_X5_takes (59 : Int32) σ105) fun r107 σ106 => if ¬ (r107 = 0 ∨ r107 = 1) then none else some (r107, σ106))
set_option maxHeartbeats 4000000 in
set_option maxRecDepth 100000 in
theorem w_X5_readsDegree {p : Program} {l : Launch} {e : Env} {s : State} {m : MethodId} {args : Array Value} {below : List Frame} {meth : Method} {c : Code} {G : Gd} {B : Nat} (X : Cm p s m args meth c cX5_readsDegree 2 RX5 G (some .boolean)) (k0 : Nat) (h0 : (k0 < layX.2.2 ∧ layX.1 k0 = .inl 3)) {r : Int32} {σr : Sto} (σ : Sto) (hf : f_X5_readsDegree k0 σ = some (r, σr)) (H : Heap) (locs : List Loc) (hH : HX G layX B σ H) (hS : va_S (inW layX B) s.heap H locs) (ls : Array Slot) (hl : lv_has ls 2 [(0, .ref (B + 13)), (1, .ref (B + k0))]) : WM p l e 2 s m args below meth c H locs G layX B (some (.int r)) σr (F0 m 0 ls []) := by
  unfold f_X5_readsDegree at hf
  have hx := X.1.1
  have hb := X.1.2.1
  refine lv_aload_n hx hb dX5_readsDegree_0 rfl (lv_at hl 0 rfl) ?_
  refine lv_dup hx hb dX5_readsDegree_1 rfl ?_
  refine g_get (v := .int (σ.1 13 6)) kX5 (by decide) fl_RX5_34 X.1 hH kx_13 rfl dX5_readsDegree_2 ?_
  refine lv_iconst (v := 1) hx hb dX5_readsDegree_5 (by decide) ?_
  refine lv_iadd hx hb dX5_readsDegree_6 ?_
  refine g_putI kX5 (by decide) fl_RX5_34 rfl rfl X.1 hH hS kx_13 dX5_readsDegree_7 (fun H locs hH hS => ?_)
  obtain ⟨σ101, eσ101, hH⟩ := nmX hH
  replace hf := nmU hf eσ101
  refine lv_aload_n hx hb dX5_readsDegree_10 rfl (lv_at hl 0 rfl) ?_
  refine lv_iconst (v := 0) hx hb dX5_readsDegree_11 (by decide) ?_
  refine lv_bipush (v := 99) hx hb dX5_readsDegree_12 (by decide) ?_
  refine lv_iconst (v := 0) hx hb dX5_readsDegree_14 (by decide) ?_
  obtain ⟨r103, σ102, eσ102, hf⟩ := bnd2 hf
  refine g_cVi (As := [.int (0 : Int32), .int (99 : Int32), .int (0 : Int32)]) X.1 hH hS (c_X5_takesNumber l G B (0 : Int32) (99 : Int32) (0 : Int32) σ101 σ102 r103 eσ102) kw_RX5_74 kX5 kx_13 (by decide) rfl hl (Nat.le_of_ble_eq_true rfl) rfl dX5_readsDegree_15 (fun H locs hH hS => ?_)
  refine lv_if_ne (tgt := 23) hx hb dX5_readsDegree_18 (by decide) (fun q104 => ?_) (fun q104 => ?_)
  · replace hf := brF hf q104
    refine lv_aload_n hx hb dX5_readsDegree_23 rfl (lv_at hl 1 rfl) ?_
    refine lv_aload_n hx hb dX5_readsDegree_24 rfl (lv_at hl 0 rfl) ?_
    refine g_get (v := .int (σ102.1 13 8)) kX5 (by decide) fl_RX5_78 X.1 hH kx_13 rfl dX5_readsDegree_25 ?_
    refine lv_i2l hx hb dX5_readsDegree_28 rfl ?_
    refine g_putL kX3 (by decide) fl_RX5_88 rfl rfl X.1 hH hS h0 dX5_readsDegree_29 (fun H locs hH hS => ?_)
    obtain ⟨σ105, eσ105, hH⟩ := nmX hH
    replace hf := nmU hf eσ105
    refine lv_aload_n hx hb dX5_readsDegree_32 rfl (lv_at hl 0 rfl) ?_
    refine lv_bipush (v := 59) hx hb dX5_readsDegree_33 (by decide) ?_
    obtain ⟨r107, σ106, eσ106, hf⟩ := bnd2 hf
    refine g_cVi (As := [.int (59 : Int32)]) X.1 hH hS (c_X5_takes l G B (59 : Int32) σ105 σ106 r107 eσ106) kw_RX5_81 kX5 kx_13 (by decide) rfl hl (Nat.le_of_ble_eq_true rfl) rfl dX5_readsDegree_35 (fun H locs hH hS => ?_)
    obtain ⟨q108, hf⟩ := chk hf
    obtain ⟨rfl, rfl⟩ := rt2 hf
    exact g_zret X hH hS (Decidable.not_not.mp q108) dX5_readsDegree_38
  · replace hf := brT hf q104
    refine lv_iconst (v := 0) hx hb dX5_readsDegree_21 (by decide) ?_
    obtain ⟨rfl, rfl⟩ := rt2 hf
    exact g_zret X hH hS (by decide) dX5_readsDegree_22
theorem c_X5_readsDegree (l : Launch) (G : Gd) (B : Nat) (k0 : Nat) (h0 : (k0 < layX.2.2 ∧ layX.1 k0 = .inl 3)) (σ σr : Sto) (r : Int32) (hf : f_X5_readsDegree k0 σ = some (r, σr)) : Ct l G layX B yX5_readsDegree cX5_readsDegree 2 (some .boolean) 2 [.ref (B + 13), .ref (B + k0)] (some (.int r)) σ σr :=
  Ct.ofW (by decide) (Nat.le_of_ble_eq_true rfl) (fun _ _ _ _ _ _ _ X hH hS ls hl => w_X5_readsDegree X k0 h0 σ hf _ _ hH hS ls (show lv_has ls 2 [(0, .ref (B + 13)), (1, .ref (B + k0))] from hl))
