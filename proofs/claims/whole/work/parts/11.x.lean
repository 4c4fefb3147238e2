-- SlackProofs$Asker.sizeOfAny(LSlackProofs$Clause;)I  (D 1)
def f_X1_sizeOfAny (k0 : Nat) (σ : Sto) : Option (Int32 × Sto) :=
  bd1 (f_X1_begins (10 : Int32) σ) fun σ101 => bd2 (f_X3_countVariables k0 σ101) fun r104 σ103 => some (r104, σ103)
set_option maxHeartbeats 4000000 in
set_option maxRecDepth 100000 in
theorem w_X1_sizeOfAny {p : Program} {l : Launch} {e : Env} {s : State} {m : MethodId} {args : Array Value} {below : List Frame} {meth : Method} {c : Code} {G : Gd} {B : Nat} (X : Cm p s m args meth c cX1_sizeOfAny 2 RX1 G (some .int)) (k0 : Nat) (h0 : (k0 < layX.2.2 ∧ layX.1 k0 = .inl 3)) {r : Int32} {σr : Sto} (σ : Sto) (hf : f_X1_sizeOfAny k0 σ = some (r, σr)) (H : Heap) (locs : List Loc) (hH : HX G layX B σ H) (hS : va_S (inW layX B) s.heap H locs) (ls : Array Slot) (hl : lv_has ls 2 [(0, .ref (B + 236)), (1, .ref (B + k0))]) : WM p l e 1 s m args below meth c H locs G layX B (some (.int r)) σr (F0 m 0 ls []) := by
  unfold f_X1_sizeOfAny at hf
  have hx := X.1.1
  have hb := X.1.2.1
  refine lv_aload_n hx hb dX1_sizeOfAny_0 rfl (lv_at hl 0 rfl) ?_
  refine lv_bipush (v := 10) hx hb dX1_sizeOfAny_1 (by decide) ?_
  obtain ⟨σ101, eσ101, hf⟩ := bnd1 hf
  refine g_cVv (As := [.int (10 : Int32)]) X.1 hH hS (c_X1_begins l G B (10 : Int32) σ σ101 eσ101) kw_RX1_41 kX1 kx_236 (by decide) rfl hl (Nat.le_of_ble_eq_true rfl) rfl dX1_sizeOfAny_3 (fun H locs hH hS => ?_)
  refine lv_aload_n hx hb dX1_sizeOfAny_6 rfl (lv_at hl 1 rfl) ?_
  obtain ⟨r104, σ103, eσ103, hf⟩ := bnd2 hf
  refine g_cVi (As := []) X.1 hH hS (c_X3_countVariables l G B k0 h0 σ101 σ103 r104 eσ103) kw_RX1_45 kX3 h0 (by decide) rfl hl (Nat.le_of_ble_eq_true rfl) rfl dX1_sizeOfAny_7 (fun H locs hH hS => ?_)
  obtain ⟨rfl, rfl⟩ := rt2 hf
  exact g_iret X hH hS dX1_sizeOfAny_10
theorem c_X1_sizeOfAny (l : Launch) (G : Gd) (B : Nat) (k0 : Nat) (h0 : (k0 < layX.2.2 ∧ layX.1 k0 = .inl 3)) (σ σr : Sto) (r : Int32) (hf : f_X1_sizeOfAny k0 σ = some (r, σr)) : Ct l G layX B yX1_sizeOfAny cX1_sizeOfAny 2 (some .int) 1 [.ref (B + 236), .ref (B + k0)] (some (.int r)) σ σr :=
  Ct.ofW (by decide) (Nat.le_of_ble_eq_true rfl) (fun _ _ _ _ _ _ _ X hH hS ls hl => w_X1_sizeOfAny X k0 h0 σ hf _ _ hH hS ls (show lv_has ls 2 [(0, .ref (B + 236)), (1, .ref (B + k0))] from hl))
-- SlackProofs$Asker.sizeOfDerived(LSlackProofs$Clause;)I  (D 2)
def f_X1_sizeOfDerived (k0 : Nat) (σ : Sto) : Option (Int32 × Sto) :=
  bd1 (f_X1_begins (13 : Int32) σ) fun σ101 => bd2 (f_X1_sizeOfAny k0 σ101) fun r104 σ103 => some ((r104 - (100 : Int32)), σ103)
set_option maxHeartbeats 4000000 in
set_option maxRecDepth 100000 in
theorem w_X1_sizeOfDerived {p : Program} {l : Launch} {e : Env} {s : State} {m : MethodId} {args : Array Value} {below : List Frame} {meth : Method} {c : Code} {G : Gd} {B : Nat} (X : Cm p s m args meth c cX1_sizeOfDerived 2 RX1 G (some .int)) (k0 : Nat) (h0 : (k0 < layX.2.2 ∧ layX.1 k0 = .inl 3)) {r : Int32} {σr : Sto} (σ : Sto) (hf : f_X1_sizeOfDerived k0 σ = some (r, σr)) (H : Heap) (locs : List Loc) (hH : HX G layX B σ H) (hS : va_S (inW layX B) s.heap H locs) (ls : Array Slot) (hl : lv_has ls 2 [(0, .ref (B + 236)), (1, .ref (B + k0))]) : WM p l e 2 s m args below meth c H locs G layX B (some (.int r)) σr (F0 m 0 ls []) := by
  unfold f_X1_sizeOfDerived at hf
  have hx := X.1.1
  have hb := X.1.2.1
  refine lv_aload_n hx hb dX1_sizeOfDerived_0 rfl (lv_at hl 0 rfl) ?_
  refine lv_bipush (v := 13) hx hb dX1_sizeOfDerived_1 (by decide) ?_
  obtain ⟨σ101, eσ101, hf⟩ := bnd1 hf
  refine g_cVv (As := [.int (13 : Int32)]) X.1 hH hS (c_X1_begins l G B (13 : Int32) σ σ101 eσ101) kw_RX1_41 kX1 kx_236 (by decide) rfl hl (Nat.le_of_ble_eq_true rfl) rfl dX1_sizeOfDerived_3 (fun H locs hH hS => ?_)
  refine lv_aload_n hx hb dX1_sizeOfDerived_6 rfl (lv_at hl 0 rfl) ?_
  refine lv_aload_n hx hb dX1_sizeOfDerived_7 rfl (lv_at hl 1 rfl) ?_
  obtain ⟨r104, σ103, eσ103, hf⟩ := bnd2 hf
  refine g_cVi (As := [.ref (B + k0)]) X.1 hH hS (c_X1_sizeOfAny l G B k0 h0 σ101 σ103 r104 eσ103) kw_RX1_38 kX1 kx_236 (by decide) rfl hl (Nat.le_of_ble_eq_true rfl) rfl dX1_sizeOfDerived_8 (fun H locs hH hS => ?_)
  refine lv_bipush (v := 100) hx hb dX1_sizeOfDerived_11 (by decide) ?_
  refine lv_isub hx hb dX1_sizeOfDerived_13 ?_
  obtain ⟨rfl, rfl⟩ := rt2 hf
  exact g_iret X hH hS dX1_sizeOfDerived_14
theorem c_X1_sizeOfDerived (l : Launch) (G : Gd) (B : Nat) (k0 : Nat) (h0 : (k0 < layX.2.2 ∧ layX.1 k0 = .inl 3)) (σ σr : Sto) (r : Int32) (hf : f_X1_sizeOfDerived k0 σ = some (r, σr)) : Ct l G layX B yX1_sizeOfDerived cX1_sizeOfDerived 2 (some .int) 2 [.ref (B + 236), .ref (B + k0)] (some (.int r)) σ σr :=
  Ct.ofW (by decide) (Nat.le_of_ble_eq_true rfl) (fun _ _ _ _ _ _ _ X hH hS ls hl => w_X1_sizeOfDerived X k0 h0 σ hf _ _ hH hS ls (show lv_has ls 2 [(0, .ref (B + 236)), (1, .ref (B + k0))] from hl))
-- SlackProofs$Asker.sizeOfClaimed(LSlackProofs$Clause;)I  (D 3)
def f_X1_sizeOfClaimed (k0 : Nat) (σ : Sto) : Option (Int32 × Sto) :=
  bd1 (f_X1_begins (14 : Int32) σ) fun σ101 => bd2 (f_X1_sizeOfDerived k0 σ101) fun r104 σ103 => some (((2 : Int32) * r104), σ103)
set_option maxHeartbeats 4000000 in
set_option maxRecDepth 100000 in
theorem w_X1_sizeOfClaimed {p : Program} {l : Launch} {e : Env} {s : State} {m : MethodId} {args : Array Value} {below : List Frame} {meth : Method} {c : Code} {G : Gd} {B : Nat} (X : Cm p s m args meth c cX1_sizeOfClaimed 2 RX1 G (some .int)) (k0 : Nat) (h0 : (k0 < layX.2.2 ∧ layX.1 k0 = .inl 3)) {r : Int32} {σr : Sto} (σ : Sto) (hf : f_X1_sizeOfClaimed k0 σ = some (r, σr)) (H : Heap) (locs : List Loc) (hH : HX G layX B σ H) (hS : va_S (inW layX B) s.heap H locs) (ls : Array Slot) (hl : lv_has ls 2 [(0, .ref (B + 236)), (1, .ref (B + k0))]) : WM p l e 3 s m args below meth c H locs G layX B (some (.int r)) σr (F0 m 0 ls []) := by
  unfold f_X1_sizeOfClaimed at hf
  have hx := X.1.1
  have hb := X.1.2.1
  refine lv_aload_n hx hb dX1_sizeOfClaimed_0 rfl (lv_at hl 0 rfl) ?_
  refine lv_bipush (v := 14) hx hb dX1_sizeOfClaimed_1 (by decide) ?_
  obtain ⟨σ101, eσ101, hf⟩ := bnd1 hf
  refine g_cVv (As := [.int (14 : Int32)]) X.1 hH hS (c_X1_begins l G B (14 : Int32) σ σ101 eσ101) kw_RX1_41 kX1 kx_236 (by decide) rfl hl (Nat.le_of_ble_eq_true rfl) rfl dX1_sizeOfClaimed_3 (fun H locs hH hS => ?_)
  refine lv_iconst (v := 2) hx hb dX1_sizeOfClaimed_6 (by decide) ?_
  refine lv_aload_n hx hb dX1_sizeOfClaimed_7 rfl (lv_at hl 0 rfl) ?_
  refine lv_aload_n hx hb dX1_sizeOfClaimed_8 rfl (lv_at hl 1 rfl) ?_
  obtain ⟨r104, σ103, eσ103, hf⟩ := bnd2 hf
  refine g_cVi (As := [.ref (B + k0)]) X.1 hH hS (c_X1_sizeOfDerived l G B k0 h0 σ101 σ103 r104 eσ103) kw_RX1_31 kX1 kx_236 (by decide) rfl hl (Nat.le_of_ble_eq_true rfl) rfl dX1_sizeOfClaimed_9 (fun H locs hH hS => ?_)
  refine lv_imul hx hb dX1_sizeOfClaimed_12 ?_
  obtain ⟨rfl, rfl⟩ := rt2 hf
  exact g_iret X hH hS dX1_sizeOfClaimed_13
theorem c_X1_sizeOfClaimed (l : Launch) (G : Gd) (B : Nat) (k0 : Nat) (h0 : (k0 < layX.2.2 ∧ layX.1 k0 = .inl 3)) (σ σr : Sto) (r : Int32) (hf : f_X1_sizeOfClaimed k0 σ = some (r, σr)) : Ct l G layX B yX1_sizeOfClaimed cX1_sizeOfClaimed 2 (some .int) 3 [.ref (B + 236), .ref (B + k0)] (some (.int r)) σ σr :=
  Ct.ofW (by decide) (Nat.le_of_ble_eq_true rfl) (fun _ _ _ _ _ _ _ X hH hS ls hl => w_X1_sizeOfClaimed X k0 h0 σ hf _ _ hH hS ls (show lv_has ls 2 [(0, .ref (B + 236)), (1, .ref (B + k0))] from hl))
-- SlackProofs$Asker.sizeOf(LSlackProofs$Clause;I)I _0 (D 4)
def b_X1_sizeOf_0_48 (k0 : Nat) (v2 : Int32) (σ : Sto) : Option (Int32 × Sto) :=
  none
set_option maxHeartbeats 4000000 in
set_option maxRecDepth 100000 in
theorem w_X1_sizeOf_0_48 {p : Program} {l : Launch} {e : Env} {s : State} {m : MethodId} {args : Array Value} {below : List Frame} {meth : Method} {c : Code} {G : Gd} {B : Nat} (X : Cm p s m args meth c cX1_sizeOf 3 RX1 G (some .int)) (k0 : Nat) (h0 : (k0 < layX.2.2 ∧ layX.1 k0 = .inl 3)) {r : Int32} {σr : Sto} (v2 : Int32) (σ : Sto) (hf : b_X1_sizeOf_0_48 k0 v2 σ = some (r, σr)) (H : Heap) (locs : List Loc) (hH : HX G layX B σ H) (hS : va_S (inW layX B) s.heap H locs) (ls : Array Slot) (hl : lv_has ls 3 [(0, .ref (B + 236)), (1, .ref (B + k0)), (2, .int v2)]) : WM p l e 4 s m args below meth c H locs G layX B (some (.int r)) σr (F0 m 48 ls []) := by
  unfold b_X1_sizeOf_0_48 at hf
  have hx := X.1.1
  have hb := X.1.2.1
  refine lv_aload_n hx hb dX1_sizeOf_48 rfl (lv_at hl 0 rfl) ?_
  refine lv_aload_n hx hb dX1_sizeOf_49 rfl (lv_at hl 1 rfl) ?_
  refine lv_iload_n hx hb dX1_sizeOf_50 rfl (lv_at hl 2 rfl) ?_
  cases hf
def f_X1_sizeOf_0 (k0 : Nat) (x2 : Int32) (σ : Sto) : Option (Int32 × Sto) :=
  if x2 ≤ (8 : Int32) then (if (σ.1 k0 3) = 1 then (b_X1_sizeOf_0_48 k0 x2 σ) else (if (σ.1 k0 3) = 2 then (none) else (if (σ.1 k0 3) = 3 then (b_X1_sizeOf_0_48 k0 x2 σ) else (if (σ.1 k0 3) = 4 then (bd2 (f_X1_sizeOfDerived k0 σ) fun r207 σ206 => some (r207, σ206)) else (if (σ.1 k0 3) = 5 then (bd2 (f_X1_sizeOfClaimed k0 σ) fun r210 σ209 => some (r210, σ209)) else (bd2 (f_X1_sizeOfAny k0 σ) fun r212 σ211 => some (r212, σ211))))))) else (some ((0 : Int32), σ))
set_option maxHeartbeats 4000000 in
set_option maxRecDepth 100000 in
theorem w_X1_sizeOf_0 {p : Program} {l : Launch} {e : Env} {s : State} {m : MethodId} {args : Array Value} {below : List Frame} {meth : Method} {c : Code} {G : Gd} {B : Nat} (X : Cm p s m args meth c cX1_sizeOf 3 RX1 G (some .int)) (k0 : Nat) (h0 : (k0 < layX.2.2 ∧ layX.1 k0 = .inl 3)) {r : Int32} {σr : Sto} (x2 : Int32) (σ : Sto) (hf : f_X1_sizeOf_0 k0 x2 σ = some (r, σr)) (H : Heap) (locs : List Loc) (hH : HX G layX B σ H) (hS : va_S (inW layX B) s.heap H locs) (ls : Array Slot) (hl : lv_has ls 3 [(0, .ref (B + 236)), (1, .ref (B + k0)), (2, .int x2)]) : WM p l e 4 s m args below meth c H locs G layX B (some (.int r)) σr (F0 m 0 ls []) := by
  unfold f_X1_sizeOf_0 at hf
  have hx := X.1.1
  have hb := X.1.2.1
  refine lv_iload_n hx hb dX1_sizeOf_0 rfl (lv_at hl 2 rfl) ?_
  refine lv_bipush (v := 8) hx hb dX1_sizeOf_1 (by decide) ?_
  refine lv_icmp_le (tgt := 8) hx hb dX1_sizeOf_3 (by decide) (fun q101 => ?_) (fun q101 => ?_)
  · replace hf := brT hf q101
    refine lv_aload_n hx hb dX1_sizeOf_8 rfl (lv_at hl 1 rfl) ?_
    refine g_get (v := .int (σ.1 k0 3)) kX3 (by decide) fl_RX1_19 X.1 hH h0 rfl dX1_sizeOf_9 ?_
    by_cases q102 : (σ.1 k0 3) = 1
    · replace hf := brT hf q102
      refine lv_tableIn (tgt := 48) (off := 36) hx hb dX1_sizeOf_12 (by rw [q102]; decide) (by rw [q102]; decide) (by rw [q102]; decide) (by decide) ?_
      exact w_X1_sizeOf_0_48 X k0 h0 x2 σ hf _ _ hH hS _ (lv_sub hl [0, 1, 2] rfl)
    replace hf := brF hf q102
    by_cases q203 : (σ.1 k0 3) = 2
    · replace hf := brT hf q203
      refine lv_tableIn (tgt := 55) (off := 43) hx hb dX1_sizeOf_12 (by rw [q203]; decide) (by rw [q203]; decide) (by rw [q203]; decide) (by decide) ?_
      refine lv_aload_n hx hb dX1_sizeOf_55 rfl (lv_at hl 0 rfl) ?_
      refine lv_aload_n hx hb dX1_sizeOf_56 rfl (lv_at hl 1 rfl) ?_
      refine lv_iload_n hx hb dX1_sizeOf_57 rfl (lv_at hl 2 rfl) ?_
      cases hf
    replace hf := brF hf q203
    by_cases q204 : (σ.1 k0 3) = 3
    · replace hf := brT hf q204
      refine lv_tableIn (tgt := 48) (off := 36) hx hb dX1_sizeOf_12 (by rw [q204]; decide) (by rw [q204]; decide) (by rw [q204]; decide) (by decide) ?_
      exact w_X1_sizeOf_0_48 X k0 h0 x2 σ hf _ _ hH hS _ (lv_sub hl [0, 1, 2] rfl)
    replace hf := brF hf q204
    by_cases q205 : (σ.1 k0 3) = 4
    · replace hf := brT hf q205
      refine lv_tableIn (tgt := 62) (off := 50) hx hb dX1_sizeOf_12 (by rw [q205]; decide) (by rw [q205]; decide) (by rw [q205]; decide) (by decide) ?_
      refine lv_aload_n hx hb dX1_sizeOf_62 rfl (lv_at hl 0 rfl) ?_
      refine lv_aload_n hx hb dX1_sizeOf_63 rfl (lv_at hl 1 rfl) ?_
      obtain ⟨r207, σ206, eσ206, hf⟩ := bnd2 hf
      refine g_cVi (As := [.ref (B + k0)]) X.1 hH hS (c_X1_sizeOfDerived l G B k0 h0 σ σ206 r207 eσ206) kw_RX1_31 kX1 kx_236 (by decide) rfl hl (Nat.le_of_ble_eq_true rfl) rfl dX1_sizeOf_64 (fun H locs hH hS => ?_)
      obtain ⟨rfl, rfl⟩ := rt2 hf
      exact g_iret X hH hS dX1_sizeOf_67
    replace hf := brF hf q205
    by_cases q208 : (σ.1 k0 3) = 5
    · replace hf := brT hf q208
      refine lv_tableIn (tgt := 68) (off := 56) hx hb dX1_sizeOf_12 (by rw [q208]; decide) (by rw [q208]; decide) (by rw [q208]; decide) (by decide) ?_
      refine lv_aload_n hx hb dX1_sizeOf_68 rfl (lv_at hl 0 rfl) ?_
      refine lv_aload_n hx hb dX1_sizeOf_69 rfl (lv_at hl 1 rfl) ?_
      obtain ⟨r210, σ209, eσ209, hf⟩ := bnd2 hf
      refine g_cVi (As := [.ref (B + k0)]) X.1 hH hS (c_X1_sizeOfClaimed l G B k0 h0 σ σ209 r210 eσ209) kw_RX1_35 kX1 kx_236 (by decide) rfl hl (Nat.le_of_ble_eq_true rfl) rfl dX1_sizeOf_70 (fun H locs hH hS => ?_)
      obtain ⟨rfl, rfl⟩ := rt2 hf
      exact g_iret X hH hS dX1_sizeOf_73
    replace hf := brF hf q208
    refine lv_tableOut (tgt := 74) hx hb dX1_sizeOf_12 (by have hq102 := lv_neT q102 (a := 1) (by decide); have hq203 := lv_neT q203 (a := 2) (by decide); have hq204 := lv_neT q204 (a := 3) (by decide); have hq205 := lv_neT q205 (a := 4) (by decide); have hq208 := lv_neT q208 (a := 5) (by decide); omega) (by decide) ?_
    refine lv_aload_n hx hb dX1_sizeOf_74 rfl (lv_at hl 0 rfl) ?_
    refine lv_aload_n hx hb dX1_sizeOf_75 rfl (lv_at hl 1 rfl) ?_
    obtain ⟨r212, σ211, eσ211, hf⟩ := bnd2 hf
    refine g_cVi (As := [.ref (B + k0)]) X.1 hH hS (c_X1_sizeOfAny l G B k0 h0 σ σ211 r212 eσ211) kw_RX1_38 kX1 kx_236 (by decide) rfl hl (Nat.le_of_ble_eq_true rfl) rfl dX1_sizeOf_76 (fun H locs hH hS => ?_)
    obtain ⟨rfl, rfl⟩ := rt2 hf
    exact g_iret X hH hS dX1_sizeOf_79
  · replace hf := brF hf q101
    refine lv_iconst (v := 0) hx hb dX1_sizeOf_6 (by decide) ?_
    obtain ⟨rfl, rfl⟩ := rt2 hf
    exact g_iret X hH hS dX1_sizeOf_7
theorem c_X1_sizeOf_0 (l : Launch) (G : Gd) (B : Nat) (k0 : Nat) (h0 : (k0 < layX.2.2 ∧ layX.1 k0 = .inl 3)) (x2 : Int32) (σ σr : Sto) (r : Int32) (hf : f_X1_sizeOf_0 k0 x2 σ = some (r, σr)) : Ct l G layX B yX1_sizeOf cX1_sizeOf 3 (some .int) 4 [.ref (B + 236), .ref (B + k0), .int x2] (some (.int r)) σ σr :=
  Ct.ofW (by decide) (Nat.le_of_ble_eq_true rfl) (fun _ _ _ _ _ _ _ X hH hS ls hl => w_X1_sizeOf_0 X k0 h0 x2 σ hf _ _ hH hS ls (show lv_has ls 3 [(0, .ref (B + 236)), (1, .ref (B + k0)), (2, .int x2)] from hl))
-- SlackProofs$Asker.markOfDerived(LSlackProofs$Clause;I)I  (D 5)
def f_X1_markOfDerived (k0 : Nat) (x2 : Int32) (σ : Sto) : Option (Int32 × Sto) :=
  bd1 (f_X1_begins (23 : Int32) σ) fun σ101 => bd2 (f_X1_markOfAny k0 σ101) fun r104 σ103 => bd2 (f_X1_sizeOf_0 k0 (x2 + (1 : Int32)) σ103) fun r106 σ105 => some ((r104 - r106), σ105)
set_option maxHeartbeats 4000000 in
set_option maxRecDepth 100000 in
theorem w_X1_markOfDerived {p : Program} {l : Launch} {e : Env} {s : State} {m : MethodId} {args : Array Value} {below : List Frame} {meth : Method} {c : Code} {G : Gd} {B : Nat} (X : Cm p s m args meth c cX1_markOfDerived 4 RX1 G (some .int)) (k0 : Nat) (h0 : (k0 < layX.2.2 ∧ layX.1 k0 = .inl 3)) {r : Int32} {σr : Sto} (x2 : Int32) (σ : Sto) (hf : f_X1_markOfDerived k0 x2 σ = some (r, σr)) (H : Heap) (locs : List Loc) (hH : HX G layX B σ H) (hS : va_S (inW layX B) s.heap H locs) (ls : Array Slot) (hl : lv_has ls 4 [(0, .ref (B + 236)), (1, .ref (B + k0)), (2, .int x2)]) : WM p l e 5 s m args below meth c H locs G layX B (some (.int r)) σr (F0 m 0 ls []) := by
  unfold f_X1_markOfDerived at hf
  have hx := X.1.1
  have hb := X.1.2.1
  refine lv_aload_n hx hb dX1_markOfDerived_0 rfl (lv_at hl 0 rfl) ?_
  refine lv_bipush (v := 23) hx hb dX1_markOfDerived_1 (by decide) ?_
  obtain ⟨σ101, eσ101, hf⟩ := bnd1 hf
  refine g_cVv (As := [.int (23 : Int32)]) X.1 hH hS (c_X1_begins l G B (23 : Int32) σ σ101 eσ101) kw_RX1_41 kX1 kx_236 (by decide) rfl hl (Nat.le_of_ble_eq_true rfl) rfl dX1_markOfDerived_3 (fun H locs hH hS => ?_)
  refine lv_aload_n hx hb dX1_markOfDerived_6 rfl (lv_at hl 0 rfl) ?_
  refine lv_aload_n hx hb dX1_markOfDerived_7 rfl (lv_at hl 1 rfl) ?_
  obtain ⟨r104, σ103, eσ103, hf⟩ := bnd2 hf
  refine g_cVi (As := [.ref (B + k0)]) X.1 hH hS (c_X1_markOfAny l G B k0 h0 σ101 σ103 r104 eσ103) kw_RX1_64 kX1 kx_236 (by decide) rfl hl (Nat.le_of_ble_eq_true rfl) rfl dX1_markOfDerived_8 (fun H locs hH hS => ?_)
  refine lv_istore_n (lv' := [(3, .int r104), (0, .ref (B + 236)), (1, .ref (B + k0)), (2, .int x2)]) hx hb dX1_markOfDerived_11 rfl hl (by decide) rfl (fun ls hl => ?_)
  refine lv_iload_n hx hb dX1_markOfDerived_12 rfl (lv_at hl 0 rfl) ?_
  refine lv_aload_n hx hb dX1_markOfDerived_13 rfl (lv_at hl 1 rfl) ?_
  refine lv_aload_n hx hb dX1_markOfDerived_14 rfl (lv_at hl 2 rfl) ?_
  refine lv_iload_n hx hb dX1_markOfDerived_15 rfl (lv_at hl 3 rfl) ?_
  refine lv_iconst (v := 1) hx hb dX1_markOfDerived_16 (by decide) ?_
  refine lv_iadd hx hb dX1_markOfDerived_17 ?_
  obtain ⟨r106, σ105, eσ105, hf⟩ := bnd2 hf
  refine g_cVi (As := [.ref (B + k0), .int (x2 + (1 : Int32))]) X.1 hH hS (c_X1_sizeOf_0 l G B k0 h0 (x2 + (1 : Int32)) σ103 σ105 r106 eσ105) kw_RX1_73 kX1 kx_236 (by decide) rfl hl (Nat.le_of_ble_eq_true rfl) rfl dX1_markOfDerived_18 (fun H locs hH hS => ?_)
  refine lv_isub hx hb dX1_markOfDerived_21 ?_
  obtain ⟨rfl, rfl⟩ := rt2 hf
  exact g_iret X hH hS dX1_markOfDerived_22
theorem c_X1_markOfDerived (l : Launch) (G : Gd) (B : Nat) (k0 : Nat) (h0 : (k0 < layX.2.2 ∧ layX.1 k0 = .inl 3)) (x2 : Int32) (σ σr : Sto) (r : Int32) (hf : f_X1_markOfDerived k0 x2 σ = some (r, σr)) : Ct l G layX B yX1_markOfDerived cX1_markOfDerived 4 (some .int) 5 [.ref (B + 236), .ref (B + k0), .int x2] (some (.int r)) σ σr :=
  Ct.ofW (by decide) (Nat.le_of_ble_eq_true rfl) (fun _ _ _ _ _ _ _ X hH hS ls hl => w_X1_markOfDerived X k0 h0 x2 σ hf _ _ hH hS ls (show lv_has ls 4 [(0, .ref (B + 236)), (1, .ref (B + k0)), (2, .int x2)] from hl))
-- SlackProofs$Asker.markOf(LSlackProofs$Clause;I)I  (D 6)
def b_X1_markOf_66 (k0 : Nat) (v2 : Int32) (σ : Sto) : Option (Int32 × Sto) :=
  bd2 (f_X1_markOfDerived k0 v2 σ) fun r213 σ212 => some (r213, σ212)
set_option maxHeartbeats 4000000 in
set_option maxRecDepth 100000 in
theorem w_X1_markOf_66 {p : Program} {l : Launch} {e : Env} {s : State} {m : MethodId} {args : Array Value} {below : List Frame} {meth : Method} {c : Code} {G : Gd} {B : Nat} (X : Cm p s m args meth c cX1_markOf 3 RX1 G (some .int)) (k0 : Nat) (h0 : (k0 < layX.2.2 ∧ layX.1 k0 = .inl 3)) {r : Int32} {σr : Sto} (v2 : Int32) (σ : Sto) (hf : b_X1_markOf_66 k0 v2 σ = some (r, σr)) (H : Heap) (locs : List Loc) (hH : HX G layX B σ H) (hS : va_S (inW layX B) s.heap H locs) (ls : Array Slot) (hl : lv_has ls 3 [(0, .ref (B + 236)), (1, .ref (B + k0)), (2, .int v2)]) : WM p l e 6 s m args below meth c H locs G layX B (some (.int r)) σr (F0 m 66 ls []) := by
  unfold b_X1_markOf_66 at hf
  have hx := X.1.1
  have hb := X.1.2.1
  refine lv_aload_n hx hb dX1_markOf_66 rfl (lv_at hl 0 rfl) ?_
  refine lv_aload_n hx hb dX1_markOf_67 rfl (lv_at hl 1 rfl) ?_
  refine lv_iload_n hx hb dX1_markOf_68 rfl (lv_at hl 2 rfl) ?_
  obtain ⟨r213, σ212, eσ212, hf⟩ := bnd2 hf
  refine g_cVi (As := [.ref (B + k0), .int v2]) X.1 hH hS (c_X1_markOfDerived l G B k0 h0 v2 σ σ212 r213 eσ212) kw_RX1_61 kX1 kx_236 (by decide) rfl hl (Nat.le_of_ble_eq_true rfl) rfl dX1_markOf_69 (fun H locs hH hS => ?_)
  obtain ⟨rfl, rfl⟩ := rt2 hf
  exact g_iret X hH hS dX1_markOf_72
def f_X1_markOf (k0 : Nat) (x2 : Int32) (σ : Sto) : Option (Int32 × Sto) :=
  if x2 ≤ (8 : Int32) then (if (σ.1 k0 3) = 1 then (bd2 (f_X1_markOfGiven k0 σ) fun r104 σ103 => some (r104, σ103)) else (if (σ.1 k0 3) = 2 then (bd2 (f_X1_markOfAxiom k0 σ) fun r107 σ106 => some (r107, σ106)) else (if (σ.1 k0 3) = 3 then (bd2 (f_X1_markOfBound k0 σ) fun r110 σ109 => some (r110, σ109)) else (if (σ.1 k0 3) = 4 then (b_X1_markOf_66 k0 x2 σ) else (if (σ.1 k0 3) = 5 then (b_X1_markOf_66 k0 x2 σ) else (bd2 (f_X1_markOfAny k0 σ) fun r216 σ215 => some (r216, σ215))))))) else (some ((0 : Int32), σ))
set_option maxHeartbeats 4000000 in
set_option maxRecDepth 100000 in
theorem w_X1_markOf {p : Program} {l : Launch} {e : Env} {s : State} {m : MethodId} {args : Array Value} {below : List Frame} {meth : Method} {c : Code} {G : Gd} {B : Nat} (X : Cm p s m args meth c cX1_markOf 3 RX1 G (some .int)) (k0 : Nat) (h0 : (k0 < layX.2.2 ∧ layX.1 k0 = .inl 3)) {r : Int32} {σr : Sto} (x2 : Int32) (σ : Sto) (hf : f_X1_markOf k0 x2 σ = some (r, σr)) (H : Heap) (locs : List Loc) (hH : HX G layX B σ H) (hS : va_S (inW layX B) s.heap H locs) (ls : Array Slot) (hl : lv_has ls 3 [(0, .ref (B + 236)), (1, .ref (B + k0)), (2, .int x2)]) : WM p l e 6 s m args below meth c H locs G layX B (some (.int r)) σr (F0 m 0 ls []) := by
  unfold f_X1_markOf at hf
  have hx := X.1.1
  have hb := X.1.2.1
  refine lv_iload_n hx hb dX1_markOf_0 rfl (lv_at hl 2 rfl) ?_
  refine lv_bipush (v := 8) hx hb dX1_markOf_1 (by decide) ?_
  refine lv_icmp_le (tgt := 8) hx hb dX1_markOf_3 (by decide) (fun q101 => ?_) (fun q101 => ?_)
  · replace hf := brT hf q101
    refine lv_aload_n hx hb dX1_markOf_8 rfl (lv_at hl 1 rfl) ?_
    refine g_get (v := .int (σ.1 k0 3)) kX3 (by decide) fl_RX1_19 X.1 hH h0 rfl dX1_markOf_9 ?_
    by_cases q102 : (σ.1 k0 3) = 1
    · replace hf := brT hf q102
      refine lv_tableIn (tgt := 48) (off := 36) hx hb dX1_markOf_12 (by rw [q102]; decide) (by rw [q102]; decide) (by rw [q102]; decide) (by decide) ?_
      refine lv_aload_n hx hb dX1_markOf_48 rfl (lv_at hl 0 rfl) ?_
      refine lv_aload_n hx hb dX1_markOf_49 rfl (lv_at hl 1 rfl) ?_
      obtain ⟨r104, σ103, eσ103, hf⟩ := bnd2 hf
      refine g_cVi (As := [.ref (B + k0)]) X.1 hH hS (c_X1_markOfGiven l G B k0 h0 σ σ103 r104 eσ103) kw_RX1_52 kX1 kx_236 (by decide) rfl hl (Nat.le_of_ble_eq_true rfl) rfl dX1_markOf_50 (fun H locs hH hS => ?_)
      obtain ⟨rfl, rfl⟩ := rt2 hf
      exact g_iret X hH hS dX1_markOf_53
    replace hf := brF hf q102
    by_cases q105 : (σ.1 k0 3) = 2
    · replace hf := brT hf q105
      refine lv_tableIn (tgt := 54) (off := 42) hx hb dX1_markOf_12 (by rw [q105]; decide) (by rw [q105]; decide) (by rw [q105]; decide) (by decide) ?_
      refine lv_aload_n hx hb dX1_markOf_54 rfl (lv_at hl 0 rfl) ?_
      refine lv_aload_n hx hb dX1_markOf_55 rfl (lv_at hl 1 rfl) ?_
      obtain ⟨r107, σ106, eσ106, hf⟩ := bnd2 hf
      refine g_cVi (As := [.ref (B + k0)]) X.1 hH hS (c_X1_markOfAxiom l G B k0 h0 σ σ106 r107 eσ106) kw_RX1_55 kX1 kx_236 (by decide) rfl hl (Nat.le_of_ble_eq_true rfl) rfl dX1_markOf_56 (fun H locs hH hS => ?_)
      obtain ⟨rfl, rfl⟩ := rt2 hf
      exact g_iret X hH hS dX1_markOf_59
    replace hf := brF hf q105
    by_cases q108 : (σ.1 k0 3) = 3
    · replace hf := brT hf q108
      refine lv_tableIn (tgt := 60) (off := 48) hx hb dX1_markOf_12 (by rw [q108]; decide) (by rw [q108]; decide) (by rw [q108]; decide) (by decide) ?_
      refine lv_aload_n hx hb dX1_markOf_60 rfl (lv_at hl 0 rfl) ?_
      refine lv_aload_n hx hb dX1_markOf_61 rfl (lv_at hl 1 rfl) ?_
      obtain ⟨r110, σ109, eσ109, hf⟩ := bnd2 hf
      refine g_cVi (As := [.ref (B + k0)]) X.1 hH hS (c_X1_markOfBound l G B k0 h0 σ σ109 r110 eσ109) kw_RX1_58 kX1 kx_236 (by decide) rfl hl (Nat.le_of_ble_eq_true rfl) rfl dX1_markOf_62 (fun H locs hH hS => ?_)
      obtain ⟨rfl, rfl⟩ := rt2 hf
      exact g_iret X hH hS dX1_markOf_65
    replace hf := brF hf q108
    by_cases q111 : (σ.1 k0 3) = 4
    · replace hf := brT hf q111
      refine lv_tableIn (tgt := 66) (off := 54) hx hb dX1_markOf_12 (by rw [q111]; decide) (by rw [q111]; decide) (by rw [q111]; decide) (by decide) ?_
      exact w_X1_markOf_66 X k0 h0 x2 σ hf _ _ hH hS _ (lv_sub hl [0, 1, 2] rfl)
    replace hf := brF hf q111
    by_cases q214 : (σ.1 k0 3) = 5
    · replace hf := brT hf q214
      refine lv_tableIn (tgt := 66) (off := 54) hx hb dX1_markOf_12 (by rw [q214]; decide) (by rw [q214]; decide) (by rw [q214]; decide) (by decide) ?_
      exact w_X1_markOf_66 X k0 h0 x2 σ hf _ _ hH hS _ (lv_sub hl [0, 1, 2] rfl)
    replace hf := brF hf q214
    refine lv_tableOut (tgt := 73) hx hb dX1_markOf_12 (by have hq102 := lv_neT q102 (a := 1) (by decide); have hq105 := lv_neT q105 (a := 2) (by decide); have hq108 := lv_neT q108 (a := 3) (by decide); have hq111 := lv_neT q111 (a := 4) (by decide); have hq214 := lv_neT q214 (a := 5) (by decide); omega) (by decide) ?_
    refine lv_aload_n hx hb dX1_markOf_73 rfl (lv_at hl 0 rfl) ?_
    refine lv_aload_n hx hb dX1_markOf_74 rfl (lv_at hl 1 rfl) ?_
    obtain ⟨r216, σ215, eσ215, hf⟩ := bnd2 hf
    refine g_cVi (As := [.ref (B + k0)]) X.1 hH hS (c_X1_markOfAny l G B k0 h0 σ σ215 r216 eσ215) kw_RX1_64 kX1 kx_236 (by decide) rfl hl (Nat.le_of_ble_eq_true rfl) rfl dX1_markOf_75 (fun H locs hH hS => ?_)
    obtain ⟨rfl, rfl⟩ := rt2 hf
    exact g_iret X hH hS dX1_markOf_78
  · replace hf := brF hf q101
    refine lv_iconst (v := 0) hx hb dX1_markOf_6 (by decide) ?_
    obtain ⟨rfl, rfl⟩ := rt2 hf
    exact g_iret X hH hS dX1_markOf_7
theorem c_X1_markOf (l : Launch) (G : Gd) (B : Nat) (k0 : Nat) (h0 : (k0 < layX.2.2 ∧ layX.1 k0 = .inl 3)) (x2 : Int32) (σ σr : Sto) (r : Int32) (hf : f_X1_markOf k0 x2 σ = some (r, σr)) : Ct l G layX B yX1_markOf cX1_markOf 3 (some .int) 6 [.ref (B + 236), .ref (B + k0), .int x2] (some (.int r)) σ σr :=
  Ct.ofW (by decide) (Nat.le_of_ble_eq_true rfl) (fun _ _ _ _ _ _ _ X hH hS ls hl => w_X1_markOf X k0 h0 x2 σ hf _ _ hH hS ls (show lv_has ls 3 [(0, .ref (B + 236)), (1, .ref (B + k0)), (2, .int x2)] from hl))
-- SlackProofs$Asker.markOf(LSlackProofs$Clause;I)I _0 (D 4)
def b_X1_markOf_0_66 (k0 : Nat) (v2 : Int32) (σ : Sto) : Option (Int32 × Sto) :=
  none
set_option maxHeartbeats 4000000 in
set_option maxRecDepth 100000 in
theorem w_X1_markOf_0_66 {p : Program} {l : Launch} {e : Env} {s : State} {m : MethodId} {args : Array Value} {below : List Frame} {meth : Method} {c : Code} {G : Gd} {B : Nat} (X : Cm p s m args meth c cX1_markOf 3 RX1 G (some .int)) (k0 : Nat) (h0 : (k0 < layX.2.2 ∧ layX.1 k0 = .inl 3)) {r : Int32} {σr : Sto} (v2 : Int32) (σ : Sto) (hf : b_X1_markOf_0_66 k0 v2 σ = some (r, σr)) (H : Heap) (locs : List Loc) (hH : HX G layX B σ H) (hS : va_S (inW layX B) s.heap H locs) (ls : Array Slot) (hl : lv_has ls 3 [(0, .ref (B + 236)), (1, .ref (B + k0)), (2, .int v2)]) : WM p l e 4 s m args below meth c H locs G layX B (some (.int r)) σr (F0 m 66 ls []) := by
  unfold b_X1_markOf_0_66 at hf
  have hx := X.1.1
  have hb := X.1.2.1
  refine lv_aload_n hx hb dX1_markOf_66 rfl (lv_at hl 0 rfl) ?_
  refine lv_aload_n hx hb dX1_markOf_67 rfl (lv_at hl 1 rfl) ?_
  refine lv_iload_n hx hb dX1_markOf_68 rfl (lv_at hl 2 rfl) ?_
  cases hf
def f_X1_markOf_0 (k0 : Nat) (x2 : Int32) (σ : Sto) : Option (Int32 × Sto) :=
  if x2 ≤ (8 : Int32) then (if (σ.1 k0 3) = 1 then (bd2 (f_X1_markOfGiven k0 σ) fun r104 σ103 => some (r104, σ103)) else (if (σ.1 k0 3) = 2 then (bd2 (f_X1_markOfAxiom k0 σ) fun r107 σ106 => some (r107, σ106)) else (if (σ.1 k0 3) = 3 then (bd2 (f_X1_markOfBound k0 σ) fun r110 σ109 => some (r110, σ109)) else (if (σ.1 k0 3) = 4 then (b_X1_markOf_0_66 k0 x2 σ) else (if (σ.1 k0 3) = 5 then (b_X1_markOf_0_66 k0 x2 σ) else (bd2 (f_X1_markOfAny k0 σ) fun r214 σ213 => some (r214, σ213))))))) else (some ((0 : Int32), σ))
set_option maxHeartbeats 4000000 in
set_option maxRecDepth 100000 in
theorem w_X1_markOf_0 {p : Program} {l : Launch} {e : Env} {s : State} {m : MethodId} {args : Array Value} {below : List Frame} {meth : Method} {c : Code} {G : Gd} {B : Nat} (X : Cm p s m args meth c cX1_markOf 3 RX1 G (some .int)) (k0 : Nat) (h0 : (k0 < layX.2.2 ∧ layX.1 k0 = .inl 3)) {r : Int32} {σr : Sto} (x2 : Int32) (σ : Sto) (hf : f_X1_markOf_0 k0 x2 σ = some (r, σr)) (H : Heap) (locs : List Loc) (hH : HX G layX B σ H) (hS : va_S (inW layX B) s.heap H locs) (ls : Array Slot) (hl : lv_has ls 3 [(0, .ref (B + 236)), (1, .ref (B + k0)), (2, .int x2)]) : WM p l e 4 s m args below meth c H locs G layX B (some (.int r)) σr (F0 m 0 ls []) := by
  unfold f_X1_markOf_0 at hf
  have hx := X.1.1
  have hb := X.1.2.1
  refine lv_iload_n hx hb dX1_markOf_0 rfl (lv_at hl 2 rfl) ?_
  refine lv_bipush (v := 8) hx hb dX1_markOf_1 (by decide) ?_
  refine lv_icmp_le (tgt := 8) hx hb dX1_markOf_3 (by decide) (fun q101 => ?_) (fun q101 => ?_)
  · replace hf := brT hf q101
    refine lv_aload_n hx hb dX1_markOf_8 rfl (lv_at hl 1 rfl) ?_
    refine g_get (v := .int (σ.1 k0 3)) kX3 (by decide) fl_RX1_19 X.1 hH h0 rfl dX1_markOf_9 ?_
    by_cases q102 : (σ.1 k0 3) = 1
    · replace hf := brT hf q102
      refine lv_tableIn (tgt := 48) (off := 36) hx hb dX1_markOf_12 (by rw [q102]; decide) (by rw [q102]; decide) (by rw [q102]; decide) (by decide) ?_
      refine lv_aload_n hx hb dX1_markOf_48 rfl (lv_at hl 0 rfl) ?_
      refine lv_aload_n hx hb dX1_markOf_49 rfl (lv_at hl 1 rfl) ?_
      obtain ⟨r104, σ103, eσ103, hf⟩ := bnd2 hf
      refine g_cVi (As := [.ref (B + k0)]) X.1 hH hS (c_X1_markOfGiven l G B k0 h0 σ σ103 r104 eσ103) kw_RX1_52 kX1 kx_236 (by decide) rfl hl (Nat.le_of_ble_eq_true rfl) rfl dX1_markOf_50 (fun H locs hH hS => ?_)
      obtain ⟨rfl, rfl⟩ := rt2 hf
      exact g_iret X hH hS dX1_markOf_53
    replace hf := brF hf q102
    by_cases q105 : (σ.1 k0 3) = 2
    · replace hf := brT hf q105
      refine lv_tableIn (tgt := 54) (off := 42) hx hb dX1_markOf_12 (by rw [q105]; decide) (by rw [q105]; decide) (by rw [q105]; decide) (by decide) ?_
      refine lv_aload_n hx hb dX1_markOf_54 rfl (lv_at hl 0 rfl) ?_
      refine lv_aload_n hx hb dX1_markOf_55 rfl (lv_at hl 1 rfl) ?_
      obtain ⟨r107, σ106, eσ106, hf⟩ := bnd2 hf
      refine g_cVi (As := [.ref (B + k0)]) X.1 hH hS (c_X1_markOfAxiom l G B k0 h0 σ σ106 r107 eσ106) kw_RX1_55 kX1 kx_236 (by decide) rfl hl (Nat.le_of_ble_eq_true rfl) rfl dX1_markOf_56 (fun H locs hH hS => ?_)
      obtain ⟨rfl, rfl⟩ := rt2 hf
      exact g_iret X hH hS dX1_markOf_59
    replace hf := brF hf q105
    by_cases q108 : (σ.1 k0 3) = 3
    · replace hf := brT hf q108
      refine lv_tableIn (tgt := 60) (off := 48) hx hb dX1_markOf_12 (by rw [q108]; decide) (by rw [q108]; decide) (by rw [q108]; decide) (by decide) ?_
      refine lv_aload_n hx hb dX1_markOf_60 rfl (lv_at hl 0 rfl) ?_
      refine lv_aload_n hx hb dX1_markOf_61 rfl (lv_at hl 1 rfl) ?_
      obtain ⟨r110, σ109, eσ109, hf⟩ := bnd2 hf
      refine g_cVi (As := [.ref (B + k0)]) X.1 hH hS (c_X1_markOfBound l G B k0 h0 σ σ109 r110 eσ109) kw_RX1_58 kX1 kx_236 (by decide) rfl hl (Nat.le_of_ble_eq_true rfl) rfl dX1_markOf_62 (fun H locs hH hS => ?_)
      obtain ⟨rfl, rfl⟩ := rt2 hf
      exact g_iret X hH hS dX1_markOf_65
    replace hf := brF hf q108
    by_cases q111 : (σ.1 k0 3) = 4
    · replace hf := brT hf q111
      refine lv_tableIn (tgt := 66) (off := 54) hx hb dX1_markOf_12 (by rw [q111]; decide) (by rw [q111]; decide) (by rw [q111]; decide) (by decide) ?_
      exact w_X1_markOf_0_66 X k0 h0 x2 σ hf _ _ hH hS _ (lv_sub hl [0, 1, 2] rfl)
    replace hf := brF hf q111
    by_cases q212 : (σ.1 k0 3) = 5
    · replace hf := brT hf q212
      refine lv_tableIn (tgt := 66) (off := 54) hx hb dX1_markOf_12 (by rw [q212]; decide) (by rw [q212]; decide) (by rw [q212]; decide) (by decide) ?_
      exact w_X1_markOf_0_66 X k0 h0 x2 σ hf _ _ hH hS _ (lv_sub hl [0, 1, 2] rfl)
    replace hf := brF hf q212
    refine lv_tableOut (tgt := 73) hx hb dX1_markOf_12 (by have hq102 := lv_neT q102 (a := 1) (by decide); have hq105 := lv_neT q105 (a := 2) (by decide); have hq108 := lv_neT q108 (a := 3) (by decide); have hq111 := lv_neT q111 (a := 4) (by decide); have hq212 := lv_neT q212 (a := 5) (by decide); omega) (by decide) ?_
    refine lv_aload_n hx hb dX1_markOf_73 rfl (lv_at hl 0 rfl) ?_
    refine lv_aload_n hx hb dX1_markOf_74 rfl (lv_at hl 1 rfl) ?_
    obtain ⟨r214, σ213, eσ213, hf⟩ := bnd2 hf
    refine g_cVi (As := [.ref (B + k0)]) X.1 hH hS (c_X1_markOfAny l G B k0 h0 σ σ213 r214 eσ213) kw_RX1_64 kX1 kx_236 (by decide) rfl hl (Nat.le_of_ble_eq_true rfl) rfl dX1_markOf_75 (fun H locs hH hS => ?_)
    obtain ⟨rfl, rfl⟩ := rt2 hf
    exact g_iret X hH hS dX1_markOf_78
  · replace hf := brF hf q101
    refine lv_iconst (v := 0) hx hb dX1_markOf_6 (by decide) ?_
    obtain ⟨rfl, rfl⟩ := rt2 hf
    exact g_iret X hH hS dX1_markOf_7
theorem c_X1_markOf_0 (l : Launch) (G : Gd) (B : Nat) (k0 : Nat) (h0 : (k0 < layX.2.2 ∧ layX.1 k0 = .inl 3)) (x2 : Int32) (σ σr : Sto) (r : Int32) (hf : f_X1_markOf_0 k0 x2 σ = some (r, σr)) : Ct l G layX B yX1_markOf cX1_markOf 3 (some .int) 4 [.ref (B + 236), .ref (B + k0), .int x2] (some (.int r)) σ σr :=
  Ct.ofW (by decide) (Nat.le_of_ble_eq_true rfl) (fun _ _ _ _ _ _ _ X hH hS ls hl => w_X1_markOf_0 X k0 h0 x2 σ hf _ _ hH hS ls (show lv_has ls 3 [(0, .ref (B + 236)), (1, .ref (B + k0)), (2, .int x2)] from hl))
-- SlackProofs$Asker.sizeOfGiven(LSlackProofs$Clause;I)I  (D 5)
def f_X1_sizeOfGiven (k0 : Nat) (x2 : Int32) (σ : Sto) : Option (Int32 × Sto) :=
  bd1 (f_X1_begins (11 : Int32) σ) fun σ101 => bd2 (f_X1_sizeOfAny k0 σ101) fun r104 σ103 => bd2 (f_X1_markOf_0 k0 (x2 + (1 : Int32)) σ103) fun r106 σ105 => some ((r104 + r106), σ105)
set_option maxHeartbeats 4000000 in
set_option maxRecDepth 100000 in
theorem w_X1_sizeOfGiven {p : Program} {l : Launch} {e : Env} {s : State} {m : MethodId} {args : Array Value} {below : List Frame} {meth : Method} {c : Code} {G : Gd} {B : Nat} (X : Cm p s m args meth c cX1_sizeOfGiven 4 RX1 G (some .int)) (k0 : Nat) (h0 : (k0 < layX.2.2 ∧ layX.1 k0 = .inl 3)) {r : Int32} {σr : Sto} (x2 : Int32) (σ : Sto) (hf : f_X1_sizeOfGiven k0 x2 σ = some (r, σr)) (H : Heap) (locs : List Loc) (hH : HX G layX B σ H) (hS : va_S (inW layX B) s.heap H locs) (ls : Array Slot) (hl : lv_has ls 4 [(0, .ref (B + 236)), (1, .ref (B + k0)), (2, .int x2)]) : WM p l e 5 s m args below meth c H locs G layX B (some (.int r)) σr (F0 m 0 ls []) := by
  unfold f_X1_sizeOfGiven at hf
  have hx := X.1.1
  have hb := X.1.2.1
  refine lv_aload_n hx hb dX1_sizeOfGiven_0 rfl (lv_at hl 0 rfl) ?_
  refine lv_bipush (v := 11) hx hb dX1_sizeOfGiven_1 (by decide) ?_
  obtain ⟨σ101, eσ101, hf⟩ := bnd1 hf
  refine g_cVv (As := [.int (11 : Int32)]) X.1 hH hS (c_X1_begins l G B (11 : Int32) σ σ101 eσ101) kw_RX1_41 kX1 kx_236 (by decide) rfl hl (Nat.le_of_ble_eq_true rfl) rfl dX1_sizeOfGiven_3 (fun H locs hH hS => ?_)
  refine lv_aload_n hx hb dX1_sizeOfGiven_6 rfl (lv_at hl 0 rfl) ?_
  refine lv_aload_n hx hb dX1_sizeOfGiven_7 rfl (lv_at hl 1 rfl) ?_
  obtain ⟨r104, σ103, eσ103, hf⟩ := bnd2 hf
  refine g_cVi (As := [.ref (B + k0)]) X.1 hH hS (c_X1_sizeOfAny l G B k0 h0 σ101 σ103 r104 eσ103) kw_RX1_38 kX1 kx_236 (by decide) rfl hl (Nat.le_of_ble_eq_true rfl) rfl dX1_sizeOfGiven_8 (fun H locs hH hS => ?_)
  refine lv_istore_n (lv' := [(3, .int r104), (0, .ref (B + 236)), (1, .ref (B + k0)), (2, .int x2)]) hx hb dX1_sizeOfGiven_11 rfl hl (by decide) rfl (fun ls hl => ?_)
  refine lv_iload_n hx hb dX1_sizeOfGiven_12 rfl (lv_at hl 0 rfl) ?_
  refine lv_aload_n hx hb dX1_sizeOfGiven_13 rfl (lv_at hl 1 rfl) ?_
  refine lv_aload_n hx hb dX1_sizeOfGiven_14 rfl (lv_at hl 2 rfl) ?_
  refine lv_iload_n hx hb dX1_sizeOfGiven_15 rfl (lv_at hl 3 rfl) ?_
  refine lv_iconst (v := 1) hx hb dX1_sizeOfGiven_16 (by decide) ?_
  refine lv_iadd hx hb dX1_sizeOfGiven_17 ?_
  obtain ⟨r106, σ105, eσ105, hf⟩ := bnd2 hf
  refine g_cVi (As := [.ref (B + k0), .int (x2 + (1 : Int32))]) X.1 hH hS (c_X1_markOf_0 l G B k0 h0 (x2 + (1 : Int32)) σ103 σ105 r106 eσ105) kw_RX1_49 kX1 kx_236 (by decide) rfl hl (Nat.le_of_ble_eq_true rfl) rfl dX1_sizeOfGiven_18 (fun H locs hH hS => ?_)
  refine lv_iadd hx hb dX1_sizeOfGiven_21 ?_
  obtain ⟨rfl, rfl⟩ := rt2 hf
  exact g_iret X hH hS dX1_sizeOfGiven_22
theorem c_X1_sizeOfGiven (l : Launch) (G : Gd) (B : Nat) (k0 : Nat) (h0 : (k0 < layX.2.2 ∧ layX.1 k0 = .inl 3)) (x2 : Int32) (σ σr : Sto) (r : Int32) (hf : f_X1_sizeOfGiven k0 x2 σ = some (r, σr)) : Ct l G layX B yX1_sizeOfGiven cX1_sizeOfGiven 4 (some .int) 5 [.ref (B + 236), .ref (B + k0), .int x2] (some (.int r)) σ σr :=
  Ct.ofW (by decide) (Nat.le_of_ble_eq_true rfl) (fun _ _ _ _ _ _ _ X hH hS ls hl => w_X1_sizeOfGiven X k0 h0 x2 σ hf _ _ hH hS ls (show lv_has ls 4 [(0, .ref (B + 236)), (1, .ref (B + k0)), (2, .int x2)] from hl))
-- SlackProofs$Asker.sizeOfAxiom(LSlackProofs$Clause;I)I  (D 6)
def f_X1_sizeOfAxiom (k0 : Nat) (x2 : Int32) (σ : Sto) : Option (Int32 × Sto) :=
  bd1 (f_X1_begins (12 : Int32) σ) fun σ101 => bd2 (f_X1_sizeOfGiven k0 x2 σ101) fun r104 σ103 => some ((-r104), σ103)
set_option maxHeartbeats 4000000 in
set_option maxRecDepth 100000 in
theorem w_X1_sizeOfAxiom {p : Program} {l : Launch} {e : Env} {s : State} {m : MethodId} {args : Array Value} {below : List Frame} {meth : Method} {c : Code} {G : Gd} {B : Nat} (X : Cm p s m args meth c cX1_sizeOfAxiom 3 RX1 G (some .int)) (k0 : Nat) (h0 : (k0 < layX.2.2 ∧ layX.1 k0 = .inl 3)) {r : Int32} {σr : Sto} (x2 : Int32) (σ : Sto) (hf : f_X1_sizeOfAxiom k0 x2 σ = some (r, σr)) (H : Heap) (locs : List Loc) (hH : HX G layX B σ H) (hS : va_S (inW layX B) s.heap H locs) (ls : Array Slot) (hl : lv_has ls 3 [(0, .ref (B + 236)), (1, .ref (B + k0)), (2, .int x2)]) : WM p l e 6 s m args below meth c H locs G layX B (some (.int r)) σr (F0 m 0 ls []) := by
  unfold f_X1_sizeOfAxiom at hf
  have hx := X.1.1
  have hb := X.1.2.1
  refine lv_aload_n hx hb dX1_sizeOfAxiom_0 rfl (lv_at hl 0 rfl) ?_
  refine lv_bipush (v := 12) hx hb dX1_sizeOfAxiom_1 (by decide) ?_
  obtain ⟨σ101, eσ101, hf⟩ := bnd1 hf
  refine g_cVv (As := [.int (12 : Int32)]) X.1 hH hS (c_X1_begins l G B (12 : Int32) σ σ101 eσ101) kw_RX1_41 kX1 kx_236 (by decide) rfl hl (Nat.le_of_ble_eq_true rfl) rfl dX1_sizeOfAxiom_3 (fun H locs hH hS => ?_)
  refine lv_aload_n hx hb dX1_sizeOfAxiom_6 rfl (lv_at hl 0 rfl) ?_
  refine lv_aload_n hx hb dX1_sizeOfAxiom_7 rfl (lv_at hl 1 rfl) ?_
  refine lv_iload_n hx hb dX1_sizeOfAxiom_8 rfl (lv_at hl 2 rfl) ?_
  obtain ⟨r104, σ103, eσ103, hf⟩ := bnd2 hf
  refine g_cVi (As := [.ref (B + k0), .int x2]) X.1 hH hS (c_X1_sizeOfGiven l G B k0 h0 x2 σ101 σ103 r104 eσ103) kw_RX1_24 kX1 kx_236 (by decide) rfl hl (Nat.le_of_ble_eq_true rfl) rfl dX1_sizeOfAxiom_9 (fun H locs hH hS => ?_)
  refine lv_ineg hx hb dX1_sizeOfAxiom_12 ?_
  obtain ⟨rfl, rfl⟩ := rt2 hf
  exact g_iret X hH hS dX1_sizeOfAxiom_13
theorem c_X1_sizeOfAxiom (l : Launch) (G : Gd) (B : Nat) (k0 : Nat) (h0 : (k0 < layX.2.2 ∧ layX.1 k0 = .inl 3)) (x2 : Int32) (σ σr : Sto) (r : Int32) (hf : f_X1_sizeOfAxiom k0 x2 σ = some (r, σr)) : Ct l G layX B yX1_sizeOfAxiom cX1_sizeOfAxiom 3 (some .int) 6 [.ref (B + 236), .ref (B + k0), .int x2] (some (.int r)) σ σr :=
  Ct.ofW (by decide) (Nat.le_of_ble_eq_true rfl) (fun _ _ _ _ _ _ _ X hH hS ls hl => w_X1_sizeOfAxiom X k0 h0 x2 σ hf _ _ hH hS ls (show lv_has ls 3 [(0, .ref (B + 236)), (1, .ref (B + k0)), (2, .int x2)] from hl))
-- SlackProofs$Asker.sizeOf(LSlackProofs$Clause;I)I  (D 7)
def b_X1_sizeOf_48 (k0 : Nat) (v2 : Int32) (σ : Sto) : Option (Int32 × Sto) :=
  bd2 (f_X1_sizeOfGiven k0 v2 σ) fun r204 σ203 => some (r204, σ203)
set_option maxHeartbeats 4000000 in
set_option maxRecDepth 100000 in
theorem w_X1_sizeOf_48 {p : Program} {l : Launch} {e : Env} {s : State} {m : MethodId} {args : Array Value} {below : List Frame} {meth : Method} {c : Code} {G : Gd} {B : Nat} (X : Cm p s m args meth c cX1_sizeOf 3 RX1 G (some .int)) (k0 : Nat) (h0 : (k0 < layX.2.2 ∧ layX.1 k0 = .inl 3)) {r : Int32} {σr : Sto} (v2 : Int32) (σ : Sto) (hf : b_X1_sizeOf_48 k0 v2 σ = some (r, σr)) (H : Heap) (locs : List Loc) (hH : HX G layX B σ H) (hS : va_S (inW layX B) s.heap H locs) (ls : Array Slot) (hl : lv_has ls 3 [(0, .ref (B + 236)), (1, .ref (B + k0)), (2, .int v2)]) : WM p l e 7 s m args below meth c H locs G layX B (some (.int r)) σr (F0 m 48 ls []) := by
  unfold b_X1_sizeOf_48 at hf
  have hx := X.1.1
  have hb := X.1.2.1
  refine lv_aload_n hx hb dX1_sizeOf_48 rfl (lv_at hl 0 rfl) ?_
  refine lv_aload_n hx hb dX1_sizeOf_49 rfl (lv_at hl 1 rfl) ?_
  refine lv_iload_n hx hb dX1_sizeOf_50 rfl (lv_at hl 2 rfl) ?_
  obtain ⟨r204, σ203, eσ203, hf⟩ := bnd2 hf
  refine g_cVi (As := [.ref (B + k0), .int v2]) X.1 hH hS (c_X1_sizeOfGiven l G B k0 h0 v2 σ σ203 r204 eσ203) kw_RX1_24 kX1 kx_236 (by decide) rfl hl (Nat.le_of_ble_eq_true rfl) rfl dX1_sizeOf_51 (fun H locs hH hS => ?_)
  obtain ⟨rfl, rfl⟩ := rt2 hf
  exact g_iret X hH hS dX1_sizeOf_54
def f_X1_sizeOf (k0 : Nat) (x2 : Int32) (σ : Sto) : Option (Int32 × Sto) :=
  if x2 ≤ (8 : Int32) then (if (σ.1 k0 3) = 1 then (b_X1_sizeOf_48 k0 x2 σ) else (if (σ.1 k0 3) = 2 then (bd2 (f_X1_sizeOfAxiom k0 x2 σ) fun r207 σ206 => some (r207, σ206)) else (if (σ.1 k0 3) = 3 then (b_X1_sizeOf_48 k0 x2 σ) else (if (σ.1 k0 3) = 4 then (bd2 (f_X1_sizeOfDerived k0 σ) fun r211 σ210 => some (r211, σ210)) else (if (σ.1 k0 3) = 5 then (bd2 (f_X1_sizeOfClaimed k0 σ) fun r214 σ213 => some (r214, σ213)) else (bd2 (f_X1_sizeOfAny k0 σ) fun r216 σ215 => some (r216, σ215))))))) else (some ((0 : Int32), σ))
set_option maxHeartbeats 4000000 in
set_option maxRecDepth 100000 in
theorem w_X1_sizeOf {p : Program} {l : Launch} {e : Env} {s : State} {m : MethodId} {args : Array Value} {below : List Frame} {meth : Method} {c : Code} {G : Gd} {B : Nat} (X : Cm p s m args meth c cX1_sizeOf 3 RX1 G (some .int)) (k0 : Nat) (h0 : (k0 < layX.2.2 ∧ layX.1 k0 = .inl 3)) {r : Int32} {σr : Sto} (x2 : Int32) (σ : Sto) (hf : f_X1_sizeOf k0 x2 σ = some (r, σr)) (H : Heap) (locs : List Loc) (hH : HX G layX B σ H) (hS : va_S (inW layX B) s.heap H locs) (ls : Array Slot) (hl : lv_has ls 3 [(0, .ref (B + 236)), (1, .ref (B + k0)), (2, .int x2)]) : WM p l e 7 s m args below meth c H locs G layX B (some (.int r)) σr (F0 m 0 ls []) := by
  unfold f_X1_sizeOf at hf
  have hx := X.1.1
  have hb := X.1.2.1
  refine lv_iload_n hx hb dX1_sizeOf_0 rfl (lv_at hl 2 rfl) ?_
  refine lv_bipush (v := 8) hx hb dX1_sizeOf_1 (by decide) ?_
  refine lv_icmp_le (tgt := 8) hx hb dX1_sizeOf_3 (by decide) (fun q101 => ?_) (fun q101 => ?_)
  · replace hf := brT hf q101
    refine lv_aload_n hx hb dX1_sizeOf_8 rfl (lv_at hl 1 rfl) ?_
    refine g_get (v := .int (σ.1 k0 3)) kX3 (by decide) fl_RX1_19 X.1 hH h0 rfl dX1_sizeOf_9 ?_
    by_cases q102 : (σ.1 k0 3) = 1
    · replace hf := brT hf q102
      refine lv_tableIn (tgt := 48) (off := 36) hx hb dX1_sizeOf_12 (by rw [q102]; decide) (by rw [q102]; decide) (by rw [q102]; decide) (by decide) ?_
      exact w_X1_sizeOf_48 X k0 h0 x2 σ hf _ _ hH hS _ (lv_sub hl [0, 1, 2] rfl)
    replace hf := brF hf q102
    by_cases q205 : (σ.1 k0 3) = 2
    · replace hf := brT hf q205
      refine lv_tableIn (tgt := 55) (off := 43) hx hb dX1_sizeOf_12 (by rw [q205]; decide) (by rw [q205]; decide) (by rw [q205]; decide) (by decide) ?_
      refine lv_aload_n hx hb dX1_sizeOf_55 rfl (lv_at hl 0 rfl) ?_
      refine lv_aload_n hx hb dX1_sizeOf_56 rfl (lv_at hl 1 rfl) ?_
      refine lv_iload_n hx hb dX1_sizeOf_57 rfl (lv_at hl 2 rfl) ?_
      obtain ⟨r207, σ206, eσ206, hf⟩ := bnd2 hf
      refine g_cVi (As := [.ref (B + k0), .int x2]) X.1 hH hS (c_X1_sizeOfAxiom l G B k0 h0 x2 σ σ206 r207 eσ206) kw_RX1_28 kX1 kx_236 (by decide) rfl hl (Nat.le_of_ble_eq_true rfl) rfl dX1_sizeOf_58 (fun H locs hH hS => ?_)
      obtain ⟨rfl, rfl⟩ := rt2 hf
      exact g_iret X hH hS dX1_sizeOf_61
    replace hf := brF hf q205
    by_cases q208 : (σ.1 k0 3) = 3
    · replace hf := brT hf q208
      refine lv_tableIn (tgt := 48) (off := 36) hx hb dX1_sizeOf_12 (by rw [q208]; decide) (by rw [q208]; decide) (by rw [q208]; decide) (by decide) ?_
      exact w_X1_sizeOf_48 X k0 h0 x2 σ hf _ _ hH hS _ (lv_sub hl [0, 1, 2] rfl)
    replace hf := brF hf q208
    by_cases q209 : (σ.1 k0 3) = 4
    · replace hf := brT hf q209
      refine lv_tableIn (tgt := 62) (off := 50) hx hb dX1_sizeOf_12 (by rw [q209]; decide) (by rw [q209]; decide) (by rw [q209]; decide) (by decide) ?_
      refine lv_aload_n hx hb dX1_sizeOf_62 rfl (lv_at hl 0 rfl) ?_
      refine lv_aload_n hx hb dX1_sizeOf_63 rfl (lv_at hl 1 rfl) ?_
      obtain ⟨r211, σ210, eσ210, hf⟩ := bnd2 hf
      refine g_cVi (As := [.ref (B + k0)]) X.1 hH hS (c_X1_sizeOfDerived l G B k0 h0 σ σ210 r211 eσ210) kw_RX1_31 kX1 kx_236 (by decide) rfl hl (Nat.le_of_ble_eq_true rfl) rfl dX1_sizeOf_64 (fun H locs hH hS => ?_)
      obtain ⟨rfl, rfl⟩ := rt2 hf
      exact g_iret X hH hS dX1_sizeOf_67
    replace hf := brF hf q209
    by_cases q212 : (σ.1 k0 3) = 5
    · replace hf := brT hf q212
      refine lv_tableIn (tgt := 68) (off := 56) hx hb dX1_sizeOf_12 (by rw [q212]; decide) (by rw [q212]; decide) (by rw [q212]; decide) (by decide) ?_
      refine lv_aload_n hx hb dX1_sizeOf_68 rfl (lv_at hl 0 rfl) ?_
      refine lv_aload_n hx hb dX1_sizeOf_69 rfl (lv_at hl 1 rfl) ?_
      obtain ⟨r214, σ213, eσ213, hf⟩ := bnd2 hf
      refine g_cVi (As := [.ref (B + k0)]) X.1 hH hS (c_X1_sizeOfClaimed l G B k0 h0 σ σ213 r214 eσ213) kw_RX1_35 kX1 kx_236 (by decide) rfl hl (Nat.le_of_ble_eq_true rfl) rfl dX1_sizeOf_70 (fun H locs hH hS => ?_)
      obtain ⟨rfl, rfl⟩ := rt2 hf
      exact g_iret X hH hS dX1_sizeOf_73
    replace hf := brF hf q212
    refine lv_tableOut (tgt := 74) hx hb dX1_sizeOf_12 (by have hq102 := lv_neT q102 (a := 1) (by decide); have hq205 := lv_neT q205 (a := 2) (by decide); have hq208 := lv_neT q208 (a := 3) (by decide); have hq209 := lv_neT q209 (a := 4) (by decide); have hq212 := lv_neT q212 (a := 5) (by decide); omega) (by decide) ?_
    refine lv_aload_n hx hb dX1_sizeOf_74 rfl (lv_at hl 0 rfl) ?_
    refine lv_aload_n hx hb dX1_sizeOf_75 rfl (lv_at hl 1 rfl) ?_
    obtain ⟨r216, σ215, eσ215, hf⟩ := bnd2 hf
    refine g_cVi (As := [.ref (B + k0)]) X.1 hH hS (c_X1_sizeOfAny l G B k0 h0 σ σ215 r216 eσ215) kw_RX1_38 kX1 kx_236 (by decide) rfl hl (Nat.le_of_ble_eq_true rfl) rfl dX1_sizeOf_76 (fun H locs hH hS => ?_)
    obtain ⟨rfl, rfl⟩ := rt2 hf
    exact g_iret X hH hS dX1_sizeOf_79
  · replace hf := brF hf q101
    refine lv_iconst (v := 0) hx hb dX1_sizeOf_6 (by decide) ?_
    obtain ⟨rfl, rfl⟩ := rt2 hf
    exact g_iret X hH hS dX1_sizeOf_7
theorem c_X1_sizeOf (l : Launch) (G : Gd) (B : Nat) (k0 : Nat) (h0 : (k0 < layX.2.2 ∧ layX.1 k0 = .inl 3)) (x2 : Int32) (σ σr : Sto) (r : Int32) (hf : f_X1_sizeOf k0 x2 σ = some (r, σr)) : Ct l G layX B yX1_sizeOf cX1_sizeOf 3 (some .int) 7 [.ref (B + 236), .ref (B + k0), .int x2] (some (.int r)) σ σr :=
  Ct.ofW (by decide) (Nat.le_of_ble_eq_true rfl) (fun _ _ _ _ _ _ _ X hH hS ls hl => w_X1_sizeOf X k0 h0 x2 σ hf _ _ hH hS ls (show lv_has ls 3 [(0, .ref (B + 236)), (1, .ref (B + k0)), (2, .int x2)] from hl))
-- SlackProofs$Book.add(I)I  (D 0)
def f_X2_add (k0 : Nat) (x1 : Int32) (σ : Sto) : Option (Int32 × Sto) :=
  if ((σ.1 k0 3) < 0 ∨ 30 ≤ (σ.1 k0 3).toNatClampNeg) then none else nmS (pI σ (k0 + 3 + 2 * (σ.1 k0 3).toNatClampNeg) 3 x1) fun σ102 => nmS (pI σ102 k0 4 ((σ102.1 k0 4) ||| ((1 : Int32) <<< ((σ102.1 k0 3) &&& 31)))) fun σ103 => nmS (pI σ103 k0 3 ((σ103.1 k0 3) + (1 : Int32))) fun σ104 => some (((σ104.1 k0 3) - (1 : Int32)), σ104)
set_option maxHeartbeats 4000000 in
set_option maxRecDepth 100000 in
theorem w_X2_add {p : Program} {l : Launch} {e : Env} {s : State} {m : MethodId} {args : Array Value} {below : List Frame} {meth : Method} {c : Code} {G : Gd} {B : Nat} (X : Cm p s m args meth c cX2_add 2 RX2 G (some .int)) (k0 : Nat) (h0 : (k0 < layX.2.2 ∧ layX.1 k0 = .inl 2)) {r : Int32} {σr : Sto} (x1 : Int32) (σ : Sto) (hf : f_X2_add k0 x1 σ = some (r, σr)) (H : Heap) (locs : List Loc) (hH : HX G layX B σ H) (hS : va_S (inW layX B) s.heap H locs) (ls : Array Slot) (hl : lv_has ls 2 [(0, .ref (B + k0)), (1, .int x1)]) : WM p l e 0 s m args below meth c H locs G layX B (some (.int r)) σr (F0 m 0 ls []) := by
  unfold f_X2_add at hf
  have hx := X.1.1
  have hb := X.1.2.1
  refine lv_aload_n hx hb dX2_add_0 rfl (lv_at hl 0 rfl) ?_
  refine g_get (v := .ref (B + (k0 + 1))) kX2 (by decide) fl_RX2_11 X.1 hH h0 (bRef0 h0) dX2_add_1 ?_
  refine lv_aload_n hx hb dX2_add_4 rfl (lv_at hl 0 rfl) ?_
  refine g_get (v := .int (σ.1 k0 3)) kX2 (by decide) fl_RX2_39 X.1 hH h0 rfl dX2_add_5 ?_
  obtain ⟨q101, hf⟩ := chk hf
  refine g_aald (b := (k0 + 3 + 2 * (σ.1 k0 3).toNatClampNeg)) X.1 hH (bArr h0) (by decide) q101 (bRf h0 q101) dX2_add_8 ?_
  refine lv_iload_n hx hb dX2_add_9 rfl (lv_at hl 1 rfl) ?_
  refine g_putI kX3 (by decide) fl_RX2_57 rfl rfl X.1 hH hS (bCl h0 q101) dX2_add_10 (fun H locs hH hS => ?_)
  obtain ⟨σ102, eσ102, hH⟩ := nmX hH
  replace hf := nmU hf eσ102
  refine lv_aload_n hx hb dX2_add_13 rfl (lv_at hl 0 rfl) ?_
  refine lv_dup hx hb dX2_add_14 rfl ?_
  refine g_get (v := .int (σ102.1 k0 4)) kX2 (by decide) fl_RX2_42 X.1 hH h0 rfl dX2_add_15 ?_
  refine lv_iconst (v := 1) hx hb dX2_add_18 (by decide) ?_
  refine lv_aload_n hx hb dX2_add_19 rfl (lv_at hl 0 rfl) ?_
  refine g_get (v := .int (σ102.1 k0 3)) kX2 (by decide) fl_RX2_39 X.1 hH h0 rfl dX2_add_20 ?_
  refine lv_ishl hx hb dX2_add_23 ?_
  refine lv_ior hx hb dX2_add_24 ?_
  refine g_putI kX2 (by decide) fl_RX2_42 rfl rfl X.1 hH hS h0 dX2_add_25 (fun H locs hH hS => ?_)
  obtain ⟨σ103, eσ103, hH⟩ := nmX hH
  replace hf := nmU hf eσ103
  refine lv_aload_n hx hb dX2_add_28 rfl (lv_at hl 0 rfl) ?_
  refine lv_dup hx hb dX2_add_29 rfl ?_
  refine g_get (v := .int (σ103.1 k0 3)) kX2 (by decide) fl_RX2_39 X.1 hH h0 rfl dX2_add_30 ?_
  refine lv_iconst (v := 1) hx hb dX2_add_33 (by decide) ?_
  refine lv_iadd hx hb dX2_add_34 ?_
  refine g_putI kX2 (by decide) fl_RX2_39 rfl rfl X.1 hH hS h0 dX2_add_35 (fun H locs hH hS => ?_)
  obtain ⟨σ104, eσ104, hH⟩ := nmX hH
  replace hf := nmU hf eσ104
  refine lv_aload_n hx hb dX2_add_38 rfl (lv_at hl 0 rfl) ?_
  refine g_get (v := .int (σ104.1 k0 3)) kX2 (by decide) fl_RX2_39 X.1 hH h0 rfl dX2_add_39 ?_
  refine lv_iconst (v := 1) hx hb dX2_add_42 (by decide) ?_
  refine lv_isub hx hb dX2_add_43 ?_
  obtain ⟨rfl, rfl⟩ := rt2 hf
  exact g_iret X hH hS dX2_add_44
theorem c_X2_add (l : Launch) (G : Gd) (B : Nat) (k0 : Nat) (h0 : (k0 < layX.2.2 ∧ layX.1 k0 = .inl 2)) (x1 : Int32) (σ σr : Sto) (r : Int32) (hf : f_X2_add k0 x1 σ = some (r, σr)) : Ct l G layX B yX2_add cX2_add 2 (some .int) 0 [.ref (B + k0), .int x1] (some (.int r)) σ σr :=
  Ct.ofW (by decide) (Nat.le_of_ble_eq_true rfl) (fun _ _ _ _ _ _ _ X hH hS ls hl => w_X2_add X k0 h0 x1 σ hf _ _ hH hS ls (show lv_has ls 2 [(0, .ref (B + k0)), (1, .int x1)] from hl))
-- SlackProofs$Book.isLive(I)Z  (D 0)
def b_X2_isLive_17 (k0 : Nat) (s0 : Int32) (σ : Sto) : Option (Int32 × Sto) :=
  if ¬ (s0 = 0 ∨ s0 = 1) then none else some (s0, σ)
set_option maxHeartbeats 4000000 in
set_option maxRecDepth 100000 in
theorem w_X2_isLive_17 {p : Program} {l : Launch} {e : Env} {s : State} {m : MethodId} {args : Array Value} {below : List Frame} {meth : Method} {c : Code} {G : Gd} {B : Nat} (X : Cm p s m args meth c cX2_isLive 2 RX2 G (some .boolean)) (k0 : Nat) (h0 : (k0 < layX.2.2 ∧ layX.1 k0 = .inl 2)) {r : Int32} {σr : Sto} (s0 : Int32) (σ : Sto) (hf : b_X2_isLive_17 k0 s0 σ = some (r, σr)) (H : Heap) (locs : List Loc) (hH : HX G layX B σ H) (hS : va_S (inW layX B) s.heap H locs) (ls : Array Slot) (hl : lv_has ls 2 []) : WM p l e 0 s m args below meth c H locs G layX B (some (.int r)) σr (F0 m 17 ls [.int s0]) := by
  unfold b_X2_isLive_17 at hf
  have hx := X.1.1
  have hb := X.1.2.1
  obtain ⟨q202, hf⟩ := chk hf
  obtain ⟨rfl, rfl⟩ := rt2 hf
  exact g_zret X hH hS (Decidable.not_not.mp q202) dX2_isLive_17
def f_X2_isLive (k0 : Nat) (x1 : Int32) (σ : Sto) : Option (Int32 × Sto) :=
  if (((σ.1 k0 4).toUInt32 >>> (x1.toUInt32 &&& Int32.toUInt32 31)).toInt32 &&& (1 : Int32)) = (1 : Int32) then (b_X2_isLive_17 k0 (1 : Int32) σ) else (b_X2_isLive_17 k0 (0 : Int32) σ)
set_option maxHeartbeats 4000000 in
set_option maxRecDepth 100000 in
theorem w_X2_isLive {p : Program} {l : Launch} {e : Env} {s : State} {m : MethodId} {args : Array Value} {below : List Frame} {meth : Method} {c : Code} {G : Gd} {B : Nat} (X : Cm p s m args meth c cX2_isLive 2 RX2 G (some .boolean)) (k0 : Nat) (h0 : (k0 < layX.2.2 ∧ layX.1 k0 = .inl 2)) {r : Int32} {σr : Sto} (x1 : Int32) (σ : Sto) (hf : f_X2_isLive k0 x1 σ = some (r, σr)) (H : Heap) (locs : List Loc) (hH : HX G layX B σ H) (hS : va_S (inW layX B) s.heap H locs) (ls : Array Slot) (hl : lv_has ls 2 [(0, .ref (B + k0)), (1, .int x1)]) : WM p l e 0 s m args below meth c H locs G layX B (some (.int r)) σr (F0 m 0 ls []) := by
  unfold f_X2_isLive at hf
  have hx := X.1.1
  have hb := X.1.2.1
  refine lv_aload_n hx hb dX2_isLive_0 rfl (lv_at hl 0 rfl) ?_
  refine g_get (v := .int (σ.1 k0 4)) kX2 (by decide) fl_RX2_42 X.1 hH h0 rfl dX2_isLive_1 ?_
  refine lv_iload_n hx hb dX2_isLive_4 rfl (lv_at hl 1 rfl) ?_
  refine lv_iushr hx hb dX2_isLive_5 rfl ?_
  refine lv_iconst (v := 1) hx hb dX2_isLive_6 (by decide) ?_
  refine lv_iand hx hb dX2_isLive_7 ?_
  refine lv_iconst (v := 1) hx hb dX2_isLive_8 (by decide) ?_
  refine lv_icmp_ne (tgt := 16) hx hb dX2_isLive_9 (by decide) (fun q101 => ?_) (fun q101 => ?_)
  · replace hf := brF hf q101
    refine lv_iconst (v := 0) hx hb dX2_isLive_16 (by decide) ?_
    exact w_X2_isLive_17 X k0 h0 (0 : Int32) σ hf _ _ hH hS _ (lv_sub hl [] rfl)
  · replace hf := brT hf q101
    refine lv_iconst (v := 1) hx hb dX2_isLive_12 (by decide) ?_
    refine lv_goto (tgt := 17) hx hb dX2_isLive_13 (by decide) ?_
    exact w_X2_isLive_17 X k0 h0 (1 : Int32) σ hf _ _ hH hS _ (lv_sub hl [] rfl)
theorem c_X2_isLive (l : Launch) (G : Gd) (B : Nat) (k0 : Nat) (h0 : (k0 < layX.2.2 ∧ layX.1 k0 = .inl 2)) (x1 : Int32) (σ σr : Sto) (r : Int32) (hf : f_X2_isLive k0 x1 σ = some (r, σr)) : Ct l G layX B yX2_isLive cX2_isLive 2 (some .boolean) 0 [.ref (B + k0), .int x1] (some (.int r)) σ σr :=
  Ct.ofW (by decide) (Nat.le_of_ble_eq_true rfl) (fun _ _ _ _ _ _ _ X hH hS ls hl => w_X2_isLive X k0 h0 x1 σ hf _ _ hH hS ls (show lv_has ls 2 [(0, .ref (B + k0)), (1, .int x1)] from hl))
