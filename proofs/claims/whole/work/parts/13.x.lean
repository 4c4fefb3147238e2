-- SlackProofs$Book.bestValues()I  (D 4)
def b_X2_bestValues_41 (c5 : Int32 → Int32 → Sto → Option (Int32 × Sto)) (k0 : Nat) (v1 : Int32) (v2 : Int32) (σ : Sto) : Option (Int32 × Sto) :=
  c5 v1 (v2 + (1 : Int32)) σ
set_option maxHeartbeats 4000000 in
set_option maxRecDepth 100000 in
theorem w_X2_bestValues_41 {p : Program} {l : Launch} {e : Env} {s : State} {m : MethodId} {args : Array Value} {below : List Frame} {meth : Method} {c : Code} {G : Gd} {B : Nat} (X : Cm p s m args meth c cX2_bestValues 3 RX2 G (some .int)) (c5 : Int32 → Int32 → Sto → Option (Int32 × Sto)) (k0 : Nat) (h0 : (k0 < layX.2.2 ∧ layX.1 k0 = .inl 2)) {r : Int32} {σr : Sto} (ih5 : ∀ (v1 : Int32) (v2 : Int32) (σ : Sto) (H : Heap) (locs : List Loc) (ls : Array Slot), c5 v1 v2 σ = some (r, σr) → HX G layX B σ H → va_S (inW layX B) s.heap H locs → lv_has ls 3 [(0, .ref (B + k0)), (1, .int v1), (2, .int v2)] → WM p l e 4 s m args below meth c H locs G layX B (some (.int r)) σr (F0 m 5 ls [])) (v1 : Int32) (v2 : Int32) (σ : Sto) (hf : b_X2_bestValues_41 c5 k0 v1 v2 σ = some (r, σr)) (H : Heap) (locs : List Loc) (hH : HX G layX B σ H) (hS : va_S (inW layX B) s.heap H locs) (ls : Array Slot) (hl : lv_has ls 3 [(0, .ref (B + k0)), (1, .int v1), (2, .int v2)]) : WM p l e 4 s m args below meth c H locs G layX B (some (.int r)) σr (F0 m 41 ls []) := by
  unfold b_X2_bestValues_41 at hf
  have hx := X.1.1
  have hb := X.1.2.1
  refine lv_iinc (v := (v2 + (1 : Int32))) (lv' := [(2, .int (v2 + (1 : Int32))), (0, .ref (B + k0)), (1, .int v1)]) hx hb dX2_bestValues_41 hl (k := 2) rfl rfl (by decide) rfl (fun ls hl => ?_)
  refine lv_goto (tgt := 5) hx hb dX2_bestValues_44 (by decide) ?_
  exact ih5 v1 (v2 + (1 : Int32)) σ _ _ _ hf hH hS (lv_sub hl [1, 2, 0] rfl)
def b_X2_bestValues_31 (c5 : Int32 → Int32 → Sto → Option (Int32 × Sto)) (k0 : Nat) (v1 : Int32) (v2 : Int32) (σ : Sto) : Option (Int32 × Sto) :=
  bd2 (f_X2_allHold k0 v2 σ) fun r304 σ303 => if r304 = 0 then (b_X2_bestValues_41 c5 k0 v1 v2 σ303) else (b_X2_bestValues_41 c5 k0 v2 v2 σ303)
set_option maxHeartbeats 4000000 in
set_option maxRecDepth 100000 in
theorem w_X2_bestValues_31 {p : Program} {l : Launch} {e : Env} {s : State} {m : MethodId} {args : Array Value} {below : List Frame} {meth : Method} {c : Code} {G : Gd} {B : Nat} (X : Cm p s m args meth c cX2_bestValues 3 RX2 G (some .int)) (c5 : Int32 → Int32 → Sto → Option (Int32 × Sto)) (k0 : Nat) (h0 : (k0 < layX.2.2 ∧ layX.1 k0 = .inl 2)) {r : Int32} {σr : Sto} (ih5 : ∀ (v1 : Int32) (v2 : Int32) (σ : Sto) (H : Heap) (locs : List Loc) (ls : Array Slot), c5 v1 v2 σ = some (r, σr) → HX G layX B σ H → va_S (inW layX B) s.heap H locs → lv_has ls 3 [(0, .ref (B + k0)), (1, .int v1), (2, .int v2)] → WM p l e 4 s m args below meth c H locs G layX B (some (.int r)) σr (F0 m 5 ls [])) (v1 : Int32) (v2 : Int32) (σ : Sto) (hf : b_X2_bestValues_31 c5 k0 v1 v2 σ = some (r, σr)) (H : Heap) (locs : List Loc) (hH : HX G layX B σ H) (hS : va_S (inW layX B) s.heap H locs) (ls : Array Slot) (hl : lv_has ls 3 [(0, .ref (B + k0)), (1, .int v1), (2, .int v2)]) : WM p l e 4 s m args below meth c H locs G layX B (some (.int r)) σr (F0 m 31 ls []) := by
  unfold b_X2_bestValues_31 at hf
  have hx := X.1.1
  have hb := X.1.2.1
  refine lv_aload_n hx hb dX2_bestValues_31 rfl (lv_at hl 0 rfl) ?_
  refine lv_iload_n hx hb dX2_bestValues_32 rfl (lv_at hl 2 rfl) ?_
  obtain ⟨r304, σ303, eσ303, hf⟩ := bnd2 hf
  refine g_cVi (As := [.int v2]) X.1 hH hS (c_X2_allHold l G B k0 h0 v2 σ σ303 r304 eσ303) kw_RX2_75 kX2 h0 (by decide) rfl hl (Nat.le_of_ble_eq_true rfl) rfl dX2_bestValues_33 (fun H locs hH hS => ?_)
  refine lv_if_eq (tgt := 41) hx hb dX2_bestValues_36 (by decide) (fun q305 => ?_) (fun q305 => ?_)
  · replace hf := brT hf q305
    exact w_X2_bestValues_41 X c5 k0 h0 ih5 v1 v2 σ303 hf _ _ hH hS _ (lv_sub hl [0, 1, 2] rfl)
  · replace hf := brF hf q305
    refine lv_iload_n hx hb dX2_bestValues_39 rfl (lv_at hl 2 rfl) ?_
    refine lv_istore_n (lv' := [(1, .int v2), (0, .ref (B + k0)), (2, .int v2)]) hx hb dX2_bestValues_40 rfl hl (by decide) rfl (fun ls hl => ?_)
    exact w_X2_bestValues_41 X c5 k0 h0 ih5 v2 v2 σ303 hf _ _ hH hS _ (lv_sub hl [1, 0, 2] rfl)
def b_X2_bestValues_5 (c5 : Int32 → Int32 → Sto → Option (Int32 × Sto)) (k0 : Nat) (v1 : Int32) (v2 : Int32) (σ : Sto) : Option (Int32 × Sto) :=
  if (256 : Int32) ≤ v2 then (some (v1, σ)) else (if v1 = (-1000000 : Int32) then (b_X2_bestValues_31 c5 k0 v1 v2 σ) else (bd2 (f_X2_priceOf k0 v2 σ) fun r407 σ406 => bd2 (f_X2_priceOf k0 v1 σ406) fun r409 σ408 => if r409 ≤ r407 then (b_X2_bestValues_41 c5 k0 v1 v2 σ408) else (b_X2_bestValues_31 c5 k0 v1 v2 σ408)))
set_option maxHeartbeats 4000000 in
set_option maxRecDepth 100000 in
theorem w_X2_bestValues_5 {p : Program} {l : Launch} {e : Env} {s : State} {m : MethodId} {args : Array Value} {below : List Frame} {meth : Method} {c : Code} {G : Gd} {B : Nat} (X : Cm p s m args meth c cX2_bestValues 3 RX2 G (some .int)) (c5 : Int32 → Int32 → Sto → Option (Int32 × Sto)) (k0 : Nat) (h0 : (k0 < layX.2.2 ∧ layX.1 k0 = .inl 2)) {r : Int32} {σr : Sto} (ih5 : ∀ (v1 : Int32) (v2 : Int32) (σ : Sto) (H : Heap) (locs : List Loc) (ls : Array Slot), c5 v1 v2 σ = some (r, σr) → HX G layX B σ H → va_S (inW layX B) s.heap H locs → lv_has ls 3 [(0, .ref (B + k0)), (1, .int v1), (2, .int v2)] → WM p l e 4 s m args below meth c H locs G layX B (some (.int r)) σr (F0 m 5 ls [])) (v1 : Int32) (v2 : Int32) (σ : Sto) (hf : b_X2_bestValues_5 c5 k0 v1 v2 σ = some (r, σr)) (H : Heap) (locs : List Loc) (hH : HX G layX B σ H) (hS : va_S (inW layX B) s.heap H locs) (ls : Array Slot) (hl : lv_has ls 3 [(0, .ref (B + k0)), (1, .int v1), (2, .int v2)]) : WM p l e 4 s m args below meth c H locs G layX B (some (.int r)) σr (F0 m 5 ls []) := by
  unfold b_X2_bestValues_5 at hf
  have hx := X.1.1
  have hb := X.1.2.1
  refine lv_iload_n hx hb dX2_bestValues_5 rfl (lv_at hl 2 rfl) ?_
  refine lv_sipush (v := 256) hx hb dX2_bestValues_6 (by decide) ?_
  refine lv_icmp_ge (tgt := 47) hx hb dX2_bestValues_9 (by decide) (fun q201 => ?_) (fun q201 => ?_)
  · replace hf := brT hf q201
    refine lv_iload_n hx hb dX2_bestValues_47 rfl (lv_at hl 1 rfl) ?_
    obtain ⟨rfl, rfl⟩ := rt2 hf
    exact g_iret X hH hS dX2_bestValues_48
  · replace hf := brF hf q201
    refine lv_iload_n hx hb dX2_bestValues_12 rfl (lv_at hl 1 rfl) ?_
    refine lv_ldc (v := -1000000) hx hb X.1.2.2.2.1 (X.1.2.2.2.2.1 _ kc_RX2_21) dX2_bestValues_13 ?_
    refine lv_icmp_eq (tgt := 31) hx hb dX2_bestValues_15 (by decide) (fun q202 => ?_) (fun q202 => ?_)
    · replace hf := brT hf q202
      exact w_X2_bestValues_31 X c5 k0 h0 ih5 v1 v2 σ hf _ _ hH hS _ (lv_sub hl [0, 1, 2] rfl)
    · replace hf := brF hf q202
      refine lv_aload_n hx hb dX2_bestValues_18 rfl (lv_at hl 0 rfl) ?_
      refine lv_iload_n hx hb dX2_bestValues_19 rfl (lv_at hl 2 rfl) ?_
      obtain ⟨r407, σ406, eσ406, hf⟩ := bnd2 hf
      refine g_cVi (As := [.int v2]) X.1 hH hS (c_X2_priceOf l G B k0 h0 v2 σ σ406 r407 eσ406) kw_RX2_78 kX2 h0 (by decide) rfl hl (Nat.le_of_ble_eq_true rfl) rfl dX2_bestValues_20 (fun H locs hH hS => ?_)
      refine lv_aload_n hx hb dX2_bestValues_23 rfl (lv_at hl 0 rfl) ?_
      refine lv_iload_n hx hb dX2_bestValues_24 rfl (lv_at hl 1 rfl) ?_
      obtain ⟨r409, σ408, eσ408, hf⟩ := bnd2 hf
      refine g_cVi (As := [.int v1]) X.1 hH hS (c_X2_priceOf l G B k0 h0 v1 σ406 σ408 r409 eσ408) kw_RX2_78 kX2 h0 (by decide) rfl hl (Nat.le_of_ble_eq_true rfl) rfl dX2_bestValues_25 (fun H locs hH hS => ?_)
      refine lv_icmp_ge (tgt := 41) hx hb dX2_bestValues_28 (by decide) (fun q410 => ?_) (fun q410 => ?_)
      · replace hf := brT hf q410
        exact w_X2_bestValues_41 X c5 k0 h0 ih5 v1 v2 σ408 hf _ _ hH hS _ (lv_sub hl [0, 1, 2] rfl)
      · replace hf := brF hf q410
        exact w_X2_bestValues_31 X c5 k0 h0 ih5 v1 v2 σ408 hf _ _ hH hS _ (lv_sub hl [0, 1, 2] rfl)
def l_X2_bestValues_5 (k0 : Nat) : Nat → Int32 → Int32 → Sto → Option (Int32 × Sto)
  | 0, _, _, _ => none
  | n + 1, v1, v2, σ => b_X2_bestValues_5 (l_X2_bestValues_5 k0 n) k0 v1 v2 σ
set_option maxHeartbeats 4000000 in
set_option maxRecDepth 100000 in
theorem wl_X2_bestValues_5 {p : Program} {l : Launch} {e : Env} {s : State} {m : MethodId} {args : Array Value} {below : List Frame} {meth : Method} {c : Code} {G : Gd} {B : Nat} (X : Cm p s m args meth c cX2_bestValues 3 RX2 G (some .int)) (k0 : Nat) (h0 : (k0 < layX.2.2 ∧ layX.1 k0 = .inl 2)) {r : Int32} {σr : Sto} (n : Nat) : ∀ (v1 : Int32) (v2 : Int32) (σ : Sto) (H : Heap) (locs : List Loc) (ls : Array Slot), l_X2_bestValues_5 k0 n v1 v2 σ = some (r, σr) → HX G layX B σ H → va_S (inW layX B) s.heap H locs → lv_has ls 3 [(0, .ref (B + k0)), (1, .int v1), (2, .int v2)] → WM p l e 4 s m args below meth c H locs G layX B (some (.int r)) σr (F0 m 5 ls []) := by
  induction n with
  | zero =>
    intro _ _ σ H locs ls hf
    cases hf
  | succ n ih =>
    intro v1 v2 σ H locs ls hf hH hS hl
    exact w_X2_bestValues_5 X (l_X2_bestValues_5 k0 n) k0 h0 ih v1 v2 σ hf H locs hH hS ls hl
def f_X2_bestValues (k0 : Nat) (σ : Sto) : Option (Int32 × Sto) :=
  l_X2_bestValues_5 k0 400 (-1000000 : Int32) (0 : Int32) σ
set_option maxHeartbeats 4000000 in
set_option maxRecDepth 100000 in
theorem w_X2_bestValues {p : Program} {l : Launch} {e : Env} {s : State} {m : MethodId} {args : Array Value} {below : List Frame} {meth : Method} {c : Code} {G : Gd} {B : Nat} (X : Cm p s m args meth c cX2_bestValues 3 RX2 G (some .int)) (k0 : Nat) (h0 : (k0 < layX.2.2 ∧ layX.1 k0 = .inl 2)) {r : Int32} {σr : Sto} (σ : Sto) (hf : f_X2_bestValues k0 σ = some (r, σr)) (H : Heap) (locs : List Loc) (hH : HX G layX B σ H) (hS : va_S (inW layX B) s.heap H locs) (ls : Array Slot) (hl : lv_has ls 3 [(0, .ref (B + k0))]) : WM p l e 4 s m args below meth c H locs G layX B (some (.int r)) σr (F0 m 0 ls []) := by
  unfold f_X2_bestValues at hf
  have hx := X.1.1
  have hb := X.1.2.1
  refine lv_ldc (v := -1000000) hx hb X.1.2.2.2.1 (X.1.2.2.2.2.1 _ kc_RX2_21) dX2_bestValues_0 ?_
  refine lv_istore_n (lv' := [(1, .int (-1000000 : Int32)), (0, .ref (B + k0))]) hx hb dX2_bestValues_2 rfl hl (by decide) rfl (fun ls hl => ?_)
  refine lv_iconst (v := 0) hx hb dX2_bestValues_3 (by decide) ?_
  refine lv_istore_n (lv' := [(2, .int (0 : Int32)), (1, .int (-1000000 : Int32)), (0, .ref (B + k0))]) hx hb dX2_bestValues_4 rfl hl (by decide) rfl (fun ls hl => ?_)
  exact wl_X2_bestValues_5 X k0 h0 400 (-1000000 : Int32) (0 : Int32) σ _ _ _ hf hH hS (lv_sub hl [2, 1, 0] rfl)
theorem c_X2_bestValues (l : Launch) (G : Gd) (B : Nat) (k0 : Nat) (h0 : (k0 < layX.2.2 ∧ layX.1 k0 = .inl 2)) (σ σr : Sto) (r : Int32) (hf : f_X2_bestValues k0 σ = some (r, σr)) : Ct l G layX B yX2_bestValues cX2_bestValues 3 (some .int) 4 [.ref (B + k0)] (some (.int r)) σ σr :=
  Ct.ofW (by decide) (Nat.le_of_ble_eq_true rfl) (fun _ _ _ _ _ _ _ X hH hS ls hl => w_X2_bestValues X k0 h0 σ hf _ _ hH hS ls (show lv_has ls 3 [(0, .ref (B + k0))] from hl))
-- SlackProofs$Book.countSolutions()I  (D 4)
def b_X2_countSolutions_22 (c4 : Int32 → Int32 → Sto → Option (Int32 × Sto)) (k0 : Nat) (v1 : Int32) (v2 : Int32) (σ : Sto) : Option (Int32 × Sto) :=
  c4 v1 (v2 + (1 : Int32)) σ
set_option maxHeartbeats 4000000 in
set_option maxRecDepth 100000 in
theorem w_X2_countSolutions_22 {p : Program} {l : Launch} {e : Env} {s : State} {m : MethodId} {args : Array Value} {below : List Frame} {meth : Method} {c : Code} {G : Gd} {B : Nat} (X : Cm p s m args meth c cX2_countSolutions 3 RX2 G (some .int)) (c4 : Int32 → Int32 → Sto → Option (Int32 × Sto)) (k0 : Nat) (h0 : (k0 < layX.2.2 ∧ layX.1 k0 = .inl 2)) {r : Int32} {σr : Sto} (ih4 : ∀ (v1 : Int32) (v2 : Int32) (σ : Sto) (H : Heap) (locs : List Loc) (ls : Array Slot), c4 v1 v2 σ = some (r, σr) → HX G layX B σ H → va_S (inW layX B) s.heap H locs → lv_has ls 3 [(0, .ref (B + k0)), (1, .int v1), (2, .int v2)] → WM p l e 4 s m args below meth c H locs G layX B (some (.int r)) σr (F0 m 4 ls [])) (v1 : Int32) (v2 : Int32) (σ : Sto) (hf : b_X2_countSolutions_22 c4 k0 v1 v2 σ = some (r, σr)) (H : Heap) (locs : List Loc) (hH : HX G layX B σ H) (hS : va_S (inW layX B) s.heap H locs) (ls : Array Slot) (hl : lv_has ls 3 [(0, .ref (B + k0)), (1, .int v1), (2, .int v2)]) : WM p l e 4 s m args below meth c H locs G layX B (some (.int r)) σr (F0 m 22 ls []) := by
  unfold b_X2_countSolutions_22 at hf
  have hx := X.1.1
  have hb := X.1.2.1
  refine lv_iinc (v := (v2 + (1 : Int32))) (lv' := [(2, .int (v2 + (1 : Int32))), (0, .ref (B + k0)), (1, .int v1)]) hx hb dX2_countSolutions_22 hl (k := 2) rfl rfl (by decide) rfl (fun ls hl => ?_)
  refine lv_goto (tgt := 4) hx hb dX2_countSolutions_25 (by decide) ?_
  exact ih4 v1 (v2 + (1 : Int32)) σ _ _ _ hf hH hS (lv_sub hl [1, 2, 0] rfl)
def b_X2_countSolutions_4 (c4 : Int32 → Int32 → Sto → Option (Int32 × Sto)) (k0 : Nat) (v1 : Int32) (v2 : Int32) (σ : Sto) : Option (Int32 × Sto) :=
  if (256 : Int32) ≤ v2 then (some (v1, σ)) else (bd2 (f_X2_allHold k0 v2 σ) fun r203 σ202 => if r203 = 0 then (b_X2_countSolutions_22 c4 k0 v1 v2 σ202) else (b_X2_countSolutions_22 c4 k0 (v1 + (1 : Int32)) v2 σ202))
set_option maxHeartbeats 4000000 in
set_option maxRecDepth 100000 in
theorem w_X2_countSolutions_4 {p : Program} {l : Launch} {e : Env} {s : State} {m : MethodId} {args : Array Value} {below : List Frame} {meth : Method} {c : Code} {G : Gd} {B : Nat} (X : Cm p s m args meth c cX2_countSolutions 3 RX2 G (some .int)) (c4 : Int32 → Int32 → Sto → Option (Int32 × Sto)) (k0 : Nat) (h0 : (k0 < layX.2.2 ∧ layX.1 k0 = .inl 2)) {r : Int32} {σr : Sto} (ih4 : ∀ (v1 : Int32) (v2 : Int32) (σ : Sto) (H : Heap) (locs : List Loc) (ls : Array Slot), c4 v1 v2 σ = some (r, σr) → HX G layX B σ H → va_S (inW layX B) s.heap H locs → lv_has ls 3 [(0, .ref (B + k0)), (1, .int v1), (2, .int v2)] → WM p l e 4 s m args below meth c H locs G layX B (some (.int r)) σr (F0 m 4 ls [])) (v1 : Int32) (v2 : Int32) (σ : Sto) (hf : b_X2_countSolutions_4 c4 k0 v1 v2 σ = some (r, σr)) (H : Heap) (locs : List Loc) (hH : HX G layX B σ H) (hS : va_S (inW layX B) s.heap H locs) (ls : Array Slot) (hl : lv_has ls 3 [(0, .ref (B + k0)), (1, .int v1), (2, .int v2)]) : WM p l e 4 s m args below meth c H locs G layX B (some (.int r)) σr (F0 m 4 ls []) := by
  unfold b_X2_countSolutions_4 at hf
  have hx := X.1.1
  have hb := X.1.2.1
  refine lv_iload_n hx hb dX2_countSolutions_4 rfl (lv_at hl 2 rfl) ?_
  refine lv_sipush (v := 256) hx hb dX2_countSolutions_5 (by decide) ?_
  refine lv_icmp_ge (tgt := 28) hx hb dX2_countSolutions_8 (by decide) (fun q201 => ?_) (fun q201 => ?_)
  · replace hf := brT hf q201
    refine lv_iload_n hx hb dX2_countSolutions_28 rfl (lv_at hl 1 rfl) ?_
    obtain ⟨rfl, rfl⟩ := rt2 hf
    exact g_iret X hH hS dX2_countSolutions_29
  · replace hf := brF hf q201
    refine lv_aload_n hx hb dX2_countSolutions_11 rfl (lv_at hl 0 rfl) ?_
    refine lv_iload_n hx hb dX2_countSolutions_12 rfl (lv_at hl 2 rfl) ?_
    obtain ⟨r203, σ202, eσ202, hf⟩ := bnd2 hf
    refine g_cVi (As := [.int v2]) X.1 hH hS (c_X2_allHold l G B k0 h0 v2 σ σ202 r203 eσ202) kw_RX2_75 kX2 h0 (by decide) rfl hl (Nat.le_of_ble_eq_true rfl) rfl dX2_countSolutions_13 (fun H locs hH hS => ?_)
    refine lv_if_eq (tgt := 22) hx hb dX2_countSolutions_16 (by decide) (fun q204 => ?_) (fun q204 => ?_)
    · replace hf := brT hf q204
      exact w_X2_countSolutions_22 X c4 k0 h0 ih4 v1 v2 σ202 hf _ _ hH hS _ (lv_sub hl [0, 1, 2] rfl)
    · replace hf := brF hf q204
      refine lv_iinc (v := (v1 + (1 : Int32))) (lv' := [(1, .int (v1 + (1 : Int32))), (0, .ref (B + k0)), (2, .int v2)]) hx hb dX2_countSolutions_19 hl (k := 1) rfl rfl (by decide) rfl (fun ls hl => ?_)
      exact w_X2_countSolutions_22 X c4 k0 h0 ih4 (v1 + (1 : Int32)) v2 σ202 hf _ _ hH hS _ (lv_sub hl [1, 0, 2] rfl)
def l_X2_countSolutions_4 (k0 : Nat) : Nat → Int32 → Int32 → Sto → Option (Int32 × Sto)
  | 0, _, _, _ => none
  | n + 1, v1, v2, σ => b_X2_countSolutions_4 (l_X2_countSolutions_4 k0 n) k0 v1 v2 σ
set_option maxHeartbeats 4000000 in
set_option maxRecDepth 100000 in
theorem wl_X2_countSolutions_4 {p : Program} {l : Launch} {e : Env} {s : State} {m : MethodId} {args : Array Value} {below : List Frame} {meth : Method} {c : Code} {G : Gd} {B : Nat} (X : Cm p s m args meth c cX2_countSolutions 3 RX2 G (some .int)) (k0 : Nat) (h0 : (k0 < layX.2.2 ∧ layX.1 k0 = .inl 2)) {r : Int32} {σr : Sto} (n : Nat) : ∀ (v1 : Int32) (v2 : Int32) (σ : Sto) (H : Heap) (locs : List Loc) (ls : Array Slot), l_X2_countSolutions_4 k0 n v1 v2 σ = some (r, σr) → HX G layX B σ H → va_S (inW layX B) s.heap H locs → lv_has ls 3 [(0, .ref (B + k0)), (1, .int v1), (2, .int v2)] → WM p l e 4 s m args below meth c H locs G layX B (some (.int r)) σr (F0 m 4 ls []) := by
  induction n with
  | zero =>
    intro _ _ σ H locs ls hf
    cases hf
  | succ n ih =>
    intro v1 v2 σ H locs ls hf hH hS hl
    exact w_X2_countSolutions_4 X (l_X2_countSolutions_4 k0 n) k0 h0 ih v1 v2 σ hf H locs hH hS ls hl
def f_X2_countSolutions (k0 : Nat) (σ : Sto) : Option (Int32 × Sto) :=
  l_X2_countSolutions_4 k0 400 (0 : Int32) (0 : Int32) σ
set_option maxHeartbeats 4000000 in
set_option maxRecDepth 100000 in
theorem w_X2_countSolutions {p : Program} {l : Launch} {e : Env} {s : State} {m : MethodId} {args : Array Value} {below : List Frame} {meth : Method} {c : Code} {G : Gd} {B : Nat} (X : Cm p s m args meth c cX2_countSolutions 3 RX2 G (some .int)) (k0 : Nat) (h0 : (k0 < layX.2.2 ∧ layX.1 k0 = .inl 2)) {r : Int32} {σr : Sto} (σ : Sto) (hf : f_X2_countSolutions k0 σ = some (r, σr)) (H : Heap) (locs : List Loc) (hH : HX G layX B σ H) (hS : va_S (inW layX B) s.heap H locs) (ls : Array Slot) (hl : lv_has ls 3 [(0, .ref (B + k0))]) : WM p l e 4 s m args below meth c H locs G layX B (some (.int r)) σr (F0 m 0 ls []) := by
  unfold f_X2_countSolutions at hf
  have hx := X.1.1
  have hb := X.1.2.1
  refine lv_iconst (v := 0) hx hb dX2_countSolutions_0 (by decide) ?_
  refine lv_istore_n (lv' := [(1, .int (0 : Int32)), (0, .ref (B + k0))]) hx hb dX2_countSolutions_1 rfl hl (by decide) rfl (fun ls hl => ?_)
  refine lv_iconst (v := 0) hx hb dX2_countSolutions_2 (by decide) ?_
  refine lv_istore_n (lv' := [(2, .int (0 : Int32)), (1, .int (0 : Int32)), (0, .ref (B + k0))]) hx hb dX2_countSolutions_3 rfl hl (by decide) rfl (fun ls hl => ?_)
  exact wl_X2_countSolutions_4 X k0 h0 400 (0 : Int32) (0 : Int32) σ _ _ _ hf hH hS (lv_sub hl [2, 1, 0] rfl)
theorem c_X2_countSolutions (l : Launch) (G : Gd) (B : Nat) (k0 : Nat) (h0 : (k0 < layX.2.2 ∧ layX.1 k0 = .inl 2)) (σ σr : Sto) (r : Int32) (hf : f_X2_countSolutions k0 σ = some (r, σr)) : Ct l G layX B yX2_countSolutions cX2_countSolutions 3 (some .int) 4 [.ref (B + k0)] (some (.int r)) σ σr :=
  Ct.ofW (by decide) (Nat.le_of_ble_eq_true rfl) (fun _ _ _ _ _ _ _ X hH hS ls hl => w_X2_countSolutions X k0 h0 σ hf _ _ hH hS ls (show lv_has ls 3 [(0, .ref (B + k0))] from hl))
-- SlackProofs$Book.has(I)Z  (D 1)
def b_X2_has_25 (k0 : Nat) (s0 : Int32) (σ : Sto) : Option (Int32 × Sto) :=
  if ¬ (s0 = 0 ∨ s0 = 1) then none else some (s0, σ)
set_option maxHeartbeats 4000000 in
set_option maxRecDepth 100000 in
theorem w_X2_has_25 {p : Program} {l : Launch} {e : Env} {s : State} {m : MethodId} {args : Array Value} {below : List Frame} {meth : Method} {c : Code} {G : Gd} {B : Nat} (X : Cm p s m args meth c cX2_has 2 RX2 G (some .boolean)) (k0 : Nat) (h0 : (k0 < layX.2.2 ∧ layX.1 k0 = .inl 2)) {r : Int32} {σr : Sto} (s0 : Int32) (σ : Sto) (hf : b_X2_has_25 k0 s0 σ = some (r, σr)) (H : Heap) (locs : List Loc) (hH : HX G layX B σ H) (hS : va_S (inW layX B) s.heap H locs) (ls : Array Slot) (hl : lv_has ls 2 []) : WM p l e 1 s m args below meth c H locs G layX B (some (.int r)) σr (F0 m 25 ls [.int s0]) := by
  unfold b_X2_has_25 at hf
  have hx := X.1.1
  have hb := X.1.2.1
  obtain ⟨q302, hf⟩ := chk hf
  obtain ⟨rfl, rfl⟩ := rt2 hf
  exact g_zret X hH hS (Decidable.not_not.mp q302) dX2_has_25
def b_X2_has_24 (k0 : Nat) (σ : Sto) : Option (Int32 × Sto) :=
  b_X2_has_25 k0 (0 : Int32) σ
set_option maxHeartbeats 4000000 in
set_option maxRecDepth 100000 in
theorem w_X2_has_24 {p : Program} {l : Launch} {e : Env} {s : State} {m : MethodId} {args : Array Value} {below : List Frame} {meth : Method} {c : Code} {G : Gd} {B : Nat} (X : Cm p s m args meth c cX2_has 2 RX2 G (some .boolean)) (k0 : Nat) (h0 : (k0 < layX.2.2 ∧ layX.1 k0 = .inl 2)) {r : Int32} {σr : Sto} (σ : Sto) (hf : b_X2_has_24 k0 σ = some (r, σr)) (H : Heap) (locs : List Loc) (hH : HX G layX B σ H) (hS : va_S (inW layX B) s.heap H locs) (ls : Array Slot) (hl : lv_has ls 2 []) : WM p l e 1 s m args below meth c H locs G layX B (some (.int r)) σr (F0 m 24 ls []) := by
  unfold b_X2_has_24 at hf
  have hx := X.1.1
  have hb := X.1.2.1
  refine lv_iconst (v := 0) hx hb dX2_has_24 (by decide) ?_
  exact w_X2_has_25 X k0 h0 (0 : Int32) σ hf _ _ hH hS _ (lv_sub hl [] rfl)
def f_X2_has (k0 : Nat) (x1 : Int32) (σ : Sto) : Option (Int32 × Sto) :=
  if x1 < 0 then (b_X2_has_24 k0 σ) else (if (σ.1 k0 3) ≤ x1 then (b_X2_has_24 k0 σ) else (bd2 (f_X2_isLive k0 x1 σ) fun r305 σ304 => if r305 = 0 then (b_X2_has_24 k0 σ304) else (b_X2_has_25 k0 (1 : Int32) σ304)))
set_option maxHeartbeats 4000000 in
set_option maxRecDepth 100000 in
theorem w_X2_has {p : Program} {l : Launch} {e : Env} {s : State} {m : MethodId} {args : Array Value} {below : List Frame} {meth : Method} {c : Code} {G : Gd} {B : Nat} (X : Cm p s m args meth c cX2_has 2 RX2 G (some .boolean)) (k0 : Nat) (h0 : (k0 < layX.2.2 ∧ layX.1 k0 = .inl 2)) {r : Int32} {σr : Sto} (x1 : Int32) (σ : Sto) (hf : f_X2_has k0 x1 σ = some (r, σr)) (H : Heap) (locs : List Loc) (hH : HX G layX B σ H) (hS : va_S (inW layX B) s.heap H locs) (ls : Array Slot) (hl : lv_has ls 2 [(0, .ref (B + k0)), (1, .int x1)]) : WM p l e 1 s m args below meth c H locs G layX B (some (.int r)) σr (F0 m 0 ls []) := by
  unfold f_X2_has at hf
  have hx := X.1.1
  have hb := X.1.2.1
  refine lv_iload_n hx hb dX2_has_0 rfl (lv_at hl 1 rfl) ?_
  refine lv_if_lt (tgt := 24) hx hb dX2_has_1 (by decide) (fun q101 => ?_) (fun q101 => ?_)
  · replace hf := brT hf q101
    exact w_X2_has_24 X k0 h0 σ hf _ _ hH hS _ (lv_sub hl [] rfl)
  · replace hf := brF hf q101
    refine lv_iload_n hx hb dX2_has_4 rfl (lv_at hl 1 rfl) ?_
    refine lv_aload_n hx hb dX2_has_5 rfl (lv_at hl 0 rfl) ?_
    refine g_get (v := .int (σ.1 k0 3)) kX2 (by decide) fl_RX2_39 X.1 hH h0 rfl dX2_has_6 ?_
    refine lv_icmp_ge (tgt := 24) hx hb dX2_has_9 (by decide) (fun q303 => ?_) (fun q303 => ?_)
    · replace hf := brT hf q303
      exact w_X2_has_24 X k0 h0 σ hf _ _ hH hS _ (lv_sub hl [] rfl)
    · replace hf := brF hf q303
      refine lv_aload_n hx hb dX2_has_12 rfl (lv_at hl 0 rfl) ?_
      refine lv_iload_n hx hb dX2_has_13 rfl (lv_at hl 1 rfl) ?_
      obtain ⟨r305, σ304, eσ304, hf⟩ := bnd2 hf
      refine g_cVi (As := [.int x1]) X.1 hH hS (c_X2_isLive l G B k0 h0 x1 σ σ304 r305 eσ304) kw_RX2_53 kX2 h0 (by decide) rfl hl (Nat.le_of_ble_eq_true rfl) rfl dX2_has_14 (fun H locs hH hS => ?_)
      refine lv_if_eq (tgt := 24) hx hb dX2_has_17 (by decide) (fun q306 => ?_) (fun q306 => ?_)
      · replace hf := brT hf q306
        exact w_X2_has_24 X k0 h0 σ304 hf _ _ hH hS _ (lv_sub hl [] rfl)
      · replace hf := brF hf q306
        refine lv_iconst (v := 1) hx hb dX2_has_20 (by decide) ?_
        refine lv_goto (tgt := 25) hx hb dX2_has_21 (by decide) ?_
        exact w_X2_has_25 X k0 h0 (1 : Int32) σ304 hf _ _ hH hS _ (lv_sub hl [] rfl)
theorem c_X2_has (l : Launch) (G : Gd) (B : Nat) (k0 : Nat) (h0 : (k0 < layX.2.2 ∧ layX.1 k0 = .inl 2)) (x1 : Int32) (σ σr : Sto) (r : Int32) (hf : f_X2_has k0 x1 σ = some (r, σr)) : Ct l G layX B yX2_has cX2_has 2 (some .boolean) 1 [.ref (B + k0), .int x1] (some (.int r)) σ σr :=
  Ct.ofW (by decide) (Nat.le_of_ble_eq_true rfl) (fun _ _ _ _ _ _ _ X hH hS ls hl => w_X2_has X k0 h0 x1 σ hf _ _ hH hS ls (show lv_has ls 2 [(0, .ref (B + k0)), (1, .int x1)] from hl))
-- SlackProofs$Clause.total()J  (D 1)
def b_X3_total_4 (c4 : Int64 → Int32 → Sto → Option (Int64 × Sto)) (k0 : Nat) (v1 : Int64) (v3 : Int32) (σ : Sto) : Option (Int64 × Sto) :=
  if (8 : Int32) ≤ v3 then (some (v1, σ)) else (if (v3 < 0 ∨ 8 ≤ v3.toNatClampNeg) then none else nmS (mabs (σ.2 (k0 + 1) v3.toNatClampNeg)) fun y203 => if v1 ≤ ((9223372036854775807 : Int64) - y203) then (nmS (v1 + y203) fun y205 => c4 y205 (v3 + (1 : Int32)) σ) else (some ((-1 : Int64), σ)))
set_option maxHeartbeats 4000000 in
set_option maxRecDepth 100000 in
theorem w_X3_total_4 {p : Program} {l : Launch} {e : Env} {s : State} {m : MethodId} {args : Array Value} {below : List Frame} {meth : Method} {c : Code} {G : Gd} {B : Nat} (X : Cm p s m args meth c cX3_total 6 RX3 G (some .long)) (c4 : Int64 → Int32 → Sto → Option (Int64 × Sto)) (k0 : Nat) (h0 : (k0 < layX.2.2 ∧ layX.1 k0 = .inl 3)) {r : Int64} {σr : Sto} (ih4 : ∀ (v1 : Int64) (v3 : Int32) (σ : Sto) (H : Heap) (locs : List Loc) (ls : Array Slot), c4 v1 v3 σ = some (r, σr) → HX G layX B σ H → va_S (inW layX B) s.heap H locs → lv_has ls 6 [(0, .ref (B + k0)), (1, .long v1), (3, .int v3)] → WM p l e 1 s m args below meth c H locs G layX B (some (.long r)) σr (F0 m 4 ls [])) (v1 : Int64) (v3 : Int32) (σ : Sto) (hf : b_X3_total_4 c4 k0 v1 v3 σ = some (r, σr)) (H : Heap) (locs : List Loc) (hH : HX G layX B σ H) (hS : va_S (inW layX B) s.heap H locs) (ls : Array Slot) (hl : lv_has ls 6 [(0, .ref (B + k0)), (1, .long v1), (3, .int v3)]) : WM p l e 1 s m args below meth c H locs G layX B (some (.long r)) σr (F0 m 4 ls []) := by
  unfold b_X3_total_4 at hf
  have hx := X.1.1
  have hb := X.1.2.1
  refine lv_iload_n hx hb dX3_total_4 rfl (lv_at hl 2 rfl) ?_
  refine lv_bipush (v := 8) hx hb dX3_total_5 (by decide) ?_
  refine lv_icmp_ge (tgt := 47) hx hb dX3_total_7 (by decide) (fun q201 => ?_) (fun q201 => ?_)
  · replace hf := brT hf q201
    refine lv_lload_n hx hb dX3_total_47 rfl (lv_at hl 1 rfl) ?_
    obtain ⟨rfl, rfl⟩ := rt2 hf
    exact g_lret X hH hS dX3_total_48
  · replace hf := brF hf q201
    refine lv_aload_n hx hb dX3_total_10 rfl (lv_at hl 0 rfl) ?_
    refine g_get (v := .ref (B + (k0 + 1))) kX3 (by decide) fl_RX3_9 X.1 hH h0 (cRef h0) dX3_total_11 ?_
    refine lv_iload_n hx hb dX3_total_14 rfl (lv_at hl 2 rfl) ?_
    obtain ⟨q202, hf⟩ := chk hf
    refine g_lald (j := v3.toNatClampNeg) X.1 hH (cArr h0) q202 rfl dX3_total_15 ?_
    refine g_abs X.1 mt_RX3_44 (by decide) hl (Nat.le_of_ble_eq_true rfl) dX3_total_16 ?_
    refine lv_topl (fun y203 ey203 => ?_)
    replace hf := nmU hf ey203
    refine lv_lstore (lv' := [(4, .long y203), (0, .ref (B + k0)), (1, .long v1), (3, .int v3)]) hx hb dX3_total_19 hl (by decide) rfl (fun ls hl => ?_)
    refine lv_lload_n hx hb dX3_total_21 rfl (lv_at hl 2 rfl) ?_
    refine lv_ldc2 (v := 9223372036854775807) hx hb X.1.2.2.2.1 (X.1.2.2.2.2.1 _ kc_RX3_38) dX3_total_22 ?_
    refine lv_lload hx hb dX3_total_25 (lv_at hl 0 rfl) ?_
    refine lv_lsub hx hb dX3_total_27 ?_
    refine g_lle (tgt := 36) X.1 dX3_total_28 dX3_total_29 (by decide) (fun q204 => ?_) (fun q204 => ?_)
    · replace hf := brT hf q204
      refine lv_lload_n hx hb dX3_total_36 rfl (lv_at hl 2 rfl) ?_
      refine lv_lload hx hb dX3_total_37 (lv_at hl 0 rfl) ?_
      refine lv_ladd hx hb dX3_total_39 ?_
      refine lv_topl (fun y205 ey205 => ?_)
      replace hf := nmU hf ey205
      refine lv_lstore_n (lv' := [(1, .long y205), (4, .long y203), (0, .ref (B + k0)), (3, .int v3)]) hx hb dX3_total_40 rfl hl (by decide) rfl (fun ls hl => ?_)
      refine lv_iinc (v := (v3 + (1 : Int32))) (lv' := [(3, .int (v3 + (1 : Int32))), (1, .long y205), (4, .long y203), (0, .ref (B + k0))]) hx hb dX3_total_41 hl (k := 3) rfl rfl (by decide) rfl (fun ls hl => ?_)
      refine lv_goto (tgt := 4) hx hb dX3_total_44 (by decide) ?_
      exact ih4 y205 (v3 + (1 : Int32)) σ _ _ _ hf hH hS (lv_sub hl [3, 1, 0] rfl)
    · replace hf := brF hf q204
      refine lv_ldc2 (v := -1) hx hb X.1.2.2.2.1 (X.1.2.2.2.2.1 _ kc_RX3_76) dX3_total_32 ?_
      obtain ⟨rfl, rfl⟩ := rt2 hf
      exact g_lret X hH hS dX3_total_35
def l_X3_total_4 (k0 : Nat) : Nat → Int64 → Int32 → Sto → Option (Int64 × Sto)
  | 0, _, _, _ => none
  | n + 1, v1, v3, σ => b_X3_total_4 (l_X3_total_4 k0 n) k0 v1 v3 σ
set_option maxHeartbeats 4000000 in
set_option maxRecDepth 100000 in
theorem wl_X3_total_4 {p : Program} {l : Launch} {e : Env} {s : State} {m : MethodId} {args : Array Value} {below : List Frame} {meth : Method} {c : Code} {G : Gd} {B : Nat} (X : Cm p s m args meth c cX3_total 6 RX3 G (some .long)) (k0 : Nat) (h0 : (k0 < layX.2.2 ∧ layX.1 k0 = .inl 3)) {r : Int64} {σr : Sto} (n : Nat) : ∀ (v1 : Int64) (v3 : Int32) (σ : Sto) (H : Heap) (locs : List Loc) (ls : Array Slot), l_X3_total_4 k0 n v1 v3 σ = some (r, σr) → HX G layX B σ H → va_S (inW layX B) s.heap H locs → lv_has ls 6 [(0, .ref (B + k0)), (1, .long v1), (3, .int v3)] → WM p l e 1 s m args below meth c H locs G layX B (some (.long r)) σr (F0 m 4 ls []) := by
  induction n with
  | zero =>
    intro _ _ σ H locs ls hf
    cases hf
  | succ n ih =>
    intro v1 v3 σ H locs ls hf hH hS hl
    exact w_X3_total_4 X (l_X3_total_4 k0 n) k0 h0 ih v1 v3 σ hf H locs hH hS ls hl
def f_X3_total (k0 : Nat) (σ : Sto) : Option (Int64 × Sto) :=
  l_X3_total_4 k0 400 (0 : Int64) (0 : Int32) σ
set_option maxHeartbeats 4000000 in
set_option maxRecDepth 100000 in
theorem w_X3_total {p : Program} {l : Launch} {e : Env} {s : State} {m : MethodId} {args : Array Value} {below : List Frame} {meth : Method} {c : Code} {G : Gd} {B : Nat} (X : Cm p s m args meth c cX3_total 6 RX3 G (some .long)) (k0 : Nat) (h0 : (k0 < layX.2.2 ∧ layX.1 k0 = .inl 3)) {r : Int64} {σr : Sto} (σ : Sto) (hf : f_X3_total k0 σ = some (r, σr)) (H : Heap) (locs : List Loc) (hH : HX G layX B σ H) (hS : va_S (inW layX B) s.heap H locs) (ls : Array Slot) (hl : lv_has ls 6 [(0, .ref (B + k0))]) : WM p l e 1 s m args below meth c H locs G layX B (some (.long r)) σr (F0 m 0 ls []) := by
  unfold f_X3_total at hf
  have hx := X.1.1
  have hb := X.1.2.1
  refine lv_lconst (v := 0) hx hb dX3_total_0 (by decide) ?_
  refine lv_lstore_n (lv' := [(1, .long (0 : Int64)), (0, .ref (B + k0))]) hx hb dX3_total_1 rfl hl (by decide) rfl (fun ls hl => ?_)
  refine lv_iconst (v := 0) hx hb dX3_total_2 (by decide) ?_
  refine lv_istore_n (lv' := [(3, .int (0 : Int32)), (1, .long (0 : Int64)), (0, .ref (B + k0))]) hx hb dX3_total_3 rfl hl (by decide) rfl (fun ls hl => ?_)
  exact wl_X3_total_4 X k0 h0 400 (0 : Int64) (0 : Int32) σ _ _ _ hf hH hS (lv_sub hl [2, 1, 0] rfl)
theorem c_X3_total (l : Launch) (G : Gd) (B : Nat) (k0 : Nat) (h0 : (k0 < layX.2.2 ∧ layX.1 k0 = .inl 3)) (σ σr : Sto) (r : Int64) (hf : f_X3_total k0 σ = some (r, σr)) : Ct l G layX B yX3_total cX3_total 6 (some .long) 1 [.ref (B + k0)] (some (.long r)) σ σr :=
  Ct.ofW (by decide) (Nat.le_of_ble_eq_true rfl) (fun _ _ _ _ _ _ _ X hH hS ls hl => w_X3_total X k0 h0 σ hf _ _ hH hS ls (show lv_has ls 6 [(0, .ref (B + k0))] from hl))
-- SlackProofs$Book.hasImpossible()Z  (D 2)
def b_X2_hasImpossible_42 (c2 : Int32 → Sto → Option (Int32 × Sto)) (k0 : Nat) (v1 : Int32) (σ : Sto) : Option (Int32 × Sto) :=
  c2 (v1 + (1 : Int32)) σ
set_option maxHeartbeats 4000000 in
set_option maxRecDepth 100000 in
theorem w_X2_hasImpossible_42 {p : Program} {l : Launch} {e : Env} {s : State} {m : MethodId} {args : Array Value} {below : List Frame} {meth : Method} {c : Code} {G : Gd} {B : Nat} (X : Cm p s m args meth c cX2_hasImpossible 2 RX2 G (some .boolean)) (c2 : Int32 → Sto → Option (Int32 × Sto)) (k0 : Nat) (h0 : (k0 < layX.2.2 ∧ layX.1 k0 = .inl 2)) {r : Int32} {σr : Sto} (ih2 : ∀ (v1 : Int32) (σ : Sto) (H : Heap) (locs : List Loc) (ls : Array Slot), c2 v1 σ = some (r, σr) → HX G layX B σ H → va_S (inW layX B) s.heap H locs → lv_has ls 2 [(0, .ref (B + k0)), (1, .int v1)] → WM p l e 2 s m args below meth c H locs G layX B (some (.int r)) σr (F0 m 2 ls [])) (v1 : Int32) (σ : Sto) (hf : b_X2_hasImpossible_42 c2 k0 v1 σ = some (r, σr)) (H : Heap) (locs : List Loc) (hH : HX G layX B σ H) (hS : va_S (inW layX B) s.heap H locs) (ls : Array Slot) (hl : lv_has ls 2 [(0, .ref (B + k0)), (1, .int v1)]) : WM p l e 2 s m args below meth c H locs G layX B (some (.int r)) σr (F0 m 42 ls []) := by
  unfold b_X2_hasImpossible_42 at hf
  have hx := X.1.1
  have hb := X.1.2.1
  refine lv_iinc (v := (v1 + (1 : Int32))) (lv' := [(1, .int (v1 + (1 : Int32))), (0, .ref (B + k0))]) hx hb dX2_hasImpossible_42 hl (k := 1) rfl rfl (by decide) rfl (fun ls hl => ?_)
  refine lv_goto (tgt := 2) hx hb dX2_hasImpossible_45 (by decide) ?_
  exact ih2 (v1 + (1 : Int32)) σ _ _ _ hf hH hS (lv_sub hl [1, 0] rfl)
def b_X2_hasImpossible_2 (c2 : Int32 → Sto → Option (Int32 × Sto)) (k0 : Nat) (v1 : Int32) (σ : Sto) : Option (Int32 × Sto) :=
  if (σ.1 k0 3) ≤ v1 then (some ((0 : Int32), σ)) else (bd2 (f_X2_isLive k0 v1 σ) fun r203 σ202 => if r203 = 0 then (b_X2_hasImpossible_42 c2 k0 v1 σ202) else (if (v1 < 0 ∨ 30 ≤ v1.toNatClampNeg) then none else if (v1 < 0 ∨ 30 ≤ v1.toNatClampNeg) then none else bd2 (f_X3_total (k0 + 3 + 2 * v1.toNatClampNeg) σ202) fun r308 σ307 => if (σ202.2 (k0 + 3 + 2 * v1.toNatClampNeg) 2) ≤ r308 then (b_X2_hasImpossible_42 c2 k0 v1 σ307) else (some ((1 : Int32), σ307))))
set_option maxHeartbeats 4000000 in
set_option maxRecDepth 100000 in
theorem w_X2_hasImpossible_2 {p : Program} {l : Launch} {e : Env} {s : State} {m : MethodId} {args : Array Value} {below : List Frame} {meth : Method} {c : Code} {G : Gd} {B : Nat} (X : Cm p s m args meth c cX2_hasImpossible 2 RX2 G (some .boolean)) (c2 : Int32 → Sto → Option (Int32 × Sto)) (k0 : Nat) (h0 : (k0 < layX.2.2 ∧ layX.1 k0 = .inl 2)) {r : Int32} {σr : Sto} (ih2 : ∀ (v1 : Int32) (σ : Sto) (H : Heap) (locs : List Loc) (ls : Array Slot), c2 v1 σ = some (r, σr) → HX G layX B σ H → va_S (inW layX B) s.heap H locs → lv_has ls 2 [(0, .ref (B + k0)), (1, .int v1)] → WM p l e 2 s m args below meth c H locs G layX B (some (.int r)) σr (F0 m 2 ls [])) (v1 : Int32) (σ : Sto) (hf : b_X2_hasImpossible_2 c2 k0 v1 σ = some (r, σr)) (H : Heap) (locs : List Loc) (hH : HX G layX B σ H) (hS : va_S (inW layX B) s.heap H locs) (ls : Array Slot) (hl : lv_has ls 2 [(0, .ref (B + k0)), (1, .int v1)]) : WM p l e 2 s m args below meth c H locs G layX B (some (.int r)) σr (F0 m 2 ls []) := by
  unfold b_X2_hasImpossible_2 at hf
  have hx := X.1.1
  have hb := X.1.2.1
  refine lv_iload_n hx hb dX2_hasImpossible_2 rfl (lv_at hl 1 rfl) ?_
  refine lv_aload_n hx hb dX2_hasImpossible_3 rfl (lv_at hl 0 rfl) ?_
  refine g_get (v := .int (σ.1 k0 3)) kX2 (by decide) fl_RX2_39 X.1 hH h0 rfl dX2_hasImpossible_4 ?_
  refine lv_icmp_ge (tgt := 48) hx hb dX2_hasImpossible_7 (by decide) (fun q201 => ?_) (fun q201 => ?_)
  · replace hf := brT hf q201
    refine lv_iconst (v := 0) hx hb dX2_hasImpossible_48 (by decide) ?_
    obtain ⟨rfl, rfl⟩ := rt2 hf
    exact g_zret X hH hS (by decide) dX2_hasImpossible_49
  · replace hf := brF hf q201
    refine lv_aload_n hx hb dX2_hasImpossible_10 rfl (lv_at hl 0 rfl) ?_
    refine lv_iload_n hx hb dX2_hasImpossible_11 rfl (lv_at hl 1 rfl) ?_
    obtain ⟨r203, σ202, eσ202, hf⟩ := bnd2 hf
    refine g_cVi (As := [.int v1]) X.1 hH hS (c_X2_isLive l G B k0 h0 v1 σ σ202 r203 eσ202) kw_RX2_53 kX2 h0 (by decide) rfl hl (Nat.le_of_ble_eq_true rfl) rfl dX2_hasImpossible_12 (fun H locs hH hS => ?_)
    refine lv_if_eq (tgt := 42) hx hb dX2_hasImpossible_15 (by decide) (fun q204 => ?_) (fun q204 => ?_)
    · replace hf := brT hf q204
      exact w_X2_hasImpossible_42 X c2 k0 h0 ih2 v1 σ202 hf _ _ hH hS _ (lv_sub hl [0, 1] rfl)
    · replace hf := brF hf q204
      refine lv_aload_n hx hb dX2_hasImpossible_18 rfl (lv_at hl 0 rfl) ?_
      refine g_get (v := .ref (B + (k0 + 1))) kX2 (by decide) fl_RX2_11 X.1 hH h0 (bRef0 h0) dX2_hasImpossible_19 ?_
      refine lv_iload_n hx hb dX2_hasImpossible_22 rfl (lv_at hl 1 rfl) ?_
      obtain ⟨q305, hf⟩ := chk hf
      refine g_aald (b := (k0 + 3 + 2 * v1.toNatClampNeg)) X.1 hH (bArr h0) (by decide) q305 (bRf h0 q305) dX2_hasImpossible_23 ?_
      refine g_get (v := .long (σ202.2 (k0 + 3 + 2 * v1.toNatClampNeg) 2)) kX3 (by decide) fl_RX2_64 X.1 hH (bCl h0 q305) rfl dX2_hasImpossible_24 ?_
      refine lv_aload_n hx hb dX2_hasImpossible_27 rfl (lv_at hl 0 rfl) ?_
      refine g_get (v := .ref (B + (k0 + 1))) kX2 (by decide) fl_RX2_11 X.1 hH h0 (bRef0 h0) dX2_hasImpossible_28 ?_
      refine lv_iload_n hx hb dX2_hasImpossible_31 rfl (lv_at hl 1 rfl) ?_
      obtain ⟨q306, hf⟩ := chk hf
      refine g_aald (b := (k0 + 3 + 2 * v1.toNatClampNeg)) X.1 hH (bArr h0) (by decide) q306 (bRf h0 q306) dX2_hasImpossible_32 ?_
      obtain ⟨r308, σ307, eσ307, hf⟩ := bnd2 hf
      refine g_cVl (As := []) X.1 hH hS (c_X3_total l G B (k0 + 3 + 2 * v1.toNatClampNeg) (bCl h0 q306) σ202 σ307 r308 eσ307) kw_RX2_68 kX3 (bCl h0 q306) (by decide) rfl hl (Nat.le_of_ble_eq_true rfl) rfl dX2_hasImpossible_33 (fun H locs hH hS => ?_)
      refine g_lle (tgt := 42) X.1 dX2_hasImpossible_36 dX2_hasImpossible_37 (by decide) (fun q309 => ?_) (fun q309 => ?_)
      · replace hf := brT hf q309
        exact w_X2_hasImpossible_42 X c2 k0 h0 ih2 v1 σ307 hf _ _ hH hS _ (lv_sub hl [0, 1] rfl)
      · replace hf := brF hf q309
        refine lv_iconst (v := 1) hx hb dX2_hasImpossible_40 (by decide) ?_
        obtain ⟨rfl, rfl⟩ := rt2 hf
        exact g_zret X hH hS (by decide) dX2_hasImpossible_41
def l_X2_hasImpossible_2 (k0 : Nat) : Nat → Int32 → Sto → Option (Int32 × Sto)
  | 0, _, _ => none
  | n + 1, v1, σ => b_X2_hasImpossible_2 (l_X2_hasImpossible_2 k0 n) k0 v1 σ
set_option maxHeartbeats 4000000 in
set_option maxRecDepth 100000 in
theorem wl_X2_hasImpossible_2 {p : Program} {l : Launch} {e : Env} {s : State} {m : MethodId} {args : Array Value} {below : List Frame} {meth : Method} {c : Code} {G : Gd} {B : Nat} (X : Cm p s m args meth c cX2_hasImpossible 2 RX2 G (some .boolean)) (k0 : Nat) (h0 : (k0 < layX.2.2 ∧ layX.1 k0 = .inl 2)) {r : Int32} {σr : Sto} (n : Nat) : ∀ (v1 : Int32) (σ : Sto) (H : Heap) (locs : List Loc) (ls : Array Slot), l_X2_hasImpossible_2 k0 n v1 σ = some (r, σr) → HX G layX B σ H → va_S (inW layX B) s.heap H locs → lv_has ls 2 [(0, .ref (B + k0)), (1, .int v1)] → WM p l e 2 s m args below meth c H locs G layX B (some (.int r)) σr (F0 m 2 ls []) := by
  induction n with
  | zero =>
    intro _ σ H locs ls hf
    cases hf
  | succ n ih =>
    intro v1 σ H locs ls hf hH hS hl
    exact w_X2_hasImpossible_2 X (l_X2_hasImpossible_2 k0 n) k0 h0 ih v1 σ hf H locs hH hS ls hl
def f_X2_hasImpossible (k0 : Nat) (σ : Sto) : Option (Int32 × Sto) :=
  l_X2_hasImpossible_2 k0 400 (0 : Int32) σ
set_option maxHeartbeats 4000000 in
set_option maxRecDepth 100000 in
theorem w_X2_hasImpossible {p : Program} {l : Launch} {e : Env} {s : State} {m : MethodId} {args : Array Value} {below : List Frame} {meth : Method} {c : Code} {G : Gd} {B : Nat} (X : Cm p s m args meth c cX2_hasImpossible 2 RX2 G (some .boolean)) (k0 : Nat) (h0 : (k0 < layX.2.2 ∧ layX.1 k0 = .inl 2)) {r : Int32} {σr : Sto} (σ : Sto) (hf : f_X2_hasImpossible k0 σ = some (r, σr)) (H : Heap) (locs : List Loc) (hH : HX G layX B σ H) (hS : va_S (inW layX B) s.heap H locs) (ls : Array Slot) (hl : lv_has ls 2 [(0, .ref (B + k0))]) : WM p l e 2 s m args below meth c H locs G layX B (some (.int r)) σr (F0 m 0 ls []) := by
  unfold f_X2_hasImpossible at hf
  have hx := X.1.1
  have hb := X.1.2.1
  refine lv_iconst (v := 0) hx hb dX2_hasImpossible_0 (by decide) ?_
  refine lv_istore_n (lv' := [(1, .int (0 : Int32)), (0, .ref (B + k0))]) hx hb dX2_hasImpossible_1 rfl hl (by decide) rfl (fun ls hl => ?_)
  exact wl_X2_hasImpossible_2 X k0 h0 400 (0 : Int32) σ _ _ _ hf hH hS (lv_sub hl [1, 0] rfl)
theorem c_X2_hasImpossible (l : Launch) (G : Gd) (B : Nat) (k0 : Nat) (h0 : (k0 < layX.2.2 ∧ layX.1 k0 = .inl 2)) (σ σr : Sto) (r : Int32) (hf : f_X2_hasImpossible k0 σ = some (r, σr)) : Ct l G layX B yX2_hasImpossible cX2_hasImpossible 2 (some .boolean) 2 [.ref (B + k0)] (some (.int r)) σ σr :=
  Ct.ofW (by decide) (Nat.le_of_ble_eq_true rfl) (fun _ _ _ _ _ _ _ X hH hS ls hl => w_X2_hasImpossible X k0 h0 σ hf _ _ hH hS ls (show lv_has ls 2 [(0, .ref (B + k0))] from hl))
-- SlackProofs$Clause.isBeyond()Z  (D 2)
def b_X3_isBeyond_14 (k0 : Nat) (s0 : Int32) (σ : Sto) : Option (Int32 × Sto) :=
  if ¬ (s0 = 0 ∨ s0 = 1) then none else some (s0, σ)
set_option maxHeartbeats 4000000 in
set_option maxRecDepth 100000 in
theorem w_X3_isBeyond_14 {p : Program} {l : Launch} {e : Env} {s : State} {m : MethodId} {args : Array Value} {below : List Frame} {meth : Method} {c : Code} {G : Gd} {B : Nat} (X : Cm p s m args meth c cX3_isBeyond 1 RX3 G (some .boolean)) (k0 : Nat) (h0 : (k0 < layX.2.2 ∧ layX.1 k0 = .inl 3)) {r : Int32} {σr : Sto} (s0 : Int32) (σ : Sto) (hf : b_X3_isBeyond_14 k0 s0 σ = some (r, σr)) (H : Heap) (locs : List Loc) (hH : HX G layX B σ H) (hS : va_S (inW layX B) s.heap H locs) (ls : Array Slot) (hl : lv_has ls 1 []) : WM p l e 2 s m args below meth c H locs G layX B (some (.int r)) σr (F0 m 14 ls [.int s0]) := by
  unfold b_X3_isBeyond_14 at hf
  have hx := X.1.1
  have hb := X.1.2.1
  obtain ⟨q204, hf⟩ := chk hf
  obtain ⟨rfl, rfl⟩ := rt2 hf
  exact g_zret X hH hS (Decidable.not_not.mp q204) dX3_isBeyond_14
def f_X3_isBeyond (k0 : Nat) (σ : Sto) : Option (Int32 × Sto) :=
  bd2 (f_X3_total k0 σ) fun r102 σ101 => if (0 : Int64) ≤ r102 then (b_X3_isBeyond_14 k0 (0 : Int32) σ101) else (b_X3_isBeyond_14 k0 (1 : Int32) σ101)
set_option maxHeartbeats 4000000 in
set_option maxRecDepth 100000 in
theorem w_X3_isBeyond {p : Program} {l : Launch} {e : Env} {s : State} {m : MethodId} {args : Array Value} {below : List Frame} {meth : Method} {c : Code} {G : Gd} {B : Nat} (X : Cm p s m args meth c cX3_isBeyond 1 RX3 G (some .boolean)) (k0 : Nat) (h0 : (k0 < layX.2.2 ∧ layX.1 k0 = .inl 3)) {r : Int32} {σr : Sto} (σ : Sto) (hf : f_X3_isBeyond k0 σ = some (r, σr)) (H : Heap) (locs : List Loc) (hH : HX G layX B σ H) (hS : va_S (inW layX B) s.heap H locs) (ls : Array Slot) (hl : lv_has ls 1 [(0, .ref (B + k0))]) : WM p l e 2 s m args below meth c H locs G layX B (some (.int r)) σr (F0 m 0 ls []) := by
  unfold f_X3_isBeyond at hf
  have hx := X.1.1
  have hb := X.1.2.1
  refine lv_aload_n hx hb dX3_isBeyond_0 rfl (lv_at hl 0 rfl) ?_
  obtain ⟨r102, σ101, eσ101, hf⟩ := bnd2 hf
  refine g_cVl (As := []) X.1 hH hS (c_X3_total l G B k0 h0 σ σ101 r102 eσ101) kw_RX3_61 kX3 h0 (by decide) rfl hl (Nat.le_of_ble_eq_true rfl) rfl dX3_isBeyond_1 (fun H locs hH hS => ?_)
  refine lv_lconst (v := 0) hx hb dX3_isBeyond_4 (by decide) ?_
  refine g_lge (tgt := 13) X.1 dX3_isBeyond_5 dX3_isBeyond_6 (by decide) (fun q103 => ?_) (fun q103 => ?_)
  · replace hf := brT hf q103
    refine lv_iconst (v := 0) hx hb dX3_isBeyond_13 (by decide) ?_
    exact w_X3_isBeyond_14 X k0 h0 (0 : Int32) σ101 hf _ _ hH hS _ (lv_sub hl [] rfl)
  · replace hf := brF hf q103
    refine lv_iconst (v := 1) hx hb dX3_isBeyond_9 (by decide) ?_
    refine lv_goto (tgt := 14) hx hb dX3_isBeyond_10 (by decide) ?_
    exact w_X3_isBeyond_14 X k0 h0 (1 : Int32) σ101 hf _ _ hH hS _ (lv_sub hl [] rfl)
theorem c_X3_isBeyond (l : Launch) (G : Gd) (B : Nat) (k0 : Nat) (h0 : (k0 < layX.2.2 ∧ layX.1 k0 = .inl 3)) (σ σr : Sto) (r : Int32) (hf : f_X3_isBeyond k0 σ = some (r, σr)) : Ct l G layX B yX3_isBeyond cX3_isBeyond 1 (some .boolean) 2 [.ref (B + k0)] (some (.int r)) σ σr :=
  Ct.ofW (by decide) (Nat.le_of_ble_eq_true rfl) (fun _ _ _ _ _ _ _ X hH hS ls hl => w_X3_isBeyond X k0 h0 σ hf _ _ hH hS ls (show lv_has ls 1 [(0, .ref (B + k0))] from hl))
-- SlackProofs$Book.isBeyond()Z  (D 3)
def b_X2_isBeyond_32 (c2 : Int32 → Sto → Option (Int32 × Sto)) (k0 : Nat) (v1 : Int32) (σ : Sto) : Option (Int32 × Sto) :=
  c2 (v1 + (1 : Int32)) σ
set_option maxHeartbeats 4000000 in
set_option maxRecDepth 100000 in
theorem w_X2_isBeyond_32 {p : Program} {l : Launch} {e : Env} {s : State} {m : MethodId} {args : Array Value} {below : List Frame} {meth : Method} {c : Code} {G : Gd} {B : Nat} (X : Cm p s m args meth c cX2_isBeyond 2 RX2 G (some .boolean)) (c2 : Int32 → Sto → Option (Int32 × Sto)) (k0 : Nat) (h0 : (k0 < layX.2.2 ∧ layX.1 k0 = .inl 2)) {r : Int32} {σr : Sto} (ih2 : ∀ (v1 : Int32) (σ : Sto) (H : Heap) (locs : List Loc) (ls : Array Slot), c2 v1 σ = some (r, σr) → HX G layX B σ H → va_S (inW layX B) s.heap H locs → lv_has ls 2 [(0, .ref (B + k0)), (1, .int v1)] → WM p l e 3 s m args below meth c H locs G layX B (some (.int r)) σr (F0 m 2 ls [])) (v1 : Int32) (σ : Sto) (hf : b_X2_isBeyond_32 c2 k0 v1 σ = some (r, σr)) (H : Heap) (locs : List Loc) (hH : HX G layX B σ H) (hS : va_S (inW layX B) s.heap H locs) (ls : Array Slot) (hl : lv_has ls 2 [(0, .ref (B + k0)), (1, .int v1)]) : WM p l e 3 s m args below meth c H locs G layX B (some (.int r)) σr (F0 m 32 ls []) := by
  unfold b_X2_isBeyond_32 at hf
  have hx := X.1.1
  have hb := X.1.2.1
  refine lv_iinc (v := (v1 + (1 : Int32))) (lv' := [(1, .int (v1 + (1 : Int32))), (0, .ref (B + k0))]) hx hb dX2_isBeyond_32 hl (k := 1) rfl rfl (by decide) rfl (fun ls hl => ?_)
  refine lv_goto (tgt := 2) hx hb dX2_isBeyond_35 (by decide) ?_
  exact ih2 (v1 + (1 : Int32)) σ _ _ _ hf hH hS (lv_sub hl [1, 0] rfl)
def b_X2_isBeyond_2 (c2 : Int32 → Sto → Option (Int32 × Sto)) (k0 : Nat) (v1 : Int32) (σ : Sto) : Option (Int32 × Sto) :=
  if (σ.1 k0 3) ≤ v1 then (some ((0 : Int32), σ)) else (bd2 (f_X2_isLive k0 v1 σ) fun r203 σ202 => if r203 = 0 then (b_X2_isBeyond_32 c2 k0 v1 σ202) else (if (v1 < 0 ∨ 30 ≤ v1.toNatClampNeg) then none else bd2 (f_X3_isBeyond (k0 + 3 + 2 * v1.toNatClampNeg) σ202) fun r307 σ306 => if r307 = 0 then (b_X2_isBeyond_32 c2 k0 v1 σ306) else (some ((1 : Int32), σ306))))
set_option maxHeartbeats 4000000 in
set_option maxRecDepth 100000 in
theorem w_X2_isBeyond_2 {p : Program} {l : Launch} {e : Env} {s : State} {m : MethodId} {args : Array Value} {below : List Frame} {meth : Method} {c : Code} {G : Gd} {B : Nat} (X : Cm p s m args meth c cX2_isBeyond 2 RX2 G (some .boolean)) (c2 : Int32 → Sto → Option (Int32 × Sto)) (k0 : Nat) (h0 : (k0 < layX.2.2 ∧ layX.1 k0 = .inl 2)) {r : Int32} {σr : Sto} (ih2 : ∀ (v1 : Int32) (σ : Sto) (H : Heap) (locs : List Loc) (ls : Array Slot), c2 v1 σ = some (r, σr) → HX G layX B σ H → va_S (inW layX B) s.heap H locs → lv_has ls 2 [(0, .ref (B + k0)), (1, .int v1)] → WM p l e 3 s m args below meth c H locs G layX B (some (.int r)) σr (F0 m 2 ls [])) (v1 : Int32) (σ : Sto) (hf : b_X2_isBeyond_2 c2 k0 v1 σ = some (r, σr)) (H : Heap) (locs : List Loc) (hH : HX G layX B σ H) (hS : va_S (inW layX B) s.heap H locs) (ls : Array Slot) (hl : lv_has ls 2 [(0, .ref (B + k0)), (1, .int v1)]) : WM p l e 3 s m args below meth c H locs G layX B (some (.int r)) σr (F0 m 2 ls []) := by
  unfold b_X2_isBeyond_2 at hf
  have hx := X.1.1
  have hb := X.1.2.1
  refine lv_iload_n hx hb dX2_isBeyond_2 rfl (lv_at hl 1 rfl) ?_
  refine lv_aload_n hx hb dX2_isBeyond_3 rfl (lv_at hl 0 rfl) ?_
  refine g_get (v := .int (σ.1 k0 3)) kX2 (by decide) fl_RX2_39 X.1 hH h0 rfl dX2_isBeyond_4 ?_
  refine lv_icmp_ge (tgt := 38) hx hb dX2_isBeyond_7 (by decide) (fun q201 => ?_) (fun q201 => ?_)
  · replace hf := brT hf q201
    refine lv_iconst (v := 0) hx hb dX2_isBeyond_38 (by decide) ?_
    obtain ⟨rfl, rfl⟩ := rt2 hf
    exact g_zret X hH hS (by decide) dX2_isBeyond_39
  · replace hf := brF hf q201
    refine lv_aload_n hx hb dX2_isBeyond_10 rfl (lv_at hl 0 rfl) ?_
    refine lv_iload_n hx hb dX2_isBeyond_11 rfl (lv_at hl 1 rfl) ?_
    obtain ⟨r203, σ202, eσ202, hf⟩ := bnd2 hf
    refine g_cVi (As := [.int v1]) X.1 hH hS (c_X2_isLive l G B k0 h0 v1 σ σ202 r203 eσ202) kw_RX2_53 kX2 h0 (by decide) rfl hl (Nat.le_of_ble_eq_true rfl) rfl dX2_isBeyond_12 (fun H locs hH hS => ?_)
    refine lv_if_eq (tgt := 32) hx hb dX2_isBeyond_15 (by decide) (fun q204 => ?_) (fun q204 => ?_)
    · replace hf := brT hf q204
      exact w_X2_isBeyond_32 X c2 k0 h0 ih2 v1 σ202 hf _ _ hH hS _ (lv_sub hl [0, 1] rfl)
    · replace hf := brF hf q204
      refine lv_aload_n hx hb dX2_isBeyond_18 rfl (lv_at hl 0 rfl) ?_
      refine g_get (v := .ref (B + (k0 + 1))) kX2 (by decide) fl_RX2_11 X.1 hH h0 (bRef0 h0) dX2_isBeyond_19 ?_
      refine lv_iload_n hx hb dX2_isBeyond_22 rfl (lv_at hl 1 rfl) ?_
      obtain ⟨q305, hf⟩ := chk hf
      refine g_aald (b := (k0 + 3 + 2 * v1.toNatClampNeg)) X.1 hH (bArr h0) (by decide) q305 (bRf h0 q305) dX2_isBeyond_23 ?_
      obtain ⟨r307, σ306, eσ306, hf⟩ := bnd2 hf
      refine g_cVi (As := []) X.1 hH hS (c_X3_isBeyond l G B (k0 + 3 + 2 * v1.toNatClampNeg) (bCl h0 q305) σ202 σ306 r307 eσ306) kw_RX2_60 kX3 (bCl h0 q305) (by decide) rfl hl (Nat.le_of_ble_eq_true rfl) rfl dX2_isBeyond_24 (fun H locs hH hS => ?_)
      refine lv_if_eq (tgt := 32) hx hb dX2_isBeyond_27 (by decide) (fun q308 => ?_) (fun q308 => ?_)
      · replace hf := brT hf q308
        exact w_X2_isBeyond_32 X c2 k0 h0 ih2 v1 σ306 hf _ _ hH hS _ (lv_sub hl [0, 1] rfl)
      · replace hf := brF hf q308
        refine lv_iconst (v := 1) hx hb dX2_isBeyond_30 (by decide) ?_
        obtain ⟨rfl, rfl⟩ := rt2 hf
        exact g_zret X hH hS (by decide) dX2_isBeyond_31
def l_X2_isBeyond_2 (k0 : Nat) : Nat → Int32 → Sto → Option (Int32 × Sto)
  | 0, _, _ => none
  | n + 1, v1, σ => b_X2_isBeyond_2 (l_X2_isBeyond_2 k0 n) k0 v1 σ
set_option maxHeartbeats 4000000 in
set_option maxRecDepth 100000 in
theorem wl_X2_isBeyond_2 {p : Program} {l : Launch} {e : Env} {s : State} {m : MethodId} {args : Array Value} {below : List Frame} {meth : Method} {c : Code} {G : Gd} {B : Nat} (X : Cm p s m args meth c cX2_isBeyond 2 RX2 G (some .boolean)) (k0 : Nat) (h0 : (k0 < layX.2.2 ∧ layX.1 k0 = .inl 2)) {r : Int32} {σr : Sto} (n : Nat) : ∀ (v1 : Int32) (σ : Sto) (H : Heap) (locs : List Loc) (ls : Array Slot), l_X2_isBeyond_2 k0 n v1 σ = some (r, σr) → HX G layX B σ H → va_S (inW layX B) s.heap H locs → lv_has ls 2 [(0, .ref (B + k0)), (1, .int v1)] → WM p l e 3 s m args below meth c H locs G layX B (some (.int r)) σr (F0 m 2 ls []) := by
  induction n with
  | zero =>
    intro _ σ H locs ls hf
    cases hf
  | succ n ih =>
    intro v1 σ H locs ls hf hH hS hl
    exact w_X2_isBeyond_2 X (l_X2_isBeyond_2 k0 n) k0 h0 ih v1 σ hf H locs hH hS ls hl
def f_X2_isBeyond (k0 : Nat) (σ : Sto) : Option (Int32 × Sto) :=
  l_X2_isBeyond_2 k0 400 (0 : Int32) σ
set_option maxHeartbeats 4000000 in
set_option maxRecDepth 100000 in
theorem w_X2_isBeyond {p : Program} {l : Launch} {e : Env} {s : State} {m : MethodId} {args : Array Value} {below : List Frame} {meth : Method} {c : Code} {G : Gd} {B : Nat} (X : Cm p s m args meth c cX2_isBeyond 2 RX2 G (some .boolean)) (k0 : Nat) (h0 : (k0 < layX.2.2 ∧ layX.1 k0 = .inl 2)) {r : Int32} {σr : Sto} (σ : Sto) (hf : f_X2_isBeyond k0 σ = some (r, σr)) (H : Heap) (locs : List Loc) (hH : HX G layX B σ H) (hS : va_S (inW layX B) s.heap H locs) (ls : Array Slot) (hl : lv_has ls 2 [(0, .ref (B + k0))]) : WM p l e 3 s m args below meth c H locs G layX B (some (.int r)) σr (F0 m 0 ls []) := by
  unfold f_X2_isBeyond at hf
  have hx := X.1.1
  have hb := X.1.2.1
  refine lv_iconst (v := 0) hx hb dX2_isBeyond_0 (by decide) ?_
  refine lv_istore_n (lv' := [(1, .int (0 : Int32)), (0, .ref (B + k0))]) hx hb dX2_isBeyond_1 rfl hl (by decide) rfl (fun ls hl => ?_)
  exact wl_X2_isBeyond_2 X k0 h0 400 (0 : Int32) σ _ _ _ hf hH hS (lv_sub hl [1, 0] rfl)
theorem c_X2_isBeyond (l : Launch) (G : Gd) (B : Nat) (k0 : Nat) (h0 : (k0 < layX.2.2 ∧ layX.1 k0 = .inl 2)) (σ σr : Sto) (r : Int32) (hf : f_X2_isBeyond k0 σ = some (r, σr)) : Ct l G layX B yX2_isBeyond cX2_isBeyond 2 (some .boolean) 3 [.ref (B + k0)] (some (.int r)) σ σr :=
  Ct.ofW (by decide) (Nat.le_of_ble_eq_true rfl) (fun _ _ _ _ _ _ _ X hH hS ls hl => w_X2_isBeyond X k0 h0 σ hf _ _ hH hS ls (show lv_has ls 2 [(0, .ref (B + k0))] from hl))
-- SlackProofs$Book.isFull()Z  (D 0)
def b_X2_isFull_14 (k0 : Nat) (s0 : Int32) (σ : Sto) : Option (Int32 × Sto) :=
  if ¬ (s0 = 0 ∨ s0 = 1) then none else some (s0, σ)
set_option maxHeartbeats 4000000 in
set_option maxRecDepth 100000 in
theorem w_X2_isFull_14 {p : Program} {l : Launch} {e : Env} {s : State} {m : MethodId} {args : Array Value} {below : List Frame} {meth : Method} {c : Code} {G : Gd} {B : Nat} (X : Cm p s m args meth c cX2_isFull 1 RX2 G (some .boolean)) (k0 : Nat) (h0 : (k0 < layX.2.2 ∧ layX.1 k0 = .inl 2)) {r : Int32} {σr : Sto} (s0 : Int32) (σ : Sto) (hf : b_X2_isFull_14 k0 s0 σ = some (r, σr)) (H : Heap) (locs : List Loc) (hH : HX G layX B σ H) (hS : va_S (inW layX B) s.heap H locs) (ls : Array Slot) (hl : lv_has ls 1 []) : WM p l e 0 s m args below meth c H locs G layX B (some (.int r)) σr (F0 m 14 ls [.int s0]) := by
  unfold b_X2_isFull_14 at hf
  have hx := X.1.1
  have hb := X.1.2.1
  obtain ⟨q202, hf⟩ := chk hf
  obtain ⟨rfl, rfl⟩ := rt2 hf
  exact g_zret X hH hS (Decidable.not_not.mp q202) dX2_isFull_14
def f_X2_isFull (k0 : Nat) (σ : Sto) : Option (Int32 × Sto) :=
  if (σ.1 k0 3) < (30 : Int32) then (b_X2_isFull_14 k0 (0 : Int32) σ) else (b_X2_isFull_14 k0 (1 : Int32) σ)
set_option maxHeartbeats 4000000 in
set_option maxRecDepth 100000 in
theorem w_X2_isFull {p : Program} {l : Launch} {e : Env} {s : State} {m : MethodId} {args : Array Value} {below : List Frame} {meth : Method} {c : Code} {G : Gd} {B : Nat} (X : Cm p s m args meth c cX2_isFull 1 RX2 G (some .boolean)) (k0 : Nat) (h0 : (k0 < layX.2.2 ∧ layX.1 k0 = .inl 2)) {r : Int32} {σr : Sto} (σ : Sto) (hf : f_X2_isFull k0 σ = some (r, σr)) (H : Heap) (locs : List Loc) (hH : HX G layX B σ H) (hS : va_S (inW layX B) s.heap H locs) (ls : Array Slot) (hl : lv_has ls 1 [(0, .ref (B + k0))]) : WM p l e 0 s m args below meth c H locs G layX B (some (.int r)) σr (F0 m 0 ls []) := by
  unfold f_X2_isFull at hf
  have hx := X.1.1
  have hb := X.1.2.1
  refine lv_aload_n hx hb dX2_isFull_0 rfl (lv_at hl 0 rfl) ?_
  refine g_get (v := .int (σ.1 k0 3)) kX2 (by decide) fl_RX2_39 X.1 hH h0 rfl dX2_isFull_1 ?_
  refine lv_bipush (v := 30) hx hb dX2_isFull_4 (by decide) ?_
  refine lv_icmp_lt (tgt := 13) hx hb dX2_isFull_6 (by decide) (fun q101 => ?_) (fun q101 => ?_)
  · replace hf := brT hf q101
    refine lv_iconst (v := 0) hx hb dX2_isFull_13 (by decide) ?_
    exact w_X2_isFull_14 X k0 h0 (0 : Int32) σ hf _ _ hH hS _ (lv_sub hl [] rfl)
  · replace hf := brF hf q101
    refine lv_iconst (v := 1) hx hb dX2_isFull_9 (by decide) ?_
    refine lv_goto (tgt := 14) hx hb dX2_isFull_10 (by decide) ?_
    exact w_X2_isFull_14 X k0 h0 (1 : Int32) σ hf _ _ hH hS _ (lv_sub hl [] rfl)
theorem c_X2_isFull (l : Launch) (G : Gd) (B : Nat) (k0 : Nat) (h0 : (k0 < layX.2.2 ∧ layX.1 k0 = .inl 2)) (σ σr : Sto) (r : Int32) (hf : f_X2_isFull k0 σ = some (r, σr)) : Ct l G layX B yX2_isFull cX2_isFull 1 (some .boolean) 0 [.ref (B + k0)] (some (.int r)) σ σr :=
  Ct.ofW (by decide) (Nat.le_of_ble_eq_true rfl) (fun _ _ _ _ _ _ _ X hH hS ls hl => w_X2_isFull X k0 h0 σ hf _ _ hH hS ls (show lv_has ls 1 [(0, .ref (B + k0))] from hl))
-- SlackProofs$Book.next()LSlackProofs$Clause;  (D 0)
def f_X2_next (k0 : Nat) (σ : Sto) : Option (Nat × Sto) :=
  if ((σ.1 k0 3) < 0 ∨ 30 ≤ (σ.1 k0 3).toNatClampNeg) then none else some ((k0 + 3 + 2 * (σ.1 k0 3).toNatClampNeg), σ)
set_option maxHeartbeats 4000000 in
set_option maxRecDepth 100000 in
theorem w_X2_next {p : Program} {l : Launch} {e : Env} {s : State} {m : MethodId} {args : Array Value} {below : List Frame} {meth : Method} {c : Code} {G : Gd} {B : Nat} (X : Cm p s m args meth c cX2_next 1 RX2 G (some (.object "SlackProofs$Clause"))) (k0 : Nat) (h0 : (k0 < layX.2.2 ∧ layX.1 k0 = .inl 2)) {r : Nat} {σr : Sto} (σ : Sto) (hf : f_X2_next k0 σ = some (r, σr)) (H : Heap) (locs : List Loc) (hH : HX G layX B σ H) (hS : va_S (inW layX B) s.heap H locs) (ls : Array Slot) (hl : lv_has ls 1 [(0, .ref (B + k0))]) : WM p l e 0 s m args below meth c H locs G layX B (some (.ref (B + r))) σr (F0 m 0 ls []) := by
  unfold f_X2_next at hf
  have hx := X.1.1
  have hb := X.1.2.1
  refine lv_aload_n hx hb dX2_next_0 rfl (lv_at hl 0 rfl) ?_
  refine g_get (v := .ref (B + (k0 + 1))) kX2 (by decide) fl_RX2_11 X.1 hH h0 (bRef0 h0) dX2_next_1 ?_
  refine lv_aload_n hx hb dX2_next_4 rfl (lv_at hl 0 rfl) ?_
  refine g_get (v := .int (σ.1 k0 3)) kX2 (by decide) fl_RX2_39 X.1 hH h0 rfl dX2_next_5 ?_
  obtain ⟨q101, hf⟩ := chk hf
  refine g_aald (b := (k0 + 3 + 2 * (σ.1 k0 3).toNatClampNeg)) X.1 hH (bArr h0) (by decide) q101 (bRf h0 q101) dX2_next_8 ?_
  obtain ⟨rfl, rfl⟩ := rt2 hf
  exact g_aret X hH hS dX2_next_9
theorem c_X2_next (l : Launch) (G : Gd) (B : Nat) (k0 : Nat) (h0 : (k0 < layX.2.2 ∧ layX.1 k0 = .inl 2)) (σ σr : Sto) (r : Nat) (hf : f_X2_next k0 σ = some (r, σr)) : Ct l G layX B yX2_next cX2_next 1 (some (.object "SlackProofs$Clause")) 0 [.ref (B + k0)] (some (.ref (B + r))) σ σr :=
  Ct.ofW (by decide) (Nat.le_of_ble_eq_true rfl) (fun _ _ _ _ _ _ _ X hH hS ls hl => w_X2_next X k0 h0 σ hf _ _ hH hS ls (show lv_has ls 1 [(0, .ref (B + k0))] from hl))
