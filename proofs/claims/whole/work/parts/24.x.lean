-- SlackProofs.solutions(I)I  (D 6)
def b_X7_solutions_22 (σ : Sto) : Option (Int32 × Sto) :=
  some ((-1000001 : Int32), σ)
set_option maxHeartbeats 4000000 in
set_option maxRecDepth 100000 in
theorem w_X7_solutions_22 {p : Program} {l : Launch} {e : Env} {s : State} {m : MethodId} {args : Array Value} {below : List Frame} {meth : Method} {c : Code} {G : Gd} {B : Nat} (X : Cm p s m args meth c cX7_solutions 2 RX7 G (some .int)) {r : Int32} {σr : Sto} (σ : Sto) (hf : b_X7_solutions_22 σ = some (r, σr)) (H : Heap) (locs : List Loc) (hH : HX G layX B σ H) (hS : va_S (inW layX B) s.heap H locs) (ls : Array Slot) (hl : lv_has ls 2 []) : WM p l e 6 s m args below meth c H locs G layX B (some (.int r)) σr (F0 m 22 ls []) := by
  unfold b_X7_solutions_22 at hf
  have hx := X.1.1
  have hb := X.1.2.1
  refine lv_ldc (v := -1000001) hx hb X.1.2.2.2.1 (X.1.2.2.2.2.1 _ kc_RX7_65) dX7_solutions_22 ?_
  obtain ⟨rfl, rfl⟩ := rt2 hf
  exact g_iret X hH hS dX7_solutions_24
def b_X7_solutions_62 (s0 : Int32) (σ : Sto) : Option (Int32 × Sto) :=
  bd2 (f_X7_well s0 σ) fun r311 σ310 => some (r311, σ310)
set_option maxHeartbeats 4000000 in
set_option maxRecDepth 100000 in
theorem w_X7_solutions_62 {p : Program} {l : Launch} {e : Env} {s : State} {m : MethodId} {args : Array Value} {below : List Frame} {meth : Method} {c : Code} {G : Gd} {B : Nat} (X : Cm p s m args meth c cX7_solutions 2 RX7 G (some .int)) {r : Int32} {σr : Sto} (s0 : Int32) (σ : Sto) (hf : b_X7_solutions_62 s0 σ = some (r, σr)) (H : Heap) (locs : List Loc) (hH : HX G layX B σ H) (hS : va_S (inW layX B) s.heap H locs) (ls : Array Slot) (hl : lv_has ls 2 []) : WM p l e 6 s m args below meth c H locs G layX B (some (.int r)) σr (F0 m 62 ls [.int s0, .ref (B + 0)]) := by
  unfold b_X7_solutions_62 at hf
  have hx := X.1.1
  have hb := X.1.2.1
  obtain ⟨r311, σ310, eσ310, hf⟩ := bnd2 hf
  refine g_cVi (As := [.int s0]) X.1 hH hS (c_X7_well l G B s0 σ σ310 r311 eσ310) kw_RX7_74 kX7 kx_0 (by decide) rfl hl (Nat.le_of_ble_eq_true rfl) rfl dX7_solutions_62 (fun H locs hH hS => ?_)
  obtain ⟨rfl, rfl⟩ := rt2 hf
  exact g_iret X hH hS dX7_solutions_65
def f_X7_solutions (x1 : Int32) (σ : Sto) : Option (Int32 × Sto) :=
  if (σ.1 33 2) = 0 then (some ((-1000002 : Int32), σ)) else (if x1 < 0 then (b_X7_solutions_22 σ) else (if x1 ≤ (2 : Int32) then (bd2 (f_X2_isBeyond 33 σ) fun r205 σ204 => if r205 = 0 then (if x1 = 0 then (bd2 (f_X2_countSolutions 33 σ204) fun r313 σ312 => b_X7_solutions_62 r313 σ312) else (bd2 (f_X7_bestOfAll x1 σ204) fun r209 σ208 => b_X7_solutions_62 r209 σ208)) else (bd2 (f_X7_found (6 : Int32) σ204) fun r315 σ314 => some (r315, σ314))) else (b_X7_solutions_22 σ)))
set_option maxHeartbeats 4000000 in
set_option maxRecDepth 100000 in
theorem w_X7_solutions {p : Program} {l : Launch} {e : Env} {s : State} {m : MethodId} {args : Array Value} {below : List Frame} {meth : Method} {c : Code} {G : Gd} {B : Nat} (X : Cm p s m args meth c cX7_solutions 2 RX7 G (some .int)) {r : Int32} {σr : Sto} (x1 : Int32) (σ : Sto) (hf : f_X7_solutions x1 σ = some (r, σr)) (H : Heap) (locs : List Loc) (hH : HX G layX B σ H) (hS : va_S (inW layX B) s.heap H locs) (ls : Array Slot) (hl : lv_has ls 2 [(0, .ref (B + 0)), (1, .int x1)]) : WM p l e 6 s m args below meth c H locs G layX B (some (.int r)) σr (F0 m 0 ls []) := by
  unfold f_X7_solutions at hf
  have hx := X.1.1
  have hb := X.1.2.1
  refine lv_aload_n hx hb dX7_solutions_0 rfl (lv_at hl 0 rfl) ?_
  refine g_get (v := .ref (B + 33)) kX7 (by decide) fl_RX7_26 X.1 hH kx_0 rfl dX7_solutions_1 ?_
  refine g_get (v := .int (σ.1 33 2)) kX2 (by decide) fl_RX7_197 X.1 hH kx_33 rfl dX7_solutions_4 ?_
  refine lv_if_ne (tgt := 13) hx hb dX7_solutions_7 (by decide) (fun q101 => ?_) (fun q101 => ?_)
  · replace hf := brF hf q101
    refine lv_iload_n hx hb dX7_solutions_13 rfl (lv_at hl 1 rfl) ?_
    refine lv_if_lt (tgt := 22) hx hb dX7_solutions_14 (by decide) (fun q102 => ?_) (fun q102 => ?_)
    · replace hf := brT hf q102
      exact w_X7_solutions_22 X σ hf _ _ hH hS _ (lv_sub hl [] rfl)
    · replace hf := brF hf q102
      refine lv_iload_n hx hb dX7_solutions_17 rfl (lv_at hl 1 rfl) ?_
      refine lv_iconst (v := 2) hx hb dX7_solutions_18 (by decide) ?_
      refine lv_icmp_le (tgt := 25) hx hb dX7_solutions_19 (by decide) (fun q203 => ?_) (fun q203 => ?_)
      · replace hf := brT hf q203
        refine lv_aload_n hx hb dX7_solutions_25 rfl (lv_at hl 0 rfl) ?_
        refine g_get (v := .ref (B + 33)) kX7 (by decide) fl_RX7_26 X.1 hH kx_0 rfl dX7_solutions_26 ?_
        obtain ⟨r205, σ204, eσ204, hf⟩ := bnd2 hf
        refine g_cVi (As := []) X.1 hH hS (c_X2_isBeyond l G B 33 kx_33 σ σ204 r205 eσ204) kw_RX7_218 kX2 kx_33 (by decide) rfl hl (Nat.le_of_ble_eq_true rfl) rfl dX7_solutions_29 (fun H locs hH hS => ?_)
        refine lv_if_eq (tgt := 42) hx hb dX7_solutions_32 (by decide) (fun q206 => ?_) (fun q206 => ?_)
        · replace hf := brT hf q206
          refine lv_aload_n hx hb dX7_solutions_42 rfl (lv_at hl 0 rfl) ?_
          refine lv_iload_n hx hb dX7_solutions_43 rfl (lv_at hl 1 rfl) ?_
          refine lv_if_ne (tgt := 57) hx hb dX7_solutions_44 (by decide) (fun q207 => ?_) (fun q207 => ?_)
          · replace hf := brF hf q207
            refine lv_aload_n hx hb dX7_solutions_57 rfl (lv_at hl 0 rfl) ?_
            refine lv_iload_n hx hb dX7_solutions_58 rfl (lv_at hl 1 rfl) ?_
            obtain ⟨r209, σ208, eσ208, hf⟩ := bnd2 hf
            refine g_cVi (As := [.int x1]) X.1 hH hS (c_X7_bestOfAll l G B x1 σ204 σ208 r209 eσ208) kw_RX7_291 kX7 kx_0 (by decide) rfl hl (Nat.le_of_ble_eq_true rfl) rfl dX7_solutions_59 (fun H locs hH hS => ?_)
            exact w_X7_solutions_62 X r209 σ208 hf _ _ hH hS _ (lv_sub hl [] rfl)
          · replace hf := brT hf q207
            refine lv_aload_n hx hb dX7_solutions_47 rfl (lv_at hl 0 rfl) ?_
            refine g_get (v := .ref (B + 33)) kX7 (by decide) fl_RX7_26 X.1 hH kx_0 rfl dX7_solutions_48 ?_
            obtain ⟨r313, σ312, eσ312, hf⟩ := bnd2 hf
            refine g_cVi (As := []) X.1 hH hS (c_X2_countSolutions l G B 33 kx_33 σ204 σ312 r313 eσ312) kw_RX7_288 kX2 kx_33 (by decide) rfl hl (Nat.le_of_ble_eq_true rfl) rfl dX7_solutions_51 (fun H locs hH hS => ?_)
            refine lv_goto (tgt := 62) hx hb dX7_solutions_54 (by decide) ?_
            exact w_X7_solutions_62 X r313 σ312 hf _ _ hH hS _ (lv_sub hl [] rfl)
        · replace hf := brF hf q206
          refine lv_aload_n hx hb dX7_solutions_35 rfl (lv_at hl 0 rfl) ?_
          refine lv_bipush (v := 6) hx hb dX7_solutions_36 (by decide) ?_
          obtain ⟨r315, σ314, eσ314, hf⟩ := bnd2 hf
          refine g_cVi (As := [.int (6 : Int32)]) X.1 hH hS (c_X7_found l G B (6 : Int32) σ204 σ314 r315 eσ314) kw_RX7_66 kX7 kx_0 (by decide) rfl hl (Nat.le_of_ble_eq_true rfl) rfl dX7_solutions_38 (fun H locs hH hS => ?_)
          obtain ⟨rfl, rfl⟩ := rt2 hf
          exact g_iret X hH hS dX7_solutions_41
      · replace hf := brF hf q203
        exact w_X7_solutions_22 X σ hf _ _ hH hS _ (lv_sub hl [] rfl)
  · replace hf := brT hf q101
    refine lv_ldc (v := -1000002) hx hb X.1.2.2.2.1 (X.1.2.2.2.2.1 _ kc_RX7_201) dX7_solutions_10 ?_
    obtain ⟨rfl, rfl⟩ := rt2 hf
    exact g_iret X hH hS dX7_solutions_12
theorem c_X7_solutions (l : Launch) (G : Gd) (B : Nat) (x1 : Int32) (σ σr : Sto) (r : Int32) (hf : f_X7_solutions x1 σ = some (r, σr)) : Ct l G layX B yX7_solutions cX7_solutions 2 (some .int) 6 [.ref (B + 0), .int x1] (some (.int r)) σ σr :=
  Ct.ofW (by decide) (Nat.le_of_ble_eq_true rfl) (fun _ _ _ _ _ _ _ X hH hS ls hl => w_X7_solutions X x1 σ hf _ _ hH hS ls (show lv_has ls 2 [(0, .ref (B + 0)), (1, .int x1)] from hl))
-- SlackProofs.split(II)I  (D 2)
def b_X7_split_22 (v1 : Int32) (v2 : Int32) (s0 : Int32) (σ : Sto) : Option (Int32 × Sto) :=
  bd2 (f_X7_stepRefusal s0 σ) fun r305 σ304 => if r305 = 0 then (bd2 (f_X2_next 33 σ304) fun r308 σ307 => if ¬ (r308 < layX.2.2 ∧ layX.1 r308 = .inl 3) then none else if (v1 < 0 ∨ 30 ≤ v1.toNatClampNeg) then none else bd1 (f_X3_becomeSplit r308 (36 + 2 * v1.toNatClampNeg) v2 σ307) fun σ311 => bd2 (f_X7_comes (4 : Int32) σ311) fun r314 σ313 => some (r314, σ313)) else (some (r305, σ304))
set_option maxHeartbeats 4000000 in
set_option maxRecDepth 100000 in
theorem w_X7_split_22 {p : Program} {l : Launch} {e : Env} {s : State} {m : MethodId} {args : Array Value} {below : List Frame} {meth : Method} {c : Code} {G : Gd} {B : Nat} (X : Cm p s m args meth c cX7_split 4 RX7 G (some .int)) {r : Int32} {σr : Sto} (v1 : Int32) (v2 : Int32) (s0 : Int32) (σ : Sto) (hf : b_X7_split_22 v1 v2 s0 σ = some (r, σr)) (H : Heap) (locs : List Loc) (hH : HX G layX B σ H) (hS : va_S (inW layX B) s.heap H locs) (ls : Array Slot) (hl : lv_has ls 4 [(0, .ref (B + 0)), (1, .int v1), (2, .int v2)]) : WM p l e 2 s m args below meth c H locs G layX B (some (.int r)) σr (F0 m 22 ls [.int s0, .ref (B + 0)]) := by
  unfold b_X7_split_22 at hf
  have hx := X.1.1
  have hb := X.1.2.1
  obtain ⟨r305, σ304, eσ304, hf⟩ := bnd2 hf
  refine g_cVi (As := [.int s0]) X.1 hH hS (c_X7_stepRefusal l G B s0 σ σ304 r305 eσ304) kw_RX7_159 kX7 kx_0 (by decide) rfl hl (Nat.le_of_ble_eq_true rfl) rfl dX7_split_22 (fun H locs hH hS => ?_)
  refine lv_istore_n (lv' := [(3, .int r305), (0, .ref (B + 0)), (1, .int v1), (2, .int v2)]) hx hb dX7_split_25 rfl hl (by decide) rfl (fun ls hl => ?_)
  refine lv_iload_n hx hb dX7_split_26 rfl (lv_at hl 0 rfl) ?_
  refine lv_if_eq (tgt := 32) hx hb dX7_split_27 (by decide) (fun q306 => ?_) (fun q306 => ?_)
  · replace hf := brT hf q306
    refine lv_aload_n hx hb dX7_split_32 rfl (lv_at hl 1 rfl) ?_
    refine g_get (v := .ref (B + 33)) kX7 (by decide) fl_RX7_26 X.1 hH kx_0 rfl dX7_split_33 ?_
    obtain ⟨r308, σ307, eσ307, hf⟩ := bnd2 hf
    refine g_cVr (As := []) X.1 hH hS (c_X2_next l G B 33 kx_33 σ304 σ307 r308 eσ307) kw_RX7_133 kX2 kx_33 (by decide) rfl hl (Nat.le_of_ble_eq_true rfl) rfl dX7_split_36 (fun H locs hH hS => ?_)
    obtain ⟨q309, hf⟩ := chk hf
    replace q309 := Decidable.not_not.mp q309
    refine lv_aload_n hx hb dX7_split_39 rfl (lv_at hl 1 rfl) ?_
    refine g_get (v := .ref (B + 33)) kX7 (by decide) fl_RX7_26 X.1 hH kx_0 rfl dX7_split_40 ?_
    refine g_get (v := .ref (B + 34)) kX2 (by decide) fl_RX7_163 X.1 hH kx_33 rfl dX7_split_43 ?_
    refine lv_iload_n hx hb dX7_split_46 rfl (lv_at hl 2 rfl) ?_
    obtain ⟨q310, hf⟩ := chk hf
    refine g_aald (b := (36 + 2 * v1.toNatClampNeg)) X.1 hH kx_34 (by decide) q310 rfl dX7_split_47 ?_
    refine lv_iload_n hx hb dX7_split_48 rfl (lv_at hl 3 rfl) ?_
    obtain ⟨σ311, eσ311, hf⟩ := bnd1 hf
    refine g_cVv (As := [.ref (B + (36 + 2 * v1.toNatClampNeg)), .int v2]) X.1 hH hS (c_X3_becomeSplit l G B r308 q309 (36 + 2 * v1.toNatClampNeg) (kB33 q310) v2 σ307 σ311 eσ311) kw_RX7_175 kX3 q309 (by decide) rfl hl (Nat.le_of_ble_eq_true rfl) rfl dX7_split_49 (fun H locs hH hS => ?_)
    refine lv_aload_n hx hb dX7_split_52 rfl (lv_at hl 1 rfl) ?_
    refine lv_iconst (v := 4) hx hb dX7_split_53 (by decide) ?_
    obtain ⟨r314, σ313, eσ313, hf⟩ := bnd2 hf
    refine g_cVi (As := [.int (4 : Int32)]) X.1 hH hS (c_X7_comes l G B (4 : Int32) σ311 σ313 r314 eσ313) kw_RX7_168 kX7 kx_0 (by decide) rfl hl (Nat.le_of_ble_eq_true rfl) rfl dX7_split_54 (fun H locs hH hS => ?_)
    obtain ⟨rfl, rfl⟩ := rt2 hf
    exact g_iret X hH hS dX7_split_57
  · replace hf := brF hf q306
    refine lv_iload_n hx hb dX7_split_30 rfl (lv_at hl 0 rfl) ?_
    obtain ⟨rfl, rfl⟩ := rt2 hf
    exact g_iret X hH hS dX7_split_31
def b_X7_split_21 (v1 : Int32) (v2 : Int32) (σ : Sto) : Option (Int32 × Sto) :=
  b_X7_split_22 v1 v2 (0 : Int32) σ
set_option maxHeartbeats 4000000 in
set_option maxRecDepth 100000 in
theorem w_X7_split_21 {p : Program} {l : Launch} {e : Env} {s : State} {m : MethodId} {args : Array Value} {below : List Frame} {meth : Method} {c : Code} {G : Gd} {B : Nat} (X : Cm p s m args meth c cX7_split 4 RX7 G (some .int)) {r : Int32} {σr : Sto} (v1 : Int32) (v2 : Int32) (σ : Sto) (hf : b_X7_split_21 v1 v2 σ = some (r, σr)) (H : Heap) (locs : List Loc) (hH : HX G layX B σ H) (hS : va_S (inW layX B) s.heap H locs) (ls : Array Slot) (hl : lv_has ls 4 [(0, .ref (B + 0)), (1, .int v1), (2, .int v2)]) : WM p l e 2 s m args below meth c H locs G layX B (some (.int r)) σr (F0 m 21 ls [.ref (B + 0)]) := by
  unfold b_X7_split_21 at hf
  have hx := X.1.1
  have hb := X.1.2.1
  refine lv_iconst (v := 0) hx hb dX7_split_21 (by decide) ?_
  exact w_X7_split_22 X v1 v2 (0 : Int32) σ hf _ _ hH hS _ (lv_sub hl [0, 1, 2] rfl)
def f_X7_split (x1 : Int32) (x2 : Int32) (σ : Sto) : Option (Int32 × Sto) :=
  bd2 (f_X2_has 33 x1 σ) fun r102 σ101 => if r102 = 0 then (b_X7_split_21 x1 x2 σ101) else (if x2 < (1 : Int32) then (b_X7_split_21 x1 x2 σ101) else (b_X7_split_22 x1 x2 (1 : Int32) σ101))
set_option maxHeartbeats 4000000 in
set_option maxRecDepth 100000 in
theorem w_X7_split {p : Program} {l : Launch} {e : Env} {s : State} {m : MethodId} {args : Array Value} {below : List Frame} {meth : Method} {c : Code} {G : Gd} {B : Nat} (X : Cm p s m args meth c cX7_split 4 RX7 G (some .int)) {r : Int32} {σr : Sto} (x1 : Int32) (x2 : Int32) (σ : Sto) (hf : f_X7_split x1 x2 σ = some (r, σr)) (H : Heap) (locs : List Loc) (hH : HX G layX B σ H) (hS : va_S (inW layX B) s.heap H locs) (ls : Array Slot) (hl : lv_has ls 4 [(0, .ref (B + 0)), (1, .int x1), (2, .int x2)]) : WM p l e 2 s m args below meth c H locs G layX B (some (.int r)) σr (F0 m 0 ls []) := by
  unfold f_X7_split at hf
  have hx := X.1.1
  have hb := X.1.2.1
  refine lv_aload_n hx hb dX7_split_0 rfl (lv_at hl 0 rfl) ?_
  refine lv_aload_n hx hb dX7_split_1 rfl (lv_at hl 0 rfl) ?_
  refine g_get (v := .ref (B + 33)) kX7 (by decide) fl_RX7_26 X.1 hH kx_0 rfl dX7_split_2 ?_
  refine lv_iload_n hx hb dX7_split_5 rfl (lv_at hl 1 rfl) ?_
  obtain ⟨r102, σ101, eσ101, hf⟩ := bnd2 hf
  refine g_cVi (As := [.int x1]) X.1 hH hS (c_X2_has l G B 33 kx_33 x1 σ σ101 r102 eσ101) kw_RX7_156 kX2 kx_33 (by decide) rfl hl (Nat.le_of_ble_eq_true rfl) rfl dX7_split_6 (fun H locs hH hS => ?_)
  refine lv_if_eq (tgt := 21) hx hb dX7_split_9 (by decide) (fun q103 => ?_) (fun q103 => ?_)
  · replace hf := brT hf q103
    exact w_X7_split_21 X x1 x2 σ101 hf _ _ hH hS _ (lv_sub hl [0, 1, 2] rfl)
  · replace hf := brF hf q103
    refine lv_iload_n hx hb dX7_split_12 rfl (lv_at hl 2 rfl) ?_
    refine lv_iconst (v := 1) hx hb dX7_split_13 (by decide) ?_
    refine lv_icmp_lt (tgt := 21) hx hb dX7_split_14 (by decide) (fun q315 => ?_) (fun q315 => ?_)
    · replace hf := brT hf q315
      exact w_X7_split_21 X x1 x2 σ101 hf _ _ hH hS _ (lv_sub hl [0, 1, 2] rfl)
    · replace hf := brF hf q315
      refine lv_iconst (v := 1) hx hb dX7_split_17 (by decide) ?_
      refine lv_goto (tgt := 22) hx hb dX7_split_18 (by decide) ?_
      exact w_X7_split_22 X x1 x2 (1 : Int32) σ101 hf _ _ hH hS _ (lv_sub hl [0, 1, 2] rfl)
theorem c_X7_split (l : Launch) (G : Gd) (B : Nat) (x1 : Int32) (x2 : Int32) (σ σr : Sto) (r : Int32) (hf : f_X7_split x1 x2 σ = some (r, σr)) : Ct l G layX B yX7_split cX7_split 4 (some .int) 2 [.ref (B + 0), .int x1, .int x2] (some (.int r)) σ σr :=
  Ct.ofW (by decide) (Nat.le_of_ble_eq_true rfl) (fun _ _ _ _ _ _ _ X hH hS ls hl => w_X7_split X x1 x2 σ hf _ _ hH hS ls (show lv_has ls 4 [(0, .ref (B + 0)), (1, .int x1), (2, .int x2)] from hl))
-- SlackProofs.status()I  (D 0)
def f_X7_status (σ : Sto) : Option (Int32 × Sto) :=
  some ((σ.1 0 7), σ)
set_option maxHeartbeats 4000000 in
set_option maxRecDepth 100000 in
theorem w_X7_status {p : Program} {l : Launch} {e : Env} {s : State} {m : MethodId} {args : Array Value} {below : List Frame} {meth : Method} {c : Code} {G : Gd} {B : Nat} (X : Cm p s m args meth c cX7_status 1 RX7 G (some .int)) {r : Int32} {σr : Sto} (σ : Sto) (hf : f_X7_status σ = some (r, σr)) (H : Heap) (locs : List Loc) (hH : HX G layX B σ H) (hS : va_S (inW layX B) s.heap H locs) (ls : Array Slot) (hl : lv_has ls 1 [(0, .ref (B + 0))]) : WM p l e 0 s m args below meth c H locs G layX B (some (.int r)) σr (F0 m 0 ls []) := by
  unfold f_X7_status at hf
  have hx := X.1.1
  have hb := X.1.2.1
  refine lv_aload_n hx hb dX7_status_0 rfl (lv_at hl 0 rfl) ?_
  refine g_get (v := .int (σ.1 0 7)) kX7 (by decide) fl_RX7_57 X.1 hH kx_0 rfl dX7_status_1 ?_
  obtain ⟨rfl, rfl⟩ := rt2 hf
  exact g_iret X hH hS dX7_status_4
theorem c_X7_status (l : Launch) (G : Gd) (B : Nat) (σ σr : Sto) (r : Int32) (hf : f_X7_status σ = some (r, σr)) : Ct l G layX B yX7_status cX7_status 1 (some .int) 0 [.ref (B + 0)] (some (.int r)) σ σr :=
  Ct.ofW (by decide) (Nat.le_of_ble_eq_true rfl) (fun _ _ _ _ _ _ _ X hH hS ls hl => w_X7_status X σ hf _ _ hH hS ls (show lv_has ls 1 [(0, .ref (B + 0))] from hl))
-- SlackProofs.sum(I)J  (D 3)
def f_X7_sum (x1 : Int32) (σ : Sto) : Option (Int64 × Sto) :=
  bd2 (f_X2_has 33 x1 σ) fun r102 σ101 => if r102 = 0 then (some ((-1000001 : Int64), σ101)) else (if (x1 < 0 ∨ 30 ≤ x1.toNatClampNeg) then none else bd2 (f_X3_isBeyond (36 + 2 * x1.toNatClampNeg) σ101) fun r106 σ105 => if r106 = 0 then (nmS (pI σ105 0 7 (0 : Int32)) fun σ108 => if (x1 < 0 ∨ 30 ≤ x1.toNatClampNeg) then none else bd2 (f_X3_total (36 + 2 * x1.toNatClampNeg) σ108) fun r111 σ110 => some (r111, σ110)) else (bd2 (f_X7_found (6 : Int32) σ105) fun r113 σ112 => some (r113.toInt64, σ112)))
set_option maxHeartbeats 4000000 in
set_option maxRecDepth 100000 in
theorem w_X7_sum {p : Program} {l : Launch} {e : Env} {s : State} {m : MethodId} {args : Array Value} {below : List Frame} {meth : Method} {c : Code} {G : Gd} {B : Nat} (X : Cm p s m args meth c cX7_sum 2 RX7 G (some .long)) {r : Int64} {σr : Sto} (x1 : Int32) (σ : Sto) (hf : f_X7_sum x1 σ = some (r, σr)) (H : Heap) (locs : List Loc) (hH : HX G layX B σ H) (hS : va_S (inW layX B) s.heap H locs) (ls : Array Slot) (hl : lv_has ls 2 [(0, .ref (B + 0)), (1, .int x1)]) : WM p l e 3 s m args below meth c H locs G layX B (some (.long r)) σr (F0 m 0 ls []) := by
  unfold f_X7_sum at hf
  have hx := X.1.1
  have hb := X.1.2.1
  refine lv_aload_n hx hb dX7_sum_0 rfl (lv_at hl 0 rfl) ?_
  refine g_get (v := .ref (B + 33)) kX7 (by decide) fl_RX7_26 X.1 hH kx_0 rfl dX7_sum_1 ?_
  refine lv_iload_n hx hb dX7_sum_4 rfl (lv_at hl 1 rfl) ?_
  obtain ⟨r102, σ101, eσ101, hf⟩ := bnd2 hf
  refine g_cVi (As := [.int x1]) X.1 hH hS (c_X2_has l G B 33 kx_33 x1 σ σ101 r102 eσ101) kw_RX7_156 kX2 kx_33 (by decide) rfl hl (Nat.le_of_ble_eq_true rfl) rfl dX7_sum_5 (fun H locs hH hS => ?_)
  refine lv_if_ne (tgt := 15) hx hb dX7_sum_8 (by decide) (fun q103 => ?_) (fun q103 => ?_)
  · replace hf := brF hf q103
    refine lv_aload_n hx hb dX7_sum_15 rfl (lv_at hl 0 rfl) ?_
    refine g_get (v := .ref (B + 33)) kX7 (by decide) fl_RX7_26 X.1 hH kx_0 rfl dX7_sum_16 ?_
    refine g_get (v := .ref (B + 34)) kX2 (by decide) fl_RX7_163 X.1 hH kx_33 rfl dX7_sum_19 ?_
    refine lv_iload_n hx hb dX7_sum_22 rfl (lv_at hl 1 rfl) ?_
    obtain ⟨q104, hf⟩ := chk hf
    refine g_aald (b := (36 + 2 * x1.toNatClampNeg)) X.1 hH kx_34 (by decide) q104 rfl dX7_sum_23 ?_
    obtain ⟨r106, σ105, eσ105, hf⟩ := bnd2 hf
    refine g_cVi (As := []) X.1 hH hS (c_X3_isBeyond l G B (36 + 2 * x1.toNatClampNeg) (kB33 q104) σ101 σ105 r106 eσ105) kw_RX7_270 kX3 (kB33 q104) (by decide) rfl hl (Nat.le_of_ble_eq_true rfl) rfl dX7_sum_24 (fun H locs hH hS => ?_)
    refine lv_if_eq (tgt := 38) hx hb dX7_sum_27 (by decide) (fun q107 => ?_) (fun q107 => ?_)
    · replace hf := brT hf q107
      refine lv_aload_n hx hb dX7_sum_38 rfl (lv_at hl 0 rfl) ?_
      refine lv_iconst (v := 0) hx hb dX7_sum_39 (by decide) ?_
      refine g_putI kX7 (by decide) fl_RX7_57 rfl rfl X.1 hH hS kx_0 dX7_sum_40 (fun H locs hH hS => ?_)
      obtain ⟨σ108, eσ108, hH⟩ := nmX hH
      replace hf := nmU hf eσ108
      refine lv_aload_n hx hb dX7_sum_43 rfl (lv_at hl 0 rfl) ?_
      refine g_get (v := .ref (B + 33)) kX7 (by decide) fl_RX7_26 X.1 hH kx_0 rfl dX7_sum_44 ?_
      refine g_get (v := .ref (B + 34)) kX2 (by decide) fl_RX7_163 X.1 hH kx_33 rfl dX7_sum_47 ?_
      refine lv_iload_n hx hb dX7_sum_50 rfl (lv_at hl 1 rfl) ?_
      obtain ⟨q109, hf⟩ := chk hf
      refine g_aald (b := (36 + 2 * x1.toNatClampNeg)) X.1 hH kx_34 (by decide) q109 rfl dX7_sum_51 ?_
      obtain ⟨r111, σ110, eσ110, hf⟩ := bnd2 hf
      refine g_cVl (As := []) X.1 hH hS (c_X3_total l G B (36 + 2 * x1.toNatClampNeg) (kB33 q109) σ108 σ110 r111 eσ110) kw_RX7_271 kX3 (kB33 q109) (by decide) rfl hl (Nat.le_of_ble_eq_true rfl) rfl dX7_sum_52 (fun H locs hH hS => ?_)
      obtain ⟨rfl, rfl⟩ := rt2 hf
      exact g_lret X hH hS dX7_sum_55
    · replace hf := brF hf q107
      refine lv_aload_n hx hb dX7_sum_30 rfl (lv_at hl 0 rfl) ?_
      refine lv_bipush (v := 6) hx hb dX7_sum_31 (by decide) ?_
      obtain ⟨r113, σ112, eσ112, hf⟩ := bnd2 hf
      refine g_cVi (As := [.int (6 : Int32)]) X.1 hH hS (c_X7_found l G B (6 : Int32) σ105 σ112 r113 eσ112) kw_RX7_66 kX7 kx_0 (by decide) rfl hl (Nat.le_of_ble_eq_true rfl) rfl dX7_sum_33 (fun H locs hH hS => ?_)
      refine lv_i2l hx hb dX7_sum_36 rfl ?_
      obtain ⟨rfl, rfl⟩ := rt2 hf
      exact g_lret X hH hS dX7_sum_37
  · replace hf := brT hf q103
    refine lv_ldc2 (v := -1000001) hx hb X.1.2.2.2.1 (X.1.2.2.2.2.1 _ kc_RX7_268) dX7_sum_11 ?_
    obtain ⟨rfl, rfl⟩ := rt2 hf
    exact g_lret X hH hS dX7_sum_14
theorem c_X7_sum (l : Launch) (G : Gd) (B : Nat) (x1 : Int32) (σ σr : Sto) (r : Int64) (hf : f_X7_sum x1 σ = some (r, σr)) : Ct l G layX B yX7_sum cX7_sum 2 (some .long) 3 [.ref (B + 0), .int x1] (some (.long r)) σ σr :=
  Ct.ofW (by decide) (Nat.le_of_ble_eq_true rfl) (fun _ _ _ _ _ _ _ X hH hS ls hl => w_X7_sum X x1 σ hf _ _ hH hS ls (show lv_has ls 2 [(0, .ref (B + 0)), (1, .int x1)] from hl))
-- SlackProofs.times(II)I  (D 2)
def b_X7_times_22 (v1 : Int32) (v2 : Int32) (s0 : Int32) (σ : Sto) : Option (Int32 × Sto) :=
  bd2 (f_X7_stepRefusal s0 σ) fun r305 σ304 => if r305 = 0 then (bd2 (f_X2_next 33 σ304) fun r308 σ307 => if ¬ (r308 < layX.2.2 ∧ layX.1 r308 = .inl 3) then none else if (v1 < 0 ∨ 30 ≤ v1.toNatClampNeg) then none else bd2 (f_X3_becomeTimes r308 (36 + 2 * v1.toNatClampNeg) v2 σ307) fun r312 σ311 => if r312 = 0 then (bd2 (f_X7_found (6 : Int32) σ311) fun r319 σ318 => some (r319, σ318)) else (bd2 (f_X7_comes (4 : Int32) σ311) fun r315 σ314 => bd2 (f_X7_well r315 σ314) fun r317 σ316 => some (r317, σ316))) else (some (r305, σ304))
set_option maxHeartbeats 4000000 in
set_option maxRecDepth 100000 in
theorem w_X7_times_22 {p : Program} {l : Launch} {e : Env} {s : State} {m : MethodId} {args : Array Value} {below : List Frame} {meth : Method} {c : Code} {G : Gd} {B : Nat} (X : Cm p s m args meth c cX7_times 4 RX7 G (some .int)) {r : Int32} {σr : Sto} (v1 : Int32) (v2 : Int32) (s0 : Int32) (σ : Sto) (hf : b_X7_times_22 v1 v2 s0 σ = some (r, σr)) (H : Heap) (locs : List Loc) (hH : HX G layX B σ H) (hS : va_S (inW layX B) s.heap H locs) (ls : Array Slot) (hl : lv_has ls 4 [(0, .ref (B + 0)), (1, .int v1), (2, .int v2)]) : WM p l e 2 s m args below meth c H locs G layX B (some (.int r)) σr (F0 m 22 ls [.int s0, .ref (B + 0)]) := by
  unfold b_X7_times_22 at hf
  have hx := X.1.1
  have hb := X.1.2.1
  obtain ⟨r305, σ304, eσ304, hf⟩ := bnd2 hf
  refine g_cVi (As := [.int s0]) X.1 hH hS (c_X7_stepRefusal l G B s0 σ σ304 r305 eσ304) kw_RX7_159 kX7 kx_0 (by decide) rfl hl (Nat.le_of_ble_eq_true rfl) rfl dX7_times_22 (fun H locs hH hS => ?_)
  refine lv_istore_n (lv' := [(3, .int r305), (0, .ref (B + 0)), (1, .int v1), (2, .int v2)]) hx hb dX7_times_25 rfl hl (by decide) rfl (fun ls hl => ?_)
  refine lv_iload_n hx hb dX7_times_26 rfl (lv_at hl 0 rfl) ?_
  refine lv_if_eq (tgt := 32) hx hb dX7_times_27 (by decide) (fun q306 => ?_) (fun q306 => ?_)
  · replace hf := brT hf q306
    refine lv_aload_n hx hb dX7_times_32 rfl (lv_at hl 1 rfl) ?_
    refine g_get (v := .ref (B + 33)) kX7 (by decide) fl_RX7_26 X.1 hH kx_0 rfl dX7_times_33 ?_
    obtain ⟨r308, σ307, eσ307, hf⟩ := bnd2 hf
    refine g_cVr (As := []) X.1 hH hS (c_X2_next l G B 33 kx_33 σ304 σ307 r308 eσ307) kw_RX7_133 kX2 kx_33 (by decide) rfl hl (Nat.le_of_ble_eq_true rfl) rfl dX7_times_36 (fun H locs hH hS => ?_)
    obtain ⟨q309, hf⟩ := chk hf
    replace q309 := Decidable.not_not.mp q309
    refine lv_aload_n hx hb dX7_times_39 rfl (lv_at hl 1 rfl) ?_
    refine g_get (v := .ref (B + 33)) kX7 (by decide) fl_RX7_26 X.1 hH kx_0 rfl dX7_times_40 ?_
    refine g_get (v := .ref (B + 34)) kX2 (by decide) fl_RX7_163 X.1 hH kx_33 rfl dX7_times_43 ?_
    refine lv_iload_n hx hb dX7_times_46 rfl (lv_at hl 2 rfl) ?_
    obtain ⟨q310, hf⟩ := chk hf
    refine g_aald (b := (36 + 2 * v1.toNatClampNeg)) X.1 hH kx_34 (by decide) q310 rfl dX7_times_47 ?_
    refine lv_iload_n hx hb dX7_times_48 rfl (lv_at hl 3 rfl) ?_
    obtain ⟨r312, σ311, eσ311, hf⟩ := bnd2 hf
    refine g_cVi (As := [.ref (B + (36 + 2 * v1.toNatClampNeg)), .int v2]) X.1 hH hS (c_X3_becomeTimes l G B r308 q309 (36 + 2 * v1.toNatClampNeg) (kB33 q310) v2 σ307 σ311 r312 eσ311) kw_RX7_171 kX3 q309 (by decide) rfl hl (Nat.le_of_ble_eq_true rfl) rfl dX7_times_49 (fun H locs hH hS => ?_)
    refine lv_if_ne (tgt := 62) hx hb dX7_times_52 (by decide) (fun q313 => ?_) (fun q313 => ?_)
    · replace hf := brF hf q313
      refine lv_aload_n hx hb dX7_times_62 rfl (lv_at hl 1 rfl) ?_
      refine lv_aload_n hx hb dX7_times_63 rfl (lv_at hl 1 rfl) ?_
      refine lv_iconst (v := 4) hx hb dX7_times_64 (by decide) ?_
      obtain ⟨r315, σ314, eσ314, hf⟩ := bnd2 hf
      refine g_cVi (As := [.int (4 : Int32)]) X.1 hH hS (c_X7_comes l G B (4 : Int32) σ311 σ314 r315 eσ314) kw_RX7_168 kX7 kx_0 (by decide) rfl hl (Nat.le_of_ble_eq_true rfl) rfl dX7_times_65 (fun H locs hH hS => ?_)
      obtain ⟨r317, σ316, eσ316, hf⟩ := bnd2 hf
      refine g_cVi (As := [.int r315]) X.1 hH hS (c_X7_well l G B r315 σ314 σ316 r317 eσ316) kw_RX7_74 kX7 kx_0 (by decide) rfl hl (Nat.le_of_ble_eq_true rfl) rfl dX7_times_68 (fun H locs hH hS => ?_)
      obtain ⟨rfl, rfl⟩ := rt2 hf
      exact g_iret X hH hS dX7_times_71
    · replace hf := brT hf q313
      refine lv_aload_n hx hb dX7_times_55 rfl (lv_at hl 1 rfl) ?_
      refine lv_bipush (v := 6) hx hb dX7_times_56 (by decide) ?_
      obtain ⟨r319, σ318, eσ318, hf⟩ := bnd2 hf
      refine g_cVi (As := [.int (6 : Int32)]) X.1 hH hS (c_X7_found l G B (6 : Int32) σ311 σ318 r319 eσ318) kw_RX7_66 kX7 kx_0 (by decide) rfl hl (Nat.le_of_ble_eq_true rfl) rfl dX7_times_58 (fun H locs hH hS => ?_)
      obtain ⟨rfl, rfl⟩ := rt2 hf
      exact g_iret X hH hS dX7_times_61
  · replace hf := brF hf q306
    refine lv_iload_n hx hb dX7_times_30 rfl (lv_at hl 0 rfl) ?_
    obtain ⟨rfl, rfl⟩ := rt2 hf
    exact g_iret X hH hS dX7_times_31
def b_X7_times_21 (v1 : Int32) (v2 : Int32) (σ : Sto) : Option (Int32 × Sto) :=
  b_X7_times_22 v1 v2 (0 : Int32) σ
set_option maxHeartbeats 4000000 in
set_option maxRecDepth 100000 in
theorem w_X7_times_21 {p : Program} {l : Launch} {e : Env} {s : State} {m : MethodId} {args : Array Value} {below : List Frame} {meth : Method} {c : Code} {G : Gd} {B : Nat} (X : Cm p s m args meth c cX7_times 4 RX7 G (some .int)) {r : Int32} {σr : Sto} (v1 : Int32) (v2 : Int32) (σ : Sto) (hf : b_X7_times_21 v1 v2 σ = some (r, σr)) (H : Heap) (locs : List Loc) (hH : HX G layX B σ H) (hS : va_S (inW layX B) s.heap H locs) (ls : Array Slot) (hl : lv_has ls 4 [(0, .ref (B + 0)), (1, .int v1), (2, .int v2)]) : WM p l e 2 s m args below meth c H locs G layX B (some (.int r)) σr (F0 m 21 ls [.ref (B + 0)]) := by
  unfold b_X7_times_21 at hf
  have hx := X.1.1
  have hb := X.1.2.1
  refine lv_iconst (v := 0) hx hb dX7_times_21 (by decide) ?_
  exact w_X7_times_22 X v1 v2 (0 : Int32) σ hf _ _ hH hS _ (lv_sub hl [0, 1, 2] rfl)
def f_X7_times (x1 : Int32) (x2 : Int32) (σ : Sto) : Option (Int32 × Sto) :=
  bd2 (f_X2_has 33 x1 σ) fun r102 σ101 => if r102 = 0 then (b_X7_times_21 x1 x2 σ101) else (if x2 < (1 : Int32) then (b_X7_times_21 x1 x2 σ101) else (b_X7_times_22 x1 x2 (1 : Int32) σ101))
set_option maxHeartbeats 4000000 in
set_option maxRecDepth 100000 in
theorem w_X7_times {p : Program} {l : Launch} {e : Env} {s : State} {m : MethodId} {args : Array Value} {below : List Frame} {meth : Method} {c : Code} {G : Gd} {B : Nat} (X : Cm p s m args meth c cX7_times 4 RX7 G (some .int)) {r : Int32} {σr : Sto} (x1 : Int32) (x2 : Int32) (σ : Sto) (hf : f_X7_times x1 x2 σ = some (r, σr)) (H : Heap) (locs : List Loc) (hH : HX G layX B σ H) (hS : va_S (inW layX B) s.heap H locs) (ls : Array Slot) (hl : lv_has ls 4 [(0, .ref (B + 0)), (1, .int x1), (2, .int x2)]) : WM p l e 2 s m args below meth c H locs G layX B (some (.int r)) σr (F0 m 0 ls []) := by
  unfold f_X7_times at hf
  have hx := X.1.1
  have hb := X.1.2.1
  refine lv_aload_n hx hb dX7_times_0 rfl (lv_at hl 0 rfl) ?_
  refine lv_aload_n hx hb dX7_times_1 rfl (lv_at hl 0 rfl) ?_
  refine g_get (v := .ref (B + 33)) kX7 (by decide) fl_RX7_26 X.1 hH kx_0 rfl dX7_times_2 ?_
  refine lv_iload_n hx hb dX7_times_5 rfl (lv_at hl 1 rfl) ?_
  obtain ⟨r102, σ101, eσ101, hf⟩ := bnd2 hf
  refine g_cVi (As := [.int x1]) X.1 hH hS (c_X2_has l G B 33 kx_33 x1 σ σ101 r102 eσ101) kw_RX7_156 kX2 kx_33 (by decide) rfl hl (Nat.le_of_ble_eq_true rfl) rfl dX7_times_6 (fun H locs hH hS => ?_)
  refine lv_if_eq (tgt := 21) hx hb dX7_times_9 (by decide) (fun q103 => ?_) (fun q103 => ?_)
  · replace hf := brT hf q103
    exact w_X7_times_21 X x1 x2 σ101 hf _ _ hH hS _ (lv_sub hl [0, 1, 2] rfl)
  · replace hf := brF hf q103
    refine lv_iload_n hx hb dX7_times_12 rfl (lv_at hl 2 rfl) ?_
    refine lv_iconst (v := 1) hx hb dX7_times_13 (by decide) ?_
    refine lv_icmp_lt (tgt := 21) hx hb dX7_times_14 (by decide) (fun q320 => ?_) (fun q320 => ?_)
    · replace hf := brT hf q320
      exact w_X7_times_21 X x1 x2 σ101 hf _ _ hH hS _ (lv_sub hl [0, 1, 2] rfl)
    · replace hf := brF hf q320
      refine lv_iconst (v := 1) hx hb dX7_times_17 (by decide) ?_
      refine lv_goto (tgt := 22) hx hb dX7_times_18 (by decide) ?_
      exact w_X7_times_22 X x1 x2 (1 : Int32) σ101 hf _ _ hH hS _ (lv_sub hl [0, 1, 2] rfl)
theorem c_X7_times (l : Launch) (G : Gd) (B : Nat) (x1 : Int32) (x2 : Int32) (σ σr : Sto) (r : Int32) (hf : f_X7_times x1 x2 σ = some (r, σr)) : Ct l G layX B yX7_times cX7_times 4 (some .int) 2 [.ref (B + 0), .int x1, .int x2] (some (.int r)) σ σr :=
  Ct.ofW (by decide) (Nat.le_of_ble_eq_true rfl) (fun _ _ _ _ _ _ _ X hH hS ls hl => w_X7_times X x1 x2 σ hf _ _ hH hS ls (show lv_has ls 4 [(0, .ref (B + 0)), (1, .int x1), (2, .int x2)] from hl))
-- SlackProofs.trace(I)I  (D 0)
def b_X7_trace_29 (s0 : Int32) (σ : Sto) : Option (Int32 × Sto) :=
  some (s0, σ)
set_option maxHeartbeats 4000000 in
set_option maxRecDepth 100000 in
theorem w_X7_trace_29 {p : Program} {l : Launch} {e : Env} {s : State} {m : MethodId} {args : Array Value} {below : List Frame} {meth : Method} {c : Code} {G : Gd} {B : Nat} (X : Cm p s m args meth c cX7_trace 2 RX7 G (some .int)) {r : Int32} {σr : Sto} (s0 : Int32) (σ : Sto) (hf : b_X7_trace_29 s0 σ = some (r, σr)) (H : Heap) (locs : List Loc) (hH : HX G layX B σ H) (hS : va_S (inW layX B) s.heap H locs) (ls : Array Slot) (hl : lv_has ls 2 []) : WM p l e 0 s m args below meth c H locs G layX B (some (.int r)) σr (F0 m 29 ls [.int s0]) := by
  unfold b_X7_trace_29 at hf
  have hx := X.1.1
  have hb := X.1.2.1
  obtain ⟨rfl, rfl⟩ := rt2 hf
  exact g_iret X hH hS dX7_trace_29
def b_X7_trace_27 (σ : Sto) : Option (Int32 × Sto) :=
  b_X7_trace_29 (-1000000 : Int32) σ
set_option maxHeartbeats 4000000 in
set_option maxRecDepth 100000 in
theorem w_X7_trace_27 {p : Program} {l : Launch} {e : Env} {s : State} {m : MethodId} {args : Array Value} {below : List Frame} {meth : Method} {c : Code} {G : Gd} {B : Nat} (X : Cm p s m args meth c cX7_trace 2 RX7 G (some .int)) {r : Int32} {σr : Sto} (σ : Sto) (hf : b_X7_trace_27 σ = some (r, σr)) (H : Heap) (locs : List Loc) (hH : HX G layX B σ H) (hS : va_S (inW layX B) s.heap H locs) (ls : Array Slot) (hl : lv_has ls 2 []) : WM p l e 0 s m args below meth c H locs G layX B (some (.int r)) σr (F0 m 27 ls []) := by
  unfold b_X7_trace_27 at hf
  have hx := X.1.1
  have hb := X.1.2.1
  refine lv_ldc (v := -1000000) hx hb X.1.2.2.2.1 (X.1.2.2.2.2.1 _ kc_RX7_224) dX7_trace_27 ?_
  exact w_X7_trace_29 X (-1000000 : Int32) σ hf _ _ hH hS _ (lv_sub hl [] rfl)
def f_X7_trace (x1 : Int32) (σ : Sto) : Option (Int32 × Sto) :=
  if x1 < 0 then (b_X7_trace_27 σ) else (if (σ.1 236 1) ≤ x1 then (b_X7_trace_27 σ) else (if (x1 < 0 ∨ 16 ≤ x1.toNatClampNeg) then none else b_X7_trace_29 (σ.1 237 x1.toNatClampNeg) σ))
set_option maxHeartbeats 4000000 in
set_option maxRecDepth 100000 in
theorem w_X7_trace {p : Program} {l : Launch} {e : Env} {s : State} {m : MethodId} {args : Array Value} {below : List Frame} {meth : Method} {c : Code} {G : Gd} {B : Nat} (X : Cm p s m args meth c cX7_trace 2 RX7 G (some .int)) {r : Int32} {σr : Sto} (x1 : Int32) (σ : Sto) (hf : f_X7_trace x1 σ = some (r, σr)) (H : Heap) (locs : List Loc) (hH : HX G layX B σ H) (hS : va_S (inW layX B) s.heap H locs) (ls : Array Slot) (hl : lv_has ls 2 [(0, .ref (B + 0)), (1, .int x1)]) : WM p l e 0 s m args below meth c H locs G layX B (some (.int r)) σr (F0 m 0 ls []) := by
  unfold f_X7_trace at hf
  have hx := X.1.1
  have hb := X.1.2.1
  refine lv_iload_n hx hb dX7_trace_0 rfl (lv_at hl 1 rfl) ?_
  refine lv_if_lt (tgt := 27) hx hb dX7_trace_1 (by decide) (fun q101 => ?_) (fun q101 => ?_)
  · replace hf := brT hf q101
    exact w_X7_trace_27 X σ hf _ _ hH hS _ (lv_sub hl [] rfl)
  · replace hf := brF hf q101
    refine lv_iload_n hx hb dX7_trace_4 rfl (lv_at hl 1 rfl) ?_
    refine lv_aload_n hx hb dX7_trace_5 rfl (lv_at hl 0 rfl) ?_
    refine g_get (v := .ref (B + 236)) kX7 (by decide) fl_RX7_53 X.1 hH kx_0 rfl dX7_trace_6 ?_
    refine g_get (v := .int (σ.1 236 1)) kX1 (by decide) fl_RX7_302 X.1 hH kx_236 rfl dX7_trace_9 ?_
    refine lv_icmp_ge (tgt := 27) hx hb dX7_trace_12 (by decide) (fun q302 => ?_) (fun q302 => ?_)
    · replace hf := brT hf q302
      exact w_X7_trace_27 X σ hf _ _ hH hS _ (lv_sub hl [] rfl)
    · replace hf := brF hf q302
      refine lv_aload_n hx hb dX7_trace_15 rfl (lv_at hl 0 rfl) ?_
      refine g_get (v := .ref (B + 236)) kX7 (by decide) fl_RX7_53 X.1 hH kx_0 rfl dX7_trace_16 ?_
      refine g_get (v := .ref (B + 237)) kX1 (by decide) fl_RX7_310 X.1 hH kx_236 rfl dX7_trace_19 ?_
      refine lv_iload_n hx hb dX7_trace_22 rfl (lv_at hl 1 rfl) ?_
      obtain ⟨q303, hf⟩ := chk hf
      refine g_iald (j := x1.toNatClampNeg) X.1 hH kx_237 q303 rfl dX7_trace_23 ?_
      refine lv_goto (tgt := 29) hx hb dX7_trace_24 (by decide) ?_
      exact w_X7_trace_29 X (σ.1 237 x1.toNatClampNeg) σ hf _ _ hH hS _ (lv_sub hl [] rfl)
theorem c_X7_trace (l : Launch) (G : Gd) (B : Nat) (x1 : Int32) (σ σr : Sto) (r : Int32) (hf : f_X7_trace x1 σ = some (r, σr)) : Ct l G layX B yX7_trace cX7_trace 2 (some .int) 0 [.ref (B + 0), .int x1] (some (.int r)) σ σr :=
  Ct.ofW (by decide) (Nat.le_of_ble_eq_true rfl) (fun _ _ _ _ _ _ _ X hH hS ls hl => w_X7_trace X x1 σ hf _ _ hH hS ls (show lv_has ls 2 [(0, .ref (B + 0)), (1, .int x1)] from hl))
-- SlackProofs.undo()I  (D 1)
def f_X7_undo (σ : Sto) : Option (Int32 × Sto) :=
  if (σ.1 223 4) = 0 then (some ((-1000002 : Int32), σ)) else (bd2 (f_X0_takeBack 33 σ) fun r103 σ102 => some (r103, σ102))
set_option maxHeartbeats 4000000 in
set_option maxRecDepth 100000 in
theorem w_X7_undo {p : Program} {l : Launch} {e : Env} {s : State} {m : MethodId} {args : Array Value} {below : List Frame} {meth : Method} {c : Code} {G : Gd} {B : Nat} (X : Cm p s m args meth c cX7_undo 1 RX7 G (some .int)) {r : Int32} {σr : Sto} (σ : Sto) (hf : f_X7_undo σ = some (r, σr)) (H : Heap) (locs : List Loc) (hH : HX G layX B σ H) (hS : va_S (inW layX B) s.heap H locs) (ls : Array Slot) (hl : lv_has ls 1 [(0, .ref (B + 0))]) : WM p l e 1 s m args below meth c H locs G layX B (some (.int r)) σr (F0 m 0 ls []) := by
  unfold f_X7_undo at hf
  have hx := X.1.1
  have hb := X.1.2.1
  refine lv_aload_n hx hb dX7_undo_0 rfl (lv_at hl 0 rfl) ?_
  refine g_get (v := .ref (B + 223)) kX7 (by decide) fl_RX7_37 X.1 hH kx_0 rfl dX7_undo_1 ?_
  refine g_get (v := .int (σ.1 223 4)) kX0 (by decide) fl_RX7_257 X.1 hH kx_223 rfl dX7_undo_4 ?_
  refine lv_if_ne (tgt := 13) hx hb dX7_undo_7 (by decide) (fun q101 => ?_) (fun q101 => ?_)
  · replace hf := brF hf q101
    refine lv_aload_n hx hb dX7_undo_13 rfl (lv_at hl 0 rfl) ?_
    refine g_get (v := .ref (B + 223)) kX7 (by decide) fl_RX7_37 X.1 hH kx_0 rfl dX7_undo_14 ?_
    refine lv_aload_n hx hb dX7_undo_17 rfl (lv_at hl 0 rfl) ?_
    refine g_get (v := .ref (B + 33)) kX7 (by decide) fl_RX7_26 X.1 hH kx_0 rfl dX7_undo_18 ?_
    obtain ⟨r103, σ102, eσ102, hf⟩ := bnd2 hf
    refine g_cVi (As := [.ref (B + 33)]) X.1 hH hS (c_X0_takeBack l G B 33 kx_33 σ σ102 r103 eσ102) kw_RX7_260 kX0 kx_223 (by decide) rfl hl (Nat.le_of_ble_eq_true rfl) rfl dX7_undo_21 (fun H locs hH hS => ?_)
    obtain ⟨rfl, rfl⟩ := rt2 hf
    exact g_iret X hH hS dX7_undo_24
  · replace hf := brT hf q101
    refine lv_ldc (v := -1000002) hx hb X.1.2.2.2.1 (X.1.2.2.2.2.1 _ kc_RX7_201) dX7_undo_10 ?_
    obtain ⟨rfl, rfl⟩ := rt2 hf
    exact g_iret X hH hS dX7_undo_12
theorem c_X7_undo (l : Launch) (G : Gd) (B : Nat) (σ σr : Sto) (r : Int32) (hf : f_X7_undo σ = some (r, σr)) : Ct l G layX B yX7_undo cX7_undo 1 (some .int) 1 [.ref (B + 0)] (some (.int r)) σ σr :=
  Ct.ofW (by decide) (Nat.le_of_ble_eq_true rfl) (fun _ _ _ _ _ _ _ X hH hS ls hl => w_X7_undo X σ hf _ _ hH hS ls (show lv_has ls 1 [(0, .ref (B + 0))] from hl))
-- SlackProofs.verdict()I  (D 4)
def b_X7_verdict_64 (s0 : Int32) (σ : Sto) : Option (Int32 × Sto) :=
  bd2 (f_X7_well s0 σ) fun r210 σ209 => some (r210, σ209)
set_option maxHeartbeats 4000000 in
set_option maxRecDepth 100000 in
theorem w_X7_verdict_64 {p : Program} {l : Launch} {e : Env} {s : State} {m : MethodId} {args : Array Value} {below : List Frame} {meth : Method} {c : Code} {G : Gd} {B : Nat} (X : Cm p s m args meth c cX7_verdict 1 RX7 G (some .int)) {r : Int32} {σr : Sto} (s0 : Int32) (σ : Sto) (hf : b_X7_verdict_64 s0 σ = some (r, σr)) (H : Heap) (locs : List Loc) (hH : HX G layX B σ H) (hS : va_S (inW layX B) s.heap H locs) (ls : Array Slot) (hl : lv_has ls 1 []) : WM p l e 4 s m args below meth c H locs G layX B (some (.int r)) σr (F0 m 64 ls [.int s0, .ref (B + 0)]) := by
  unfold b_X7_verdict_64 at hf
  have hx := X.1.1
  have hb := X.1.2.1
  obtain ⟨r210, σ209, eσ209, hf⟩ := bnd2 hf
  refine g_cVi (As := [.int s0]) X.1 hH hS (c_X7_well l G B s0 σ σ209 r210 eσ209) kw_RX7_74 kX7 kx_0 (by decide) rfl hl (Nat.le_of_ble_eq_true rfl) rfl dX7_verdict_64 (fun H locs hH hS => ?_)
  obtain ⟨rfl, rfl⟩ := rt2 hf
  exact g_iret X hH hS dX7_verdict_67
def f_X7_verdict (σ : Sto) : Option (Int32 × Sto) :=
  if (σ.1 33 2) = 0 then (some ((-1000002 : Int32), σ)) else (bd2 (f_X2_isBeyond 33 σ) fun r103 σ102 => if r103 = 0 then (bd2 (f_X2_hasImpossible 33 σ102) fun r106 σ105 => if r106 = 0 then (bd2 (f_X7_well (0 : Int32) σ105) fun r212 σ211 => some (r212, σ211)) else (if (σ105.1 33 5) = (-1000000 : Int32) then (b_X7_verdict_64 (1 : Int32) σ105) else (b_X7_verdict_64 (2 : Int32) σ105))) else (bd2 (f_X7_found (6 : Int32) σ102) fun r214 σ213 => some (r214, σ213)))
set_option maxHeartbeats 4000000 in
set_option maxRecDepth 100000 in
theorem w_X7_verdict {p : Program} {l : Launch} {e : Env} {s : State} {m : MethodId} {args : Array Value} {below : List Frame} {meth : Method} {c : Code} {G : Gd} {B : Nat} (X : Cm p s m args meth c cX7_verdict 1 RX7 G (some .int)) {r : Int32} {σr : Sto} (σ : Sto) (hf : f_X7_verdict σ = some (r, σr)) (H : Heap) (locs : List Loc) (hH : HX G layX B σ H) (hS : va_S (inW layX B) s.heap H locs) (ls : Array Slot) (hl : lv_has ls 1 [(0, .ref (B + 0))]) : WM p l e 4 s m args below meth c H locs G layX B (some (.int r)) σr (F0 m 0 ls []) := by
  unfold f_X7_verdict at hf
  have hx := X.1.1
  have hb := X.1.2.1
  refine lv_aload_n hx hb dX7_verdict_0 rfl (lv_at hl 0 rfl) ?_
  refine g_get (v := .ref (B + 33)) kX7 (by decide) fl_RX7_26 X.1 hH kx_0 rfl dX7_verdict_1 ?_
  refine g_get (v := .int (σ.1 33 2)) kX2 (by decide) fl_RX7_197 X.1 hH kx_33 rfl dX7_verdict_4 ?_
  refine lv_if_ne (tgt := 13) hx hb dX7_verdict_7 (by decide) (fun q101 => ?_) (fun q101 => ?_)
  · replace hf := brF hf q101
    refine lv_aload_n hx hb dX7_verdict_13 rfl (lv_at hl 0 rfl) ?_
    refine g_get (v := .ref (B + 33)) kX7 (by decide) fl_RX7_26 X.1 hH kx_0 rfl dX7_verdict_14 ?_
    obtain ⟨r103, σ102, eσ102, hf⟩ := bnd2 hf
    refine g_cVi (As := []) X.1 hH hS (c_X2_isBeyond l G B 33 kx_33 σ σ102 r103 eσ102) kw_RX7_218 kX2 kx_33 (by decide) rfl hl (Nat.le_of_ble_eq_true rfl) rfl dX7_verdict_17 (fun H locs hH hS => ?_)
    refine lv_if_eq (tgt := 30) hx hb dX7_verdict_20 (by decide) (fun q104 => ?_) (fun q104 => ?_)
    · replace hf := brT hf q104
      refine lv_aload_n hx hb dX7_verdict_30 rfl (lv_at hl 0 rfl) ?_
      refine g_get (v := .ref (B + 33)) kX7 (by decide) fl_RX7_26 X.1 hH kx_0 rfl dX7_verdict_31 ?_
      obtain ⟨r106, σ105, eσ105, hf⟩ := bnd2 hf
      refine g_cVi (As := []) X.1 hH hS (c_X2_hasImpossible l G B 33 kx_33 σ102 σ105 r106 eσ105) kw_RX7_297 kX2 kx_33 (by decide) rfl hl (Nat.le_of_ble_eq_true rfl) rfl dX7_verdict_34 (fun H locs hH hS => ?_)
      refine lv_if_ne (tgt := 46) hx hb dX7_verdict_37 (by decide) (fun q107 => ?_) (fun q107 => ?_)
      · replace hf := brF hf q107
        refine lv_aload_n hx hb dX7_verdict_46 rfl (lv_at hl 0 rfl) ?_
        refine lv_aload_n hx hb dX7_verdict_47 rfl (lv_at hl 0 rfl) ?_
        refine g_get (v := .ref (B + 33)) kX7 (by decide) fl_RX7_26 X.1 hH kx_0 rfl dX7_verdict_48 ?_
        refine g_get (v := .int (σ105.1 33 5)) kX2 (by decide) fl_RX7_231 X.1 hH kx_33 rfl dX7_verdict_51 ?_
        refine lv_ldc (v := -1000000) hx hb X.1.2.2.2.1 (X.1.2.2.2.2.1 _ kc_RX7_224) dX7_verdict_54 ?_
        refine lv_icmp_ne (tgt := 63) hx hb dX7_verdict_56 (by decide) (fun q108 => ?_) (fun q108 => ?_)
        · replace hf := brF hf q108
          refine lv_iconst (v := 2) hx hb dX7_verdict_63 (by decide) ?_
          exact w_X7_verdict_64 X (2 : Int32) σ105 hf _ _ hH hS _ (lv_sub hl [] rfl)
        · replace hf := brT hf q108
          refine lv_iconst (v := 1) hx hb dX7_verdict_59 (by decide) ?_
          refine lv_goto (tgt := 64) hx hb dX7_verdict_60 (by decide) ?_
          exact w_X7_verdict_64 X (1 : Int32) σ105 hf _ _ hH hS _ (lv_sub hl [] rfl)
      · replace hf := brT hf q107
        refine lv_aload_n hx hb dX7_verdict_40 rfl (lv_at hl 0 rfl) ?_
        refine lv_iconst (v := 0) hx hb dX7_verdict_41 (by decide) ?_
        obtain ⟨r212, σ211, eσ211, hf⟩ := bnd2 hf
        refine g_cVi (As := [.int (0 : Int32)]) X.1 hH hS (c_X7_well l G B (0 : Int32) σ105 σ211 r212 eσ211) kw_RX7_74 kX7 kx_0 (by decide) rfl hl (Nat.le_of_ble_eq_true rfl) rfl dX7_verdict_42 (fun H locs hH hS => ?_)
        obtain ⟨rfl, rfl⟩ := rt2 hf
        exact g_iret X hH hS dX7_verdict_45
    · replace hf := brF hf q104
      refine lv_aload_n hx hb dX7_verdict_23 rfl (lv_at hl 0 rfl) ?_
      refine lv_bipush (v := 6) hx hb dX7_verdict_24 (by decide) ?_
      obtain ⟨r214, σ213, eσ213, hf⟩ := bnd2 hf
      refine g_cVi (As := [.int (6 : Int32)]) X.1 hH hS (c_X7_found l G B (6 : Int32) σ102 σ213 r214 eσ213) kw_RX7_66 kX7 kx_0 (by decide) rfl hl (Nat.le_of_ble_eq_true rfl) rfl dX7_verdict_26 (fun H locs hH hS => ?_)
      obtain ⟨rfl, rfl⟩ := rt2 hf
      exact g_iret X hH hS dX7_verdict_29
  · replace hf := brT hf q101
    refine lv_ldc (v := -1000002) hx hb X.1.2.2.2.1 (X.1.2.2.2.2.1 _ kc_RX7_201) dX7_verdict_10 ?_
    obtain ⟨rfl, rfl⟩ := rt2 hf
    exact g_iret X hH hS dX7_verdict_12
theorem c_X7_verdict (l : Launch) (G : Gd) (B : Nat) (σ σr : Sto) (r : Int32) (hf : f_X7_verdict σ = some (r, σr)) : Ct l G layX B yX7_verdict cX7_verdict 1 (some .int) 4 [.ref (B + 0)] (some (.int r)) σ σr :=
  Ct.ofW (by decide) (Nat.le_of_ble_eq_true rfl) (fun _ _ _ _ _ _ _ X hH hS ls hl => w_X7_verdict X σ hf _ _ hH hS ls (show lv_has ls 1 [(0, .ref (B + 0))] from hl))
-- SlackProofs.weaken(II)I  (D 3)
def b_X7_weaken_43 (v1 : Int32) (v2 : Int32) (s0 : Int32) (σ : Sto) : Option (Int32 × Sto) :=
  bd2 (f_X7_stepRefusal s0 σ) fun r305 σ304 => if r305 = 0 then (bd2 (f_X2_next 33 σ304) fun r308 σ307 => if ¬ (r308 < layX.2.2 ∧ layX.1 r308 = .inl 3) then none else if (v1 < 0 ∨ 30 ≤ v1.toNatClampNeg) then none else bd1 (f_X3_becomeWeakened r308 (36 + 2 * v1.toNatClampNeg) v2 σ307) fun σ311 => bd2 (f_X7_comes (4 : Int32) σ311) fun r314 σ313 => some (r314, σ313)) else (some (r305, σ304))
set_option maxHeartbeats 4000000 in
set_option maxRecDepth 100000 in
theorem w_X7_weaken_43 {p : Program} {l : Launch} {e : Env} {s : State} {m : MethodId} {args : Array Value} {below : List Frame} {meth : Method} {c : Code} {G : Gd} {B : Nat} (X : Cm p s m args meth c cX7_weaken 4 RX7 G (some .int)) {r : Int32} {σr : Sto} (v1 : Int32) (v2 : Int32) (s0 : Int32) (σ : Sto) (hf : b_X7_weaken_43 v1 v2 s0 σ = some (r, σr)) (H : Heap) (locs : List Loc) (hH : HX G layX B σ H) (hS : va_S (inW layX B) s.heap H locs) (ls : Array Slot) (hl : lv_has ls 4 [(0, .ref (B + 0)), (1, .int v1), (2, .int v2)]) : WM p l e 3 s m args below meth c H locs G layX B (some (.int r)) σr (F0 m 43 ls [.int s0, .ref (B + 0)]) := by
  unfold b_X7_weaken_43 at hf
  have hx := X.1.1
  have hb := X.1.2.1
  obtain ⟨r305, σ304, eσ304, hf⟩ := bnd2 hf
  refine g_cVi (As := [.int s0]) X.1 hH hS (c_X7_stepRefusal l G B s0 σ σ304 r305 eσ304) kw_RX7_159 kX7 kx_0 (by decide) rfl hl (Nat.le_of_ble_eq_true rfl) rfl dX7_weaken_43 (fun H locs hH hS => ?_)
  refine lv_istore_n (lv' := [(3, .int r305), (0, .ref (B + 0)), (1, .int v1), (2, .int v2)]) hx hb dX7_weaken_46 rfl hl (by decide) rfl (fun ls hl => ?_)
  refine lv_iload_n hx hb dX7_weaken_47 rfl (lv_at hl 0 rfl) ?_
  refine lv_if_eq (tgt := 53) hx hb dX7_weaken_48 (by decide) (fun q306 => ?_) (fun q306 => ?_)
  · replace hf := brT hf q306
    refine lv_aload_n hx hb dX7_weaken_53 rfl (lv_at hl 1 rfl) ?_
    refine g_get (v := .ref (B + 33)) kX7 (by decide) fl_RX7_26 X.1 hH kx_0 rfl dX7_weaken_54 ?_
    obtain ⟨r308, σ307, eσ307, hf⟩ := bnd2 hf
    refine g_cVr (As := []) X.1 hH hS (c_X2_next l G B 33 kx_33 σ304 σ307 r308 eσ307) kw_RX7_133 kX2 kx_33 (by decide) rfl hl (Nat.le_of_ble_eq_true rfl) rfl dX7_weaken_57 (fun H locs hH hS => ?_)
    obtain ⟨q309, hf⟩ := chk hf
    replace q309 := Decidable.not_not.mp q309
    refine lv_aload_n hx hb dX7_weaken_60 rfl (lv_at hl 1 rfl) ?_
    refine g_get (v := .ref (B + 33)) kX7 (by decide) fl_RX7_26 X.1 hH kx_0 rfl dX7_weaken_61 ?_
    refine g_get (v := .ref (B + 34)) kX2 (by decide) fl_RX7_163 X.1 hH kx_33 rfl dX7_weaken_64 ?_
    refine lv_iload_n hx hb dX7_weaken_67 rfl (lv_at hl 2 rfl) ?_
    obtain ⟨q310, hf⟩ := chk hf
    refine g_aald (b := (36 + 2 * v1.toNatClampNeg)) X.1 hH kx_34 (by decide) q310 rfl dX7_weaken_68 ?_
    refine lv_iload_n hx hb dX7_weaken_69 rfl (lv_at hl 3 rfl) ?_
    obtain ⟨σ311, eσ311, hf⟩ := bnd1 hf
    refine g_cVv (As := [.ref (B + (36 + 2 * v1.toNatClampNeg)), .int v2]) X.1 hH hS (c_X3_becomeWeakened l G B r308 q309 (36 + 2 * v1.toNatClampNeg) (kB33 q310) v2 σ307 σ311 eσ311) kw_RX7_189 kX3 q309 (by decide) rfl hl (Nat.le_of_ble_eq_true rfl) rfl dX7_weaken_70 (fun H locs hH hS => ?_)
    refine lv_aload_n hx hb dX7_weaken_73 rfl (lv_at hl 1 rfl) ?_
    refine lv_iconst (v := 4) hx hb dX7_weaken_74 (by decide) ?_
    obtain ⟨r314, σ313, eσ313, hf⟩ := bnd2 hf
    refine g_cVi (As := [.int (4 : Int32)]) X.1 hH hS (c_X7_comes l G B (4 : Int32) σ311 σ313 r314 eσ313) kw_RX7_168 kX7 kx_0 (by decide) rfl hl (Nat.le_of_ble_eq_true rfl) rfl dX7_weaken_75 (fun H locs hH hS => ?_)
    obtain ⟨rfl, rfl⟩ := rt2 hf
    exact g_iret X hH hS dX7_weaken_78
  · replace hf := brF hf q306
    refine lv_iload_n hx hb dX7_weaken_51 rfl (lv_at hl 0 rfl) ?_
    obtain ⟨rfl, rfl⟩ := rt2 hf
    exact g_iret X hH hS dX7_weaken_52
def b_X7_weaken_42 (v1 : Int32) (v2 : Int32) (σ : Sto) : Option (Int32 × Sto) :=
  b_X7_weaken_43 v1 v2 (0 : Int32) σ
set_option maxHeartbeats 4000000 in
set_option maxRecDepth 100000 in
theorem w_X7_weaken_42 {p : Program} {l : Launch} {e : Env} {s : State} {m : MethodId} {args : Array Value} {below : List Frame} {meth : Method} {c : Code} {G : Gd} {B : Nat} (X : Cm p s m args meth c cX7_weaken 4 RX7 G (some .int)) {r : Int32} {σr : Sto} (v1 : Int32) (v2 : Int32) (σ : Sto) (hf : b_X7_weaken_42 v1 v2 σ = some (r, σr)) (H : Heap) (locs : List Loc) (hH : HX G layX B σ H) (hS : va_S (inW layX B) s.heap H locs) (ls : Array Slot) (hl : lv_has ls 4 [(0, .ref (B + 0)), (1, .int v1), (2, .int v2)]) : WM p l e 3 s m args below meth c H locs G layX B (some (.int r)) σr (F0 m 42 ls [.ref (B + 0)]) := by
  unfold b_X7_weaken_42 at hf
  have hx := X.1.1
  have hb := X.1.2.1
  refine lv_iconst (v := 0) hx hb dX7_weaken_42 (by decide) ?_
  exact w_X7_weaken_43 X v1 v2 (0 : Int32) σ hf _ _ hH hS _ (lv_sub hl [0, 1, 2] rfl)
def f_X7_weaken (x1 : Int32) (x2 : Int32) (σ : Sto) : Option (Int32 × Sto) :=
  bd2 (f_X2_has 33 x1 σ) fun r102 σ101 => if r102 = 0 then (b_X7_weaken_42 x1 x2 σ101) else (bd2 (f_X7_isVariable x2 σ101) fun r316 σ315 => if r316 = 0 then (b_X7_weaken_42 x1 x2 σ315) else (if (x1 < 0 ∨ 30 ≤ x1.toNatClampNeg) then none else if (x2 < 0 ∨ 8 ≤ x2.toNatClampNeg) then none else if (σ315.2 ((36 + 2 * x1.toNatClampNeg) + 1) x2.toNatClampNeg) = (0 : Int64) then (b_X7_weaken_42 x1 x2 σ315) else (b_X7_weaken_43 x1 x2 (1 : Int32) σ315)))
set_option maxHeartbeats 4000000 in
set_option maxRecDepth 100000 in
theorem w_X7_weaken {p : Program} {l : Launch} {e : Env} {s : State} {m : MethodId} {args : Array Value} {below : List Frame} {meth : Method} {c : Code} {G : Gd} {B : Nat} (X : Cm p s m args meth c cX7_weaken 4 RX7 G (some .int)) {r : Int32} {σr : Sto} (x1 : Int32) (x2 : Int32) (σ : Sto) (hf : f_X7_weaken x1 x2 σ = some (r, σr)) (H : Heap) (locs : List Loc) (hH : HX G layX B σ H) (hS : va_S (inW layX B) s.heap H locs) (ls : Array Slot) (hl : lv_has ls 4 [(0, .ref (B + 0)), (1, .int x1), (2, .int x2)]) : WM p l e 3 s m args below meth c H locs G layX B (some (.int r)) σr (F0 m 0 ls []) := by
  unfold f_X7_weaken at hf
  have hx := X.1.1
  have hb := X.1.2.1
  refine lv_aload_n hx hb dX7_weaken_0 rfl (lv_at hl 0 rfl) ?_
  refine lv_aload_n hx hb dX7_weaken_1 rfl (lv_at hl 0 rfl) ?_
  refine g_get (v := .ref (B + 33)) kX7 (by decide) fl_RX7_26 X.1 hH kx_0 rfl dX7_weaken_2 ?_
  refine lv_iload_n hx hb dX7_weaken_5 rfl (lv_at hl 1 rfl) ?_
  obtain ⟨r102, σ101, eσ101, hf⟩ := bnd2 hf
  refine g_cVi (As := [.int x1]) X.1 hH hS (c_X2_has l G B 33 kx_33 x1 σ σ101 r102 eσ101) kw_RX7_156 kX2 kx_33 (by decide) rfl hl (Nat.le_of_ble_eq_true rfl) rfl dX7_weaken_6 (fun H locs hH hS => ?_)
  refine lv_if_eq (tgt := 42) hx hb dX7_weaken_9 (by decide) (fun q103 => ?_) (fun q103 => ?_)
  · replace hf := brT hf q103
    exact w_X7_weaken_42 X x1 x2 σ101 hf _ _ hH hS _ (lv_sub hl [0, 1, 2] rfl)
  · replace hf := brF hf q103
    refine lv_iload_n hx hb dX7_weaken_12 rfl (lv_at hl 2 rfl) ?_
    obtain ⟨r316, σ315, eσ315, hf⟩ := bnd2 hf
    refine g_cSi (As := [.int x2]) X.1 hH hS (c_X7_isVariable l G B x2 σ101 σ315 r316 eσ315) kw_RX7_182 (by decide) rfl hl (Nat.le_of_ble_eq_true rfl) rfl dX7_weaken_13 (fun H locs hH hS => ?_)
    refine lv_if_eq (tgt := 42) hx hb dX7_weaken_16 (by decide) (fun q317 => ?_) (fun q317 => ?_)
    · replace hf := brT hf q317
      exact w_X7_weaken_42 X x1 x2 σ315 hf _ _ hH hS _ (lv_sub hl [0, 1, 2] rfl)
    · replace hf := brF hf q317
      refine lv_aload_n hx hb dX7_weaken_19 rfl (lv_at hl 0 rfl) ?_
      refine g_get (v := .ref (B + 33)) kX7 (by decide) fl_RX7_26 X.1 hH kx_0 rfl dX7_weaken_20 ?_
      refine g_get (v := .ref (B + 34)) kX2 (by decide) fl_RX7_163 X.1 hH kx_33 rfl dX7_weaken_23 ?_
      refine lv_iload_n hx hb dX7_weaken_26 rfl (lv_at hl 1 rfl) ?_
      obtain ⟨q318, hf⟩ := chk hf
      refine g_aald (b := (36 + 2 * x1.toNatClampNeg)) X.1 hH kx_34 (by decide) q318 rfl dX7_weaken_27 ?_
      refine g_get (v := .ref (B + ((36 + 2 * x1.toNatClampNeg) + 1))) kX3 (by decide) fl_RX7_185 X.1 hH (kB33 q318) (cRef (kB33 q318)) dX7_weaken_28 ?_
      refine lv_iload_n hx hb dX7_weaken_31 rfl (lv_at hl 2 rfl) ?_
      obtain ⟨q319, hf⟩ := chk hf
      refine g_lald (j := x2.toNatClampNeg) X.1 hH (cArr (kB33 q318)) q319 rfl dX7_weaken_32 ?_
      refine lv_lconst (v := 0) hx hb dX7_weaken_33 (by decide) ?_
      refine g_leq (tgt := 42) X.1 dX7_weaken_34 dX7_weaken_35 (by decide) (fun q320 => ?_) (fun q320 => ?_)
      · replace hf := brT hf q320
        exact w_X7_weaken_42 X x1 x2 σ315 hf _ _ hH hS _ (lv_sub hl [0, 1, 2] rfl)
      · replace hf := brF hf q320
        refine lv_iconst (v := 1) hx hb dX7_weaken_38 (by decide) ?_
        refine lv_goto (tgt := 43) hx hb dX7_weaken_39 (by decide) ?_
        exact w_X7_weaken_43 X x1 x2 (1 : Int32) σ315 hf _ _ hH hS _ (lv_sub hl [0, 1, 2] rfl)
theorem c_X7_weaken (l : Launch) (G : Gd) (B : Nat) (x1 : Int32) (x2 : Int32) (σ σr : Sto) (r : Int32) (hf : f_X7_weaken x1 x2 σ = some (r, σr)) : Ct l G layX B yX7_weaken cX7_weaken 4 (some .int) 3 [.ref (B + 0), .int x1, .int x2] (some (.int r)) σ σr :=
  Ct.ofW (by decide) (Nat.le_of_ble_eq_true rfl) (fun _ _ _ _ _ _ _ X hH hS ls hl => w_X7_weaken X x1 x2 σ hf _ _ hH hS ls (show lv_has ls 4 [(0, .ref (B + 0)), (1, .int x1), (2, .int x2)] from hl))
-- SlackProofs.witness(I)I  (D 7)
def f_X7_witness (x1 : Int32) (σ : Sto) : Option (Int32 × Sto) :=
  if (σ.1 33 2) = 0 then (some ((-1000002 : Int32), σ)) else (bd2 (f_X7_isRow x1 σ) fun r103 σ102 => if r103 = 0 then (some ((-1000001 : Int32), σ102)) else (bd2 (f_X6_isMissing x1 σ102) fun r106 σ105 => if r106 = 0 then (bd2 (f_X6_isWitness x1 σ105) fun r109 σ108 => if r109 = 0 then (bd2 (f_X7_found (2 : Int32) σ108) fun r114 σ113 => some (r114, σ113)) else (bd2 (f_X7_claimOfTape x1 σ108) fun r112 σ111 => some (r112, σ111))) else (bd2 (f_X7_found (1 : Int32) σ105) fun r116 σ115 => some (r116, σ115))))
set_option maxHeartbeats 4000000 in
set_option maxRecDepth 100000 in
theorem w_X7_witness {p : Program} {l : Launch} {e : Env} {s : State} {m : MethodId} {args : Array Value} {below : List Frame} {meth : Method} {c : Code} {G : Gd} {B : Nat} (X : Cm p s m args meth c cX7_witness 2 RX7 G (some .int)) {r : Int32} {σr : Sto} (x1 : Int32) (σ : Sto) (hf : f_X7_witness x1 σ = some (r, σr)) (H : Heap) (locs : List Loc) (hH : HX G layX B σ H) (hS : va_S (inW layX B) s.heap H locs) (ls : Array Slot) (hl : lv_has ls 2 [(0, .ref (B + 0)), (1, .int x1)]) : WM p l e 7 s m args below meth c H locs G layX B (some (.int r)) σr (F0 m 0 ls []) := by
  unfold f_X7_witness at hf
  have hx := X.1.1
  have hb := X.1.2.1
  refine lv_aload_n hx hb dX7_witness_0 rfl (lv_at hl 0 rfl) ?_
  refine g_get (v := .ref (B + 33)) kX7 (by decide) fl_RX7_26 X.1 hH kx_0 rfl dX7_witness_1 ?_
  refine g_get (v := .int (σ.1 33 2)) kX2 (by decide) fl_RX7_197 X.1 hH kx_33 rfl dX7_witness_4 ?_
  refine lv_if_ne (tgt := 13) hx hb dX7_witness_7 (by decide) (fun q101 => ?_) (fun q101 => ?_)
  · replace hf := brF hf q101
    refine lv_iload_n hx hb dX7_witness_13 rfl (lv_at hl 1 rfl) ?_
    obtain ⟨r103, σ102, eσ102, hf⟩ := bnd2 hf
    refine g_cSi (As := [.int x1]) X.1 hH hS (c_X7_isRow l G B x1 σ σ102 r103 eσ102) kw_RX7_61 (by decide) rfl hl (Nat.le_of_ble_eq_true rfl) rfl dX7_witness_14 (fun H locs hH hS => ?_)
    refine lv_if_ne (tgt := 23) hx hb dX7_witness_17 (by decide) (fun q104 => ?_) (fun q104 => ?_)
    · replace hf := brF hf q104
      refine lv_aload_n hx hb dX7_witness_23 rfl (lv_at hl 0 rfl) ?_
      refine g_get (v := .ref (B + 1)) kX7 (by decide) fl_RX7_10 X.1 hH kx_0 rfl dX7_witness_24 ?_
      refine lv_iload_n hx hb dX7_witness_27 rfl (lv_at hl 1 rfl) ?_
      obtain ⟨r106, σ105, eσ105, hf⟩ := bnd2 hf
      refine g_cVi (As := [.int x1]) X.1 hH hS (c_X6_isMissing l G B x1 σ102 σ105 r106 eσ105) kw_RX7_77 kX6 kx_1 (by decide) rfl hl (Nat.le_of_ble_eq_true rfl) rfl dX7_witness_28 (fun H locs hH hS => ?_)
      refine lv_if_eq (tgt := 40) hx hb dX7_witness_31 (by decide) (fun q107 => ?_) (fun q107 => ?_)
      · replace hf := brT hf q107
        refine lv_aload_n hx hb dX7_witness_40 rfl (lv_at hl 0 rfl) ?_
        refine g_get (v := .ref (B + 1)) kX7 (by decide) fl_RX7_10 X.1 hH kx_0 rfl dX7_witness_41 ?_
        refine lv_iload_n hx hb dX7_witness_44 rfl (lv_at hl 1 rfl) ?_
        obtain ⟨r109, σ108, eσ108, hf⟩ := bnd2 hf
        refine g_cVi (As := [.int x1]) X.1 hH hS (c_X6_isWitness l G B x1 σ105 σ108 r109 eσ108) kw_RX7_205 kX6 kx_1 (by decide) rfl hl (Nat.le_of_ble_eq_true rfl) rfl dX7_witness_45 (fun H locs hH hS => ?_)
        refine lv_if_ne (tgt := 57) hx hb dX7_witness_48 (by decide) (fun q110 => ?_) (fun q110 => ?_)
        · replace hf := brF hf q110
          refine lv_aload_n hx hb dX7_witness_57 rfl (lv_at hl 0 rfl) ?_
          refine lv_iload_n hx hb dX7_witness_58 rfl (lv_at hl 1 rfl) ?_
          obtain ⟨r112, σ111, eσ111, hf⟩ := bnd2 hf
          refine g_cVi (As := [.int x1]) X.1 hH hS (c_X7_claimOfTape l G B x1 σ108 σ111 r112 eσ111) kw_RX7_202 kX7 kx_0 (by decide) rfl hl (Nat.le_of_ble_eq_true rfl) rfl dX7_witness_59 (fun H locs hH hS => ?_)
          obtain ⟨rfl, rfl⟩ := rt2 hf
          exact g_iret X hH hS dX7_witness_62
        · replace hf := brT hf q110
          refine lv_aload_n hx hb dX7_witness_51 rfl (lv_at hl 0 rfl) ?_
          refine lv_iconst (v := 2) hx hb dX7_witness_52 (by decide) ?_
          obtain ⟨r114, σ113, eσ113, hf⟩ := bnd2 hf
          refine g_cVi (As := [.int (2 : Int32)]) X.1 hH hS (c_X7_found l G B (2 : Int32) σ108 σ113 r114 eσ113) kw_RX7_66 kX7 kx_0 (by decide) rfl hl (Nat.le_of_ble_eq_true rfl) rfl dX7_witness_53 (fun H locs hH hS => ?_)
          obtain ⟨rfl, rfl⟩ := rt2 hf
          exact g_iret X hH hS dX7_witness_56
      · replace hf := brF hf q107
        refine lv_aload_n hx hb dX7_witness_34 rfl (lv_at hl 0 rfl) ?_
        refine lv_iconst (v := 1) hx hb dX7_witness_35 (by decide) ?_
        obtain ⟨r116, σ115, eσ115, hf⟩ := bnd2 hf
        refine g_cVi (As := [.int (1 : Int32)]) X.1 hH hS (c_X7_found l G B (1 : Int32) σ105 σ115 r116 eσ115) kw_RX7_66 kX7 kx_0 (by decide) rfl hl (Nat.le_of_ble_eq_true rfl) rfl dX7_witness_36 (fun H locs hH hS => ?_)
        obtain ⟨rfl, rfl⟩ := rt2 hf
        exact g_iret X hH hS dX7_witness_39
    · replace hf := brT hf q104
      refine lv_ldc (v := -1000001) hx hb X.1.2.2.2.1 (X.1.2.2.2.2.1 _ kc_RX7_65) dX7_witness_20 ?_
      obtain ⟨rfl, rfl⟩ := rt2 hf
      exact g_iret X hH hS dX7_witness_22
  · replace hf := brT hf q101
    refine lv_ldc (v := -1000002) hx hb X.1.2.2.2.1 (X.1.2.2.2.2.1 _ kc_RX7_201) dX7_witness_10 ?_
    obtain ⟨rfl, rfl⟩ := rt2 hf
    exact g_iret X hH hS dX7_witness_12
theorem c_X7_witness (l : Launch) (G : Gd) (B : Nat) (x1 : Int32) (σ σr : Sto) (r : Int32) (hf : f_X7_witness x1 σ = some (r, σr)) : Ct l G layX B yX7_witness cX7_witness 2 (some .int) 7 [.ref (B + 0), .int x1] (some (.int r)) σ σr :=
  Ct.ofW (by decide) (Nat.le_of_ble_eq_true rfl) (fun _ _ _ _ _ _ _ X hH hS ls hl => w_X7_witness X x1 σ hf _ _ hH hS ls (show lv_has ls 2 [(0, .ref (B + 0)), (1, .int x1)] from hl))
