-- SlackProofsModel.isOver()Z  (D 2)
def b_X8_isOver_46 (c4 : Int32 → Int32 → Sto → Option (Int32 × Sto)) (v2 : Int32) (s0 : Int32) (σ : Sto) : Option (Int32 × Sto) :=
  c4 s0 (v2 + (1 : Int32)) σ
set_option maxHeartbeats 4000000 in
set_option maxRecDepth 100000 in
theorem w_X8_isOver_46 {p : Program} {l : Launch} {e : Env} {s : State} {m : MethodId} {args : Array Value} {below : List Frame} {meth : Method} {c : Code} {G : Gd} {B : Nat} (X : Cm p s m args meth c cX8_isOver 3 RX8 G (some .boolean)) (c4 : Int32 → Int32 → Sto → Option (Int32 × Sto)) {r : Int32} {σr : Sto} (ih4 : ∀ (v1 : Int32) (v2 : Int32) (σ : Sto) (H : Heap) (locs : List Loc) (ls : Array Slot), c4 v1 v2 σ = some (r, σr) → HX G layM B σ H → va_S (inW layM B) s.heap H locs → lv_has ls 3 [(0, .ref (B + 0)), (1, .int v1), (2, .int v2)] → WM p l e 2 s m args below meth c H locs G layM B (some (.int r)) σr (F0 m 4 ls [])) (v2 : Int32) (s0 : Int32) (σ : Sto) (hf : b_X8_isOver_46 c4 v2 s0 σ = some (r, σr)) (H : Heap) (locs : List Loc) (hH : HX G layM B σ H) (hS : va_S (inW layM B) s.heap H locs) (ls : Array Slot) (hl : lv_has ls 3 [(0, .ref (B + 0)), (2, .int v2)]) : WM p l e 2 s m args below meth c H locs G layM B (some (.int r)) σr (F0 m 46 ls [.int s0]) := by
  unfold b_X8_isOver_46 at hf
  have hx := X.1.1
  have hb := X.1.2.1
  refine lv_istore_n (lv' := [(1, .int s0), (0, .ref (B + 0)), (2, .int v2)]) hx hb dX8_isOver_46 rfl hl (by decide) rfl (fun ls hl => ?_)
  refine lv_iinc (v := (v2 + (1 : Int32))) (lv' := [(2, .int (v2 + (1 : Int32))), (1, .int s0), (0, .ref (B + 0))]) hx hb dX8_isOver_47 hl (k := 2) rfl rfl (by decide) rfl (fun ls hl => ?_)
  refine lv_goto (tgt := 4) hx hb dX8_isOver_50 (by decide) ?_
  exact ih4 s0 (v2 + (1 : Int32)) σ _ _ _ hf hH hS (lv_sub hl [2, 1, 0] rfl)
def b_X8_isOver_41 (c4 : Int32 → Int32 → Sto → Option (Int32 × Sto)) (v2 : Int32) (σ : Sto) : Option (Int32 × Sto) :=
  b_X8_isOver_46 c4 v2 (1 : Int32) σ
set_option maxHeartbeats 4000000 in
set_option maxRecDepth 100000 in
theorem w_X8_isOver_41 {p : Program} {l : Launch} {e : Env} {s : State} {m : MethodId} {args : Array Value} {below : List Frame} {meth : Method} {c : Code} {G : Gd} {B : Nat} (X : Cm p s m args meth c cX8_isOver 3 RX8 G (some .boolean)) (c4 : Int32 → Int32 → Sto → Option (Int32 × Sto)) {r : Int32} {σr : Sto} (ih4 : ∀ (v1 : Int32) (v2 : Int32) (σ : Sto) (H : Heap) (locs : List Loc) (ls : Array Slot), c4 v1 v2 σ = some (r, σr) → HX G layM B σ H → va_S (inW layM B) s.heap H locs → lv_has ls 3 [(0, .ref (B + 0)), (1, .int v1), (2, .int v2)] → WM p l e 2 s m args below meth c H locs G layM B (some (.int r)) σr (F0 m 4 ls [])) (v2 : Int32) (σ : Sto) (hf : b_X8_isOver_41 c4 v2 σ = some (r, σr)) (H : Heap) (locs : List Loc) (hH : HX G layM B σ H) (hS : va_S (inW layM B) s.heap H locs) (ls : Array Slot) (hl : lv_has ls 3 [(0, .ref (B + 0)), (2, .int v2)]) : WM p l e 2 s m args below meth c H locs G layM B (some (.int r)) σr (F0 m 41 ls []) := by
  unfold b_X8_isOver_41 at hf
  have hx := X.1.1
  have hb := X.1.2.1
  refine lv_iconst (v := 1) hx hb dX8_isOver_41 (by decide) ?_
  refine lv_goto (tgt := 46) hx hb dX8_isOver_42 (by decide) ?_
  exact w_X8_isOver_46 X c4 ih4 v2 (1 : Int32) σ hf _ _ hH hS _ (lv_sub hl [0, 1] rfl)
def b_X8_isOver_45 (c4 : Int32 → Int32 → Sto → Option (Int32 × Sto)) (v2 : Int32) (σ : Sto) : Option (Int32 × Sto) :=
  b_X8_isOver_46 c4 v2 (0 : Int32) σ
set_option maxHeartbeats 4000000 in
set_option maxRecDepth 100000 in
theorem w_X8_isOver_45 {p : Program} {l : Launch} {e : Env} {s : State} {m : MethodId} {args : Array Value} {below : List Frame} {meth : Method} {c : Code} {G : Gd} {B : Nat} (X : Cm p s m args meth c cX8_isOver 3 RX8 G (some .boolean)) (c4 : Int32 → Int32 → Sto → Option (Int32 × Sto)) {r : Int32} {σr : Sto} (ih4 : ∀ (v1 : Int32) (v2 : Int32) (σ : Sto) (H : Heap) (locs : List Loc) (ls : Array Slot), c4 v1 v2 σ = some (r, σr) → HX G layM B σ H → va_S (inW layM B) s.heap H locs → lv_has ls 3 [(0, .ref (B + 0)), (1, .int v1), (2, .int v2)] → WM p l e 2 s m args below meth c H locs G layM B (some (.int r)) σr (F0 m 4 ls [])) (v2 : Int32) (σ : Sto) (hf : b_X8_isOver_45 c4 v2 σ = some (r, σr)) (H : Heap) (locs : List Loc) (hH : HX G layM B σ H) (hS : va_S (inW layM B) s.heap H locs) (ls : Array Slot) (hl : lv_has ls 3 [(0, .ref (B + 0)), (2, .int v2)]) : WM p l e 2 s m args below meth c H locs G layM B (some (.int r)) σr (F0 m 45 ls []) := by
  unfold b_X8_isOver_45 at hf
  have hx := X.1.1
  have hb := X.1.2.1
  refine lv_iconst (v := 0) hx hb dX8_isOver_45 (by decide) ?_
  exact w_X8_isOver_46 X c4 ih4 v2 (0 : Int32) σ hf _ _ hH hS _ (lv_sub hl [0, 1] rfl)
def b_X8_isOver_4 (c4 : Int32 → Int32 → Sto → Option (Int32 × Sto)) (v1 : Int32) (v2 : Int32) (σ : Sto) : Option (Int32 × Sto) :=
  if (30 : Int32) ≤ v2 then (if ¬ (v1 = 0 ∨ v1 = 1) then none else some (v1, σ)) else (if v1 = 0 then (bd2 (f_X8_isLive v2 σ) fun r405 σ404 => if r405 = 0 then (b_X8_isOver_45 c4 v2 σ404) else (bd2 (f_X8_sumOf 6 312 ((12 : Int32) + ((10 : Int32) * v2)) σ404) fun r508 σ507 => if (0 : Int64) ≤ r508 then (b_X8_isOver_45 c4 v2 σ507) else (b_X8_isOver_41 c4 v2 σ507))) else (b_X8_isOver_41 c4 v2 σ))
set_option maxHeartbeats 4000000 in
set_option maxRecDepth 100000 in
theorem w_X8_isOver_4 {p : Program} {l : Launch} {e : Env} {s : State} {m : MethodId} {args : Array Value} {below : List Frame} {meth : Method} {c : Code} {G : Gd} {B : Nat} (X : Cm p s m args meth c cX8_isOver 3 RX8 G (some .boolean)) (c4 : Int32 → Int32 → Sto → Option (Int32 × Sto)) {r : Int32} {σr : Sto} (ih4 : ∀ (v1 : Int32) (v2 : Int32) (σ : Sto) (H : Heap) (locs : List Loc) (ls : Array Slot), c4 v1 v2 σ = some (r, σr) → HX G layM B σ H → va_S (inW layM B) s.heap H locs → lv_has ls 3 [(0, .ref (B + 0)), (1, .int v1), (2, .int v2)] → WM p l e 2 s m args below meth c H locs G layM B (some (.int r)) σr (F0 m 4 ls [])) (v1 : Int32) (v2 : Int32) (σ : Sto) (hf : b_X8_isOver_4 c4 v1 v2 σ = some (r, σr)) (H : Heap) (locs : List Loc) (hH : HX G layM B σ H) (hS : va_S (inW layM B) s.heap H locs) (ls : Array Slot) (hl : lv_has ls 3 [(0, .ref (B + 0)), (1, .int v1), (2, .int v2)]) : WM p l e 2 s m args below meth c H locs G layM B (some (.int r)) σr (F0 m 4 ls []) := by
  unfold b_X8_isOver_4 at hf
  have hx := X.1.1
  have hb := X.1.2.1
  refine lv_iload_n hx hb dX8_isOver_4 rfl (lv_at hl 2 rfl) ?_
  refine lv_bipush (v := 30) hx hb dX8_isOver_5 (by decide) ?_
  refine lv_icmp_ge (tgt := 53) hx hb dX8_isOver_7 (by decide) (fun q201 => ?_) (fun q201 => ?_)
  · replace hf := brT hf q201
    refine lv_iload_n hx hb dX8_isOver_53 rfl (lv_at hl 1 rfl) ?_
    obtain ⟨q202, hf⟩ := chk hf
    obtain ⟨rfl, rfl⟩ := rt2 hf
    exact g_zret X hH hS (Decidable.not_not.mp q202) dX8_isOver_54
  · replace hf := brF hf q201
    refine lv_iload_n hx hb dX8_isOver_10 rfl (lv_at hl 1 rfl) ?_
    refine lv_if_ne (tgt := 41) hx hb dX8_isOver_11 (by decide) (fun q203 => ?_) (fun q203 => ?_)
    · replace hf := brF hf q203
      exact w_X8_isOver_41 X c4 ih4 v2 σ hf _ _ hH hS _ (lv_sub hl [0, 2] rfl)
    · replace hf := brT hf q203
      refine lv_aload_n hx hb dX8_isOver_14 rfl (lv_at hl 0 rfl) ?_
      refine lv_iload_n hx hb dX8_isOver_15 rfl (lv_at hl 2 rfl) ?_
      obtain ⟨r405, σ404, eσ404, hf⟩ := bnd2 hf
      refine g_cVi (As := [.int v2]) X.1 hH hS (c_X8_isLive l G B v2 σ σ404 r405 eσ404) kw_RX8_175 kX8 km_0 (by decide) rfl hl (Nat.le_of_ble_eq_true rfl) rfl dX8_isOver_16 (fun H locs hH hS => ?_)
      refine lv_if_eq (tgt := 45) hx hb dX8_isOver_19 (by decide) (fun q406 => ?_) (fun q406 => ?_)
      · replace hf := brT hf q406
        exact w_X8_isOver_45 X c4 ih4 v2 σ404 hf _ _ hH hS _ (lv_sub hl [0, 2] rfl)
      · replace hf := brF hf q406
        refine lv_aload_n hx hb dX8_isOver_22 rfl (lv_at hl 0 rfl) ?_
        refine g_get (v := .ref (B + 6)) kX8 (by decide) fl_RX8_25 X.1 hH km_0 rfl dX8_isOver_23 ?_
        refine lv_bipush (v := 12) hx hb dX8_isOver_26 (by decide) ?_
        refine lv_bipush (v := 10) hx hb dX8_isOver_28 (by decide) ?_
        refine lv_iload_n hx hb dX8_isOver_30 rfl (lv_at hl 2 rfl) ?_
        refine lv_imul hx hb dX8_isOver_31 ?_
        refine lv_iadd hx hb dX8_isOver_32 ?_
        obtain ⟨r508, σ507, eσ507, hf⟩ := bnd2 hf
        refine g_cSl (As := [.ref (B + 6), .int ((12 : Int32) + ((10 : Int32) * v2))]) X.1 hH hS (c_X8_sumOf l G B 6 312 km_6 ((12 : Int32) + ((10 : Int32) * v2)) σ404 σ507 r508 eσ507) kw_RX8_196 (by decide) rfl hl (Nat.le_of_ble_eq_true rfl) rfl dX8_isOver_33 (fun H locs hH hS => ?_)
        refine lv_lconst (v := 0) hx hb dX8_isOver_36 (by decide) ?_
        refine g_lge (tgt := 45) X.1 dX8_isOver_37 dX8_isOver_38 (by decide) (fun q509 => ?_) (fun q509 => ?_)
        · replace hf := brT hf q509
          exact w_X8_isOver_45 X c4 ih4 v2 σ507 hf _ _ hH hS _ (lv_sub hl [0, 2] rfl)
        · replace hf := brF hf q509
          exact w_X8_isOver_41 X c4 ih4 v2 σ507 hf _ _ hH hS _ (lv_sub hl [0, 2] rfl)
def l_X8_isOver_4 : Nat → Int32 → Int32 → Sto → Option (Int32 × Sto)
  | 0, _, _, _ => none
  | n + 1, v1, v2, σ => b_X8_isOver_4 (l_X8_isOver_4 n) v1 v2 σ
set_option maxHeartbeats 4000000 in
set_option maxRecDepth 100000 in
theorem wl_X8_isOver_4 {p : Program} {l : Launch} {e : Env} {s : State} {m : MethodId} {args : Array Value} {below : List Frame} {meth : Method} {c : Code} {G : Gd} {B : Nat} (X : Cm p s m args meth c cX8_isOver 3 RX8 G (some .boolean)) {r : Int32} {σr : Sto} (n : Nat) : ∀ (v1 : Int32) (v2 : Int32) (σ : Sto) (H : Heap) (locs : List Loc) (ls : Array Slot), l_X8_isOver_4 n v1 v2 σ = some (r, σr) → HX G layM B σ H → va_S (inW layM B) s.heap H locs → lv_has ls 3 [(0, .ref (B + 0)), (1, .int v1), (2, .int v2)] → WM p l e 2 s m args below meth c H locs G layM B (some (.int r)) σr (F0 m 4 ls []) := by
  induction n with
  | zero =>
    intro _ _ σ H locs ls hf
    cases hf
  | succ n ih =>
    intro v1 v2 σ H locs ls hf hH hS hl
    exact w_X8_isOver_4 X (l_X8_isOver_4 n) ih v1 v2 σ hf H locs hH hS ls hl
def f_X8_isOver (σ : Sto) : Option (Int32 × Sto) :=
  l_X8_isOver_4 400 (0 : Int32) (0 : Int32) σ
set_option maxHeartbeats 4000000 in
set_option maxRecDepth 100000 in
theorem w_X8_isOver {p : Program} {l : Launch} {e : Env} {s : State} {m : MethodId} {args : Array Value} {below : List Frame} {meth : Method} {c : Code} {G : Gd} {B : Nat} (X : Cm p s m args meth c cX8_isOver 3 RX8 G (some .boolean)) {r : Int32} {σr : Sto} (σ : Sto) (hf : f_X8_isOver σ = some (r, σr)) (H : Heap) (locs : List Loc) (hH : HX G layM B σ H) (hS : va_S (inW layM B) s.heap H locs) (ls : Array Slot) (hl : lv_has ls 3 [(0, .ref (B + 0))]) : WM p l e 2 s m args below meth c H locs G layM B (some (.int r)) σr (F0 m 0 ls []) := by
  unfold f_X8_isOver at hf
  have hx := X.1.1
  have hb := X.1.2.1
  refine lv_iconst (v := 0) hx hb dX8_isOver_0 (by decide) ?_
  refine lv_istore_n (lv' := [(1, .int (0 : Int32)), (0, .ref (B + 0))]) hx hb dX8_isOver_1 rfl hl (by decide) rfl (fun ls hl => ?_)
  refine lv_iconst (v := 0) hx hb dX8_isOver_2 (by decide) ?_
  refine lv_istore_n (lv' := [(2, .int (0 : Int32)), (1, .int (0 : Int32)), (0, .ref (B + 0))]) hx hb dX8_isOver_3 rfl hl (by decide) rfl (fun ls hl => ?_)
  exact wl_X8_isOver_4 X 400 (0 : Int32) (0 : Int32) σ _ _ _ hf hH hS (lv_sub hl [2, 1, 0] rfl)
theorem c_X8_isOver (l : Launch) (G : Gd) (B : Nat) (σ σr : Sto) (r : Int32) (hf : f_X8_isOver σ = some (r, σr)) : Ct l G layM B yX8_isOver cX8_isOver 3 (some .boolean) 2 [.ref (B + 0)] (some (.int r)) σ σr :=
  Ct.ofW (by decide) (Nat.le_of_ble_eq_true rfl) (fun _ _ _ _ _ _ _ X hH hS ls hl => w_X8_isOver X σ hf _ _ hH hS ls (show lv_has ls 3 [(0, .ref (B + 0))] from hl))
-- SlackProofsModel.turns([JI[J)V  (D 2)
def b_X8_turns_31 (c31 : Int32 → Int32 → Sto → Option (Sto)) (k0 n0 : Nat) (k1 n1 : Nat) (v1 : Int32) (v5 : Int32) (σ : Sto) : Option (Sto) :=
  if (8 : Int32) ≤ v5 then (some σ) else (if (((v1 + (2 : Int32)) + v5) < 0 ∨ n0 ≤ ((v1 + (2 : Int32)) + v5).toNatClampNeg) then none else if (((2 : Int32) + v5) < 0 ∨ n1 ≤ ((2 : Int32) + v5).toNatClampNeg) then none else nmS (pL σ k1 ((2 : Int32) + v5).toNatClampNeg (-(σ.2 k0 ((v1 + (2 : Int32)) + v5).toNatClampNeg))) fun σ311 => c31 v1 (v5 + (1 : Int32)) σ311)
set_option maxHeartbeats 4000000 in
set_option maxRecDepth 100000 in
theorem w_X8_turns_31 {p : Program} {l : Launch} {e : Env} {s : State} {m : MethodId} {args : Array Value} {below : List Frame} {meth : Method} {c : Code} {G : Gd} {B : Nat} (X : Cm p s m args meth c cX8_turns 6 RX8 G none) (c31 : Int32 → Int32 → Sto → Option (Sto)) (k0 n0 : Nat) (k1 n1 : Nat) (h0 : (k0 < layM.2.2 ∧ layM.1 k0 = .inr (.long, n0))) (h1 : (k1 < layM.2.2 ∧ layM.1 k1 = .inr (.long, n1))) {σr : Sto} (ih31 : ∀ (v1 : Int32) (v5 : Int32) (σ : Sto) (H : Heap) (locs : List Loc) (ls : Array Slot), c31 v1 v5 σ = some σr → HX G layM B σ H → va_S (inW layM B) s.heap H locs → lv_has ls 6 [(0, .ref (B + k0)), (1, .int v1), (2, .ref (B + k1)), (5, .int v5)] → WM p l e 2 s m args below meth c H locs G layM B none σr (F0 m 31 ls [])) (v1 : Int32) (v5 : Int32) (σ : Sto) (hf : b_X8_turns_31 c31 k0 n0 k1 n1 v1 v5 σ = some σr) (H : Heap) (locs : List Loc) (hH : HX G layM B σ H) (hS : va_S (inW layM B) s.heap H locs) (ls : Array Slot) (hl : lv_has ls 6 [(0, .ref (B + k0)), (1, .int v1), (2, .ref (B + k1)), (5, .int v5)]) : WM p l e 2 s m args below meth c H locs G layM B none σr (F0 m 31 ls []) := by
  unfold b_X8_turns_31 at hf
  have hx := X.1.1
  have hb := X.1.2.1
  refine lv_iload hx hb dX8_turns_31 (lv_at hl 3 rfl) ?_
  refine lv_bipush (v := 8) hx hb dX8_turns_33 (by decide) ?_
  refine lv_icmp_ge (tgt := 59) hx hb dX8_turns_35 (by decide) (fun q308 => ?_) (fun q308 => ?_)
  · replace hf := brT hf q308
    obtain rfl := rt1 hf
    exact g_vret X hH hS dX8_turns_59
  · replace hf := brF hf q308
    refine lv_aload_n hx hb dX8_turns_38 rfl (lv_at hl 2 rfl) ?_
    refine lv_iconst (v := 2) hx hb dX8_turns_39 (by decide) ?_
    refine lv_iload hx hb dX8_turns_40 (lv_at hl 3 rfl) ?_
    refine lv_iadd hx hb dX8_turns_42 ?_
    refine lv_aload_n hx hb dX8_turns_43 rfl (lv_at hl 0 rfl) ?_
    refine lv_iload_n hx hb dX8_turns_44 rfl (lv_at hl 1 rfl) ?_
    refine lv_iconst (v := 2) hx hb dX8_turns_45 (by decide) ?_
    refine lv_iadd hx hb dX8_turns_46 ?_
    refine lv_iload hx hb dX8_turns_47 (lv_at hl 3 rfl) ?_
    refine lv_iadd hx hb dX8_turns_49 ?_
    obtain ⟨q309, hf⟩ := chk hf
    refine g_lald (j := ((v1 + (2 : Int32)) + v5).toNatClampNeg) X.1 hH h0 q309 rfl dX8_turns_50 ?_
    refine lv_lneg hx hb dX8_turns_51 ?_
    obtain ⟨q310, hf⟩ := chk hf
    refine g_last (j := ((2 : Int32) + v5).toNatClampNeg) X.1 hH hS h1 q310 rfl dX8_turns_52 (fun H locs hH hS => ?_)
    obtain ⟨σ311, eσ311, hH⟩ := nmX hH
    replace hf := nmU hf eσ311
    refine lv_iinc (v := (v5 + (1 : Int32))) (lv' := [(5, .int (v5 + (1 : Int32))), (0, .ref (B + k0)), (1, .int v1), (2, .ref (B + k1))]) hx hb dX8_turns_53 hl (k := 3) rfl rfl (by decide) rfl (fun ls hl => ?_)
    refine lv_goto (tgt := 31) hx hb dX8_turns_56 (by decide) ?_
    exact ih31 v1 (v5 + (1 : Int32)) σ311 _ _ _ hf hH hS (lv_sub hl [1, 2, 3, 0] rfl)
def l_X8_turns_31 (k0 n0 : Nat) (k1 n1 : Nat) : Nat → Int32 → Int32 → Sto → Option (Sto)
  | 0, _, _, _ => none
  | n + 1, v1, v5, σ => b_X8_turns_31 (l_X8_turns_31 k0 n0 k1 n1 n) k0 n0 k1 n1 v1 v5 σ
set_option maxHeartbeats 4000000 in
set_option maxRecDepth 100000 in
theorem wl_X8_turns_31 {p : Program} {l : Launch} {e : Env} {s : State} {m : MethodId} {args : Array Value} {below : List Frame} {meth : Method} {c : Code} {G : Gd} {B : Nat} (X : Cm p s m args meth c cX8_turns 6 RX8 G none) (k0 n0 : Nat) (k1 n1 : Nat) (h0 : (k0 < layM.2.2 ∧ layM.1 k0 = .inr (.long, n0))) (h1 : (k1 < layM.2.2 ∧ layM.1 k1 = .inr (.long, n1))) {σr : Sto} (n : Nat) : ∀ (v1 : Int32) (v5 : Int32) (σ : Sto) (H : Heap) (locs : List Loc) (ls : Array Slot), l_X8_turns_31 k0 n0 k1 n1 n v1 v5 σ = some σr → HX G layM B σ H → va_S (inW layM B) s.heap H locs → lv_has ls 6 [(0, .ref (B + k0)), (1, .int v1), (2, .ref (B + k1)), (5, .int v5)] → WM p l e 2 s m args below meth c H locs G layM B none σr (F0 m 31 ls []) := by
  induction n with
  | zero =>
    intro _ _ σ H locs ls hf
    cases hf
  | succ n ih =>
    intro v1 v5 σ H locs ls hf hH hS hl
    exact w_X8_turns_31 X (l_X8_turns_31 k0 n0 k1 n1 n) k0 n0 k1 n1 h0 h1 ih v1 v5 σ hf H locs hH hS ls hl
def b_X8_turns_27 (k0 n0 : Nat) (k1 n1 : Nat) (v1 : Int32) (s0 : Int64) (s1 : Int32) (σ : Sto) : Option (Sto) :=
  if (s1 < 0 ∨ n1 ≤ s1.toNatClampNeg) then none else nmS (pL σ k1 s1.toNatClampNeg s0) fun σ207 => l_X8_turns_31 k0 n0 k1 n1 400 v1 (0 : Int32) σ207
set_option maxHeartbeats 4000000 in
set_option maxRecDepth 100000 in
theorem w_X8_turns_27 {p : Program} {l : Launch} {e : Env} {s : State} {m : MethodId} {args : Array Value} {below : List Frame} {meth : Method} {c : Code} {G : Gd} {B : Nat} (X : Cm p s m args meth c cX8_turns 6 RX8 G none) (k0 n0 : Nat) (k1 n1 : Nat) (h0 : (k0 < layM.2.2 ∧ layM.1 k0 = .inr (.long, n0))) (h1 : (k1 < layM.2.2 ∧ layM.1 k1 = .inr (.long, n1))) {σr : Sto} (v1 : Int32) (s0 : Int64) (s1 : Int32) (σ : Sto) (hf : b_X8_turns_27 k0 n0 k1 n1 v1 s0 s1 σ = some σr) (H : Heap) (locs : List Loc) (hH : HX G layM B σ H) (hS : va_S (inW layM B) s.heap H locs) (ls : Array Slot) (hl : lv_has ls 6 [(0, .ref (B + k0)), (1, .int v1), (2, .ref (B + k1))]) : WM p l e 2 s m args below meth c H locs G layM B none σr (F0 m 27 ls [.long s0, .int s1, .ref (B + k1)]) := by
  unfold b_X8_turns_27 at hf
  have hx := X.1.1
  have hb := X.1.2.1
  obtain ⟨q206, hf⟩ := chk hf
  refine g_last (j := s1.toNatClampNeg) X.1 hH hS h1 q206 rfl dX8_turns_27 (fun H locs hH hS => ?_)
  obtain ⟨σ207, eσ207, hH⟩ := nmX hH
  replace hf := nmU hf eσ207
  refine lv_iconst (v := 0) hx hb dX8_turns_28 (by decide) ?_
  refine lv_istore (lv' := [(5, .int (0 : Int32)), (0, .ref (B + k0)), (1, .int v1), (2, .ref (B + k1))]) hx hb dX8_turns_29 hl (by decide) rfl (fun ls hl => ?_)
  exact wl_X8_turns_31 X k0 n0 k1 n1 h0 h1 400 v1 (0 : Int32) σ207 _ _ _ hf hH hS (lv_sub hl [1, 2, 3, 0] rfl)
def fr_X8_turns (k0 n0 : Nat) (k1 n1 : Nat) (x1 : Int32) (σ : Sto) : Option (Sto) :=
  bd2 (f_X8_sumOf k0 n0 x1 σ) fun r102 σ101 => if ((x1 + (1 : Int32)) < 0 ∨ n0 ≤ (x1 + (1 : Int32)).toNatClampNeg) then none else nmS ((r102 - (σ101.2 k0 (x1 + (1 : Int32)).toNatClampNeg)) + (1 : Int64)) fun y104 => if (0 : Int64) ≤ y104 then (b_X8_turns_27 k0 n0 k1 n1 x1 y104 (1 : Int32) σ101) else (b_X8_turns_27 k0 n0 k1 n1 x1 (0 : Int64) (1 : Int32) σ101)
set_option maxHeartbeats 4000000 in
set_option maxRecDepth 100000 in
theorem w_X8_turns {p : Program} {l : Launch} {e : Env} {s : State} {m : MethodId} {args : Array Value} {below : List Frame} {meth : Method} {c : Code} {G : Gd} {B : Nat} (X : Cm p s m args meth c cX8_turns 6 RX8 G none) (k0 n0 : Nat) (k1 n1 : Nat) (h0 : (k0 < layM.2.2 ∧ layM.1 k0 = .inr (.long, n0))) (h1 : (k1 < layM.2.2 ∧ layM.1 k1 = .inr (.long, n1))) {σr : Sto} (x1 : Int32) (σ : Sto) (hf : fr_X8_turns k0 n0 k1 n1 x1 σ = some σr) (H : Heap) (locs : List Loc) (hH : HX G layM B σ H) (hS : va_S (inW layM B) s.heap H locs) (ls : Array Slot) (hl : lv_has ls 6 [(0, .ref (B + k0)), (1, .int x1), (2, .ref (B + k1))]) : WM p l e 2 s m args below meth c H locs G layM B none σr (F0 m 0 ls []) := by
  unfold fr_X8_turns at hf
  have hx := X.1.1
  have hb := X.1.2.1
  refine lv_aload_n hx hb dX8_turns_0 rfl (lv_at hl 0 rfl) ?_
  refine lv_iload_n hx hb dX8_turns_1 rfl (lv_at hl 1 rfl) ?_
  obtain ⟨r102, σ101, eσ101, hf⟩ := bnd2 hf
  refine g_cSl (As := [.ref (B + k0), .int x1]) X.1 hH hS (c_X8_sumOf l G B k0 n0 h0 x1 σ σ101 r102 eσ101) kw_RX8_196 (by decide) rfl hl (Nat.le_of_ble_eq_true rfl) rfl dX8_turns_2 (fun H locs hH hS => ?_)
  refine lv_aload_n hx hb dX8_turns_5 rfl (lv_at hl 0 rfl) ?_
  refine lv_iload_n hx hb dX8_turns_6 rfl (lv_at hl 1 rfl) ?_
  refine lv_iconst (v := 1) hx hb dX8_turns_7 (by decide) ?_
  refine lv_iadd hx hb dX8_turns_8 ?_
  obtain ⟨q103, hf⟩ := chk hf
  refine g_lald (j := (x1 + (1 : Int32)).toNatClampNeg) X.1 hH h0 q103 rfl dX8_turns_9 ?_
  refine lv_lsub hx hb dX8_turns_10 ?_
  refine lv_lconst (v := 1) hx hb dX8_turns_11 (by decide) ?_
  refine lv_ladd hx hb dX8_turns_12 ?_
  refine lv_topl (fun y104 ey104 => ?_)
  replace hf := nmU hf ey104
  refine lv_lstore_n (lv' := [(3, .long y104), (0, .ref (B + k0)), (1, .int x1), (2, .ref (B + k1))]) hx hb dX8_turns_13 rfl hl (by decide) rfl (fun ls hl => ?_)
  refine lv_aload_n hx hb dX8_turns_14 rfl (lv_at hl 3 rfl) ?_
  refine lv_iconst (v := 1) hx hb dX8_turns_15 (by decide) ?_
  refine lv_lload_n hx hb dX8_turns_16 rfl (lv_at hl 0 rfl) ?_
  refine lv_lconst (v := 0) hx hb dX8_turns_17 (by decide) ?_
  refine g_lge (tgt := 26) X.1 dX8_turns_18 dX8_turns_19 (by decide) (fun q105 => ?_) (fun q105 => ?_)
  · replace hf := brT hf q105
    refine lv_lload_n hx hb dX8_turns_26 rfl (lv_at hl 0 rfl) ?_
    exact w_X8_turns_27 X k0 n0 k1 n1 h0 h1 x1 y104 (1 : Int32) σ101 hf _ _ hH hS _ (lv_sub hl [1, 2, 3] rfl)
  · replace hf := brF hf q105
    refine lv_lconst (v := 0) hx hb dX8_turns_22 (by decide) ?_
    refine lv_goto (tgt := 27) hx hb dX8_turns_23 (by decide) ?_
    exact w_X8_turns_27 X k0 n0 k1 n1 h0 h1 x1 (0 : Int64) (1 : Int32) σ101 hf _ _ hH hS _ (lv_sub hl [1, 2, 3] rfl)
def f_X8_turns (k0 n0 : Nat) (x1 : Int32) (k1 n1 : Nat) (σ : Sto) : Option (Sto) := fr_X8_turns k0 n0 k1 n1 x1 σ
theorem c_X8_turns (l : Launch) (G : Gd) (B : Nat) (k0 n0 : Nat) (h0 : (k0 < layM.2.2 ∧ layM.1 k0 = .inr (.long, n0))) (x1 : Int32) (k1 n1 : Nat) (h1 : (k1 < layM.2.2 ∧ layM.1 k1 = .inr (.long, n1))) (σ σr : Sto) (hf : f_X8_turns k0 n0 x1 k1 n1 σ = some σr) : Ct l G layM B yX8_turns cX8_turns 6 none 2 [.ref (B + k0), .int x1, .ref (B + k1)] none σ σr :=
  Ct.ofW (by decide) (Nat.le_of_ble_eq_true rfl) (fun _ _ _ _ _ _ _ X hH hS ls hl => w_X8_turns X k0 n0 k1 n1 h0 h1 x1 σ hf _ _ hH hS ls (show lv_has ls 6 [(0, .ref (B + k0)), (1, .int x1), (2, .ref (B + k1))] from hl))
-- SlackProofsModel.forces([JI)I  (D 2)
def b_X8_forces_107 (c28 : Int32 → Int64 → Int32 → Int32 → Sto → Option (Int32 × Sto)) (k0 n0 : Nat) (v2 : Int32) (v3 : Int64) (v5 : Int32) (v6 : Int32) (σ : Sto) : Option (Int32 × Sto) :=
  c28 v2 v3 v5 (v6 + (1 : Int32)) σ
set_option maxHeartbeats 4000000 in
set_option maxRecDepth 100000 in
theorem w_X8_forces_107 {p : Program} {l : Launch} {e : Env} {s : State} {m : MethodId} {args : Array Value} {below : List Frame} {meth : Method} {c : Code} {G : Gd} {B : Nat} (X : Cm p s m args meth c cX8_forces 9 RX8 G (some .int)) (c28 : Int32 → Int64 → Int32 → Int32 → Sto → Option (Int32 × Sto)) (k0 n0 : Nat) (h0 : (k0 < layM.2.2 ∧ layM.1 k0 = .inr (.long, n0))) {r : Int32} {σr : Sto} (ih28 : ∀ (v2 : Int32) (v3 : Int64) (v5 : Int32) (v6 : Int32) (σ : Sto) (H : Heap) (locs : List Loc) (ls : Array Slot), c28 v2 v3 v5 v6 σ = some (r, σr) → HX G layM B σ H → va_S (inW layM B) s.heap H locs → lv_has ls 9 [(0, .ref (B + 0)), (1, .ref (B + k0)), (2, .int v2), (3, .long v3), (5, .int v5), (6, .int v6)] → WM p l e 2 s m args below meth c H locs G layM B (some (.int r)) σr (F0 m 28 ls [])) (v2 : Int32) (v3 : Int64) (v5 : Int32) (v6 : Int32) (σ : Sto) (hf : b_X8_forces_107 c28 k0 n0 v2 v3 v5 v6 σ = some (r, σr)) (H : Heap) (locs : List Loc) (hH : HX G layM B σ H) (hS : va_S (inW layM B) s.heap H locs) (ls : Array Slot) (hl : lv_has ls 9 [(0, .ref (B + 0)), (1, .ref (B + k0)), (2, .int v2), (3, .long v3), (5, .int v5), (6, .int v6)]) : WM p l e 2 s m args below meth c H locs G layM B (some (.int r)) σr (F0 m 107 ls []) := by
  unfold b_X8_forces_107 at hf
  have hx := X.1.1
  have hb := X.1.2.1
  refine lv_iinc (v := (v6 + (1 : Int32))) (lv' := [(6, .int (v6 + (1 : Int32))), (0, .ref (B + 0)), (1, .ref (B + k0)), (2, .int v2), (3, .long v3), (5, .int v5)]) hx hb dX8_forces_107 hl (k := 5) rfl rfl (by decide) rfl (fun ls hl => ?_)
  refine lv_goto (tgt := 28) hx hb dX8_forces_110 (by decide) ?_
  exact ih28 v2 v3 v5 (v6 + (1 : Int32)) σ _ _ _ hf hH hS (lv_sub hl [1, 2, 3, 4, 5, 0] rfl)
def b_X8_forces_100 (c28 : Int32 → Int64 → Int32 → Int32 → Sto → Option (Int32 × Sto)) (k0 n0 : Nat) (v2 : Int32) (v3 : Int64) (v6 : Int32) (s0 : Int32) (s1 : Int32) (σ : Sto) : Option (Int32 × Sto) :=
  nmS (pI σ 0 25 (s1 ||| s0)) fun σ415 => b_X8_forces_107 c28 k0 n0 v2 v3 (1 : Int32) v6 σ415
set_option maxHeartbeats 4000000 in
set_option maxRecDepth 100000 in
theorem w_X8_forces_100 {p : Program} {l : Launch} {e : Env} {s : State} {m : MethodId} {args : Array Value} {below : List Frame} {meth : Method} {c : Code} {G : Gd} {B : Nat} (X : Cm p s m args meth c cX8_forces 9 RX8 G (some .int)) (c28 : Int32 → Int64 → Int32 → Int32 → Sto → Option (Int32 × Sto)) (k0 n0 : Nat) (h0 : (k0 < layM.2.2 ∧ layM.1 k0 = .inr (.long, n0))) {r : Int32} {σr : Sto} (ih28 : ∀ (v2 : Int32) (v3 : Int64) (v5 : Int32) (v6 : Int32) (σ : Sto) (H : Heap) (locs : List Loc) (ls : Array Slot), c28 v2 v3 v5 v6 σ = some (r, σr) → HX G layM B σ H → va_S (inW layM B) s.heap H locs → lv_has ls 9 [(0, .ref (B + 0)), (1, .ref (B + k0)), (2, .int v2), (3, .long v3), (5, .int v5), (6, .int v6)] → WM p l e 2 s m args below meth c H locs G layM B (some (.int r)) σr (F0 m 28 ls [])) (v2 : Int32) (v3 : Int64) (v6 : Int32) (s0 : Int32) (s1 : Int32) (σ : Sto) (hf : b_X8_forces_100 c28 k0 n0 v2 v3 v6 s0 s1 σ = some (r, σr)) (H : Heap) (locs : List Loc) (hH : HX G layM B σ H) (hS : va_S (inW layM B) s.heap H locs) (ls : Array Slot) (hl : lv_has ls 9 [(0, .ref (B + 0)), (1, .ref (B + k0)), (2, .int v2), (3, .long v3), (6, .int v6)]) : WM p l e 2 s m args below meth c H locs G layM B (some (.int r)) σr (F0 m 100 ls [.int s0, .int s1, .ref (B + 0)]) := by
  unfold b_X8_forces_100 at hf
  have hx := X.1.1
  have hb := X.1.2.1
  refine lv_ior hx hb dX8_forces_100 ?_
  refine g_putI kX8 (by decide) fl_RX8_203 rfl rfl X.1 hH hS km_0 dX8_forces_101 (fun H locs hH hS => ?_)
  obtain ⟨σ415, eσ415, hH⟩ := nmX hH
  replace hf := nmU hf eσ415
  refine lv_iconst (v := 1) hx hb dX8_forces_104 (by decide) ?_
  refine lv_istore (lv' := [(5, .int (1 : Int32)), (0, .ref (B + 0)), (1, .ref (B + k0)), (2, .int v2), (3, .long v3), (6, .int v6)]) hx hb dX8_forces_105 hl (by decide) rfl (fun ls hl => ?_)
  exact w_X8_forces_107 X c28 k0 n0 h0 ih28 v2 v3 (1 : Int32) v6 σ415 hf _ _ hH hS _ (lv_sub hl [1, 2, 3, 4, 0, 5] rfl)
def b_X8_forces_28 (c28 : Int32 → Int64 → Int32 → Int32 → Sto → Option (Int32 × Sto)) (k0 n0 : Nat) (v2 : Int32) (v3 : Int64) (v5 : Int32) (v6 : Int32) (σ : Sto) : Option (Int32 × Sto) :=
  if (8 : Int32) ≤ v6 then (some (v5, σ)) else (if (((v2 + (2 : Int32)) + v6) < 0 ∨ n0 ≤ ((v2 + (2 : Int32)) + v6).toNatClampNeg) then none else nmS (σ.2 k0 ((v2 + (2 : Int32)) + v6).toNatClampNeg) fun y206 => bd2 (f_X8_has (σ.1 0 24) v6 σ) fun r208 σ207 => if r208 = 0 then (bd2 (f_X8_size y206 σ207) fun r311 σ310 => if r311 ≤ v3 then (b_X8_forces_107 c28 k0 n0 v2 v3 v5 v6 σ310) else (nmS (pI σ310 0 24 ((σ310.1 0 24) ||| ((1 : Int32) <<< (v6 &&& 31)))) fun σ313 => if y206 ≤ (0 : Int64) then (b_X8_forces_100 c28 k0 n0 v2 v3 v6 (0 : Int32) (σ313.1 0 25) σ313) else (b_X8_forces_100 c28 k0 n0 v2 v3 v6 ((1 : Int32) <<< (v6 &&& 31)) (σ313.1 0 25) σ313))) else (b_X8_forces_107 c28 k0 n0 v2 v3 v5 v6 σ207))
set_option maxHeartbeats 4000000 in
set_option maxRecDepth 100000 in
theorem w_X8_forces_28 {p : Program} {l : Launch} {e : Env} {s : State} {m : MethodId} {args : Array Value} {below : List Frame} {meth : Method} {c : Code} {G : Gd} {B : Nat} (X : Cm p s m args meth c cX8_forces 9 RX8 G (some .int)) (c28 : Int32 → Int64 → Int32 → Int32 → Sto → Option (Int32 × Sto)) (k0 n0 : Nat) (h0 : (k0 < layM.2.2 ∧ layM.1 k0 = .inr (.long, n0))) {r : Int32} {σr : Sto} (ih28 : ∀ (v2 : Int32) (v3 : Int64) (v5 : Int32) (v6 : Int32) (σ : Sto) (H : Heap) (locs : List Loc) (ls : Array Slot), c28 v2 v3 v5 v6 σ = some (r, σr) → HX G layM B σ H → va_S (inW layM B) s.heap H locs → lv_has ls 9 [(0, .ref (B + 0)), (1, .ref (B + k0)), (2, .int v2), (3, .long v3), (5, .int v5), (6, .int v6)] → WM p l e 2 s m args below meth c H locs G layM B (some (.int r)) σr (F0 m 28 ls [])) (v2 : Int32) (v3 : Int64) (v5 : Int32) (v6 : Int32) (σ : Sto) (hf : b_X8_forces_28 c28 k0 n0 v2 v3 v5 v6 σ = some (r, σr)) (H : Heap) (locs : List Loc) (hH : HX G layM B σ H) (hS : va_S (inW layM B) s.heap H locs) (ls : Array Slot) (hl : lv_has ls 9 [(0, .ref (B + 0)), (1, .ref (B + k0)), (2, .int v2), (3, .long v3), (5, .int v5), (6, .int v6)]) : WM p l e 2 s m args below meth c H locs G layM B (some (.int r)) σr (F0 m 28 ls []) := by
  unfold b_X8_forces_28 at hf
  have hx := X.1.1
  have hb := X.1.2.1
  refine lv_iload hx hb dX8_forces_28 (lv_at hl 5 rfl) ?_
  refine lv_bipush (v := 8) hx hb dX8_forces_30 (by decide) ?_
  refine lv_icmp_ge (tgt := 113) hx hb dX8_forces_32 (by decide) (fun q204 => ?_) (fun q204 => ?_)
  · replace hf := brT hf q204
    refine lv_iload hx hb dX8_forces_113 (lv_at hl 4 rfl) ?_
    obtain ⟨rfl, rfl⟩ := rt2 hf
    exact g_iret X hH hS dX8_forces_115
  · replace hf := brF hf q204
    refine lv_aload_n hx hb dX8_forces_35 rfl (lv_at hl 1 rfl) ?_
    refine lv_iload_n hx hb dX8_forces_36 rfl (lv_at hl 2 rfl) ?_
    refine lv_iconst (v := 2) hx hb dX8_forces_37 (by decide) ?_
    refine lv_iadd hx hb dX8_forces_38 ?_
    refine lv_iload hx hb dX8_forces_39 (lv_at hl 5 rfl) ?_
    refine lv_iadd hx hb dX8_forces_41 ?_
    obtain ⟨q205, hf⟩ := chk hf
    refine g_lald (j := ((v2 + (2 : Int32)) + v6).toNatClampNeg) X.1 hH h0 q205 rfl dX8_forces_42 ?_
    refine lv_topl (fun y206 ey206 => ?_)
    replace hf := nmU hf ey206
    refine lv_lstore (lv' := [(7, .long y206), (0, .ref (B + 0)), (1, .ref (B + k0)), (2, .int v2), (3, .long v3), (5, .int v5), (6, .int v6)]) hx hb dX8_forces_43 hl (by decide) rfl (fun ls hl => ?_)
    refine lv_aload_n hx hb dX8_forces_45 rfl (lv_at hl 1 rfl) ?_
    refine g_get (v := .int (σ.1 0 24)) kX8 (by decide) fl_RX8_200 X.1 hH km_0 rfl dX8_forces_46 ?_
    refine lv_iload hx hb dX8_forces_49 (lv_at hl 6 rfl) ?_
    obtain ⟨r208, σ207, eσ207, hf⟩ := bnd2 hf
    refine g_cSi (As := [.int (σ.1 0 24), .int v6]) X.1 hH hS (c_X8_has l G B (σ.1 0 24) v6 σ σ207 r208 eσ207) kw_RX8_133 (by decide) rfl hl (Nat.le_of_ble_eq_true rfl) rfl dX8_forces_51 (fun H locs hH hS => ?_)
    refine lv_if_ne (tgt := 107) hx hb dX8_forces_54 (by decide) (fun q209 => ?_) (fun q209 => ?_)
    · replace hf := brF hf q209
      exact w_X8_forces_107 X c28 k0 n0 h0 ih28 v2 v3 v5 v6 σ207 hf _ _ hH hS _ (lv_sub hl [1, 2, 3, 4, 5, 6] rfl)
    · replace hf := brT hf q209
      refine lv_lload hx hb dX8_forces_57 (lv_at hl 0 rfl) ?_
      obtain ⟨r311, σ310, eσ310, hf⟩ := bnd2 hf
      refine g_cSl (As := [.long y206]) X.1 hH hS (c_X8_size l G B y206 σ207 σ310 r311 eσ310) kw_RX8_187 (by decide) rfl hl (Nat.le_of_ble_eq_true rfl) rfl dX8_forces_59 (fun H locs hH hS => ?_)
      refine lv_lload_n hx hb dX8_forces_62 rfl (lv_at hl 4 rfl) ?_
      refine g_lle (tgt := 107) X.1 dX8_forces_63 dX8_forces_64 (by decide) (fun q312 => ?_) (fun q312 => ?_)
      · replace hf := brT hf q312
        exact w_X8_forces_107 X c28 k0 n0 h0 ih28 v2 v3 v5 v6 σ310 hf _ _ hH hS _ (lv_sub hl [1, 2, 3, 4, 5, 6] rfl)
      · replace hf := brF hf q312
        refine lv_aload_n hx hb dX8_forces_67 rfl (lv_at hl 1 rfl) ?_
        refine lv_dup hx hb dX8_forces_68 rfl ?_
        refine g_get (v := .int (σ310.1 0 24)) kX8 (by decide) fl_RX8_200 X.1 hH km_0 rfl dX8_forces_69 ?_
        refine lv_iconst (v := 1) hx hb dX8_forces_72 (by decide) ?_
        refine lv_iload hx hb dX8_forces_73 (lv_at hl 6 rfl) ?_
        refine lv_ishl hx hb dX8_forces_75 ?_
        refine lv_ior hx hb dX8_forces_76 ?_
        refine g_putI kX8 (by decide) fl_RX8_200 rfl rfl X.1 hH hS km_0 dX8_forces_77 (fun H locs hH hS => ?_)
        obtain ⟨σ313, eσ313, hH⟩ := nmX hH
        replace hf := nmU hf eσ313
        refine lv_aload_n hx hb dX8_forces_80 rfl (lv_at hl 1 rfl) ?_
        refine lv_dup hx hb dX8_forces_81 rfl ?_
        refine g_get (v := .int (σ313.1 0 25)) kX8 (by decide) fl_RX8_203 X.1 hH km_0 rfl dX8_forces_82 ?_
        refine lv_lload hx hb dX8_forces_85 (lv_at hl 0 rfl) ?_
        refine lv_lconst (v := 0) hx hb dX8_forces_87 (by decide) ?_
        refine g_lle (tgt := 99) X.1 dX8_forces_88 dX8_forces_89 (by decide) (fun q314 => ?_) (fun q314 => ?_)
        · replace hf := brT hf q314
          refine lv_iconst (v := 0) hx hb dX8_forces_99 (by decide) ?_
          exact w_X8_forces_100 X c28 k0 n0 h0 ih28 v2 v3 v6 (0 : Int32) (σ313.1 0 25) σ313 hf _ _ hH hS _ (lv_sub hl [1, 2, 3, 4, 6] rfl)
        · replace hf := brF hf q314
          refine lv_iconst (v := 1) hx hb dX8_forces_92 (by decide) ?_
          refine lv_iload hx hb dX8_forces_93 (lv_at hl 6 rfl) ?_
          refine lv_ishl hx hb dX8_forces_95 ?_
          refine lv_goto (tgt := 100) hx hb dX8_forces_96 (by decide) ?_
          exact w_X8_forces_100 X c28 k0 n0 h0 ih28 v2 v3 v6 ((1 : Int32) <<< (v6 &&& 31)) (σ313.1 0 25) σ313 hf _ _ hH hS _ (lv_sub hl [1, 2, 3, 4, 6] rfl)
def l_X8_forces_28 (k0 n0 : Nat) : Nat → Int32 → Int64 → Int32 → Int32 → Sto → Option (Int32 × Sto)
  | 0, _, _, _, _, _ => none
  | n + 1, v2, v3, v5, v6, σ => b_X8_forces_28 (l_X8_forces_28 k0 n0 n) k0 n0 v2 v3 v5 v6 σ
set_option maxHeartbeats 4000000 in
set_option maxRecDepth 100000 in
theorem wl_X8_forces_28 {p : Program} {l : Launch} {e : Env} {s : State} {m : MethodId} {args : Array Value} {below : List Frame} {meth : Method} {c : Code} {G : Gd} {B : Nat} (X : Cm p s m args meth c cX8_forces 9 RX8 G (some .int)) (k0 n0 : Nat) (h0 : (k0 < layM.2.2 ∧ layM.1 k0 = .inr (.long, n0))) {r : Int32} {σr : Sto} (n : Nat) : ∀ (v2 : Int32) (v3 : Int64) (v5 : Int32) (v6 : Int32) (σ : Sto) (H : Heap) (locs : List Loc) (ls : Array Slot), l_X8_forces_28 k0 n0 n v2 v3 v5 v6 σ = some (r, σr) → HX G layM B σ H → va_S (inW layM B) s.heap H locs → lv_has ls 9 [(0, .ref (B + 0)), (1, .ref (B + k0)), (2, .int v2), (3, .long v3), (5, .int v5), (6, .int v6)] → WM p l e 2 s m args below meth c H locs G layM B (some (.int r)) σr (F0 m 28 ls []) := by
  induction n with
  | zero =>
    intro _ _ _ _ σ H locs ls hf
    cases hf
  | succ n ih =>
    intro v2 v3 v5 v6 σ H locs ls hf hH hS hl
    exact w_X8_forces_28 X (l_X8_forces_28 k0 n0 n) k0 n0 h0 ih v2 v3 v5 v6 σ hf H locs hH hS ls hl
def f_X8_forces (k0 n0 : Nat) (x2 : Int32) (σ : Sto) : Option (Int32 × Sto) :=
  bd2 (f_X8_slackOf k0 n0 x2 (σ.1 0 24) (σ.1 0 25) σ) fun r102 σ101 => if (0 : Int64) ≤ r102 then (l_X8_forces_28 k0 n0 400 x2 r102 (0 : Int32) (0 : Int32) σ101) else (some ((-1 : Int32), σ101))
set_option maxHeartbeats 4000000 in
set_option maxRecDepth 100000 in
theorem w_X8_forces {p : Program} {l : Launch} {e : Env} {s : State} {m : MethodId} {args : Array Value} {below : List Frame} {meth : Method} {c : Code} {G : Gd} {B : Nat} (X : Cm p s m args meth c cX8_forces 9 RX8 G (some .int)) (k0 n0 : Nat) (h0 : (k0 < layM.2.2 ∧ layM.1 k0 = .inr (.long, n0))) {r : Int32} {σr : Sto} (x2 : Int32) (σ : Sto) (hf : f_X8_forces k0 n0 x2 σ = some (r, σr)) (H : Heap) (locs : List Loc) (hH : HX G layM B σ H) (hS : va_S (inW layM B) s.heap H locs) (ls : Array Slot) (hl : lv_has ls 9 [(0, .ref (B + 0)), (1, .ref (B + k0)), (2, .int x2)]) : WM p l e 2 s m args below meth c H locs G layM B (some (.int r)) σr (F0 m 0 ls []) := by
  unfold f_X8_forces at hf
  have hx := X.1.1
  have hb := X.1.2.1
  refine lv_aload_n hx hb dX8_forces_0 rfl (lv_at hl 1 rfl) ?_
  refine lv_iload_n hx hb dX8_forces_1 rfl (lv_at hl 2 rfl) ?_
  refine lv_aload_n hx hb dX8_forces_2 rfl (lv_at hl 0 rfl) ?_
  refine g_get (v := .int (σ.1 0 24)) kX8 (by decide) fl_RX8_200 X.1 hH km_0 rfl dX8_forces_3 ?_
  refine lv_aload_n hx hb dX8_forces_6 rfl (lv_at hl 0 rfl) ?_
  refine g_get (v := .int (σ.1 0 25)) kX8 (by decide) fl_RX8_203 X.1 hH km_0 rfl dX8_forces_7 ?_
  obtain ⟨r102, σ101, eσ101, hf⟩ := bnd2 hf
  refine g_cSl (As := [.ref (B + k0), .int x2, .int (σ.1 0 24), .int (σ.1 0 25)]) X.1 hH hS (c_X8_slackOf l G B k0 n0 h0 x2 (σ.1 0 24) (σ.1 0 25) σ σ101 r102 eσ101) kw_RX8_206 (by decide) rfl hl (Nat.le_of_ble_eq_true rfl) rfl dX8_forces_10 (fun H locs hH hS => ?_)
  refine lv_lstore_n (lv' := [(3, .long r102), (0, .ref (B + 0)), (1, .ref (B + k0)), (2, .int x2)]) hx hb dX8_forces_13 rfl hl (by decide) rfl (fun ls hl => ?_)
  refine lv_lload_n hx hb dX8_forces_14 rfl (lv_at hl 0 rfl) ?_
  refine lv_lconst (v := 0) hx hb dX8_forces_15 (by decide) ?_
  refine g_lge (tgt := 22) X.1 dX8_forces_16 dX8_forces_17 (by decide) (fun q103 => ?_) (fun q103 => ?_)
  · replace hf := brT hf q103
    refine lv_iconst (v := 0) hx hb dX8_forces_22 (by decide) ?_
    refine lv_istore (lv' := [(5, .int (0 : Int32)), (3, .long r102), (0, .ref (B + 0)), (1, .ref (B + k0)), (2, .int x2)]) hx hb dX8_forces_23 hl (by decide) rfl (fun ls hl => ?_)
    refine lv_iconst (v := 0) hx hb dX8_forces_25 (by decide) ?_
    refine lv_istore (lv' := [(6, .int (0 : Int32)), (5, .int (0 : Int32)), (3, .long r102), (0, .ref (B + 0)), (1, .ref (B + k0)), (2, .int x2)]) hx hb dX8_forces_26 hl (by decide) rfl (fun ls hl => ?_)
    exact wl_X8_forces_28 X k0 n0 h0 400 x2 r102 (0 : Int32) (0 : Int32) σ101 _ _ _ hf hH hS (lv_sub hl [3, 4, 5, 2, 1, 0] rfl)
  · replace hf := brF hf q103
    refine lv_iconst (v := -1) hx hb dX8_forces_20 (by decide) ?_
    obtain ⟨rfl, rfl⟩ := rt2 hf
    exact g_iret X hH hS dX8_forces_21
theorem c_X8_forces (l : Launch) (G : Gd) (B : Nat) (k0 n0 : Nat) (h0 : (k0 < layM.2.2 ∧ layM.1 k0 = .inr (.long, n0))) (x2 : Int32) (σ σr : Sto) (r : Int32) (hf : f_X8_forces k0 n0 x2 σ = some (r, σr)) : Ct l G layM B yX8_forces cX8_forces 9 (some .int) 2 [.ref (B + 0), .ref (B + k0), .int x2] (some (.int r)) σ σr :=
  Ct.ofW (by decide) (Nat.le_of_ble_eq_true rfl) (fun _ _ _ _ _ _ _ X hH hS ls hl => w_X8_forces X k0 n0 h0 x2 σ hf _ _ hH hS ls (show lv_has ls 9 [(0, .ref (B + 0)), (1, .ref (B + k0)), (2, .int x2)] from hl))
