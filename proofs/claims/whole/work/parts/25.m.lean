-- SlackProofsModel.byteAt(I)I  (D 0)
def b_X8_byteAt_18 (s0 : Int32) (σ : Sto) : Option (Int32 × Sto) :=
  some (s0, σ)
set_option maxHeartbeats 4000000 in
set_option maxRecDepth 100000 in
theorem w_X8_byteAt_18 {p : Program} {l : Launch} {e : Env} {s : State} {m : MethodId} {args : Array Value} {below : List Frame} {meth : Method} {c : Code} {G : Gd} {B : Nat} (X : Cm p s m args meth c cX8_byteAt 2 RX8 G (some .int)) {r : Int32} {σr : Sto} (s0 : Int32) (σ : Sto) (hf : b_X8_byteAt_18 s0 σ = some (r, σr)) (H : Heap) (locs : List Loc) (hH : HX G layM B σ H) (hS : va_S (inW layM B) s.heap H locs) (ls : Array Slot) (hl : lv_has ls 2 []) : WM p l e 0 s m args below meth c H locs G layM B (some (.int r)) σr (F0 m 18 ls [.int s0]) := by
  unfold b_X8_byteAt_18 at hf
  have hx := X.1.1
  have hb := X.1.2.1
  obtain ⟨rfl, rfl⟩ := rt2 hf
  exact g_iret X hH hS dX8_byteAt_18
def f_X8_byteAt (x1 : Int32) (σ : Sto) : Option (Int32 × Sto) :=
  if (σ.1 0 6) ≤ x1 then (b_X8_byteAt_18 (-1 : Int32) σ) else (if (x1 < 0 ∨ 200 ≤ x1.toNatClampNeg) then none else b_X8_byteAt_18 (σ.1 5 x1.toNatClampNeg) σ)
set_option maxHeartbeats 4000000 in
set_option maxRecDepth 100000 in
theorem w_X8_byteAt {p : Program} {l : Launch} {e : Env} {s : State} {m : MethodId} {args : Array Value} {below : List Frame} {meth : Method} {c : Code} {G : Gd} {B : Nat} (X : Cm p s m args meth c cX8_byteAt 2 RX8 G (some .int)) {r : Int32} {σr : Sto} (x1 : Int32) (σ : Sto) (hf : f_X8_byteAt x1 σ = some (r, σr)) (H : Heap) (locs : List Loc) (hH : HX G layM B σ H) (hS : va_S (inW layM B) s.heap H locs) (ls : Array Slot) (hl : lv_has ls 2 [(0, .ref (B + 0)), (1, .int x1)]) : WM p l e 0 s m args below meth c H locs G layM B (some (.int r)) σr (F0 m 0 ls []) := by
  unfold f_X8_byteAt at hf
  have hx := X.1.1
  have hb := X.1.2.1
  refine lv_iload_n hx hb dX8_byteAt_0 rfl (lv_at hl 1 rfl) ?_
  refine lv_aload_n hx hb dX8_byteAt_1 rfl (lv_at hl 0 rfl) ?_
  refine g_get (v := .int (σ.1 0 6)) kX8 (by decide) fl_RX8_94 X.1 hH km_0 rfl dX8_byteAt_2 ?_
  refine lv_icmp_ge (tgt := 17) hx hb dX8_byteAt_5 (by decide) (fun q101 => ?_) (fun q101 => ?_)
  · replace hf := brT hf q101
    refine lv_iconst (v := -1) hx hb dX8_byteAt_17 (by decide) ?_
    exact w_X8_byteAt_18 X (-1 : Int32) σ hf _ _ hH hS _ (lv_sub hl [] rfl)
  · replace hf := brF hf q101
    refine lv_aload_n hx hb dX8_byteAt_8 rfl (lv_at hl 0 rfl) ?_
    refine g_get (v := .ref (B + 5)) kX8 (by decide) fl_RX8_22 X.1 hH km_0 rfl dX8_byteAt_9 ?_
    refine lv_iload_n hx hb dX8_byteAt_12 rfl (lv_at hl 1 rfl) ?_
    obtain ⟨q202, hf⟩ := chk hf
    refine g_iald (j := x1.toNatClampNeg) X.1 hH km_5 q202 rfl dX8_byteAt_13 ?_
    refine lv_goto (tgt := 18) hx hb dX8_byteAt_14 (by decide) ?_
    exact w_X8_byteAt_18 X (σ.1 5 x1.toNatClampNeg) σ hf _ _ hH hS _ (lv_sub hl [] rfl)
theorem c_X8_byteAt (l : Launch) (G : Gd) (B : Nat) (x1 : Int32) (σ σr : Sto) (r : Int32) (hf : f_X8_byteAt x1 σ = some (r, σr)) : Ct l G layM B yX8_byteAt cX8_byteAt 2 (some .int) 0 [.ref (B + 0), .int x1] (some (.int r)) σ σr :=
  Ct.ofW (by decide) (Nat.le_of_ble_eq_true rfl) (fun _ _ _ _ _ _ _ X hH hS ls hl => w_X8_byteAt X x1 σ hf _ _ hH hS ls (show lv_has ls 2 [(0, .ref (B + 0)), (1, .int x1)] from hl))
-- SlackProofsModel.in(III)Z  (D 0)
def b_X8_in_15 (s0 : Int32) (σ : Sto) : Option (Int32 × Sto) :=
  if ¬ (s0 = 0 ∨ s0 = 1) then none else some (s0, σ)
set_option maxHeartbeats 4000000 in
set_option maxRecDepth 100000 in
theorem w_X8_in_15 {p : Program} {l : Launch} {e : Env} {s : State} {m : MethodId} {args : Array Value} {below : List Frame} {meth : Method} {c : Code} {G : Gd} {B : Nat} (X : Cm p s m args meth c cX8_in 3 RX8 G (some .boolean)) {r : Int32} {σr : Sto} (s0 : Int32) (σ : Sto) (hf : b_X8_in_15 s0 σ = some (r, σr)) (H : Heap) (locs : List Loc) (hH : HX G layM B σ H) (hS : va_S (inW layM B) s.heap H locs) (ls : Array Slot) (hl : lv_has ls 3 []) : WM p l e 0 s m args below meth c H locs G layM B (some (.int r)) σr (F0 m 15 ls [.int s0]) := by
  unfold b_X8_in_15 at hf
  have hx := X.1.1
  have hb := X.1.2.1
  obtain ⟨q302, hf⟩ := chk hf
  obtain ⟨rfl, rfl⟩ := rt2 hf
  exact g_zret X hH hS (Decidable.not_not.mp q302) dX8_in_15
def b_X8_in_14 (σ : Sto) : Option (Int32 × Sto) :=
  b_X8_in_15 (0 : Int32) σ
set_option maxHeartbeats 4000000 in
set_option maxRecDepth 100000 in
theorem w_X8_in_14 {p : Program} {l : Launch} {e : Env} {s : State} {m : MethodId} {args : Array Value} {below : List Frame} {meth : Method} {c : Code} {G : Gd} {B : Nat} (X : Cm p s m args meth c cX8_in 3 RX8 G (some .boolean)) {r : Int32} {σr : Sto} (σ : Sto) (hf : b_X8_in_14 σ = some (r, σr)) (H : Heap) (locs : List Loc) (hH : HX G layM B σ H) (hS : va_S (inW layM B) s.heap H locs) (ls : Array Slot) (hl : lv_has ls 3 []) : WM p l e 0 s m args below meth c H locs G layM B (some (.int r)) σr (F0 m 14 ls []) := by
  unfold b_X8_in_14 at hf
  have hx := X.1.1
  have hb := X.1.2.1
  refine lv_iconst (v := 0) hx hb dX8_in_14 (by decide) ?_
  exact w_X8_in_15 X (0 : Int32) σ hf _ _ hH hS _ (lv_sub hl [] rfl)
def f_X8_in (x0 : Int32) (x1 : Int32) (x2 : Int32) (σ : Sto) : Option (Int32 × Sto) :=
  if x0 < x1 then (b_X8_in_14 σ) else (if x2 < x0 then (b_X8_in_14 σ) else (b_X8_in_15 (1 : Int32) σ))
set_option maxHeartbeats 4000000 in
set_option maxRecDepth 100000 in
theorem w_X8_in {p : Program} {l : Launch} {e : Env} {s : State} {m : MethodId} {args : Array Value} {below : List Frame} {meth : Method} {c : Code} {G : Gd} {B : Nat} (X : Cm p s m args meth c cX8_in 3 RX8 G (some .boolean)) {r : Int32} {σr : Sto} (x0 : Int32) (x1 : Int32) (x2 : Int32) (σ : Sto) (hf : f_X8_in x0 x1 x2 σ = some (r, σr)) (H : Heap) (locs : List Loc) (hH : HX G layM B σ H) (hS : va_S (inW layM B) s.heap H locs) (ls : Array Slot) (hl : lv_has ls 3 [(0, .int x0), (1, .int x1), (2, .int x2)]) : WM p l e 0 s m args below meth c H locs G layM B (some (.int r)) σr (F0 m 0 ls []) := by
  unfold f_X8_in at hf
  have hx := X.1.1
  have hb := X.1.2.1
  refine lv_iload_n hx hb dX8_in_0 rfl (lv_at hl 0 rfl) ?_
  refine lv_iload_n hx hb dX8_in_1 rfl (lv_at hl 1 rfl) ?_
  refine lv_icmp_lt (tgt := 14) hx hb dX8_in_2 (by decide) (fun q101 => ?_) (fun q101 => ?_)
  · replace hf := brT hf q101
    exact w_X8_in_14 X σ hf _ _ hH hS _ (lv_sub hl [] rfl)
  · replace hf := brF hf q101
    refine lv_iload_n hx hb dX8_in_5 rfl (lv_at hl 0 rfl) ?_
    refine lv_iload_n hx hb dX8_in_6 rfl (lv_at hl 2 rfl) ?_
    refine lv_icmp_gt (tgt := 14) hx hb dX8_in_7 (by decide) (fun q303 => ?_) (fun q303 => ?_)
    · replace hf := brT hf q303
      exact w_X8_in_14 X σ hf _ _ hH hS _ (lv_sub hl [] rfl)
    · replace hf := brF hf q303
      refine lv_iconst (v := 1) hx hb dX8_in_10 (by decide) ?_
      refine lv_goto (tgt := 15) hx hb dX8_in_11 (by decide) ?_
      exact w_X8_in_15 X (1 : Int32) σ hf _ _ hH hS _ (lv_sub hl [] rfl)
theorem c_X8_in (l : Launch) (G : Gd) (B : Nat) (x0 : Int32) (x1 : Int32) (x2 : Int32) (σ σr : Sto) (r : Int32) (hf : f_X8_in x0 x1 x2 σ = some (r, σr)) : Ct l G layM B yX8_in cX8_in 3 (some .boolean) 0 [.int x0, .int x1, .int x2] (some (.int r)) σ σr :=
  Ct.ofW (by decide) (Nat.le_of_ble_eq_true rfl) (fun _ _ _ _ _ _ _ X hH hS ls hl => w_X8_in X x0 x1 x2 σ hf _ _ hH hS ls (show lv_has ls 3 [(0, .int x0), (1, .int x1), (2, .int x2)] from hl))
-- SlackProofsModel.advances()V  (D 1)
def b_X8_advances_200 (s0 : Int32) (s1 : Int32) (σ : Sto) : Option (Sto) :=
  nmS (pI σ 0 9 (s1 + s0)) fun σ316 => some σ316
set_option maxHeartbeats 4000000 in
set_option maxRecDepth 100000 in
theorem w_X8_advances_200 {p : Program} {l : Launch} {e : Env} {s : State} {m : MethodId} {args : Array Value} {below : List Frame} {meth : Method} {c : Code} {G : Gd} {B : Nat} (X : Cm p s m args meth c cX8_advances 2 RX8 G none) {σr : Sto} (s0 : Int32) (s1 : Int32) (σ : Sto) (hf : b_X8_advances_200 s0 s1 σ = some σr) (H : Heap) (locs : List Loc) (hH : HX G layM B σ H) (hS : va_S (inW layM B) s.heap H locs) (ls : Array Slot) (hl : lv_has ls 2 []) : WM p l e 1 s m args below meth c H locs G layM B none σr (F0 m 200 ls [.int s0, .int s1, .ref (B + 0)]) := by
  unfold b_X8_advances_200 at hf
  have hx := X.1.1
  have hb := X.1.2.1
  refine lv_iadd hx hb dX8_advances_200 ?_
  refine g_putI kX8 (by decide) fl_RX8_98 rfl rfl X.1 hH hS km_0 dX8_advances_201 (fun H locs hH hS => ?_)
  obtain ⟨σ316, eσ316, hH⟩ := nmX hH
  replace hf := nmU hf eσ316
  obtain rfl := rt1 hf
  exact g_vret X hH hS dX8_advances_204
def b_X8_advances_180 (s0 : Int32) (σ : Sto) : Option (Sto) :=
  nmS (pI σ 0 11 s0) fun σ214 => if (σ214.1 0 11) = 0 then (b_X8_advances_200 (0 : Int32) (σ214.1 0 9) σ214) else (b_X8_advances_200 (1 : Int32) (σ214.1 0 9) σ214)
set_option maxHeartbeats 4000000 in
set_option maxRecDepth 100000 in
theorem w_X8_advances_180 {p : Program} {l : Launch} {e : Env} {s : State} {m : MethodId} {args : Array Value} {below : List Frame} {meth : Method} {c : Code} {G : Gd} {B : Nat} (X : Cm p s m args meth c cX8_advances 2 RX8 G none) {σr : Sto} (s0 : Int32) (σ : Sto) (hf : b_X8_advances_180 s0 σ = some σr) (H : Heap) (locs : List Loc) (hH : HX G layM B σ H) (hS : va_S (inW layM B) s.heap H locs) (ls : Array Slot) (hl : lv_has ls 2 [(0, .ref (B + 0))]) : WM p l e 1 s m args below meth c H locs G layM B none σr (F0 m 180 ls [.int s0, .ref (B + 0)]) := by
  unfold b_X8_advances_180 at hf
  have hx := X.1.1
  have hb := X.1.2.1
  refine g_putI kX8 (by decide) fl_RX8_110 rfl rfl X.1 hH hS km_0 dX8_advances_180 (fun H locs hH hS => ?_)
  obtain ⟨σ214, eσ214, hH⟩ := nmX hH
  replace hf := nmU hf eσ214
  refine lv_aload_n hx hb dX8_advances_183 rfl (lv_at hl 0 rfl) ?_
  refine lv_dup hx hb dX8_advances_184 rfl ?_
  refine g_get (v := .int (σ214.1 0 9)) kX8 (by decide) fl_RX8_98 X.1 hH km_0 rfl dX8_advances_185 ?_
  refine lv_aload_n hx hb dX8_advances_188 rfl (lv_at hl 0 rfl) ?_
  refine g_get (v := .int (σ214.1 0 11)) kX8 (by decide) fl_RX8_110 X.1 hH km_0 rfl dX8_advances_189 ?_
  refine lv_if_ne (tgt := 199) hx hb dX8_advances_192 (by decide) (fun q215 => ?_) (fun q215 => ?_)
  · replace hf := brF hf q215
    refine lv_iconst (v := 1) hx hb dX8_advances_199 (by decide) ?_
    exact w_X8_advances_200 X (1 : Int32) (σ214.1 0 9) σ214 hf _ _ hH hS _ (lv_sub hl [] rfl)
  · replace hf := brT hf q215
    refine lv_iconst (v := 0) hx hb dX8_advances_195 (by decide) ?_
    refine lv_goto (tgt := 200) hx hb dX8_advances_196 (by decide) ?_
    exact w_X8_advances_200 X (0 : Int32) (σ214.1 0 9) σ214 hf _ _ hH hS _ (lv_sub hl [] rfl)
def b_X8_advances_131 (s0 : Int32) (σ : Sto) : Option (Sto) :=
  nmS (pI σ 0 11 s0) fun σ524 => some σ524
set_option maxHeartbeats 4000000 in
set_option maxRecDepth 100000 in
theorem w_X8_advances_131 {p : Program} {l : Launch} {e : Env} {s : State} {m : MethodId} {args : Array Value} {below : List Frame} {meth : Method} {c : Code} {G : Gd} {B : Nat} (X : Cm p s m args meth c cX8_advances 2 RX8 G none) {σr : Sto} (s0 : Int32) (σ : Sto) (hf : b_X8_advances_131 s0 σ = some σr) (H : Heap) (locs : List Loc) (hH : HX G layM B σ H) (hS : va_S (inW layM B) s.heap H locs) (ls : Array Slot) (hl : lv_has ls 2 []) : WM p l e 1 s m args below meth c H locs G layM B none σr (F0 m 131 ls [.int s0, .ref (B + 0)]) := by
  unfold b_X8_advances_131 at hf
  have hx := X.1.1
  have hb := X.1.2.1
  refine g_putI kX8 (by decide) fl_RX8_110 rfl rfl X.1 hH hS km_0 dX8_advances_131 (fun H locs hH hS => ?_)
  obtain ⟨σ524, eσ524, hH⟩ := nmX hH
  replace hf := nmU hf eσ524
  obtain rfl := rt1 hf
  exact g_vret X hH hS dX8_advances_134
def b_X8_advances_96 (c38 : Sto → Option (Sto)) (s0 : Int32) (σ : Sto) : Option (Sto) :=
  nmS (pI σ 0 12 s0) fun σ626 => nmS (pI σ626 0 9 ((σ626.1 0 9) + (1 : Int32))) fun σ627 => c38 σ627
set_option maxHeartbeats 4000000 in
set_option maxRecDepth 100000 in
theorem w_X8_advances_96 {p : Program} {l : Launch} {e : Env} {s : State} {m : MethodId} {args : Array Value} {below : List Frame} {meth : Method} {c : Code} {G : Gd} {B : Nat} (X : Cm p s m args meth c cX8_advances 2 RX8 G none) (c38 : Sto → Option (Sto)) {σr : Sto} (ih38 : ∀ (σ : Sto) (H : Heap) (locs : List Loc) (ls : Array Slot), c38 σ = some σr → HX G layM B σ H → va_S (inW layM B) s.heap H locs → lv_has ls 2 [(0, .ref (B + 0))] → WM p l e 1 s m args below meth c H locs G layM B none σr (F0 m 38 ls [])) (s0 : Int32) (σ : Sto) (hf : b_X8_advances_96 c38 s0 σ = some σr) (H : Heap) (locs : List Loc) (hH : HX G layM B σ H) (hS : va_S (inW layM B) s.heap H locs) (ls : Array Slot) (hl : lv_has ls 2 [(0, .ref (B + 0))]) : WM p l e 1 s m args below meth c H locs G layM B none σr (F0 m 96 ls [.int s0, .ref (B + 0)]) := by
  unfold b_X8_advances_96 at hf
  have hx := X.1.1
  have hb := X.1.2.1
  refine g_putI kX8 (by decide) fl_RX8_107 rfl rfl X.1 hH hS km_0 dX8_advances_96 (fun H locs hH hS => ?_)
  obtain ⟨σ626, eσ626, hH⟩ := nmX hH
  replace hf := nmU hf eσ626
  refine lv_aload_n hx hb dX8_advances_99 rfl (lv_at hl 0 rfl) ?_
  refine lv_dup hx hb dX8_advances_100 rfl ?_
  refine g_get (v := .int (σ626.1 0 9)) kX8 (by decide) fl_RX8_98 X.1 hH km_0 rfl dX8_advances_101 ?_
  refine lv_iconst (v := 1) hx hb dX8_advances_104 (by decide) ?_
  refine lv_iadd hx hb dX8_advances_105 ?_
  refine g_putI kX8 (by decide) fl_RX8_98 rfl rfl X.1 hH hS km_0 dX8_advances_106 (fun H locs hH hS => ?_)
  obtain ⟨σ627, eσ627, hH⟩ := nmX hH
  replace hf := nmU hf eσ627
  refine lv_goto (tgt := 38) hx hb dX8_advances_109 (by decide) ?_
  exact ih38 σ627 _ _ _ hf hH hS (lv_sub hl [0] rfl)
def b_X8_advances_38 (c38 : Sto → Option (Sto)) (σ : Sto) : Option (Sto) :=
  bd2 (f_X8_byteAt (σ.1 0 9) σ) fun r419 σ418 => bd2 (f_X8_in r419 (48 : Int32) (57 : Int32) σ418) fun r421 σ420 => if r421 = 0 then (if (3 : Int32) ≤ ((σ420.1 0 9) - (σ420.1 0 10)) then (b_X8_advances_131 (5 : Int32) σ420) else (b_X8_advances_131 (2 : Int32) σ420)) else (if (2 : Int32) ≤ ((σ420.1 0 9) - (σ420.1 0 10)) then (b_X8_advances_96 c38 (σ420.1 0 12) σ420) else (bd2 (f_X8_byteAt (σ420.1 0 9) σ420) fun r629 σ628 => b_X8_advances_96 c38 ((((10 : Int32) * (σ420.1 0 12)) + r629) - (48 : Int32)) σ628))
set_option maxHeartbeats 4000000 in
set_option maxRecDepth 100000 in
theorem w_X8_advances_38 {p : Program} {l : Launch} {e : Env} {s : State} {m : MethodId} {args : Array Value} {below : List Frame} {meth : Method} {c : Code} {G : Gd} {B : Nat} (X : Cm p s m args meth c cX8_advances 2 RX8 G none) (c38 : Sto → Option (Sto)) {σr : Sto} (ih38 : ∀ (σ : Sto) (H : Heap) (locs : List Loc) (ls : Array Slot), c38 σ = some σr → HX G layM B σ H → va_S (inW layM B) s.heap H locs → lv_has ls 2 [(0, .ref (B + 0))] → WM p l e 1 s m args below meth c H locs G layM B none σr (F0 m 38 ls [])) (σ : Sto) (hf : b_X8_advances_38 c38 σ = some σr) (H : Heap) (locs : List Loc) (hH : HX G layM B σ H) (hS : va_S (inW layM B) s.heap H locs) (ls : Array Slot) (hl : lv_has ls 2 [(0, .ref (B + 0))]) : WM p l e 1 s m args below meth c H locs G layM B none σr (F0 m 38 ls []) := by
  unfold b_X8_advances_38 at hf
  have hx := X.1.1
  have hb := X.1.2.1
  refine lv_aload_n hx hb dX8_advances_38 rfl (lv_at hl 0 rfl) ?_
  refine lv_aload_n hx hb dX8_advances_39 rfl (lv_at hl 0 rfl) ?_
  refine g_get (v := .int (σ.1 0 9)) kX8 (by decide) fl_RX8_98 X.1 hH km_0 rfl dX8_advances_40 ?_
  obtain ⟨r419, σ418, eσ418, hf⟩ := bnd2 hf
  refine g_cVi (As := [.int (σ.1 0 9)]) X.1 hH hS (c_X8_byteAt l G B (σ.1 0 9) σ σ418 r419 eσ418) kw_RX8_104 kX8 km_0 (by decide) rfl hl (Nat.le_of_ble_eq_true rfl) rfl dX8_advances_43 (fun H locs hH hS => ?_)
  refine lv_bipush (v := 48) hx hb dX8_advances_46 (by decide) ?_
  refine lv_bipush (v := 57) hx hb dX8_advances_48 (by decide) ?_
  obtain ⟨r421, σ420, eσ420, hf⟩ := bnd2 hf
  refine g_cSi (As := [.int r419, .int (48 : Int32), .int (57 : Int32)]) X.1 hH hS (c_X8_in l G B r419 (48 : Int32) (57 : Int32) σ418 σ420 r421 eσ420) kw_RX8_68 (by decide) rfl hl (Nat.le_of_ble_eq_true rfl) rfl dX8_advances_50 (fun H locs hH hS => ?_)
  refine lv_if_eq (tgt := 112) hx hb dX8_advances_53 (by decide) (fun q422 => ?_) (fun q422 => ?_)
  · replace hf := brT hf q422
    refine lv_aload_n hx hb dX8_advances_112 rfl (lv_at hl 0 rfl) ?_
    refine lv_aload_n hx hb dX8_advances_113 rfl (lv_at hl 0 rfl) ?_
    refine g_get (v := .int (σ420.1 0 9)) kX8 (by decide) fl_RX8_98 X.1 hH km_0 rfl dX8_advances_114 ?_
    refine lv_aload_n hx hb dX8_advances_117 rfl (lv_at hl 0 rfl) ?_
    refine g_get (v := .int (σ420.1 0 10)) kX8 (by decide) fl_RX8_101 X.1 hH km_0 rfl dX8_advances_118 ?_
    refine lv_isub hx hb dX8_advances_121 ?_
    refine lv_iconst (v := 3) hx hb dX8_advances_122 (by decide) ?_
    refine lv_icmp_ge (tgt := 130) hx hb dX8_advances_123 (by decide) (fun q423 => ?_) (fun q423 => ?_)
    · replace hf := brT hf q423
      refine lv_iconst (v := 5) hx hb dX8_advances_130 (by decide) ?_
      exact w_X8_advances_131 X (5 : Int32) σ420 hf _ _ hH hS _ (lv_sub hl [] rfl)
    · replace hf := brF hf q423
      refine lv_iconst (v := 2) hx hb dX8_advances_126 (by decide) ?_
      refine lv_goto (tgt := 131) hx hb dX8_advances_127 (by decide) ?_
      exact w_X8_advances_131 X (2 : Int32) σ420 hf _ _ hH hS _ (lv_sub hl [] rfl)
  · replace hf := brF hf q422
    refine lv_aload_n hx hb dX8_advances_56 rfl (lv_at hl 0 rfl) ?_
    refine lv_aload_n hx hb dX8_advances_57 rfl (lv_at hl 0 rfl) ?_
    refine g_get (v := .int (σ420.1 0 9)) kX8 (by decide) fl_RX8_98 X.1 hH km_0 rfl dX8_advances_58 ?_
    refine lv_aload_n hx hb dX8_advances_61 rfl (lv_at hl 0 rfl) ?_
    refine g_get (v := .int (σ420.1 0 10)) kX8 (by decide) fl_RX8_101 X.1 hH km_0 rfl dX8_advances_62 ?_
    refine lv_isub hx hb dX8_advances_65 ?_
    refine lv_iconst (v := 2) hx hb dX8_advances_66 (by decide) ?_
    refine lv_icmp_ge (tgt := 92) hx hb dX8_advances_67 (by decide) (fun q525 => ?_) (fun q525 => ?_)
    · replace hf := brT hf q525
      refine lv_aload_n hx hb dX8_advances_92 rfl (lv_at hl 0 rfl) ?_
      refine g_get (v := .int (σ420.1 0 12)) kX8 (by decide) fl_RX8_107 X.1 hH km_0 rfl dX8_advances_93 ?_
      exact w_X8_advances_96 X c38 ih38 (σ420.1 0 12) σ420 hf _ _ hH hS _ (lv_sub hl [0] rfl)
    · replace hf := brF hf q525
      refine lv_bipush (v := 10) hx hb dX8_advances_70 (by decide) ?_
      refine lv_aload_n hx hb dX8_advances_72 rfl (lv_at hl 0 rfl) ?_
      refine g_get (v := .int (σ420.1 0 12)) kX8 (by decide) fl_RX8_107 X.1 hH km_0 rfl dX8_advances_73 ?_
      refine lv_imul hx hb dX8_advances_76 ?_
      refine lv_aload_n hx hb dX8_advances_77 rfl (lv_at hl 0 rfl) ?_
      refine lv_aload_n hx hb dX8_advances_78 rfl (lv_at hl 0 rfl) ?_
      refine g_get (v := .int (σ420.1 0 9)) kX8 (by decide) fl_RX8_98 X.1 hH km_0 rfl dX8_advances_79 ?_
      obtain ⟨r629, σ628, eσ628, hf⟩ := bnd2 hf
      refine g_cVi (As := [.int (σ420.1 0 9)]) X.1 hH hS (c_X8_byteAt l G B (σ420.1 0 9) σ420 σ628 r629 eσ628) kw_RX8_104 kX8 km_0 (by decide) rfl hl (Nat.le_of_ble_eq_true rfl) rfl dX8_advances_82 (fun H locs hH hS => ?_)
      refine lv_iadd hx hb dX8_advances_85 ?_
      refine lv_bipush (v := 48) hx hb dX8_advances_86 (by decide) ?_
      refine lv_isub hx hb dX8_advances_88 ?_
      refine lv_goto (tgt := 96) hx hb dX8_advances_89 (by decide) ?_
      exact w_X8_advances_96 X c38 ih38 ((((10 : Int32) * (σ420.1 0 12)) + r629) - (48 : Int32)) σ628 hf _ _ hH hS _ (lv_sub hl [0] rfl)
def l_X8_advances_38 : Nat → Sto → Option (Sto)
  | 0, _ => none
  | n + 1, σ => b_X8_advances_38 (l_X8_advances_38 n) σ
set_option maxHeartbeats 4000000 in
set_option maxRecDepth 100000 in
theorem wl_X8_advances_38 {p : Program} {l : Launch} {e : Env} {s : State} {m : MethodId} {args : Array Value} {below : List Frame} {meth : Method} {c : Code} {G : Gd} {B : Nat} (X : Cm p s m args meth c cX8_advances 2 RX8 G none) {σr : Sto} (n : Nat) : ∀ (σ : Sto) (H : Heap) (locs : List Loc) (ls : Array Slot), l_X8_advances_38 n σ = some σr → HX G layM B σ H → va_S (inW layM B) s.heap H locs → lv_has ls 2 [(0, .ref (B + 0))] → WM p l e 1 s m args below meth c H locs G layM B none σr (F0 m 38 ls []) := by
  induction n with
  | zero =>
    intro σ H locs ls hf
    cases hf
  | succ n ih =>
    intro σ H locs ls hf hH hS hl
    exact w_X8_advances_38 X (l_X8_advances_38 n) ih σ hf H locs hH hS ls hl
def f_X8_advances (σ : Sto) : Option (Sto) :=
  nmS (pI σ 0 10 (σ.1 0 9)) fun σ101 => bd2 (f_X8_byteAt (σ101.1 0 9) σ101) fun r103 σ102 => nmS (pI σ102 0 12 r103) fun σ104 => bd2 (f_X8_in r103 (48 : Int32) (57 : Int32) σ104) fun r106 σ105 => if r106 = 0 then (if 0 ≤ r103 then (bd2 (f_X8_in r103 (97 : Int32) (122 : Int32) σ105) fun r110 σ109 => if r110 = 0 then (if r103 = (44 : Int32) then (b_X8_advances_180 (3 : Int32) σ109) else (if r103 = (59 : Int32) then (b_X8_advances_180 (4 : Int32) σ109) else (b_X8_advances_180 (5 : Int32) σ109))) else (b_X8_advances_180 (1 : Int32) σ109)) else (b_X8_advances_180 (0 : Int32) σ105)) else (nmS (pI σ105 0 12 (0 : Int32)) fun σ317 => l_X8_advances_38 400 σ317)
set_option maxHeartbeats 4000000 in
set_option maxRecDepth 100000 in
theorem w_X8_advances {p : Program} {l : Launch} {e : Env} {s : State} {m : MethodId} {args : Array Value} {below : List Frame} {meth : Method} {c : Code} {G : Gd} {B : Nat} (X : Cm p s m args meth c cX8_advances 2 RX8 G none) {σr : Sto} (σ : Sto) (hf : f_X8_advances σ = some σr) (H : Heap) (locs : List Loc) (hH : HX G layM B σ H) (hS : va_S (inW layM B) s.heap H locs) (ls : Array Slot) (hl : lv_has ls 2 [(0, .ref (B + 0))]) : WM p l e 1 s m args below meth c H locs G layM B none σr (F0 m 0 ls []) := by
  unfold f_X8_advances at hf
  have hx := X.1.1
  have hb := X.1.2.1
  refine lv_aload_n hx hb dX8_advances_0 rfl (lv_at hl 0 rfl) ?_
  refine lv_aload_n hx hb dX8_advances_1 rfl (lv_at hl 0 rfl) ?_
  refine g_get (v := .int (σ.1 0 9)) kX8 (by decide) fl_RX8_98 X.1 hH km_0 rfl dX8_advances_2 ?_
  refine g_putI kX8 (by decide) fl_RX8_101 rfl rfl X.1 hH hS km_0 dX8_advances_5 (fun H locs hH hS => ?_)
  obtain ⟨σ101, eσ101, hH⟩ := nmX hH
  replace hf := nmU hf eσ101
  refine lv_aload_n hx hb dX8_advances_8 rfl (lv_at hl 0 rfl) ?_
  refine lv_aload_n hx hb dX8_advances_9 rfl (lv_at hl 0 rfl) ?_
  refine g_get (v := .int (σ101.1 0 9)) kX8 (by decide) fl_RX8_98 X.1 hH km_0 rfl dX8_advances_10 ?_
  obtain ⟨r103, σ102, eσ102, hf⟩ := bnd2 hf
  refine g_cVi (As := [.int (σ101.1 0 9)]) X.1 hH hS (c_X8_byteAt l G B (σ101.1 0 9) σ101 σ102 r103 eσ102) kw_RX8_104 kX8 km_0 (by decide) rfl hl (Nat.le_of_ble_eq_true rfl) rfl dX8_advances_13 (fun H locs hH hS => ?_)
  refine lv_istore_n (lv' := [(1, .int r103), (0, .ref (B + 0))]) hx hb dX8_advances_16 rfl hl (by decide) rfl (fun ls hl => ?_)
  refine lv_aload_n hx hb dX8_advances_17 rfl (lv_at hl 1 rfl) ?_
  refine lv_iload_n hx hb dX8_advances_18 rfl (lv_at hl 0 rfl) ?_
  refine g_putI kX8 (by decide) fl_RX8_107 rfl rfl X.1 hH hS km_0 dX8_advances_19 (fun H locs hH hS => ?_)
  obtain ⟨σ104, eσ104, hH⟩ := nmX hH
  replace hf := nmU hf eσ104
  refine lv_iload_n hx hb dX8_advances_22 rfl (lv_at hl 0 rfl) ?_
  refine lv_bipush (v := 48) hx hb dX8_advances_23 (by decide) ?_
  refine lv_bipush (v := 57) hx hb dX8_advances_25 (by decide) ?_
  obtain ⟨r106, σ105, eσ105, hf⟩ := bnd2 hf
  refine g_cSi (As := [.int r103, .int (48 : Int32), .int (57 : Int32)]) X.1 hH hS (c_X8_in l G B r103 (48 : Int32) (57 : Int32) σ104 σ105 r106 eσ105) kw_RX8_68 (by decide) rfl hl (Nat.le_of_ble_eq_true rfl) rfl dX8_advances_27 (fun H locs hH hS => ?_)
  refine lv_if_eq (tgt := 135) hx hb dX8_advances_30 (by decide) (fun q107 => ?_) (fun q107 => ?_)
  · replace hf := brT hf q107
    refine lv_aload_n hx hb dX8_advances_135 rfl (lv_at hl 1 rfl) ?_
    refine lv_iload_n hx hb dX8_advances_136 rfl (lv_at hl 0 rfl) ?_
    refine lv_if_ge (tgt := 144) hx hb dX8_advances_137 (by decide) (fun q108 => ?_) (fun q108 => ?_)
    · replace hf := brT hf q108
      refine lv_iload_n hx hb dX8_advances_144 rfl (lv_at hl 0 rfl) ?_
      refine lv_bipush (v := 97) hx hb dX8_advances_145 (by decide) ?_
      refine lv_bipush (v := 122) hx hb dX8_advances_147 (by decide) ?_
      obtain ⟨r110, σ109, eσ109, hf⟩ := bnd2 hf
      refine g_cSi (As := [.int r103, .int (97 : Int32), .int (122 : Int32)]) X.1 hH hS (c_X8_in l G B r103 (97 : Int32) (122 : Int32) σ105 σ109 r110 eσ109) kw_RX8_68 (by decide) rfl hl (Nat.le_of_ble_eq_true rfl) rfl dX8_advances_149 (fun H locs hH hS => ?_)
      refine lv_if_eq (tgt := 159) hx hb dX8_advances_152 (by decide) (fun q111 => ?_) (fun q111 => ?_)
      · replace hf := brT hf q111
        refine lv_iload_n hx hb dX8_advances_159 rfl (lv_at hl 0 rfl) ?_
        refine lv_bipush (v := 44) hx hb dX8_advances_160 (by decide) ?_
        refine lv_icmp_ne (tgt := 169) hx hb dX8_advances_162 (by decide) (fun q112 => ?_) (fun q112 => ?_)
        · replace hf := brF hf q112
          refine lv_iload_n hx hb dX8_advances_169 rfl (lv_at hl 0 rfl) ?_
          refine lv_bipush (v := 59) hx hb dX8_advances_170 (by decide) ?_
          refine lv_icmp_ne (tgt := 179) hx hb dX8_advances_172 (by decide) (fun q113 => ?_) (fun q113 => ?_)
          · replace hf := brF hf q113
            refine lv_iconst (v := 5) hx hb dX8_advances_179 (by decide) ?_
            exact w_X8_advances_180 X (5 : Int32) σ109 hf _ _ hH hS _ (lv_sub hl [1] rfl)
          · replace hf := brT hf q113
            refine lv_iconst (v := 4) hx hb dX8_advances_175 (by decide) ?_
            refine lv_goto (tgt := 180) hx hb dX8_advances_176 (by decide) ?_
            exact w_X8_advances_180 X (4 : Int32) σ109 hf _ _ hH hS _ (lv_sub hl [1] rfl)
        · replace hf := brT hf q112
          refine lv_iconst (v := 3) hx hb dX8_advances_165 (by decide) ?_
          refine lv_goto (tgt := 180) hx hb dX8_advances_166 (by decide) ?_
          exact w_X8_advances_180 X (3 : Int32) σ109 hf _ _ hH hS _ (lv_sub hl [1] rfl)
      · replace hf := brF hf q111
        refine lv_iconst (v := 1) hx hb dX8_advances_155 (by decide) ?_
        refine lv_goto (tgt := 180) hx hb dX8_advances_156 (by decide) ?_
        exact w_X8_advances_180 X (1 : Int32) σ109 hf _ _ hH hS _ (lv_sub hl [1] rfl)
    · replace hf := brF hf q108
      refine lv_iconst (v := 0) hx hb dX8_advances_140 (by decide) ?_
      refine lv_goto (tgt := 180) hx hb dX8_advances_141 (by decide) ?_
      exact w_X8_advances_180 X (0 : Int32) σ105 hf _ _ hH hS _ (lv_sub hl [1] rfl)
  · replace hf := brF hf q107
    refine lv_aload_n hx hb dX8_advances_33 rfl (lv_at hl 1 rfl) ?_
    refine lv_iconst (v := 0) hx hb dX8_advances_34 (by decide) ?_
    refine g_putI kX8 (by decide) fl_RX8_107 rfl rfl X.1 hH hS km_0 dX8_advances_35 (fun H locs hH hS => ?_)
    obtain ⟨σ317, eσ317, hH⟩ := nmX hH
    replace hf := nmU hf eσ317
    exact wl_X8_advances_38 X 400 σ317 _ _ _ hf hH hS (lv_sub hl [1] rfl)
theorem c_X8_advances (l : Launch) (G : Gd) (B : Nat) (σ σr : Sto) (hf : f_X8_advances σ = some σr) : Ct l G layM B yX8_advances cX8_advances 2 none 1 [.ref (B + 0)] none σ σr :=
  Ct.ofW (by decide) (Nat.le_of_ble_eq_true rfl) (fun _ _ _ _ _ _ _ X hH hS ls hl => w_X8_advances X σ hf _ _ hH hS ls (show lv_has ls 2 [(0, .ref (B + 0))] from hl))
-- SlackProofsModel.allPrices()J  (D 0)
def b_X8_allPrices_4 (c4 : Int64 → Int32 → Sto → Option (Int64 × Sto)) (v1 : Int64) (v3 : Int32) (σ : Sto) : Option (Int64 × Sto) :=
  if (8 : Int32) ≤ v3 then (some (v1, σ)) else (if (v3 < 0 ∨ 312 ≤ v3.toNatClampNeg) then none else nmS (v1 + (σ.2 6 v3.toNatClampNeg)) fun y203 => c4 y203 (v3 + (1 : Int32)) σ)
set_option maxHeartbeats 4000000 in
set_option maxRecDepth 100000 in
theorem w_X8_allPrices_4 {p : Program} {l : Launch} {e : Env} {s : State} {m : MethodId} {args : Array Value} {below : List Frame} {meth : Method} {c : Code} {G : Gd} {B : Nat} (X : Cm p s m args meth c cX8_allPrices 4 RX8 G (some .long)) (c4 : Int64 → Int32 → Sto → Option (Int64 × Sto)) {r : Int64} {σr : Sto} (ih4 : ∀ (v1 : Int64) (v3 : Int32) (σ : Sto) (H : Heap) (locs : List Loc) (ls : Array Slot), c4 v1 v3 σ = some (r, σr) → HX G layM B σ H → va_S (inW layM B) s.heap H locs → lv_has ls 4 [(0, .ref (B + 0)), (1, .long v1), (3, .int v3)] → WM p l e 0 s m args below meth c H locs G layM B (some (.long r)) σr (F0 m 4 ls [])) (v1 : Int64) (v3 : Int32) (σ : Sto) (hf : b_X8_allPrices_4 c4 v1 v3 σ = some (r, σr)) (H : Heap) (locs : List Loc) (hH : HX G layM B σ H) (hS : va_S (inW layM B) s.heap H locs) (ls : Array Slot) (hl : lv_has ls 4 [(0, .ref (B + 0)), (1, .long v1), (3, .int v3)]) : WM p l e 0 s m args below meth c H locs G layM B (some (.long r)) σr (F0 m 4 ls []) := by
  unfold b_X8_allPrices_4 at hf
  have hx := X.1.1
  have hb := X.1.2.1
  refine lv_iload_n hx hb dX8_allPrices_4 rfl (lv_at hl 2 rfl) ?_
  refine lv_bipush (v := 8) hx hb dX8_allPrices_5 (by decide) ?_
  refine lv_icmp_ge (tgt := 25) hx hb dX8_allPrices_7 (by decide) (fun q201 => ?_) (fun q201 => ?_)
  · replace hf := brT hf q201
    refine lv_lload_n hx hb dX8_allPrices_25 rfl (lv_at hl 1 rfl) ?_
    obtain ⟨rfl, rfl⟩ := rt2 hf
    exact g_lret X hH hS dX8_allPrices_26
  · replace hf := brF hf q201
    refine lv_lload_n hx hb dX8_allPrices_10 rfl (lv_at hl 1 rfl) ?_
    refine lv_aload_n hx hb dX8_allPrices_11 rfl (lv_at hl 0 rfl) ?_
    refine g_get (v := .ref (B + 6)) kX8 (by decide) fl_RX8_25 X.1 hH km_0 rfl dX8_allPrices_12 ?_
    refine lv_iload_n hx hb dX8_allPrices_15 rfl (lv_at hl 2 rfl) ?_
    obtain ⟨q202, hf⟩ := chk hf
    refine g_lald (j := v3.toNatClampNeg) X.1 hH km_6 q202 rfl dX8_allPrices_16 ?_
    refine lv_ladd hx hb dX8_allPrices_17 ?_
    refine lv_topl (fun y203 ey203 => ?_)
    replace hf := nmU hf ey203
    refine lv_lstore_n (lv' := [(1, .long y203), (0, .ref (B + 0)), (3, .int v3)]) hx hb dX8_allPrices_18 rfl hl (by decide) rfl (fun ls hl => ?_)
    refine lv_iinc (v := (v3 + (1 : Int32))) (lv' := [(3, .int (v3 + (1 : Int32))), (1, .long y203), (0, .ref (B + 0))]) hx hb dX8_allPrices_19 hl (k := 2) rfl rfl (by decide) rfl (fun ls hl => ?_)
    refine lv_goto (tgt := 4) hx hb dX8_allPrices_22 (by decide) ?_
    exact ih4 y203 (v3 + (1 : Int32)) σ _ _ _ hf hH hS (lv_sub hl [2, 1, 0] rfl)
def l_X8_allPrices_4 : Nat → Int64 → Int32 → Sto → Option (Int64 × Sto)
  | 0, _, _, _ => none
  | n + 1, v1, v3, σ => b_X8_allPrices_4 (l_X8_allPrices_4 n) v1 v3 σ
set_option maxHeartbeats 4000000 in
set_option maxRecDepth 100000 in
theorem wl_X8_allPrices_4 {p : Program} {l : Launch} {e : Env} {s : State} {m : MethodId} {args : Array Value} {below : List Frame} {meth : Method} {c : Code} {G : Gd} {B : Nat} (X : Cm p s m args meth c cX8_allPrices 4 RX8 G (some .long)) {r : Int64} {σr : Sto} (n : Nat) : ∀ (v1 : Int64) (v3 : Int32) (σ : Sto) (H : Heap) (locs : List Loc) (ls : Array Slot), l_X8_allPrices_4 n v1 v3 σ = some (r, σr) → HX G layM B σ H → va_S (inW layM B) s.heap H locs → lv_has ls 4 [(0, .ref (B + 0)), (1, .long v1), (3, .int v3)] → WM p l e 0 s m args below meth c H locs G layM B (some (.long r)) σr (F0 m 4 ls []) := by
  induction n with
  | zero =>
    intro _ _ σ H locs ls hf
    cases hf
  | succ n ih =>
    intro v1 v3 σ H locs ls hf hH hS hl
    exact w_X8_allPrices_4 X (l_X8_allPrices_4 n) ih v1 v3 σ hf H locs hH hS ls hl
def f_X8_allPrices (σ : Sto) : Option (Int64 × Sto) :=
  l_X8_allPrices_4 400 (0 : Int64) (0 : Int32) σ
set_option maxHeartbeats 4000000 in
set_option maxRecDepth 100000 in
theorem w_X8_allPrices {p : Program} {l : Launch} {e : Env} {s : State} {m : MethodId} {args : Array Value} {below : List Frame} {meth : Method} {c : Code} {G : Gd} {B : Nat} (X : Cm p s m args meth c cX8_allPrices 4 RX8 G (some .long)) {r : Int64} {σr : Sto} (σ : Sto) (hf : f_X8_allPrices σ = some (r, σr)) (H : Heap) (locs : List Loc) (hH : HX G layM B σ H) (hS : va_S (inW layM B) s.heap H locs) (ls : Array Slot) (hl : lv_has ls 4 [(0, .ref (B + 0))]) : WM p l e 0 s m args below meth c H locs G layM B (some (.long r)) σr (F0 m 0 ls []) := by
  unfold f_X8_allPrices at hf
  have hx := X.1.1
  have hb := X.1.2.1
  refine lv_lconst (v := 0) hx hb dX8_allPrices_0 (by decide) ?_
  refine lv_lstore_n (lv' := [(1, .long (0 : Int64)), (0, .ref (B + 0))]) hx hb dX8_allPrices_1 rfl hl (by decide) rfl (fun ls hl => ?_)
  refine lv_iconst (v := 0) hx hb dX8_allPrices_2 (by decide) ?_
  refine lv_istore_n (lv' := [(3, .int (0 : Int32)), (1, .long (0 : Int64)), (0, .ref (B + 0))]) hx hb dX8_allPrices_3 rfl hl (by decide) rfl (fun ls hl => ?_)
  exact wl_X8_allPrices_4 X 400 (0 : Int64) (0 : Int32) σ _ _ _ hf hH hS (lv_sub hl [2, 1, 0] rfl)
theorem c_X8_allPrices (l : Launch) (G : Gd) (B : Nat) (σ σr : Sto) (r : Int64) (hf : f_X8_allPrices σ = some (r, σr)) : Ct l G layM B yX8_allPrices cX8_allPrices 4 (some .long) 0 [.ref (B + 0)] (some (.long r)) σ σr :=
  Ct.ofW (by decide) (Nat.le_of_ble_eq_true rfl) (fun _ _ _ _ _ _ _ X hH hS ls hl => w_X8_allPrices X σ hf _ _ hH hS ls (show lv_has ls 4 [(0, .ref (B + 0))] from hl))
-- SlackProofsModel.isLive(I)Z  (D 1)
def b_X8_isLive_31 (s0 : Int32) (σ : Sto) : Option (Int32 × Sto) :=
  if ¬ (s0 = 0 ∨ s0 = 1) then none else some (s0, σ)
set_option maxHeartbeats 4000000 in
set_option maxRecDepth 100000 in
theorem w_X8_isLive_31 {p : Program} {l : Launch} {e : Env} {s : State} {m : MethodId} {args : Array Value} {below : List Frame} {meth : Method} {c : Code} {G : Gd} {B : Nat} (X : Cm p s m args meth c cX8_isLive 2 RX8 G (some .boolean)) {r : Int32} {σr : Sto} (s0 : Int32) (σ : Sto) (hf : b_X8_isLive_31 s0 σ = some (r, σr)) (H : Heap) (locs : List Loc) (hH : HX G layM B σ H) (hS : va_S (inW layM B) s.heap H locs) (ls : Array Slot) (hl : lv_has ls 2 []) : WM p l e 1 s m args below meth c H locs G layM B (some (.int r)) σr (F0 m 31 ls [.int s0]) := by
  unfold b_X8_isLive_31 at hf
  have hx := X.1.1
  have hb := X.1.2.1
  obtain ⟨q304, hf⟩ := chk hf
  obtain ⟨rfl, rfl⟩ := rt2 hf
  exact g_zret X hH hS (Decidable.not_not.mp q304) dX8_isLive_31
def b_X8_isLive_30 (σ : Sto) : Option (Int32 × Sto) :=
  b_X8_isLive_31 (0 : Int32) σ
set_option maxHeartbeats 4000000 in
set_option maxRecDepth 100000 in
theorem w_X8_isLive_30 {p : Program} {l : Launch} {e : Env} {s : State} {m : MethodId} {args : Array Value} {below : List Frame} {meth : Method} {c : Code} {G : Gd} {B : Nat} (X : Cm p s m args meth c cX8_isLive 2 RX8 G (some .boolean)) {r : Int32} {σr : Sto} (σ : Sto) (hf : b_X8_isLive_30 σ = some (r, σr)) (H : Heap) (locs : List Loc) (hH : HX G layM B σ H) (hS : va_S (inW layM B) s.heap H locs) (ls : Array Slot) (hl : lv_has ls 2 []) : WM p l e 1 s m args below meth c H locs G layM B (some (.int r)) σr (F0 m 30 ls []) := by
  unfold b_X8_isLive_30 at hf
  have hx := X.1.1
  have hb := X.1.2.1
  refine lv_iconst (v := 0) hx hb dX8_isLive_30 (by decide) ?_
  exact w_X8_isLive_31 X (0 : Int32) σ hf _ _ hH hS _ (lv_sub hl [] rfl)
def f_X8_isLive (x1 : Int32) (σ : Sto) : Option (Int32 × Sto) :=
  bd2 (f_X8_in x1 (0 : Int32) (29 : Int32) σ) fun r102 σ101 => if r102 = 0 then (b_X8_isLive_30 σ101) else (if (((σ101.2 6 10) >>> (x1.toInt64 &&& 63)) &&& (1 : Int64)) = (1 : Int64) then (b_X8_isLive_31 (1 : Int32) σ101) else (b_X8_isLive_30 σ101))
set_option maxHeartbeats 4000000 in
set_option maxRecDepth 100000 in
theorem w_X8_isLive {p : Program} {l : Launch} {e : Env} {s : State} {m : MethodId} {args : Array Value} {below : List Frame} {meth : Method} {c : Code} {G : Gd} {B : Nat} (X : Cm p s m args meth c cX8_isLive 2 RX8 G (some .boolean)) {r : Int32} {σr : Sto} (x1 : Int32) (σ : Sto) (hf : f_X8_isLive x1 σ = some (r, σr)) (H : Heap) (locs : List Loc) (hH : HX G layM B σ H) (hS : va_S (inW layM B) s.heap H locs) (ls : Array Slot) (hl : lv_has ls 2 [(0, .ref (B + 0)), (1, .int x1)]) : WM p l e 1 s m args below meth c H locs G layM B (some (.int r)) σr (F0 m 0 ls []) := by
  unfold f_X8_isLive at hf
  have hx := X.1.1
  have hb := X.1.2.1
  refine lv_iload_n hx hb dX8_isLive_0 rfl (lv_at hl 1 rfl) ?_
  refine lv_iconst (v := 0) hx hb dX8_isLive_1 (by decide) ?_
  refine lv_bipush (v := 29) hx hb dX8_isLive_2 (by decide) ?_
  obtain ⟨r102, σ101, eσ101, hf⟩ := bnd2 hf
  refine g_cSi (As := [.int x1, .int (0 : Int32), .int (29 : Int32)]) X.1 hH hS (c_X8_in l G B x1 (0 : Int32) (29 : Int32) σ σ101 r102 eσ101) kw_RX8_68 (by decide) rfl hl (Nat.le_of_ble_eq_true rfl) rfl dX8_isLive_4 (fun H locs hH hS => ?_)
  refine lv_if_eq (tgt := 30) hx hb dX8_isLive_7 (by decide) (fun q103 => ?_) (fun q103 => ?_)
  · replace hf := brT hf q103
    exact w_X8_isLive_30 X σ101 hf _ _ hH hS _ (lv_sub hl [] rfl)
  · replace hf := brF hf q103
    refine lv_aload_n hx hb dX8_isLive_10 rfl (lv_at hl 0 rfl) ?_
    refine g_get (v := .ref (B + 6)) kX8 (by decide) fl_RX8_25 X.1 hH km_0 rfl dX8_isLive_11 ?_
    refine lv_bipush (v := 10) hx hb dX8_isLive_14 (by decide) ?_
    refine g_lald (j := 10) X.1 hH km_6 (by decide) rfl dX8_isLive_16 ?_
    refine lv_iload_n hx hb dX8_isLive_17 rfl (lv_at hl 1 rfl) ?_
    refine lv_lshr hx hb dX8_isLive_18 rfl ?_
    refine lv_lconst (v := 1) hx hb dX8_isLive_19 (by decide) ?_
    refine lv_land hx hb dX8_isLive_20 ?_
    refine lv_lconst (v := 1) hx hb dX8_isLive_21 (by decide) ?_
    refine g_lne (tgt := 30) X.1 dX8_isLive_22 dX8_isLive_23 (by decide) (fun q305 => ?_) (fun q305 => ?_)
    · replace hf := brF hf q305
      exact w_X8_isLive_30 X σ101 hf _ _ hH hS _ (lv_sub hl [] rfl)
    · replace hf := brT hf q305
      refine lv_iconst (v := 1) hx hb dX8_isLive_26 (by decide) ?_
      refine lv_goto (tgt := 31) hx hb dX8_isLive_27 (by decide) ?_
      exact w_X8_isLive_31 X (1 : Int32) σ101 hf _ _ hH hS _ (lv_sub hl [] rfl)
theorem c_X8_isLive (l : Launch) (G : Gd) (B : Nat) (x1 : Int32) (σ σr : Sto) (r : Int32) (hf : f_X8_isLive x1 σ = some (r, σr)) : Ct l G layM B yX8_isLive cX8_isLive 2 (some .boolean) 1 [.ref (B + 0), .int x1] (some (.int r)) σ σr :=
  Ct.ofW (by decide) (Nat.le_of_ble_eq_true rfl) (fun _ _ _ _ _ _ _ X hH hS ls hl => w_X8_isLive X x1 σ hf _ _ hH hS ls (show lv_has ls 2 [(0, .ref (B + 0)), (1, .int x1)] from hl))
-- SlackProofsModel.has(II)Z  (D 0)
def b_X8_has_14 (s0 : Int32) (σ : Sto) : Option (Int32 × Sto) :=
  if ¬ (s0 = 0 ∨ s0 = 1) then none else some (s0, σ)
set_option maxHeartbeats 4000000 in
set_option maxRecDepth 100000 in
theorem w_X8_has_14 {p : Program} {l : Launch} {e : Env} {s : State} {m : MethodId} {args : Array Value} {below : List Frame} {meth : Method} {c : Code} {G : Gd} {B : Nat} (X : Cm p s m args meth c cX8_has 2 RX8 G (some .boolean)) {r : Int32} {σr : Sto} (s0 : Int32) (σ : Sto) (hf : b_X8_has_14 s0 σ = some (r, σr)) (H : Heap) (locs : List Loc) (hH : HX G layM B σ H) (hS : va_S (inW layM B) s.heap H locs) (ls : Array Slot) (hl : lv_has ls 2 []) : WM p l e 0 s m args below meth c H locs G layM B (some (.int r)) σr (F0 m 14 ls [.int s0]) := by
  unfold b_X8_has_14 at hf
  have hx := X.1.1
  have hb := X.1.2.1
  obtain ⟨q202, hf⟩ := chk hf
  obtain ⟨rfl, rfl⟩ := rt2 hf
  exact g_zret X hH hS (Decidable.not_not.mp q202) dX8_has_14
def f_X8_has (x0 : Int32) (x1 : Int32) (σ : Sto) : Option (Int32 × Sto) :=
  if ((x0 >>> (x1 &&& 31)) &&& (1 : Int32)) = (1 : Int32) then (b_X8_has_14 (1 : Int32) σ) else (b_X8_has_14 (0 : Int32) σ)
set_option maxHeartbeats 4000000 in
set_option maxRecDepth 100000 in
theorem w_X8_has {p : Program} {l : Launch} {e : Env} {s : State} {m : MethodId} {args : Array Value} {below : List Frame} {meth : Method} {c : Code} {G : Gd} {B : Nat} (X : Cm p s m args meth c cX8_has 2 RX8 G (some .boolean)) {r : Int32} {σr : Sto} (x0 : Int32) (x1 : Int32) (σ : Sto) (hf : f_X8_has x0 x1 σ = some (r, σr)) (H : Heap) (locs : List Loc) (hH : HX G layM B σ H) (hS : va_S (inW layM B) s.heap H locs) (ls : Array Slot) (hl : lv_has ls 2 [(0, .int x0), (1, .int x1)]) : WM p l e 0 s m args below meth c H locs G layM B (some (.int r)) σr (F0 m 0 ls []) := by
  unfold f_X8_has at hf
  have hx := X.1.1
  have hb := X.1.2.1
  refine lv_iload_n hx hb dX8_has_0 rfl (lv_at hl 0 rfl) ?_
  refine lv_iload_n hx hb dX8_has_1 rfl (lv_at hl 1 rfl) ?_
  refine lv_ishr hx hb dX8_has_2 ?_
  refine lv_iconst (v := 1) hx hb dX8_has_3 (by decide) ?_
  refine lv_iand hx hb dX8_has_4 ?_
  refine lv_iconst (v := 1) hx hb dX8_has_5 (by decide) ?_
  refine lv_icmp_ne (tgt := 13) hx hb dX8_has_6 (by decide) (fun q101 => ?_) (fun q101 => ?_)
  · replace hf := brF hf q101
    refine lv_iconst (v := 0) hx hb dX8_has_13 (by decide) ?_
    exact w_X8_has_14 X (0 : Int32) σ hf _ _ hH hS _ (lv_sub hl [] rfl)
  · replace hf := brT hf q101
    refine lv_iconst (v := 1) hx hb dX8_has_9 (by decide) ?_
    refine lv_goto (tgt := 14) hx hb dX8_has_10 (by decide) ?_
    exact w_X8_has_14 X (1 : Int32) σ hf _ _ hH hS _ (lv_sub hl [] rfl)
theorem c_X8_has (l : Launch) (G : Gd) (B : Nat) (x0 : Int32) (x1 : Int32) (σ σr : Sto) (r : Int32) (hf : f_X8_has x0 x1 σ = some (r, σr)) : Ct l G layM B yX8_has cX8_has 2 (some .boolean) 0 [.int x0, .int x1] (some (.int r)) σ σr :=
  Ct.ofW (by decide) (Nat.le_of_ble_eq_true rfl) (fun _ _ _ _ _ _ _ X hH hS ls hl => w_X8_has X x0 x1 σ hf _ _ hH hS ls (show lv_has ls 2 [(0, .int x0), (1, .int x1)] from hl))
-- SlackProofsModel.size(J)J  (D 0)
def b_X8_size_12 (s0 : Int64) (σ : Sto) : Option (Int64 × Sto) :=
  some (s0, σ)
set_option maxHeartbeats 4000000 in
set_option maxRecDepth 100000 in
theorem w_X8_size_12 {p : Program} {l : Launch} {e : Env} {s : State} {m : MethodId} {args : Array Value} {below : List Frame} {meth : Method} {c : Code} {G : Gd} {B : Nat} (X : Cm p s m args meth c cX8_size 2 RX8 G (some .long)) {r : Int64} {σr : Sto} (s0 : Int64) (σ : Sto) (hf : b_X8_size_12 s0 σ = some (r, σr)) (H : Heap) (locs : List Loc) (hH : HX G layM B σ H) (hS : va_S (inW layM B) s.heap H locs) (ls : Array Slot) (hl : lv_has ls 2 []) : WM p l e 0 s m args below meth c H locs G layM B (some (.long r)) σr (F0 m 12 ls [.long s0]) := by
  unfold b_X8_size_12 at hf
  have hx := X.1.1
  have hb := X.1.2.1
  obtain ⟨rfl, rfl⟩ := rt2 hf
  exact g_lret X hH hS dX8_size_12
def f_X8_size (x0 : Int64) (σ : Sto) : Option (Int64 × Sto) :=
  if (0 : Int64) ≤ x0 then (b_X8_size_12 x0 σ) else (b_X8_size_12 (-x0) σ)
set_option maxHeartbeats 4000000 in
set_option maxRecDepth 100000 in
theorem w_X8_size {p : Program} {l : Launch} {e : Env} {s : State} {m : MethodId} {args : Array Value} {below : List Frame} {meth : Method} {c : Code} {G : Gd} {B : Nat} (X : Cm p s m args meth c cX8_size 2 RX8 G (some .long)) {r : Int64} {σr : Sto} (x0 : Int64) (σ : Sto) (hf : f_X8_size x0 σ = some (r, σr)) (H : Heap) (locs : List Loc) (hH : HX G layM B σ H) (hS : va_S (inW layM B) s.heap H locs) (ls : Array Slot) (hl : lv_has ls 2 [(0, .long x0)]) : WM p l e 0 s m args below meth c H locs G layM B (some (.long r)) σr (F0 m 0 ls []) := by
  unfold f_X8_size at hf
  have hx := X.1.1
  have hb := X.1.2.1
  refine lv_lload_n hx hb dX8_size_0 rfl (lv_at hl 0 rfl) ?_
  refine lv_lconst (v := 0) hx hb dX8_size_1 (by decide) ?_
  refine g_lge (tgt := 11) X.1 dX8_size_2 dX8_size_3 (by decide) (fun q101 => ?_) (fun q101 => ?_)
  · replace hf := brT hf q101
    refine lv_lload_n hx hb dX8_size_11 rfl (lv_at hl 0 rfl) ?_
    exact w_X8_size_12 X x0 σ hf _ _ hH hS _ (lv_sub hl [] rfl)
  · replace hf := brF hf q101
    refine lv_lload_n hx hb dX8_size_6 rfl (lv_at hl 0 rfl) ?_
    refine lv_lneg hx hb dX8_size_7 ?_
    refine lv_goto (tgt := 12) hx hb dX8_size_8 (by decide) ?_
    exact w_X8_size_12 X (-x0) σ hf _ _ hH hS _ (lv_sub hl [] rfl)
theorem c_X8_size (l : Launch) (G : Gd) (B : Nat) (x0 : Int64) (σ σr : Sto) (r : Int64) (hf : f_X8_size x0 σ = some (r, σr)) : Ct l G layM B yX8_size cX8_size 2 (some .long) 0 [.long x0] (some (.long r)) σ σr :=
  Ct.ofW (by decide) (Nat.le_of_ble_eq_true rfl) (fun _ _ _ _ _ _ _ X hH hS ls hl => w_X8_size X x0 σ hf _ _ hH hS ls (show lv_has ls 2 [(0, .long x0)] from hl))
