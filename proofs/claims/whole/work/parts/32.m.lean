-- SlackProofsModel.isPart(III)Z  (D 0)
def b_X8_isPart_35 (s0 : Int32) (σ : Sto) : Option (Int32 × Sto) :=
  if ¬ (s0 = 0 ∨ s0 = 1) then none else some (s0, σ)
set_option maxHeartbeats 4000000 in
set_option maxRecDepth 100000 in
theorem w_X8_isPart_35 {p : Program} {l : Launch} {e : Env} {s : State} {m : MethodId} {args : Array Value} {below : List Frame} {meth : Method} {c : Code} {G : Gd} {B : Nat} (X : Cm p s m args meth c cX8_isPart 4 RX8 G (some .boolean)) {r : Int32} {σr : Sto} (s0 : Int32) (σ : Sto) (hf : b_X8_isPart_35 s0 σ = some (r, σr)) (H : Heap) (locs : List Loc) (hH : HX G layM B σ H) (hS : va_S (inW layM B) s.heap H locs) (ls : Array Slot) (hl : lv_has ls 4 []) : WM p l e 0 s m args below meth c H locs G layM B (some (.int r)) σr (F0 m 35 ls [.int s0]) := by
  unfold b_X8_isPart_35 at hf
  have hx := X.1.1
  have hb := X.1.2.1
  obtain ⟨q302, hf⟩ := chk hf
  obtain ⟨rfl, rfl⟩ := rt2 hf
  exact g_zret X hH hS (Decidable.not_not.mp q302) dX8_isPart_35
def b_X8_isPart_34 (σ : Sto) : Option (Int32 × Sto) :=
  b_X8_isPart_35 (0 : Int32) σ
set_option maxHeartbeats 4000000 in
set_option maxRecDepth 100000 in
theorem w_X8_isPart_34 {p : Program} {l : Launch} {e : Env} {s : State} {m : MethodId} {args : Array Value} {below : List Frame} {meth : Method} {c : Code} {G : Gd} {B : Nat} (X : Cm p s m args meth c cX8_isPart 4 RX8 G (some .boolean)) {r : Int32} {σr : Sto} (σ : Sto) (hf : b_X8_isPart_34 σ = some (r, σr)) (H : Heap) (locs : List Loc) (hH : HX G layM B σ H) (hS : va_S (inW layM B) s.heap H locs) (ls : Array Slot) (hl : lv_has ls 4 []) : WM p l e 0 s m args below meth c H locs G layM B (some (.int r)) σr (F0 m 34 ls []) := by
  unfold b_X8_isPart_34 at hf
  have hx := X.1.1
  have hb := X.1.2.1
  refine lv_iconst (v := 0) hx hb dX8_isPart_34 (by decide) ?_
  exact w_X8_isPart_35 X (0 : Int32) σ hf _ _ hH hS _ (lv_sub hl [] rfl)
def f_X8_isPart (x1 : Int32) (x2 : Int32) (x3 : Int32) (σ : Sto) : Option (Int32 × Sto) :=
  if x2 < 0 then (b_X8_isPart_34 σ) else (if x3 < 0 then (b_X8_isPart_34 σ) else (if (x1 < 0 ∨ 8 ≤ x1.toNatClampNeg) then none else if (σ.1 2 x1.toNatClampNeg) < x2 then (b_X8_isPart_34 σ) else (if (x1 < 0 ∨ 8 ≤ x1.toNatClampNeg) then none else if ((σ.1 2 x1.toNatClampNeg) - x2) < x3 then (b_X8_isPart_34 σ) else (b_X8_isPart_35 (1 : Int32) σ))))
set_option maxHeartbeats 4000000 in
set_option maxRecDepth 100000 in
theorem w_X8_isPart {p : Program} {l : Launch} {e : Env} {s : State} {m : MethodId} {args : Array Value} {below : List Frame} {meth : Method} {c : Code} {G : Gd} {B : Nat} (X : Cm p s m args meth c cX8_isPart 4 RX8 G (some .boolean)) {r : Int32} {σr : Sto} (x1 : Int32) (x2 : Int32) (x3 : Int32) (σ : Sto) (hf : f_X8_isPart x1 x2 x3 σ = some (r, σr)) (H : Heap) (locs : List Loc) (hH : HX G layM B σ H) (hS : va_S (inW layM B) s.heap H locs) (ls : Array Slot) (hl : lv_has ls 4 [(0, .ref (B + 0)), (1, .int x1), (2, .int x2), (3, .int x3)]) : WM p l e 0 s m args below meth c H locs G layM B (some (.int r)) σr (F0 m 0 ls []) := by
  unfold f_X8_isPart at hf
  have hx := X.1.1
  have hb := X.1.2.1
  refine lv_iload_n hx hb dX8_isPart_0 rfl (lv_at hl 2 rfl) ?_
  refine lv_if_lt (tgt := 34) hx hb dX8_isPart_1 (by decide) (fun q101 => ?_) (fun q101 => ?_)
  · replace hf := brT hf q101
    exact w_X8_isPart_34 X σ hf _ _ hH hS _ (lv_sub hl [] rfl)
  · replace hf := brF hf q101
    refine lv_iload_n hx hb dX8_isPart_4 rfl (lv_at hl 3 rfl) ?_
    refine lv_if_lt (tgt := 34) hx hb dX8_isPart_5 (by decide) (fun q303 => ?_) (fun q303 => ?_)
    · replace hf := brT hf q303
      exact w_X8_isPart_34 X σ hf _ _ hH hS _ (lv_sub hl [] rfl)
    · replace hf := brF hf q303
      refine lv_iload_n hx hb dX8_isPart_8 rfl (lv_at hl 2 rfl) ?_
      refine lv_aload_n hx hb dX8_isPart_9 rfl (lv_at hl 0 rfl) ?_
      refine g_get (v := .ref (B + 2)) kX8 (by decide) fl_RX8_13 X.1 hH km_0 rfl dX8_isPart_10 ?_
      refine lv_iload_n hx hb dX8_isPart_13 rfl (lv_at hl 1 rfl) ?_
      obtain ⟨q304, hf⟩ := chk hf
      refine g_iald (j := x1.toNatClampNeg) X.1 hH km_2 q304 rfl dX8_isPart_14 ?_
      refine lv_icmp_gt (tgt := 34) hx hb dX8_isPart_15 (by decide) (fun q305 => ?_) (fun q305 => ?_)
      · replace hf := brT hf q305
        exact w_X8_isPart_34 X σ hf _ _ hH hS _ (lv_sub hl [] rfl)
      · replace hf := brF hf q305
        refine lv_iload_n hx hb dX8_isPart_18 rfl (lv_at hl 3 rfl) ?_
        refine lv_aload_n hx hb dX8_isPart_19 rfl (lv_at hl 0 rfl) ?_
        refine g_get (v := .ref (B + 2)) kX8 (by decide) fl_RX8_13 X.1 hH km_0 rfl dX8_isPart_20 ?_
        refine lv_iload_n hx hb dX8_isPart_23 rfl (lv_at hl 1 rfl) ?_
        obtain ⟨q306, hf⟩ := chk hf
        refine g_iald (j := x1.toNatClampNeg) X.1 hH km_2 q306 rfl dX8_isPart_24 ?_
        refine lv_iload_n hx hb dX8_isPart_25 rfl (lv_at hl 2 rfl) ?_
        refine lv_isub hx hb dX8_isPart_26 ?_
        refine lv_icmp_gt (tgt := 34) hx hb dX8_isPart_27 (by decide) (fun q307 => ?_) (fun q307 => ?_)
        · replace hf := brT hf q307
          exact w_X8_isPart_34 X σ hf _ _ hH hS _ (lv_sub hl [] rfl)
        · replace hf := brF hf q307
          refine lv_iconst (v := 1) hx hb dX8_isPart_30 (by decide) ?_
          refine lv_goto (tgt := 35) hx hb dX8_isPart_31 (by decide) ?_
          exact w_X8_isPart_35 X (1 : Int32) σ hf _ _ hH hS _ (lv_sub hl [] rfl)
theorem c_X8_isPart (l : Launch) (G : Gd) (B : Nat) (x1 : Int32) (x2 : Int32) (x3 : Int32) (σ σr : Sto) (r : Int32) (hf : f_X8_isPart x1 x2 x3 σ = some (r, σr)) : Ct l G layM B yX8_isPart cX8_isPart 4 (some .boolean) 0 [.ref (B + 0), .int x1, .int x2, .int x3] (some (.int r)) σ σr :=
  Ct.ofW (by decide) (Nat.le_of_ble_eq_true rfl) (fun _ _ _ _ _ _ _ X hH hS ls hl => w_X8_isPart X x1 x2 x3 σ hf _ _ hH hS ls (show lv_has ls 4 [(0, .ref (B + 0)), (1, .int x1), (2, .int x2), (3, .int x3)] from hl))
-- SlackProofsModel.copy(IIIII)I  (D 2)
def b_X8_copy_14 (σ : Sto) : Option (Int32 × Sto) :=
  some ((-1000001 : Int32), σ)
set_option maxHeartbeats 4000000 in
set_option maxRecDepth 100000 in
theorem w_X8_copy_14 {p : Program} {l : Launch} {e : Env} {s : State} {m : MethodId} {args : Array Value} {below : List Frame} {meth : Method} {c : Code} {G : Gd} {B : Nat} (X : Cm p s m args meth c cX8_copy 7 RX8 G (some .int)) {r : Int32} {σr : Sto} (σ : Sto) (hf : b_X8_copy_14 σ = some (r, σr)) (H : Heap) (locs : List Loc) (hH : HX G layM B σ H) (hS : va_S (inW layM B) s.heap H locs) (ls : Array Slot) (hl : lv_has ls 7 []) : WM p l e 2 s m args below meth c H locs G layM B (some (.int r)) σr (F0 m 14 ls []) := by
  unfold b_X8_copy_14 at hf
  have hx := X.1.1
  have hb := X.1.2.1
  refine lv_ldc (v := -1000001) hx hb X.1.2.2.2.1 (X.1.2.2.2.2.1 _ kc_RX8_76) dX8_copy_14 ?_
  obtain ⟨rfl, rfl⟩ := rt2 hf
  exact g_iret X hH hS dX8_copy_16
def b_X8_copy_33 (σ : Sto) : Option (Int32 × Sto) :=
  bd2 (f_X8_found (1 : Int32) σ) fun r311 σ310 => some (r311, σ310)
set_option maxHeartbeats 4000000 in
set_option maxRecDepth 100000 in
theorem w_X8_copy_33 {p : Program} {l : Launch} {e : Env} {s : State} {m : MethodId} {args : Array Value} {below : List Frame} {meth : Method} {c : Code} {G : Gd} {B : Nat} (X : Cm p s m args meth c cX8_copy 7 RX8 G (some .int)) {r : Int32} {σr : Sto} (σ : Sto) (hf : b_X8_copy_33 σ = some (r, σr)) (H : Heap) (locs : List Loc) (hH : HX G layM B σ H) (hS : va_S (inW layM B) s.heap H locs) (ls : Array Slot) (hl : lv_has ls 7 [(0, .ref (B + 0))]) : WM p l e 2 s m args below meth c H locs G layM B (some (.int r)) σr (F0 m 33 ls []) := by
  unfold b_X8_copy_33 at hf
  have hx := X.1.1
  have hb := X.1.2.1
  refine lv_aload_n hx hb dX8_copy_33 rfl (lv_at hl 0 rfl) ?_
  refine lv_iconst (v := 1) hx hb dX8_copy_34 (by decide) ?_
  obtain ⟨r311, σ310, eσ310, hf⟩ := bnd2 hf
  refine g_cVi (As := [.int (1 : Int32)]) X.1 hH hS (c_X8_found l G B (1 : Int32) σ σ310 r311 eσ310) kw_RX8_77 kX8 km_0 (by decide) rfl hl (Nat.le_of_ble_eq_true rfl) rfl dX8_copy_35 (fun H locs hH hS => ?_)
  obtain ⟨rfl, rfl⟩ := rt2 hf
  exact g_iret X hH hS dX8_copy_38
def b_X8_copy_83 (σ : Sto) : Option (Int32 × Sto) :=
  bd2 (f_X8_found (2 : Int32) σ) fun r422 σ421 => some (r422, σ421)
set_option maxHeartbeats 4000000 in
set_option maxRecDepth 100000 in
theorem w_X8_copy_83 {p : Program} {l : Launch} {e : Env} {s : State} {m : MethodId} {args : Array Value} {below : List Frame} {meth : Method} {c : Code} {G : Gd} {B : Nat} (X : Cm p s m args meth c cX8_copy 7 RX8 G (some .int)) {r : Int32} {σr : Sto} (σ : Sto) (hf : b_X8_copy_83 σ = some (r, σr)) (H : Heap) (locs : List Loc) (hH : HX G layM B σ H) (hS : va_S (inW layM B) s.heap H locs) (ls : Array Slot) (hl : lv_has ls 7 [(0, .ref (B + 0))]) : WM p l e 2 s m args below meth c H locs G layM B (some (.int r)) σr (F0 m 83 ls []) := by
  unfold b_X8_copy_83 at hf
  have hx := X.1.1
  have hb := X.1.2.1
  refine lv_aload_n hx hb dX8_copy_83 rfl (lv_at hl 0 rfl) ?_
  refine lv_iconst (v := 2) hx hb dX8_copy_84 (by decide) ?_
  obtain ⟨r422, σ421, eσ421, hf⟩ := bnd2 hf
  refine g_cVi (As := [.int (2 : Int32)]) X.1 hH hS (c_X8_found l G B (2 : Int32) σ σ421 r422 eσ421) kw_RX8_77 kX8 km_0 (by decide) rfl hl (Nat.le_of_ble_eq_true rfl) rfl dX8_copy_85 (fun H locs hH hS => ?_)
  obtain ⟨rfl, rfl⟩ := rt2 hf
  exact g_iret X hH hS dX8_copy_88
def b_X8_copy_129 (c129 : Int32 → Int32 → Int32 → Int32 → Sto → Option (Int32 × Sto)) (v3 : Int32) (v4 : Int32) (v5 : Int32) (v6 : Int32) (σ : Sto) : Option (Int32 × Sto) :=
  if v5 ≤ v6 then (bd2 (f_X8_well v5 σ) fun r629 σ628 => some (r629, σ628)) else (if (v6 < 0 ∨ 40 ≤ v6.toNatClampNeg) then none else if (((((40 : Int32) * v3) + v4) + v6) < 0 ∨ 320 ≤ ((((40 : Int32) * v3) + v4) + v6).toNatClampNeg) then none else nmS (pI σ 3 ((((40 : Int32) * v3) + v4) + v6).toNatClampNeg (σ.1 4 v6.toNatClampNeg)) fun σ632 => c129 v3 v4 v5 (v6 + (1 : Int32)) σ632)
set_option maxHeartbeats 4000000 in
set_option maxRecDepth 100000 in
theorem w_X8_copy_129 {p : Program} {l : Launch} {e : Env} {s : State} {m : MethodId} {args : Array Value} {below : List Frame} {meth : Method} {c : Code} {G : Gd} {B : Nat} (X : Cm p s m args meth c cX8_copy 7 RX8 G (some .int)) (c129 : Int32 → Int32 → Int32 → Int32 → Sto → Option (Int32 × Sto)) {r : Int32} {σr : Sto} (ih129 : ∀ (v3 : Int32) (v4 : Int32) (v5 : Int32) (v6 : Int32) (σ : Sto) (H : Heap) (locs : List Loc) (ls : Array Slot), c129 v3 v4 v5 v6 σ = some (r, σr) → HX G layM B σ H → va_S (inW layM B) s.heap H locs → lv_has ls 7 [(0, .ref (B + 0)), (3, .int v3), (4, .int v4), (5, .int v5), (6, .int v6)] → WM p l e 2 s m args below meth c H locs G layM B (some (.int r)) σr (F0 m 129 ls [])) (v3 : Int32) (v4 : Int32) (v5 : Int32) (v6 : Int32) (σ : Sto) (hf : b_X8_copy_129 c129 v3 v4 v5 v6 σ = some (r, σr)) (H : Heap) (locs : List Loc) (hH : HX G layM B σ H) (hS : va_S (inW layM B) s.heap H locs) (ls : Array Slot) (hl : lv_has ls 7 [(0, .ref (B + 0)), (3, .int v3), (4, .int v4), (5, .int v5), (6, .int v6)]) : WM p l e 2 s m args below meth c H locs G layM B (some (.int r)) σr (F0 m 129 ls []) := by
  unfold b_X8_copy_129 at hf
  have hx := X.1.1
  have hb := X.1.2.1
  refine lv_iload hx hb dX8_copy_129 (lv_at hl 4 rfl) ?_
  refine lv_iload hx hb dX8_copy_131 (lv_at hl 3 rfl) ?_
  refine lv_icmp_ge (tgt := 164) hx hb dX8_copy_133 (by decide) (fun q627 => ?_) (fun q627 => ?_)
  · replace hf := brT hf q627
    refine lv_aload_n hx hb dX8_copy_164 rfl (lv_at hl 0 rfl) ?_
    refine lv_iload hx hb dX8_copy_165 (lv_at hl 3 rfl) ?_
    obtain ⟨r629, σ628, eσ628, hf⟩ := bnd2 hf
    refine g_cVi (As := [.int v5]) X.1 hH hS (c_X8_well l G B v5 σ σ628 r629 eσ628) kw_RX8_81 kX8 km_0 (by decide) rfl hl (Nat.le_of_ble_eq_true rfl) rfl dX8_copy_167 (fun H locs hH hS => ?_)
    obtain ⟨rfl, rfl⟩ := rt2 hf
    exact g_iret X hH hS dX8_copy_170
  · replace hf := brF hf q627
    refine lv_aload_n hx hb dX8_copy_136 rfl (lv_at hl 0 rfl) ?_
    refine g_get (v := .ref (B + 3)) kX8 (by decide) fl_RX8_16 X.1 hH km_0 rfl dX8_copy_137 ?_
    refine lv_bipush (v := 40) hx hb dX8_copy_140 (by decide) ?_
    refine lv_iload_n hx hb dX8_copy_142 rfl (lv_at hl 1 rfl) ?_
    refine lv_imul hx hb dX8_copy_143 ?_
    refine lv_iload hx hb dX8_copy_144 (lv_at hl 2 rfl) ?_
    refine lv_iadd hx hb dX8_copy_146 ?_
    refine lv_iload hx hb dX8_copy_147 (lv_at hl 4 rfl) ?_
    refine lv_iadd hx hb dX8_copy_149 ?_
    refine lv_aload_n hx hb dX8_copy_150 rfl (lv_at hl 0 rfl) ?_
    refine g_get (v := .ref (B + 4)) kX8 (by decide) fl_RX8_19 X.1 hH km_0 rfl dX8_copy_151 ?_
    refine lv_iload hx hb dX8_copy_154 (lv_at hl 4 rfl) ?_
    obtain ⟨q630, hf⟩ := chk hf
    refine g_iald (j := v6.toNatClampNeg) X.1 hH km_4 q630 rfl dX8_copy_156 ?_
    obtain ⟨q631, hf⟩ := chk hf
    refine g_iast (j := ((((40 : Int32) * v3) + v4) + v6).toNatClampNeg) X.1 hH hS km_3 q631 rfl dX8_copy_157 (fun H locs hH hS => ?_)
    obtain ⟨σ632, eσ632, hH⟩ := nmX hH
    replace hf := nmU hf eσ632
    refine lv_iinc (v := (v6 + (1 : Int32))) (lv' := [(6, .int (v6 + (1 : Int32))), (0, .ref (B + 0)), (3, .int v3), (4, .int v4), (5, .int v5)]) hx hb dX8_copy_158 hl (k := 4) rfl rfl (by decide) rfl (fun ls hl => ?_)
    refine lv_goto (tgt := 129) hx hb dX8_copy_161 (by decide) ?_
    exact ih129 v3 v4 v5 (v6 + (1 : Int32)) σ632 _ _ _ hf hH hS (lv_sub hl [1, 2, 3, 4, 0] rfl)
def l_X8_copy_129 : Nat → Int32 → Int32 → Int32 → Int32 → Sto → Option (Int32 × Sto)
  | 0, _, _, _, _, _ => none
  | n + 1, v3, v4, v5, v6, σ => b_X8_copy_129 (l_X8_copy_129 n) v3 v4 v5 v6 σ
set_option maxHeartbeats 4000000 in
set_option maxRecDepth 100000 in
theorem wl_X8_copy_129 {p : Program} {l : Launch} {e : Env} {s : State} {m : MethodId} {args : Array Value} {below : List Frame} {meth : Method} {c : Code} {G : Gd} {B : Nat} (X : Cm p s m args meth c cX8_copy 7 RX8 G (some .int)) {r : Int32} {σr : Sto} (n : Nat) : ∀ (v3 : Int32) (v4 : Int32) (v5 : Int32) (v6 : Int32) (σ : Sto) (H : Heap) (locs : List Loc) (ls : Array Slot), l_X8_copy_129 n v3 v4 v5 v6 σ = some (r, σr) → HX G layM B σ H → va_S (inW layM B) s.heap H locs → lv_has ls 7 [(0, .ref (B + 0)), (3, .int v3), (4, .int v4), (5, .int v5), (6, .int v6)] → WM p l e 2 s m args below meth c H locs G layM B (some (.int r)) σr (F0 m 129 ls []) := by
  induction n with
  | zero =>
    intro _ _ _ _ σ H locs ls hf
    cases hf
  | succ n ih =>
    intro v3 v4 v5 v6 σ H locs ls hf hH hS hl
    exact w_X8_copy_129 X (l_X8_copy_129 n) ih v3 v4 v5 v6 σ hf H locs hH hS ls hl
def b_X8_copy_92 (c92 : Int32 → Int32 → Int32 → Int32 → Int32 → Int32 → Sto → Option (Int32 × Sto)) (v1 : Int32) (v2 : Int32) (v3 : Int32) (v4 : Int32) (v5 : Int32) (v6 : Int32) (σ : Sto) : Option (Int32 × Sto) :=
  if v5 ≤ v6 then (l_X8_copy_129 400 v3 v4 v5 (0 : Int32) σ) else (if (((((40 : Int32) * v1) + v2) + v6) < 0 ∨ 320 ≤ ((((40 : Int32) * v1) + v2) + v6).toNatClampNeg) then none else if (v6 < 0 ∨ 40 ≤ v6.toNatClampNeg) then none else nmS (pI σ 4 v6.toNatClampNeg (σ.1 3 ((((40 : Int32) * v1) + v2) + v6).toNatClampNeg)) fun σ635 => c92 v1 v2 v3 v4 v5 (v6 + (1 : Int32)) σ635)
set_option maxHeartbeats 4000000 in
set_option maxRecDepth 100000 in
theorem w_X8_copy_92 {p : Program} {l : Launch} {e : Env} {s : State} {m : MethodId} {args : Array Value} {below : List Frame} {meth : Method} {c : Code} {G : Gd} {B : Nat} (X : Cm p s m args meth c cX8_copy 7 RX8 G (some .int)) (c92 : Int32 → Int32 → Int32 → Int32 → Int32 → Int32 → Sto → Option (Int32 × Sto)) {r : Int32} {σr : Sto} (ih92 : ∀ (v1 : Int32) (v2 : Int32) (v3 : Int32) (v4 : Int32) (v5 : Int32) (v6 : Int32) (σ : Sto) (H : Heap) (locs : List Loc) (ls : Array Slot), c92 v1 v2 v3 v4 v5 v6 σ = some (r, σr) → HX G layM B σ H → va_S (inW layM B) s.heap H locs → lv_has ls 7 [(0, .ref (B + 0)), (1, .int v1), (2, .int v2), (3, .int v3), (4, .int v4), (5, .int v5), (6, .int v6)] → WM p l e 2 s m args below meth c H locs G layM B (some (.int r)) σr (F0 m 92 ls [])) (v1 : Int32) (v2 : Int32) (v3 : Int32) (v4 : Int32) (v5 : Int32) (v6 : Int32) (σ : Sto) (hf : b_X8_copy_92 c92 v1 v2 v3 v4 v5 v6 σ = some (r, σr)) (H : Heap) (locs : List Loc) (hH : HX G layM B σ H) (hS : va_S (inW layM B) s.heap H locs) (ls : Array Slot) (hl : lv_has ls 7 [(0, .ref (B + 0)), (1, .int v1), (2, .int v2), (3, .int v3), (4, .int v4), (5, .int v5), (6, .int v6)]) : WM p l e 2 s m args below meth c H locs G layM B (some (.int r)) σr (F0 m 92 ls []) := by
  unfold b_X8_copy_92 at hf
  have hx := X.1.1
  have hb := X.1.2.1
  refine lv_iload hx hb dX8_copy_92 (lv_at hl 6 rfl) ?_
  refine lv_iload hx hb dX8_copy_94 (lv_at hl 5 rfl) ?_
  refine lv_icmp_ge (tgt := 126) hx hb dX8_copy_96 (by decide) (fun q526 => ?_) (fun q526 => ?_)
  · replace hf := brT hf q526
    refine lv_iconst (v := 0) hx hb dX8_copy_126 (by decide) ?_
    refine lv_istore (lv' := [(6, .int (0 : Int32)), (0, .ref (B + 0)), (1, .int v1), (2, .int v2), (3, .int v3), (4, .int v4), (5, .int v5)]) hx hb dX8_copy_127 hl (by decide) rfl (fun ls hl => ?_)
    exact wl_X8_copy_129 X 400 v3 v4 v5 (0 : Int32) σ _ _ _ hf hH hS (lv_sub hl [1, 4, 5, 6, 0] rfl)
  · replace hf := brF hf q526
    refine lv_aload_n hx hb dX8_copy_99 rfl (lv_at hl 0 rfl) ?_
    refine g_get (v := .ref (B + 4)) kX8 (by decide) fl_RX8_19 X.1 hH km_0 rfl dX8_copy_100 ?_
    refine lv_iload hx hb dX8_copy_103 (lv_at hl 6 rfl) ?_
    refine lv_aload_n hx hb dX8_copy_105 rfl (lv_at hl 0 rfl) ?_
    refine g_get (v := .ref (B + 3)) kX8 (by decide) fl_RX8_16 X.1 hH km_0 rfl dX8_copy_106 ?_
    refine lv_bipush (v := 40) hx hb dX8_copy_109 (by decide) ?_
    refine lv_iload_n hx hb dX8_copy_111 rfl (lv_at hl 1 rfl) ?_
    refine lv_imul hx hb dX8_copy_112 ?_
    refine lv_iload_n hx hb dX8_copy_113 rfl (lv_at hl 2 rfl) ?_
    refine lv_iadd hx hb dX8_copy_114 ?_
    refine lv_iload hx hb dX8_copy_115 (lv_at hl 6 rfl) ?_
    refine lv_iadd hx hb dX8_copy_117 ?_
    obtain ⟨q633, hf⟩ := chk hf
    refine g_iald (j := ((((40 : Int32) * v1) + v2) + v6).toNatClampNeg) X.1 hH km_3 q633 rfl dX8_copy_118 ?_
    obtain ⟨q634, hf⟩ := chk hf
    refine g_iast (j := v6.toNatClampNeg) X.1 hH hS km_4 q634 rfl dX8_copy_119 (fun H locs hH hS => ?_)
    obtain ⟨σ635, eσ635, hH⟩ := nmX hH
    replace hf := nmU hf eσ635
    refine lv_iinc (v := (v6 + (1 : Int32))) (lv' := [(6, .int (v6 + (1 : Int32))), (0, .ref (B + 0)), (1, .int v1), (2, .int v2), (3, .int v3), (4, .int v4), (5, .int v5)]) hx hb dX8_copy_120 hl (k := 6) rfl rfl (by decide) rfl (fun ls hl => ?_)
    refine lv_goto (tgt := 92) hx hb dX8_copy_123 (by decide) ?_
    exact ih92 v1 v2 v3 v4 v5 (v6 + (1 : Int32)) σ635 _ _ _ hf hH hS (lv_sub hl [1, 2, 3, 4, 5, 6, 0] rfl)
def l_X8_copy_92 : Nat → Int32 → Int32 → Int32 → Int32 → Int32 → Int32 → Sto → Option (Int32 × Sto)
  | 0, _, _, _, _, _, _, _ => none
  | n + 1, v1, v2, v3, v4, v5, v6, σ => b_X8_copy_92 (l_X8_copy_92 n) v1 v2 v3 v4 v5 v6 σ
set_option maxHeartbeats 4000000 in
set_option maxRecDepth 100000 in
theorem wl_X8_copy_92 {p : Program} {l : Launch} {e : Env} {s : State} {m : MethodId} {args : Array Value} {below : List Frame} {meth : Method} {c : Code} {G : Gd} {B : Nat} (X : Cm p s m args meth c cX8_copy 7 RX8 G (some .int)) {r : Int32} {σr : Sto} (n : Nat) : ∀ (v1 : Int32) (v2 : Int32) (v3 : Int32) (v4 : Int32) (v5 : Int32) (v6 : Int32) (σ : Sto) (H : Heap) (locs : List Loc) (ls : Array Slot), l_X8_copy_92 n v1 v2 v3 v4 v5 v6 σ = some (r, σr) → HX G layM B σ H → va_S (inW layM B) s.heap H locs → lv_has ls 7 [(0, .ref (B + 0)), (1, .int v1), (2, .int v2), (3, .int v3), (4, .int v4), (5, .int v5), (6, .int v6)] → WM p l e 2 s m args below meth c H locs G layM B (some (.int r)) σr (F0 m 92 ls []) := by
  induction n with
  | zero =>
    intro _ _ _ _ _ _ σ H locs ls hf
    cases hf
  | succ n ih =>
    intro v1 v2 v3 v4 v5 v6 σ H locs ls hf hH hS hl
    exact w_X8_copy_92 X (l_X8_copy_92 n) ih v1 v2 v3 v4 v5 v6 σ hf H locs hH hS ls hl
def f_X8_copy (x1 : Int32) (x2 : Int32) (x3 : Int32) (x4 : Int32) (x5 : Int32) (σ : Sto) : Option (Int32 × Sto) :=
  bd2 (f_X8_isRow x1 σ) fun r102 σ101 => if r102 = 0 then (b_X8_copy_14 σ101) else (bd2 (f_X8_isRow x3 σ101) fun r205 σ204 => if r205 = 0 then (b_X8_copy_14 σ204) else (bd2 (f_X8_isMissing x1 σ204) fun r208 σ207 => if r208 = 0 then (bd2 (f_X8_isMissing x3 σ207) fun r313 σ312 => if r313 = 0 then (if (x1 < 0 ∨ 8 ≤ x1.toNatClampNeg) then none else if (x3 < 0 ∨ 8 ≤ x3.toNatClampNeg) then none else if (σ312.1 1 x1.toNatClampNeg) = (σ312.1 1 x3.toNatClampNeg) then (bd2 (f_X8_isPart x1 x2 x5 σ312) fun r319 σ318 => if r319 = 0 then (b_X8_copy_83 σ318) else (bd2 (f_X8_isPart x3 x4 x5 σ318) fun r424 σ423 => if r424 = 0 then (b_X8_copy_83 σ423) else (l_X8_copy_92 400 x1 x2 x3 x4 x5 (0 : Int32) σ423))) else (bd2 (f_X8_found (5 : Int32) σ312) fun r637 σ636 => some (r637, σ636))) else (b_X8_copy_33 σ312)) else (b_X8_copy_33 σ207)))
set_option maxHeartbeats 4000000 in
set_option maxRecDepth 100000 in
theorem w_X8_copy {p : Program} {l : Launch} {e : Env} {s : State} {m : MethodId} {args : Array Value} {below : List Frame} {meth : Method} {c : Code} {G : Gd} {B : Nat} (X : Cm p s m args meth c cX8_copy 7 RX8 G (some .int)) {r : Int32} {σr : Sto} (x1 : Int32) (x2 : Int32) (x3 : Int32) (x4 : Int32) (x5 : Int32) (σ : Sto) (hf : f_X8_copy x1 x2 x3 x4 x5 σ = some (r, σr)) (H : Heap) (locs : List Loc) (hH : HX G layM B σ H) (hS : va_S (inW layM B) s.heap H locs) (ls : Array Slot) (hl : lv_has ls 7 [(0, .ref (B + 0)), (1, .int x1), (2, .int x2), (3, .int x3), (4, .int x4), (5, .int x5)]) : WM p l e 2 s m args below meth c H locs G layM B (some (.int r)) σr (F0 m 0 ls []) := by
  unfold f_X8_copy at hf
  have hx := X.1.1
  have hb := X.1.2.1
  refine lv_iload_n hx hb dX8_copy_0 rfl (lv_at hl 1 rfl) ?_
  obtain ⟨r102, σ101, eσ101, hf⟩ := bnd2 hf
  refine g_cSi (As := [.int x1]) X.1 hH hS (c_X8_isRow l G B x1 σ σ101 r102 eσ101) kw_RX8_72 (by decide) rfl hl (Nat.le_of_ble_eq_true rfl) rfl dX8_copy_1 (fun H locs hH hS => ?_)
  refine lv_if_eq (tgt := 14) hx hb dX8_copy_4 (by decide) (fun q103 => ?_) (fun q103 => ?_)
  · replace hf := brT hf q103
    exact w_X8_copy_14 X σ101 hf _ _ hH hS _ (lv_sub hl [] rfl)
  · replace hf := brF hf q103
    refine lv_iload_n hx hb dX8_copy_7 rfl (lv_at hl 3 rfl) ?_
    obtain ⟨r205, σ204, eσ204, hf⟩ := bnd2 hf
    refine g_cSi (As := [.int x3]) X.1 hH hS (c_X8_isRow l G B x3 σ101 σ204 r205 eσ204) kw_RX8_72 (by decide) rfl hl (Nat.le_of_ble_eq_true rfl) rfl dX8_copy_8 (fun H locs hH hS => ?_)
    refine lv_if_ne (tgt := 17) hx hb dX8_copy_11 (by decide) (fun q206 => ?_) (fun q206 => ?_)
    · replace hf := brF hf q206
      refine lv_aload_n hx hb dX8_copy_17 rfl (lv_at hl 0 rfl) ?_
      refine lv_iload_n hx hb dX8_copy_18 rfl (lv_at hl 1 rfl) ?_
      obtain ⟨r208, σ207, eσ207, hf⟩ := bnd2 hf
      refine g_cVi (As := [.int x1]) X.1 hH hS (c_X8_isMissing l G B x1 σ204 σ207 r208 eσ207) kw_RX8_84 kX8 km_0 (by decide) rfl hl (Nat.le_of_ble_eq_true rfl) rfl dX8_copy_19 (fun H locs hH hS => ?_)
      refine lv_if_ne (tgt := 33) hx hb dX8_copy_22 (by decide) (fun q209 => ?_) (fun q209 => ?_)
      · replace hf := brF hf q209
        exact w_X8_copy_33 X σ207 hf _ _ hH hS _ (lv_sub hl [0] rfl)
      · replace hf := brT hf q209
        refine lv_aload_n hx hb dX8_copy_25 rfl (lv_at hl 0 rfl) ?_
        refine lv_iload_n hx hb dX8_copy_26 rfl (lv_at hl 3 rfl) ?_
        obtain ⟨r313, σ312, eσ312, hf⟩ := bnd2 hf
        refine g_cVi (As := [.int x3]) X.1 hH hS (c_X8_isMissing l G B x3 σ207 σ312 r313 eσ312) kw_RX8_84 kX8 km_0 (by decide) rfl hl (Nat.le_of_ble_eq_true rfl) rfl dX8_copy_27 (fun H locs hH hS => ?_)
        refine lv_if_eq (tgt := 39) hx hb dX8_copy_30 (by decide) (fun q314 => ?_) (fun q314 => ?_)
        · replace hf := brT hf q314
          refine lv_aload_n hx hb dX8_copy_39 rfl (lv_at hl 0 rfl) ?_
          refine g_get (v := .ref (B + 1)) kX8 (by decide) fl_RX8_7 X.1 hH km_0 rfl dX8_copy_40 ?_
          refine lv_iload_n hx hb dX8_copy_43 rfl (lv_at hl 1 rfl) ?_
          obtain ⟨q315, hf⟩ := chk hf
          refine g_iald (j := x1.toNatClampNeg) X.1 hH km_1 q315 rfl dX8_copy_44 ?_
          refine lv_aload_n hx hb dX8_copy_45 rfl (lv_at hl 0 rfl) ?_
          refine g_get (v := .ref (B + 1)) kX8 (by decide) fl_RX8_7 X.1 hH km_0 rfl dX8_copy_46 ?_
          refine lv_iload_n hx hb dX8_copy_49 rfl (lv_at hl 3 rfl) ?_
          obtain ⟨q316, hf⟩ := chk hf
          refine g_iald (j := x3.toNatClampNeg) X.1 hH km_1 q316 rfl dX8_copy_50 ?_
          refine lv_icmp_eq (tgt := 60) hx hb dX8_copy_51 (by decide) (fun q317 => ?_) (fun q317 => ?_)
          · replace hf := brT hf q317
            refine lv_aload_n hx hb dX8_copy_60 rfl (lv_at hl 0 rfl) ?_
            refine lv_iload_n hx hb dX8_copy_61 rfl (lv_at hl 1 rfl) ?_
            refine lv_iload_n hx hb dX8_copy_62 rfl (lv_at hl 2 rfl) ?_
            refine lv_iload hx hb dX8_copy_63 (lv_at hl 5 rfl) ?_
            obtain ⟨r319, σ318, eσ318, hf⟩ := bnd2 hf
            refine g_cVi (As := [.int x1, .int x2, .int x5]) X.1 hH hS (c_X8_isPart l G B x1 x2 x5 σ312 σ318 r319 eσ318) kw_RX8_91 kX8 km_0 (by decide) rfl hl (Nat.le_of_ble_eq_true rfl) rfl dX8_copy_65 (fun H locs hH hS => ?_)
            refine lv_if_eq (tgt := 83) hx hb dX8_copy_68 (by decide) (fun q320 => ?_) (fun q320 => ?_)
            · replace hf := brT hf q320
              exact w_X8_copy_83 X σ318 hf _ _ hH hS _ (lv_sub hl [0] rfl)
            · replace hf := brF hf q320
              refine lv_aload_n hx hb dX8_copy_71 rfl (lv_at hl 0 rfl) ?_
              refine lv_iload_n hx hb dX8_copy_72 rfl (lv_at hl 3 rfl) ?_
              refine lv_iload hx hb dX8_copy_73 (lv_at hl 4 rfl) ?_
              refine lv_iload hx hb dX8_copy_75 (lv_at hl 5 rfl) ?_
              obtain ⟨r424, σ423, eσ423, hf⟩ := bnd2 hf
              refine g_cVi (As := [.int x3, .int x4, .int x5]) X.1 hH hS (c_X8_isPart l G B x3 x4 x5 σ318 σ423 r424 eσ423) kw_RX8_91 kX8 km_0 (by decide) rfl hl (Nat.le_of_ble_eq_true rfl) rfl dX8_copy_77 (fun H locs hH hS => ?_)
              refine lv_if_ne (tgt := 89) hx hb dX8_copy_80 (by decide) (fun q425 => ?_) (fun q425 => ?_)
              · replace hf := brF hf q425
                refine lv_iconst (v := 0) hx hb dX8_copy_89 (by decide) ?_
                refine lv_istore (lv' := [(6, .int (0 : Int32)), (0, .ref (B + 0)), (1, .int x1), (2, .int x2), (3, .int x3), (4, .int x4), (5, .int x5)]) hx hb dX8_copy_90 hl (by decide) rfl (fun ls hl => ?_)
                exact wl_X8_copy_92 X 400 x1 x2 x3 x4 x5 (0 : Int32) σ423 _ _ _ hf hH hS (lv_sub hl [1, 2, 3, 4, 5, 6, 0] rfl)
              · replace hf := brT hf q425
                exact w_X8_copy_83 X σ423 hf _ _ hH hS _ (lv_sub hl [0] rfl)
          · replace hf := brF hf q317
            refine lv_aload_n hx hb dX8_copy_54 rfl (lv_at hl 0 rfl) ?_
            refine lv_iconst (v := 5) hx hb dX8_copy_55 (by decide) ?_
            obtain ⟨r637, σ636, eσ636, hf⟩ := bnd2 hf
            refine g_cVi (As := [.int (5 : Int32)]) X.1 hH hS (c_X8_found l G B (5 : Int32) σ312 σ636 r637 eσ636) kw_RX8_77 kX8 km_0 (by decide) rfl hl (Nat.le_of_ble_eq_true rfl) rfl dX8_copy_56 (fun H locs hH hS => ?_)
            obtain ⟨rfl, rfl⟩ := rt2 hf
            exact g_iret X hH hS dX8_copy_59
        · replace hf := brF hf q314
          exact w_X8_copy_33 X σ312 hf _ _ hH hS _ (lv_sub hl [0] rfl)
    · replace hf := brT hf q206
      exact w_X8_copy_14 X σ204 hf _ _ hH hS _ (lv_sub hl [] rfl)
theorem c_X8_copy (l : Launch) (G : Gd) (B : Nat) (x1 : Int32) (x2 : Int32) (x3 : Int32) (x4 : Int32) (x5 : Int32) (σ σr : Sto) (r : Int32) (hf : f_X8_copy x1 x2 x3 x4 x5 σ = some (r, σr)) : Ct l G layM B yX8_copy cX8_copy 7 (some .int) 2 [.ref (B + 0), .int x1, .int x2, .int x3, .int x4, .int x5] (some (.int r)) σ σr :=
  Ct.ofW (by decide) (Nat.le_of_ble_eq_true rfl) (fun _ _ _ _ _ _ _ X hH hS ls hl => w_X8_copy X x1 x2 x3 x4 x5 σ hf _ _ hH hS ls (show lv_has ls 7 [(0, .ref (B + 0)), (1, .int x1), (2, .int x2), (3, .int x3), (4, .int x4), (5, .int x5)] from hl))
-- SlackProofsModel.ones(I)I  (D 0)
def b_X8_ones_4 (c4 : Int32 → Int32 → Int32 → Sto → Option (Int32 × Sto)) (v0 : Int32) (v1 : Int32) (v2 : Int32) (σ : Sto) : Option (Int32 × Sto) :=
  if (30 : Int32) ≤ v2 then (some (v1, σ)) else (nmS (v1 + ((v0 >>> (v2 &&& 31)) &&& (1 : Int32))) fun y202 => c4 v0 y202 (v2 + (1 : Int32)) σ)
set_option maxHeartbeats 4000000 in
set_option maxRecDepth 100000 in
theorem w_X8_ones_4 {p : Program} {l : Launch} {e : Env} {s : State} {m : MethodId} {args : Array Value} {below : List Frame} {meth : Method} {c : Code} {G : Gd} {B : Nat} (X : Cm p s m args meth c cX8_ones 3 RX8 G (some .int)) (c4 : Int32 → Int32 → Int32 → Sto → Option (Int32 × Sto)) {r : Int32} {σr : Sto} (ih4 : ∀ (v0 : Int32) (v1 : Int32) (v2 : Int32) (σ : Sto) (H : Heap) (locs : List Loc) (ls : Array Slot), c4 v0 v1 v2 σ = some (r, σr) → HX G layM B σ H → va_S (inW layM B) s.heap H locs → lv_has ls 3 [(0, .int v0), (1, .int v1), (2, .int v2)] → WM p l e 0 s m args below meth c H locs G layM B (some (.int r)) σr (F0 m 4 ls [])) (v0 : Int32) (v1 : Int32) (v2 : Int32) (σ : Sto) (hf : b_X8_ones_4 c4 v0 v1 v2 σ = some (r, σr)) (H : Heap) (locs : List Loc) (hH : HX G layM B σ H) (hS : va_S (inW layM B) s.heap H locs) (ls : Array Slot) (hl : lv_has ls 3 [(0, .int v0), (1, .int v1), (2, .int v2)]) : WM p l e 0 s m args below meth c H locs G layM B (some (.int r)) σr (F0 m 4 ls []) := by
  unfold b_X8_ones_4 at hf
  have hx := X.1.1
  have hb := X.1.2.1
  refine lv_iload_n hx hb dX8_ones_4 rfl (lv_at hl 2 rfl) ?_
  refine lv_bipush (v := 30) hx hb dX8_ones_5 (by decide) ?_
  refine lv_icmp_ge (tgt := 24) hx hb dX8_ones_7 (by decide) (fun q201 => ?_) (fun q201 => ?_)
  · replace hf := brT hf q201
    refine lv_iload_n hx hb dX8_ones_24 rfl (lv_at hl 1 rfl) ?_
    obtain ⟨rfl, rfl⟩ := rt2 hf
    exact g_iret X hH hS dX8_ones_25
  · replace hf := brF hf q201
    refine lv_iload_n hx hb dX8_ones_10 rfl (lv_at hl 1 rfl) ?_
    refine lv_iload_n hx hb dX8_ones_11 rfl (lv_at hl 0 rfl) ?_
    refine lv_iload_n hx hb dX8_ones_12 rfl (lv_at hl 2 rfl) ?_
    refine lv_ishr hx hb dX8_ones_13 ?_
    refine lv_iconst (v := 1) hx hb dX8_ones_14 (by decide) ?_
    refine lv_iand hx hb dX8_ones_15 ?_
    refine lv_iadd hx hb dX8_ones_16 ?_
    refine lv_topi (fun y202 ey202 => ?_)
    replace hf := nmU hf ey202
    refine lv_istore_n (lv' := [(1, .int y202), (0, .int v0), (2, .int v2)]) hx hb dX8_ones_17 rfl hl (by decide) rfl (fun ls hl => ?_)
    refine lv_iinc (v := (v2 + (1 : Int32))) (lv' := [(2, .int (v2 + (1 : Int32))), (1, .int y202), (0, .int v0)]) hx hb dX8_ones_18 hl (k := 2) rfl rfl (by decide) rfl (fun ls hl => ?_)
    refine lv_goto (tgt := 4) hx hb dX8_ones_21 (by decide) ?_
    exact ih4 v0 y202 (v2 + (1 : Int32)) σ _ _ _ hf hH hS (lv_sub hl [2, 1, 0] rfl)
def l_X8_ones_4 : Nat → Int32 → Int32 → Int32 → Sto → Option (Int32 × Sto)
  | 0, _, _, _, _ => none
  | n + 1, v0, v1, v2, σ => b_X8_ones_4 (l_X8_ones_4 n) v0 v1 v2 σ
set_option maxHeartbeats 4000000 in
set_option maxRecDepth 100000 in
theorem wl_X8_ones_4 {p : Program} {l : Launch} {e : Env} {s : State} {m : MethodId} {args : Array Value} {below : List Frame} {meth : Method} {c : Code} {G : Gd} {B : Nat} (X : Cm p s m args meth c cX8_ones 3 RX8 G (some .int)) {r : Int32} {σr : Sto} (n : Nat) : ∀ (v0 : Int32) (v1 : Int32) (v2 : Int32) (σ : Sto) (H : Heap) (locs : List Loc) (ls : Array Slot), l_X8_ones_4 n v0 v1 v2 σ = some (r, σr) → HX G layM B σ H → va_S (inW layM B) s.heap H locs → lv_has ls 3 [(0, .int v0), (1, .int v1), (2, .int v2)] → WM p l e 0 s m args below meth c H locs G layM B (some (.int r)) σr (F0 m 4 ls []) := by
  induction n with
  | zero =>
    intro _ _ _ σ H locs ls hf
    cases hf
  | succ n ih =>
    intro v0 v1 v2 σ H locs ls hf hH hS hl
    exact w_X8_ones_4 X (l_X8_ones_4 n) ih v0 v1 v2 σ hf H locs hH hS ls hl
def f_X8_ones (x0 : Int32) (σ : Sto) : Option (Int32 × Sto) :=
  l_X8_ones_4 400 x0 (0 : Int32) (0 : Int32) σ
set_option maxHeartbeats 4000000 in
set_option maxRecDepth 100000 in
theorem w_X8_ones {p : Program} {l : Launch} {e : Env} {s : State} {m : MethodId} {args : Array Value} {below : List Frame} {meth : Method} {c : Code} {G : Gd} {B : Nat} (X : Cm p s m args meth c cX8_ones 3 RX8 G (some .int)) {r : Int32} {σr : Sto} (x0 : Int32) (σ : Sto) (hf : f_X8_ones x0 σ = some (r, σr)) (H : Heap) (locs : List Loc) (hH : HX G layM B σ H) (hS : va_S (inW layM B) s.heap H locs) (ls : Array Slot) (hl : lv_has ls 3 [(0, .int x0)]) : WM p l e 0 s m args below meth c H locs G layM B (some (.int r)) σr (F0 m 0 ls []) := by
  unfold f_X8_ones at hf
  have hx := X.1.1
  have hb := X.1.2.1
  refine lv_iconst (v := 0) hx hb dX8_ones_0 (by decide) ?_
  refine lv_istore_n (lv' := [(1, .int (0 : Int32)), (0, .int x0)]) hx hb dX8_ones_1 rfl hl (by decide) rfl (fun ls hl => ?_)
  refine lv_iconst (v := 0) hx hb dX8_ones_2 (by decide) ?_
  refine lv_istore_n (lv' := [(2, .int (0 : Int32)), (1, .int (0 : Int32)), (0, .int x0)]) hx hb dX8_ones_3 rfl hl (by decide) rfl (fun ls hl => ?_)
  exact wl_X8_ones_4 X 400 x0 (0 : Int32) (0 : Int32) σ _ _ _ hf hH hS (lv_sub hl [2, 1, 0] rfl)
theorem c_X8_ones (l : Launch) (G : Gd) (B : Nat) (x0 : Int32) (σ σr : Sto) (r : Int32) (hf : f_X8_ones x0 σ = some (r, σr)) : Ct l G layM B yX8_ones cX8_ones 3 (some .int) 0 [.int x0] (some (.int r)) σ σr :=
  Ct.ofW (by decide) (Nat.le_of_ble_eq_true rfl) (fun _ _ _ _ _ _ _ X hH hS ls hl => w_X8_ones X x0 σ hf _ _ hH hS ls (show lv_has ls 3 [(0, .int x0)] from hl))
-- SlackProofsModel.count(I)I  (D 1)
def b_X8_count_70 (c50 : Int32 → Int32 → Sto → Option (Int32 × Sto)) (v3 : Int32) (s0 : Int32) (s1 : Int32) (σ : Sto) : Option (Int32 × Sto) :=
  nmS (s1 + s0) fun y306 => c50 y306 (v3 + (1 : Int32)) σ
set_option maxHeartbeats 4000000 in
set_option maxRecDepth 100000 in
theorem w_X8_count_70 {p : Program} {l : Launch} {e : Env} {s : State} {m : MethodId} {args : Array Value} {below : List Frame} {meth : Method} {c : Code} {G : Gd} {B : Nat} (X : Cm p s m args meth c cX8_count 4 RX8 G (some .int)) (c50 : Int32 → Int32 → Sto → Option (Int32 × Sto)) {r : Int32} {σr : Sto} (ih50 : ∀ (v2 : Int32) (v3 : Int32) (σ : Sto) (H : Heap) (locs : List Loc) (ls : Array Slot), c50 v2 v3 σ = some (r, σr) → HX G layM B σ H → va_S (inW layM B) s.heap H locs → lv_has ls 4 [(0, .ref (B + 0)), (2, .int v2), (3, .int v3)] → WM p l e 1 s m args below meth c H locs G layM B (some (.int r)) σr (F0 m 50 ls [])) (v3 : Int32) (s0 : Int32) (s1 : Int32) (σ : Sto) (hf : b_X8_count_70 c50 v3 s0 s1 σ = some (r, σr)) (H : Heap) (locs : List Loc) (hH : HX G layM B σ H) (hS : va_S (inW layM B) s.heap H locs) (ls : Array Slot) (hl : lv_has ls 4 [(0, .ref (B + 0)), (3, .int v3)]) : WM p l e 1 s m args below meth c H locs G layM B (some (.int r)) σr (F0 m 70 ls [.int s0, .int s1]) := by
  unfold b_X8_count_70 at hf
  have hx := X.1.1
  have hb := X.1.2.1
  refine lv_iadd hx hb dX8_count_70 ?_
  refine lv_topi (fun y306 ey306 => ?_)
  replace hf := nmU hf ey306
  refine lv_istore_n (lv' := [(2, .int y306), (0, .ref (B + 0)), (3, .int v3)]) hx hb dX8_count_71 rfl hl (by decide) rfl (fun ls hl => ?_)
  refine lv_iinc (v := (v3 + (1 : Int32))) (lv' := [(3, .int (v3 + (1 : Int32))), (2, .int y306), (0, .ref (B + 0))]) hx hb dX8_count_72 hl (k := 2) rfl rfl (by decide) rfl (fun ls hl => ?_)
  refine lv_goto (tgt := 50) hx hb dX8_count_75 (by decide) ?_
  exact ih50 y306 (v3 + (1 : Int32)) σ _ _ _ hf hH hS (lv_sub hl [2, 1, 0] rfl)
def b_X8_count_50 (c50 : Int32 → Int32 → Sto → Option (Int32 × Sto)) (v2 : Int32) (v3 : Int32) (σ : Sto) : Option (Int32 × Sto) :=
  if (8 : Int32) ≤ v3 then (some (v2, σ)) else (bd2 (f_X8_isMissing v3 σ) fun r204 σ203 => if r204 = 0 then (b_X8_count_70 c50 v3 (1 : Int32) v2 σ203) else (b_X8_count_70 c50 v3 (0 : Int32) v2 σ203))
set_option maxHeartbeats 4000000 in
set_option maxRecDepth 100000 in
theorem w_X8_count_50 {p : Program} {l : Launch} {e : Env} {s : State} {m : MethodId} {args : Array Value} {below : List Frame} {meth : Method} {c : Code} {G : Gd} {B : Nat} (X : Cm p s m args meth c cX8_count 4 RX8 G (some .int)) (c50 : Int32 → Int32 → Sto → Option (Int32 × Sto)) {r : Int32} {σr : Sto} (ih50 : ∀ (v2 : Int32) (v3 : Int32) (σ : Sto) (H : Heap) (locs : List Loc) (ls : Array Slot), c50 v2 v3 σ = some (r, σr) → HX G layM B σ H → va_S (inW layM B) s.heap H locs → lv_has ls 4 [(0, .ref (B + 0)), (2, .int v2), (3, .int v3)] → WM p l e 1 s m args below meth c H locs G layM B (some (.int r)) σr (F0 m 50 ls [])) (v2 : Int32) (v3 : Int32) (σ : Sto) (hf : b_X8_count_50 c50 v2 v3 σ = some (r, σr)) (H : Heap) (locs : List Loc) (hH : HX G layM B σ H) (hS : va_S (inW layM B) s.heap H locs) (ls : Array Slot) (hl : lv_has ls 4 [(0, .ref (B + 0)), (2, .int v2), (3, .int v3)]) : WM p l e 1 s m args below meth c H locs G layM B (some (.int r)) σr (F0 m 50 ls []) := by
  unfold b_X8_count_50 at hf
  have hx := X.1.1
  have hb := X.1.2.1
  refine lv_iload_n hx hb dX8_count_50 rfl (lv_at hl 2 rfl) ?_
  refine lv_bipush (v := 8) hx hb dX8_count_51 (by decide) ?_
  refine lv_icmp_ge (tgt := 78) hx hb dX8_count_53 (by decide) (fun q202 => ?_) (fun q202 => ?_)
  · replace hf := brT hf q202
    refine lv_iload_n hx hb dX8_count_78 rfl (lv_at hl 1 rfl) ?_
    obtain ⟨rfl, rfl⟩ := rt2 hf
    exact g_iret X hH hS dX8_count_79
  · replace hf := brF hf q202
    refine lv_iload_n hx hb dX8_count_56 rfl (lv_at hl 1 rfl) ?_
    refine lv_aload_n hx hb dX8_count_57 rfl (lv_at hl 0 rfl) ?_
    refine lv_iload_n hx hb dX8_count_58 rfl (lv_at hl 2 rfl) ?_
    obtain ⟨r204, σ203, eσ203, hf⟩ := bnd2 hf
    refine g_cVi (As := [.int v3]) X.1 hH hS (c_X8_isMissing l G B v3 σ σ203 r204 eσ203) kw_RX8_84 kX8 km_0 (by decide) rfl hl (Nat.le_of_ble_eq_true rfl) rfl dX8_count_59 (fun H locs hH hS => ?_)
    refine lv_if_eq (tgt := 69) hx hb dX8_count_62 (by decide) (fun q205 => ?_) (fun q205 => ?_)
    · replace hf := brT hf q205
      refine lv_iconst (v := 1) hx hb dX8_count_69 (by decide) ?_
      exact w_X8_count_70 X c50 ih50 v3 (1 : Int32) v2 σ203 hf _ _ hH hS _ (lv_sub hl [0, 2] rfl)
    · replace hf := brF hf q205
      refine lv_iconst (v := 0) hx hb dX8_count_65 (by decide) ?_
      refine lv_goto (tgt := 70) hx hb dX8_count_66 (by decide) ?_
      exact w_X8_count_70 X c50 ih50 v3 (0 : Int32) v2 σ203 hf _ _ hH hS _ (lv_sub hl [0, 2] rfl)
def l_X8_count_50 : Nat → Int32 → Int32 → Sto → Option (Int32 × Sto)
  | 0, _, _, _ => none
  | n + 1, v2, v3, σ => b_X8_count_50 (l_X8_count_50 n) v2 v3 σ
set_option maxHeartbeats 4000000 in
set_option maxRecDepth 100000 in
theorem wl_X8_count_50 {p : Program} {l : Launch} {e : Env} {s : State} {m : MethodId} {args : Array Value} {below : List Frame} {meth : Method} {c : Code} {G : Gd} {B : Nat} (X : Cm p s m args meth c cX8_count 4 RX8 G (some .int)) {r : Int32} {σr : Sto} (n : Nat) : ∀ (v2 : Int32) (v3 : Int32) (σ : Sto) (H : Heap) (locs : List Loc) (ls : Array Slot), l_X8_count_50 n v2 v3 σ = some (r, σr) → HX G layM B σ H → va_S (inW layM B) s.heap H locs → lv_has ls 4 [(0, .ref (B + 0)), (2, .int v2), (3, .int v3)] → WM p l e 1 s m args below meth c H locs G layM B (some (.int r)) σr (F0 m 50 ls []) := by
  induction n with
  | zero =>
    intro _ _ σ H locs ls hf
    cases hf
  | succ n ih =>
    intro v2 v3 σ H locs ls hf hH hS hl
    exact w_X8_count_50 X (l_X8_count_50 n) ih v2 v3 σ hf H locs hH hS ls hl
def f_X8_count (x1 : Int32) (σ : Sto) : Option (Int32 × Sto) :=
  if x1 = 0 then (l_X8_count_50 400 (0 : Int32) (0 : Int32) σ) else (if x1 = 1 then (bd2 (f_X8_ones ((σ.2 6 10).toInt32) σ) fun r309 σ308 => some (r309, σ308)) else (if x1 = 2 then (some ((σ.2 6 9).toInt32, σ)) else (if x1 = 3 then (some ((σ.2 6 10).toInt32, σ)) else (if x1 = 4 then (some ((σ.2 6 8).toInt32, σ)) else (if x1 = 5 then (bd2 (f_X8_allPrices σ) fun r315 σ314 => some (r315.toInt32, σ314)) else (if x1 = 6 then (some ((σ.1 0 16), σ)) else (if x1 = 7 then (some ((σ.1 0 6), σ)) else (some ((-1000001 : Int32), σ)))))))))
set_option maxHeartbeats 4000000 in
set_option maxRecDepth 100000 in
theorem w_X8_count {p : Program} {l : Launch} {e : Env} {s : State} {m : MethodId} {args : Array Value} {below : List Frame} {meth : Method} {c : Code} {G : Gd} {B : Nat} (X : Cm p s m args meth c cX8_count 4 RX8 G (some .int)) {r : Int32} {σr : Sto} (x1 : Int32) (σ : Sto) (hf : f_X8_count x1 σ = some (r, σr)) (H : Heap) (locs : List Loc) (hH : HX G layM B σ H) (hS : va_S (inW layM B) s.heap H locs) (ls : Array Slot) (hl : lv_has ls 4 [(0, .ref (B + 0)), (1, .int x1)]) : WM p l e 1 s m args below meth c H locs G layM B (some (.int r)) σr (F0 m 0 ls []) := by
  unfold f_X8_count at hf
  have hx := X.1.1
  have hb := X.1.2.1
  refine lv_iconst (v := 0) hx hb dX8_count_0 (by decide) ?_
  refine lv_istore_n (lv' := [(2, .int (0 : Int32)), (0, .ref (B + 0)), (1, .int x1)]) hx hb dX8_count_1 rfl hl (by decide) rfl (fun ls hl => ?_)
  refine lv_iload_n hx hb dX8_count_2 rfl (lv_at hl 2 rfl) ?_
  by_cases q101 : x1 = 0
  · replace hf := brT hf q101
    refine lv_tableIn (tgt := 48) (off := 45) hx hb dX8_count_3 (by rw [q101]; decide) (by rw [q101]; decide) (by rw [q101]; decide) (by decide) ?_
    refine lv_iconst (v := 0) hx hb dX8_count_48 (by decide) ?_
    refine lv_istore_n (lv' := [(3, .int (0 : Int32)), (2, .int (0 : Int32)), (0, .ref (B + 0)), (1, .int x1)]) hx hb dX8_count_49 rfl hl (by decide) rfl (fun ls hl => ?_)
    exact wl_X8_count_50 X 400 (0 : Int32) (0 : Int32) σ _ _ _ hf hH hS (lv_sub hl [2, 1, 0] rfl)
  replace hf := brF hf q101
  by_cases q307 : x1 = 1
  · replace hf := brT hf q307
    refine lv_tableIn (tgt := 80) (off := 77) hx hb dX8_count_3 (by rw [q307]; decide) (by rw [q307]; decide) (by rw [q307]; decide) (by decide) ?_
    refine lv_aload_n hx hb dX8_count_80 rfl (lv_at hl 1 rfl) ?_
    refine g_get (v := .ref (B + 6)) kX8 (by decide) fl_RX8_25 X.1 hH km_0 rfl dX8_count_81 ?_
    refine lv_bipush (v := 10) hx hb dX8_count_84 (by decide) ?_
    refine g_lald (j := 10) X.1 hH km_6 (by decide) rfl dX8_count_86 ?_
    refine lv_l2i hx hb dX8_count_87 rfl ?_
    obtain ⟨r309, σ308, eσ308, hf⟩ := bnd2 hf
    refine g_cSi (As := [.int ((σ.2 6 10).toInt32)]) X.1 hH hS (c_X8_ones l G B ((σ.2 6 10).toInt32) σ σ308 r309 eσ308) kw_RX8_255 (by decide) rfl hl (Nat.le_of_ble_eq_true rfl) rfl dX8_count_88 (fun H locs hH hS => ?_)
    obtain ⟨rfl, rfl⟩ := rt2 hf
    exact g_iret X hH hS dX8_count_91
  replace hf := brF hf q307
  by_cases q310 : x1 = 2
  · replace hf := brT hf q310
    refine lv_tableIn (tgt := 92) (off := 89) hx hb dX8_count_3 (by rw [q310]; decide) (by rw [q310]; decide) (by rw [q310]; decide) (by decide) ?_
    refine lv_aload_n hx hb dX8_count_92 rfl (lv_at hl 1 rfl) ?_
    refine g_get (v := .ref (B + 6)) kX8 (by decide) fl_RX8_25 X.1 hH km_0 rfl dX8_count_93 ?_
    refine lv_bipush (v := 9) hx hb dX8_count_96 (by decide) ?_
    refine g_lald (j := 9) X.1 hH km_6 (by decide) rfl dX8_count_98 ?_
    refine lv_l2i hx hb dX8_count_99 rfl ?_
    obtain ⟨rfl, rfl⟩ := rt2 hf
    exact g_iret X hH hS dX8_count_100
  replace hf := brF hf q310
  by_cases q311 : x1 = 3
  · replace hf := brT hf q311
    refine lv_tableIn (tgt := 101) (off := 98) hx hb dX8_count_3 (by rw [q311]; decide) (by rw [q311]; decide) (by rw [q311]; decide) (by decide) ?_
    refine lv_aload_n hx hb dX8_count_101 rfl (lv_at hl 1 rfl) ?_
    refine g_get (v := .ref (B + 6)) kX8 (by decide) fl_RX8_25 X.1 hH km_0 rfl dX8_count_102 ?_
    refine lv_bipush (v := 10) hx hb dX8_count_105 (by decide) ?_
    refine g_lald (j := 10) X.1 hH km_6 (by decide) rfl dX8_count_107 ?_
    refine lv_l2i hx hb dX8_count_108 rfl ?_
    obtain ⟨rfl, rfl⟩ := rt2 hf
    exact g_iret X hH hS dX8_count_109
  replace hf := brF hf q311
  by_cases q312 : x1 = 4
  · replace hf := brT hf q312
    refine lv_tableIn (tgt := 110) (off := 107) hx hb dX8_count_3 (by rw [q312]; decide) (by rw [q312]; decide) (by rw [q312]; decide) (by decide) ?_
    refine lv_aload_n hx hb dX8_count_110 rfl (lv_at hl 1 rfl) ?_
    refine g_get (v := .ref (B + 6)) kX8 (by decide) fl_RX8_25 X.1 hH km_0 rfl dX8_count_111 ?_
    refine lv_bipush (v := 8) hx hb dX8_count_114 (by decide) ?_
    refine g_lald (j := 8) X.1 hH km_6 (by decide) rfl dX8_count_116 ?_
    refine lv_l2i hx hb dX8_count_117 rfl ?_
    obtain ⟨rfl, rfl⟩ := rt2 hf
    exact g_iret X hH hS dX8_count_118
  replace hf := brF hf q312
  by_cases q313 : x1 = 5
  · replace hf := brT hf q313
    refine lv_tableIn (tgt := 119) (off := 116) hx hb dX8_count_3 (by rw [q313]; decide) (by rw [q313]; decide) (by rw [q313]; decide) (by decide) ?_
    refine lv_aload_n hx hb dX8_count_119 rfl (lv_at hl 1 rfl) ?_
    obtain ⟨r315, σ314, eσ314, hf⟩ := bnd2 hf
    refine g_cVl (As := []) X.1 hH hS (c_X8_allPrices l G B σ σ314 r315 eσ314) kw_RX8_237 kX8 km_0 (by decide) rfl hl (Nat.le_of_ble_eq_true rfl) rfl dX8_count_120 (fun H locs hH hS => ?_)
    refine lv_l2i hx hb dX8_count_123 rfl ?_
    obtain ⟨rfl, rfl⟩ := rt2 hf
    exact g_iret X hH hS dX8_count_124
  replace hf := brF hf q313
  by_cases q316 : x1 = 6
  · replace hf := brT hf q316
    refine lv_tableIn (tgt := 125) (off := 122) hx hb dX8_count_3 (by rw [q316]; decide) (by rw [q316]; decide) (by rw [q316]; decide) (by decide) ?_
    refine lv_aload_n hx hb dX8_count_125 rfl (lv_at hl 1 rfl) ?_
    refine g_get (v := .int (σ.1 0 16)) kX8 (by decide) fl_RX8_163 X.1 hH km_0 rfl dX8_count_126 ?_
    obtain ⟨rfl, rfl⟩ := rt2 hf
    exact g_iret X hH hS dX8_count_129
  replace hf := brF hf q316
  by_cases q317 : x1 = 7
  · replace hf := brT hf q317
    refine lv_tableIn (tgt := 130) (off := 127) hx hb dX8_count_3 (by rw [q317]; decide) (by rw [q317]; decide) (by rw [q317]; decide) (by decide) ?_
    refine lv_aload_n hx hb dX8_count_130 rfl (lv_at hl 1 rfl) ?_
    refine g_get (v := .int (σ.1 0 6)) kX8 (by decide) fl_RX8_94 X.1 hH km_0 rfl dX8_count_131 ?_
    obtain ⟨rfl, rfl⟩ := rt2 hf
    exact g_iret X hH hS dX8_count_134
  replace hf := brF hf q317
  refine lv_tableOut (tgt := 135) hx hb dX8_count_3 (by have hq101 := lv_neT q101 (a := 0) (by decide); have hq307 := lv_neT q307 (a := 1) (by decide); have hq310 := lv_neT q310 (a := 2) (by decide); have hq311 := lv_neT q311 (a := 3) (by decide); have hq312 := lv_neT q312 (a := 4) (by decide); have hq313 := lv_neT q313 (a := 5) (by decide); have hq316 := lv_neT q316 (a := 6) (by decide); have hq317 := lv_neT q317 (a := 7) (by decide); omega) (by decide) ?_
  refine lv_ldc (v := -1000001) hx hb X.1.2.2.2.1 (X.1.2.2.2.2.1 _ kc_RX8_76) dX8_count_135 ?_
  obtain ⟨rfl, rfl⟩ := rt2 hf
  exact g_iret X hH hS dX8_count_137
theorem c_X8_count (l : Launch) (G : Gd) (B : Nat) (x1 : Int32) (σ σr : Sto) (r : Int32) (hf : f_X8_count x1 σ = some (r, σr)) : Ct l G layM B yX8_count cX8_count 4 (some .int) 1 [.ref (B + 0), .int x1] (some (.int r)) σ σr :=
  Ct.ofW (by decide) (Nat.le_of_ble_eq_true rfl) (fun _ _ _ _ _ _ _ X hH hS ls hl => w_X8_count X x1 σ hf _ _ hH hS ls (show lv_has ls 4 [(0, .ref (B + 0)), (1, .int x1)] from hl))
-- SlackProofsModel.degree(I)J  (D 2)
def b_X8_degree_28 (s0 : Int64) (σ : Sto) : Option (Int64 × Sto) :=
  some (s0, σ)
set_option maxHeartbeats 4000000 in
set_option maxRecDepth 100000 in
theorem w_X8_degree_28 {p : Program} {l : Launch} {e : Env} {s : State} {m : MethodId} {args : Array Value} {below : List Frame} {meth : Method} {c : Code} {G : Gd} {B : Nat} (X : Cm p s m args meth c cX8_degree 2 RX8 G (some .long)) {r : Int64} {σr : Sto} (s0 : Int64) (σ : Sto) (hf : b_X8_degree_28 s0 σ = some (r, σr)) (H : Heap) (locs : List Loc) (hH : HX G layM B σ H) (hS : va_S (inW layM B) s.heap H locs) (ls : Array Slot) (hl : lv_has ls 2 []) : WM p l e 2 s m args below meth c H locs G layM B (some (.long r)) σr (F0 m 28 ls [.long s0]) := by
  unfold b_X8_degree_28 at hf
  have hx := X.1.1
  have hb := X.1.2.1
  obtain ⟨rfl, rfl⟩ := rt2 hf
  exact g_lret X hH hS dX8_degree_28
def f_X8_degree (x1 : Int32) (σ : Sto) : Option (Int64 × Sto) :=
  bd2 (f_X8_isLive x1 σ) fun r102 σ101 => if r102 = 0 then (b_X8_degree_28 (-1000001 : Int64) σ101) else (if ((((12 : Int32) + ((10 : Int32) * x1)) + (1 : Int32)) < 0 ∨ 312 ≤ (((12 : Int32) + ((10 : Int32) * x1)) + (1 : Int32)).toNatClampNeg) then none else b_X8_degree_28 (σ101.2 6 (((12 : Int32) + ((10 : Int32) * x1)) + (1 : Int32)).toNatClampNeg) σ101)
set_option maxHeartbeats 4000000 in
set_option maxRecDepth 100000 in
theorem w_X8_degree {p : Program} {l : Launch} {e : Env} {s : State} {m : MethodId} {args : Array Value} {below : List Frame} {meth : Method} {c : Code} {G : Gd} {B : Nat} (X : Cm p s m args meth c cX8_degree 2 RX8 G (some .long)) {r : Int64} {σr : Sto} (x1 : Int32) (σ : Sto) (hf : f_X8_degree x1 σ = some (r, σr)) (H : Heap) (locs : List Loc) (hH : HX G layM B σ H) (hS : va_S (inW layM B) s.heap H locs) (ls : Array Slot) (hl : lv_has ls 2 [(0, .ref (B + 0)), (1, .int x1)]) : WM p l e 2 s m args below meth c H locs G layM B (some (.long r)) σr (F0 m 0 ls []) := by
  unfold f_X8_degree at hf
  have hx := X.1.1
  have hb := X.1.2.1
  refine lv_aload_n hx hb dX8_degree_0 rfl (lv_at hl 0 rfl) ?_
  refine lv_iload_n hx hb dX8_degree_1 rfl (lv_at hl 1 rfl) ?_
  obtain ⟨r102, σ101, eσ101, hf⟩ := bnd2 hf
  refine g_cVi (As := [.int x1]) X.1 hH hS (c_X8_isLive l G B x1 σ σ101 r102 eσ101) kw_RX8_175 kX8 km_0 (by decide) rfl hl (Nat.le_of_ble_eq_true rfl) rfl dX8_degree_2 (fun H locs hH hS => ?_)
  refine lv_if_eq (tgt := 25) hx hb dX8_degree_5 (by decide) (fun q103 => ?_) (fun q103 => ?_)
  · replace hf := brT hf q103
    refine lv_ldc2 (v := -1000001) hx hb X.1.2.2.2.1 (X.1.2.2.2.2.1 _ kc_RX8_258) dX8_degree_25 ?_
    exact w_X8_degree_28 X (-1000001 : Int64) σ101 hf _ _ hH hS _ (lv_sub hl [] rfl)
  · replace hf := brF hf q103
    refine lv_aload_n hx hb dX8_degree_8 rfl (lv_at hl 0 rfl) ?_
    refine g_get (v := .ref (B + 6)) kX8 (by decide) fl_RX8_25 X.1 hH km_0 rfl dX8_degree_9 ?_
    refine lv_bipush (v := 12) hx hb dX8_degree_12 (by decide) ?_
    refine lv_bipush (v := 10) hx hb dX8_degree_14 (by decide) ?_
    refine lv_iload_n hx hb dX8_degree_16 rfl (lv_at hl 1 rfl) ?_
    refine lv_imul hx hb dX8_degree_17 ?_
    refine lv_iadd hx hb dX8_degree_18 ?_
    refine lv_iconst (v := 1) hx hb dX8_degree_19 (by decide) ?_
    refine lv_iadd hx hb dX8_degree_20 ?_
    obtain ⟨q204, hf⟩ := chk hf
    refine g_lald (j := (((12 : Int32) + ((10 : Int32) * x1)) + (1 : Int32)).toNatClampNeg) X.1 hH km_6 q204 rfl dX8_degree_21 ?_
    refine lv_goto (tgt := 28) hx hb dX8_degree_22 (by decide) ?_
    exact w_X8_degree_28 X (σ101.2 6 (((12 : Int32) + ((10 : Int32) * x1)) + (1 : Int32)).toNatClampNeg) σ101 hf _ _ hH hS _ (lv_sub hl [] rfl)
theorem c_X8_degree (l : Launch) (G : Gd) (B : Nat) (x1 : Int32) (σ σr : Sto) (r : Int64) (hf : f_X8_degree x1 σ = some (r, σr)) : Ct l G layM B yX8_degree cX8_degree 2 (some .long) 2 [.ref (B + 0), .int x1] (some (.long r)) σ σr :=
  Ct.ofW (by decide) (Nat.le_of_ble_eq_true rfl) (fun _ _ _ _ _ _ _ X hH hS ls hl => w_X8_degree X x1 σ hf _ _ hH hS ls (show lv_has ls 2 [(0, .ref (B + 0)), (1, .int x1)] from hl))
-- SlackProofsModel.drop(I)I  (D 2)
def f_X8_drop (x1 : Int32) (σ : Sto) : Option (Int32 × Sto) :=
  bd2 (f_X8_isRow x1 σ) fun r102 σ101 => if r102 = 0 then (some ((-1000001 : Int32), σ101)) else (bd2 (f_X8_isMissing x1 σ101) fun r105 σ104 => if r105 = 0 then (if (x1 < 0 ∨ 8 ≤ x1.toNatClampNeg) then none else nmS (pI σ104 1 x1.toNatClampNeg (-1000000 : Int32)) fun σ108 => if (x1 < 0 ∨ 8 ≤ x1.toNatClampNeg) then none else bd2 (f_X8_well (σ108.1 2 x1.toNatClampNeg) σ108) fun r111 σ110 => some (r111, σ110)) else (bd2 (f_X8_found (1 : Int32) σ104) fun r113 σ112 => some (r113, σ112)))
set_option maxHeartbeats 4000000 in
set_option maxRecDepth 100000 in
theorem w_X8_drop {p : Program} {l : Launch} {e : Env} {s : State} {m : MethodId} {args : Array Value} {below : List Frame} {meth : Method} {c : Code} {G : Gd} {B : Nat} (X : Cm p s m args meth c cX8_drop 2 RX8 G (some .int)) {r : Int32} {σr : Sto} (x1 : Int32) (σ : Sto) (hf : f_X8_drop x1 σ = some (r, σr)) (H : Heap) (locs : List Loc) (hH : HX G layM B σ H) (hS : va_S (inW layM B) s.heap H locs) (ls : Array Slot) (hl : lv_has ls 2 [(0, .ref (B + 0)), (1, .int x1)]) : WM p l e 2 s m args below meth c H locs G layM B (some (.int r)) σr (F0 m 0 ls []) := by
  unfold f_X8_drop at hf
  have hx := X.1.1
  have hb := X.1.2.1
  refine lv_iload_n hx hb dX8_drop_0 rfl (lv_at hl 1 rfl) ?_
  obtain ⟨r102, σ101, eσ101, hf⟩ := bnd2 hf
  refine g_cSi (As := [.int x1]) X.1 hH hS (c_X8_isRow l G B x1 σ σ101 r102 eσ101) kw_RX8_72 (by decide) rfl hl (Nat.le_of_ble_eq_true rfl) rfl dX8_drop_1 (fun H locs hH hS => ?_)
  refine lv_if_ne (tgt := 10) hx hb dX8_drop_4 (by decide) (fun q103 => ?_) (fun q103 => ?_)
  · replace hf := brF hf q103
    refine lv_aload_n hx hb dX8_drop_10 rfl (lv_at hl 0 rfl) ?_
    refine lv_iload_n hx hb dX8_drop_11 rfl (lv_at hl 1 rfl) ?_
    obtain ⟨r105, σ104, eσ104, hf⟩ := bnd2 hf
    refine g_cVi (As := [.int x1]) X.1 hH hS (c_X8_isMissing l G B x1 σ101 σ104 r105 eσ104) kw_RX8_84 kX8 km_0 (by decide) rfl hl (Nat.le_of_ble_eq_true rfl) rfl dX8_drop_12 (fun H locs hH hS => ?_)
    refine lv_if_eq (tgt := 24) hx hb dX8_drop_15 (by decide) (fun q106 => ?_) (fun q106 => ?_)
    · replace hf := brT hf q106
      refine lv_aload_n hx hb dX8_drop_24 rfl (lv_at hl 0 rfl) ?_
      refine g_get (v := .ref (B + 1)) kX8 (by decide) fl_RX8_7 X.1 hH km_0 rfl dX8_drop_25 ?_
      refine lv_iload_n hx hb dX8_drop_28 rfl (lv_at hl 1 rfl) ?_
      refine lv_ldc (v := -1000000) hx hb X.1.2.2.2.1 (X.1.2.2.2.2.1 _ kc_RX8_60) dX8_drop_29 ?_
      obtain ⟨q107, hf⟩ := chk hf
      refine g_iast (j := x1.toNatClampNeg) X.1 hH hS km_1 q107 rfl dX8_drop_31 (fun H locs hH hS => ?_)
      obtain ⟨σ108, eσ108, hH⟩ := nmX hH
      replace hf := nmU hf eσ108
      refine lv_aload_n hx hb dX8_drop_32 rfl (lv_at hl 0 rfl) ?_
      refine lv_aload_n hx hb dX8_drop_33 rfl (lv_at hl 0 rfl) ?_
      refine g_get (v := .ref (B + 2)) kX8 (by decide) fl_RX8_13 X.1 hH km_0 rfl dX8_drop_34 ?_
      refine lv_iload_n hx hb dX8_drop_37 rfl (lv_at hl 1 rfl) ?_
      obtain ⟨q109, hf⟩ := chk hf
      refine g_iald (j := x1.toNatClampNeg) X.1 hH km_2 q109 rfl dX8_drop_38 ?_
      obtain ⟨r111, σ110, eσ110, hf⟩ := bnd2 hf
      refine g_cVi (As := [.int (σ108.1 2 x1.toNatClampNeg)]) X.1 hH hS (c_X8_well l G B (σ108.1 2 x1.toNatClampNeg) σ108 σ110 r111 eσ110) kw_RX8_81 kX8 km_0 (by decide) rfl hl (Nat.le_of_ble_eq_true rfl) rfl dX8_drop_39 (fun H locs hH hS => ?_)
      obtain ⟨rfl, rfl⟩ := rt2 hf
      exact g_iret X hH hS dX8_drop_42
    · replace hf := brF hf q106
      refine lv_aload_n hx hb dX8_drop_18 rfl (lv_at hl 0 rfl) ?_
      refine lv_iconst (v := 1) hx hb dX8_drop_19 (by decide) ?_
      obtain ⟨r113, σ112, eσ112, hf⟩ := bnd2 hf
      refine g_cVi (As := [.int (1 : Int32)]) X.1 hH hS (c_X8_found l G B (1 : Int32) σ104 σ112 r113 eσ112) kw_RX8_77 kX8 km_0 (by decide) rfl hl (Nat.le_of_ble_eq_true rfl) rfl dX8_drop_20 (fun H locs hH hS => ?_)
      obtain ⟨rfl, rfl⟩ := rt2 hf
      exact g_iret X hH hS dX8_drop_23
  · replace hf := brT hf q103
    refine lv_ldc (v := -1000001) hx hb X.1.2.2.2.1 (X.1.2.2.2.2.1 _ kc_RX8_76) dX8_drop_7 ?_
    obtain ⟨rfl, rfl⟩ := rt2 hf
    exact g_iret X hH hS dX8_drop_9
theorem c_X8_drop (l : Launch) (G : Gd) (B : Nat) (x1 : Int32) (σ σr : Sto) (r : Int32) (hf : f_X8_drop x1 σ = some (r, σr)) : Ct l G layM B yX8_drop cX8_drop 2 (some .int) 2 [.ref (B + 0), .int x1] (some (.int r)) σ σr :=
  Ct.ofW (by decide) (Nat.le_of_ble_eq_true rfl) (fun _ _ _ _ _ _ _ X hH hS ls hl => w_X8_drop X x1 σ hf _ _ hH hS ls (show lv_has ls 2 [(0, .ref (B + 0)), (1, .int x1)] from hl))
-- SlackProofsModel.fault()I  (D 0)
def f_X8_fault (σ : Sto) : Option (Int32 × Sto) :=
  some ((σ.1 0 7), σ)
set_option maxHeartbeats 4000000 in
set_option maxRecDepth 100000 in
theorem w_X8_fault {p : Program} {l : Launch} {e : Env} {s : State} {m : MethodId} {args : Array Value} {below : List Frame} {meth : Method} {c : Code} {G : Gd} {B : Nat} (X : Cm p s m args meth c cX8_fault 1 RX8 G (some .int)) {r : Int32} {σr : Sto} (σ : Sto) (hf : f_X8_fault σ = some (r, σr)) (H : Heap) (locs : List Loc) (hH : HX G layM B σ H) (hS : va_S (inW layM B) s.heap H locs) (ls : Array Slot) (hl : lv_has ls 1 [(0, .ref (B + 0))]) : WM p l e 0 s m args below meth c H locs G layM B (some (.int r)) σr (F0 m 0 ls []) := by
  unfold f_X8_fault at hf
  have hx := X.1.1
  have hb := X.1.2.1
  refine lv_aload_n hx hb dX8_fault_0 rfl (lv_at hl 0 rfl) ?_
  refine g_get (v := .int (σ.1 0 7)) kX8 (by decide) fl_RX8_120 X.1 hH km_0 rfl dX8_fault_1 ?_
  obtain ⟨rfl, rfl⟩ := rt2 hf
  exact g_iret X hH hS dX8_fault_4
theorem c_X8_fault (l : Launch) (G : Gd) (B : Nat) (σ σr : Sto) (r : Int32) (hf : f_X8_fault σ = some (r, σr)) : Ct l G layM B yX8_fault cX8_fault 1 (some .int) 0 [.ref (B + 0)] (some (.int r)) σ σr :=
  Ct.ofW (by decide) (Nat.le_of_ble_eq_true rfl) (fun _ _ _ _ _ _ _ X hH hS ls hl => w_X8_fault X σ hf _ _ hH hS ls (show lv_has ls 1 [(0, .ref (B + 0))] from hl))
