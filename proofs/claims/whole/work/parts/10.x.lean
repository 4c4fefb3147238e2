-- java/lang/Integer.bitCount(I)I  (D 0)
def f_J6_bitCount_0f7a4 (x0 : Int32) (σ : Sto) : Option (Int32 × Sto) :=
  nmS (x0 - ((x0.toUInt32 >>> ((1 : Int32).toUInt32 &&& Int32.toUInt32 31)).toInt32 &&& (1431655765 : Int32))) fun y101 => nmS ((y101 &&& (858993459 : Int32)) + ((y101.toUInt32 >>> ((2 : Int32).toUInt32 &&& Int32.toUInt32 31)).toInt32 &&& (858993459 : Int32))) fun y102 => nmS ((y102 + (y102.toUInt32 >>> ((4 : Int32).toUInt32 &&& Int32.toUInt32 31)).toInt32) &&& (252645135 : Int32)) fun y103 => nmS (y103 + (y103.toUInt32 >>> ((8 : Int32).toUInt32 &&& Int32.toUInt32 31)).toInt32) fun y104 => nmS (y104 + (y104.toUInt32 >>> ((16 : Int32).toUInt32 &&& Int32.toUInt32 31)).toInt32) fun y105 => some ((y105 &&& (63 : Int32)), σ)
set_option maxHeartbeats 4000000 in
set_option maxRecDepth 100000 in
theorem w_J6_bitCount_0f7a4 {p : Program} {l : Launch} {e : Env} {s : State} {m : MethodId} {args : Array Value} {below : List Frame} {meth : Method} {c : Code} {G : Gd} {B : Nat} (X : Cm p s m args meth c cJ6_bitCount_0f7a4 1 RJ6 G (some .int)) {r : Int32} {σr : Sto} (x0 : Int32) (σ : Sto) (hf : f_J6_bitCount_0f7a4 x0 σ = some (r, σr)) (H : Heap) (locs : List Loc) (hH : HX G layX B σ H) (hS : va_S (inW layX B) s.heap H locs) (ls : Array Slot) (hl : lv_has ls 1 [(0, .int x0)]) : WM p l e 0 s m args below meth c H locs G layX B (some (.int r)) σr (F0 m 0 ls []) := by
  unfold f_J6_bitCount_0f7a4 at hf
  have hx := X.1.1
  have hb := X.1.2.1
  refine lv_iload_n hx hb dJ6_bitCount_0f7a4_0 rfl (lv_at hl 0 rfl) ?_
  refine lv_iload_n hx hb dJ6_bitCount_0f7a4_1 rfl (lv_at hl 0 rfl) ?_
  refine lv_iconst (v := 1) hx hb dJ6_bitCount_0f7a4_2 (by decide) ?_
  refine lv_iushr hx hb dJ6_bitCount_0f7a4_3 rfl ?_
  refine lv_ldcw (v := 1431655765) hx hb X.1.2.2.2.1 (X.1.2.2.2.2.1 _ kc_RJ6_265) dJ6_bitCount_0f7a4_4 ?_
  refine lv_iand hx hb dJ6_bitCount_0f7a4_7 ?_
  refine lv_isub hx hb dJ6_bitCount_0f7a4_8 ?_
  refine lv_topi (fun y101 ey101 => ?_)
  replace hf := nmU hf ey101
  refine lv_istore_n (lv' := [(0, .int y101)]) hx hb dJ6_bitCount_0f7a4_9 rfl hl (by decide) rfl (fun ls hl => ?_)
  refine lv_iload_n hx hb dJ6_bitCount_0f7a4_10 rfl (lv_at hl 0 rfl) ?_
  refine lv_ldcw (v := 858993459) hx hb X.1.2.2.2.1 (X.1.2.2.2.2.1 _ kc_RJ6_266) dJ6_bitCount_0f7a4_11 ?_
  refine lv_iand hx hb dJ6_bitCount_0f7a4_14 ?_
  refine lv_iload_n hx hb dJ6_bitCount_0f7a4_15 rfl (lv_at hl 0 rfl) ?_
  refine lv_iconst (v := 2) hx hb dJ6_bitCount_0f7a4_16 (by decide) ?_
  refine lv_iushr hx hb dJ6_bitCount_0f7a4_17 rfl ?_
  refine lv_ldcw (v := 858993459) hx hb X.1.2.2.2.1 (X.1.2.2.2.2.1 _ kc_RJ6_266) dJ6_bitCount_0f7a4_18 ?_
  refine lv_iand hx hb dJ6_bitCount_0f7a4_21 ?_
  refine lv_iadd hx hb dJ6_bitCount_0f7a4_22 ?_
  refine lv_topi (fun y102 ey102 => ?_)
  replace hf := nmU hf ey102
  refine lv_istore_n (lv' := [(0, .int y102)]) hx hb dJ6_bitCount_0f7a4_23 rfl hl (by decide) rfl (fun ls hl => ?_)
  refine lv_iload_n hx hb dJ6_bitCount_0f7a4_24 rfl (lv_at hl 0 rfl) ?_
  refine lv_iload_n hx hb dJ6_bitCount_0f7a4_25 rfl (lv_at hl 0 rfl) ?_
  refine lv_iconst (v := 4) hx hb dJ6_bitCount_0f7a4_26 (by decide) ?_
  refine lv_iushr hx hb dJ6_bitCount_0f7a4_27 rfl ?_
  refine lv_iadd hx hb dJ6_bitCount_0f7a4_28 ?_
  refine lv_ldcw (v := 252645135) hx hb X.1.2.2.2.1 (X.1.2.2.2.2.1 _ kc_RJ6_267) dJ6_bitCount_0f7a4_29 ?_
  refine lv_iand hx hb dJ6_bitCount_0f7a4_32 ?_
  refine lv_topi (fun y103 ey103 => ?_)
  replace hf := nmU hf ey103
  refine lv_istore_n (lv' := [(0, .int y103)]) hx hb dJ6_bitCount_0f7a4_33 rfl hl (by decide) rfl (fun ls hl => ?_)
  refine lv_iload_n hx hb dJ6_bitCount_0f7a4_34 rfl (lv_at hl 0 rfl) ?_
  refine lv_iload_n hx hb dJ6_bitCount_0f7a4_35 rfl (lv_at hl 0 rfl) ?_
  refine lv_bipush (v := 8) hx hb dJ6_bitCount_0f7a4_36 (by decide) ?_
  refine lv_iushr hx hb dJ6_bitCount_0f7a4_38 rfl ?_
  refine lv_iadd hx hb dJ6_bitCount_0f7a4_39 ?_
  refine lv_topi (fun y104 ey104 => ?_)
  replace hf := nmU hf ey104
  refine lv_istore_n (lv' := [(0, .int y104)]) hx hb dJ6_bitCount_0f7a4_40 rfl hl (by decide) rfl (fun ls hl => ?_)
  refine lv_iload_n hx hb dJ6_bitCount_0f7a4_41 rfl (lv_at hl 0 rfl) ?_
  refine lv_iload_n hx hb dJ6_bitCount_0f7a4_42 rfl (lv_at hl 0 rfl) ?_
  refine lv_bipush (v := 16) hx hb dJ6_bitCount_0f7a4_43 (by decide) ?_
  refine lv_iushr hx hb dJ6_bitCount_0f7a4_45 rfl ?_
  refine lv_iadd hx hb dJ6_bitCount_0f7a4_46 ?_
  refine lv_topi (fun y105 ey105 => ?_)
  replace hf := nmU hf ey105
  refine lv_istore_n (lv' := [(0, .int y105)]) hx hb dJ6_bitCount_0f7a4_47 rfl hl (by decide) rfl (fun ls hl => ?_)
  refine lv_iload_n hx hb dJ6_bitCount_0f7a4_48 rfl (lv_at hl 0 rfl) ?_
  refine lv_bipush (v := 63) hx hb dJ6_bitCount_0f7a4_49 (by decide) ?_
  refine lv_iand hx hb dJ6_bitCount_0f7a4_51 ?_
  obtain ⟨rfl, rfl⟩ := rt2 hf
  exact g_iret X hH hS dJ6_bitCount_0f7a4_52
theorem c_J6_bitCount_0f7a4 (l : Launch) (G : Gd) (B : Nat) (x0 : Int32) (σ σr : Sto) (r : Int32) (hf : f_J6_bitCount_0f7a4 x0 σ = some (r, σr)) : Ct l G layX B yJ6_bitCount_0f7a4 cJ6_bitCount_0f7a4 1 (some .int) 0 [.int x0] (some (.int r)) σ σr :=
  Ct.ofW (by decide) (Nat.le_of_ble_eq_true rfl) (fun _ _ _ _ _ _ _ X hH hS ls hl => w_J6_bitCount_0f7a4 X x0 σ hf _ _ hH hS ls (show lv_has ls 1 [(0, .int x0)] from hl))
-- java/util/Arrays.fill([II)V  (D 0)
def b_J7_fill_53178_5 (c5 : Int32 → Int32 → Int32 → Sto → Option (Sto)) (k0 n0 : Nat) (v1 : Int32) (v2 : Int32) (v3 : Int32) (σ : Sto) : Option (Sto) :=
  if v3 ≤ v2 then (some σ) else (if (v2 < 0 ∨ n0 ≤ v2.toNatClampNeg) then none else nmS (pI σ k0 v2.toNatClampNeg v1) fun σ204 => c5 v1 (v2 + (1 : Int32)) v3 σ204)
set_option maxHeartbeats 4000000 in
set_option maxRecDepth 100000 in
theorem w_J7_fill_53178_5 {p : Program} {l : Launch} {e : Env} {s : State} {m : MethodId} {args : Array Value} {below : List Frame} {meth : Method} {c : Code} {G : Gd} {B : Nat} (X : Cm p s m args meth c cJ7_fill_53178 4 RJ7 G none) (c5 : Int32 → Int32 → Int32 → Sto → Option (Sto)) (k0 n0 : Nat) (h0 : (k0 < layX.2.2 ∧ layX.1 k0 = .inr (.int, n0))) {σr : Sto} (ih5 : ∀ (v1 : Int32) (v2 : Int32) (v3 : Int32) (σ : Sto) (H : Heap) (locs : List Loc) (ls : Array Slot), c5 v1 v2 v3 σ = some σr → HX G layX B σ H → va_S (inW layX B) s.heap H locs → lv_has ls 4 [(0, .ref (B + k0)), (1, .int v1), (2, .int v2), (3, .int v3)] → WM p l e 0 s m args below meth c H locs G layX B none σr (F0 m 5 ls [])) (v1 : Int32) (v2 : Int32) (v3 : Int32) (σ : Sto) (hf : b_J7_fill_53178_5 c5 k0 n0 v1 v2 v3 σ = some σr) (H : Heap) (locs : List Loc) (hH : HX G layX B σ H) (hS : va_S (inW layX B) s.heap H locs) (ls : Array Slot) (hl : lv_has ls 4 [(0, .ref (B + k0)), (1, .int v1), (2, .int v2), (3, .int v3)]) : WM p l e 0 s m args below meth c H locs G layX B none σr (F0 m 5 ls []) := by
  unfold b_J7_fill_53178_5 at hf
  have hx := X.1.1
  have hb := X.1.2.1
  refine lv_iload_n hx hb dJ7_fill_53178_5 rfl (lv_at hl 2 rfl) ?_
  refine lv_iload_n hx hb dJ7_fill_53178_6 rfl (lv_at hl 3 rfl) ?_
  refine lv_icmp_ge (tgt := 20) hx hb dJ7_fill_53178_7 (by decide) (fun q202 => ?_) (fun q202 => ?_)
  · replace hf := brT hf q202
    obtain rfl := rt1 hf
    exact g_vret X hH hS dJ7_fill_53178_20
  · replace hf := brF hf q202
    refine lv_aload_n hx hb dJ7_fill_53178_10 rfl (lv_at hl 0 rfl) ?_
    refine lv_iload_n hx hb dJ7_fill_53178_11 rfl (lv_at hl 2 rfl) ?_
    refine lv_iload_n hx hb dJ7_fill_53178_12 rfl (lv_at hl 1 rfl) ?_
    obtain ⟨q203, hf⟩ := chk hf
    refine g_iast (j := v2.toNatClampNeg) X.1 hH hS h0 q203 rfl dJ7_fill_53178_13 (fun H locs hH hS => ?_)
    obtain ⟨σ204, eσ204, hH⟩ := nmX hH
    replace hf := nmU hf eσ204
    refine lv_iinc (v := (v2 + (1 : Int32))) (lv' := [(2, .int (v2 + (1 : Int32))), (0, .ref (B + k0)), (1, .int v1), (3, .int v3)]) hx hb dJ7_fill_53178_14 hl (k := 2) rfl rfl (by decide) rfl (fun ls hl => ?_)
    refine lv_goto (tgt := 5) hx hb dJ7_fill_53178_17 (by decide) ?_
    exact ih5 v1 (v2 + (1 : Int32)) v3 σ204 _ _ _ hf hH hS (lv_sub hl [1, 2, 0, 3] rfl)
def l_J7_fill_53178_5 (k0 n0 : Nat) : Nat → Int32 → Int32 → Int32 → Sto → Option (Sto)
  | 0, _, _, _, _ => none
  | n + 1, v1, v2, v3, σ => b_J7_fill_53178_5 (l_J7_fill_53178_5 k0 n0 n) k0 n0 v1 v2 v3 σ
set_option maxHeartbeats 4000000 in
set_option maxRecDepth 100000 in
theorem wl_J7_fill_53178_5 {p : Program} {l : Launch} {e : Env} {s : State} {m : MethodId} {args : Array Value} {below : List Frame} {meth : Method} {c : Code} {G : Gd} {B : Nat} (X : Cm p s m args meth c cJ7_fill_53178 4 RJ7 G none) (k0 n0 : Nat) (h0 : (k0 < layX.2.2 ∧ layX.1 k0 = .inr (.int, n0))) {σr : Sto} (n : Nat) : ∀ (v1 : Int32) (v2 : Int32) (v3 : Int32) (σ : Sto) (H : Heap) (locs : List Loc) (ls : Array Slot), l_J7_fill_53178_5 k0 n0 n v1 v2 v3 σ = some σr → HX G layX B σ H → va_S (inW layX B) s.heap H locs → lv_has ls 4 [(0, .ref (B + k0)), (1, .int v1), (2, .int v2), (3, .int v3)] → WM p l e 0 s m args below meth c H locs G layX B none σr (F0 m 5 ls []) := by
  induction n with
  | zero =>
    intro _ _ _ σ H locs ls hf
    cases hf
  | succ n ih =>
    intro v1 v2 v3 σ H locs ls hf hH hS hl
    exact w_J7_fill_53178_5 X (l_J7_fill_53178_5 k0 n0 n) k0 n0 h0 ih v1 v2 v3 σ hf H locs hH hS ls hl
def f_J7_fill_53178 (k0 n0 : Nat) (x1 : Int32) (σ : Sto) : Option (Sto) :=
  nmS (nI n0) fun y101 => l_J7_fill_53178_5 k0 n0 400 x1 (0 : Int32) y101 σ
set_option maxHeartbeats 4000000 in
set_option maxRecDepth 100000 in
theorem w_J7_fill_53178 {p : Program} {l : Launch} {e : Env} {s : State} {m : MethodId} {args : Array Value} {below : List Frame} {meth : Method} {c : Code} {G : Gd} {B : Nat} (X : Cm p s m args meth c cJ7_fill_53178 4 RJ7 G none) (k0 n0 : Nat) (h0 : (k0 < layX.2.2 ∧ layX.1 k0 = .inr (.int, n0))) {σr : Sto} (x1 : Int32) (σ : Sto) (hf : f_J7_fill_53178 k0 n0 x1 σ = some σr) (H : Heap) (locs : List Loc) (hH : HX G layX B σ H) (hS : va_S (inW layX B) s.heap H locs) (ls : Array Slot) (hl : lv_has ls 4 [(0, .ref (B + k0)), (1, .int x1)]) : WM p l e 0 s m args below meth c H locs G layX B none σr (F0 m 0 ls []) := by
  unfold f_J7_fill_53178 at hf
  have hx := X.1.1
  have hb := X.1.2.1
  refine lv_iconst (v := 0) hx hb dJ7_fill_53178_0 (by decide) ?_
  refine lv_istore_n (lv' := [(2, .int (0 : Int32)), (0, .ref (B + k0)), (1, .int x1)]) hx hb dJ7_fill_53178_1 rfl hl (by decide) rfl (fun ls hl => ?_)
  refine lv_aload_n hx hb dJ7_fill_53178_2 rfl (lv_at hl 1 rfl) ?_
  refine g_alen X.1 hH h0 (by decide) dJ7_fill_53178_3 ?_
  refine lv_topi (fun y101 ey101 => ?_)
  replace hf := nmU hf ey101
  refine lv_istore_n (lv' := [(3, .int y101), (2, .int (0 : Int32)), (0, .ref (B + k0)), (1, .int x1)]) hx hb dJ7_fill_53178_4 rfl hl (by decide) rfl (fun ls hl => ?_)
  exact wl_J7_fill_53178_5 X k0 n0 h0 400 x1 (0 : Int32) y101 σ _ _ _ hf hH hS (lv_sub hl [2, 3, 1, 0] rfl)
theorem c_J7_fill_53178 (l : Launch) (G : Gd) (B : Nat) (k0 n0 : Nat) (h0 : (k0 < layX.2.2 ∧ layX.1 k0 = .inr (.int, n0))) (x1 : Int32) (σ σr : Sto) (hf : f_J7_fill_53178 k0 n0 x1 σ = some σr) : Ct l G layX B yJ7_fill_53178 cJ7_fill_53178 4 none 0 [.ref (B + k0), .int x1] none σ σr :=
  Ct.ofW (by decide) (Nat.le_of_ble_eq_true rfl) (fun _ _ _ _ _ _ _ X hH hS ls hl => w_J7_fill_53178 X k0 n0 h0 x1 σ hf _ _ hH hS ls (show lv_has ls 4 [(0, .ref (B + k0)), (1, .int x1)] from hl))
-- java/util/Arrays.fill([JJ)V  (D 0)
def b_J7_fill_d0a16_6 (c6 : Int64 → Int32 → Int32 → Sto → Option (Sto)) (k0 n0 : Nat) (v1 : Int64) (v3 : Int32) (v4 : Int32) (σ : Sto) : Option (Sto) :=
  if v4 ≤ v3 then (some σ) else (if (v3 < 0 ∨ n0 ≤ v3.toNatClampNeg) then none else nmS (pL σ k0 v3.toNatClampNeg v1) fun σ204 => c6 v1 (v3 + (1 : Int32)) v4 σ204)
set_option maxHeartbeats 4000000 in
set_option maxRecDepth 100000 in
theorem w_J7_fill_d0a16_6 {p : Program} {l : Launch} {e : Env} {s : State} {m : MethodId} {args : Array Value} {below : List Frame} {meth : Method} {c : Code} {G : Gd} {B : Nat} (X : Cm p s m args meth c cJ7_fill_d0a16 5 RJ7 G none) (c6 : Int64 → Int32 → Int32 → Sto → Option (Sto)) (k0 n0 : Nat) (h0 : (k0 < layX.2.2 ∧ layX.1 k0 = .inr (.long, n0))) {σr : Sto} (ih6 : ∀ (v1 : Int64) (v3 : Int32) (v4 : Int32) (σ : Sto) (H : Heap) (locs : List Loc) (ls : Array Slot), c6 v1 v3 v4 σ = some σr → HX G layX B σ H → va_S (inW layX B) s.heap H locs → lv_has ls 5 [(0, .ref (B + k0)), (1, .long v1), (3, .int v3), (4, .int v4)] → WM p l e 0 s m args below meth c H locs G layX B none σr (F0 m 6 ls [])) (v1 : Int64) (v3 : Int32) (v4 : Int32) (σ : Sto) (hf : b_J7_fill_d0a16_6 c6 k0 n0 v1 v3 v4 σ = some σr) (H : Heap) (locs : List Loc) (hH : HX G layX B σ H) (hS : va_S (inW layX B) s.heap H locs) (ls : Array Slot) (hl : lv_has ls 5 [(0, .ref (B + k0)), (1, .long v1), (3, .int v3), (4, .int v4)]) : WM p l e 0 s m args below meth c H locs G layX B none σr (F0 m 6 ls []) := by
  unfold b_J7_fill_d0a16_6 at hf
  have hx := X.1.1
  have hb := X.1.2.1
  refine lv_iload_n hx hb dJ7_fill_d0a16_6 rfl (lv_at hl 2 rfl) ?_
  refine lv_iload hx hb dJ7_fill_d0a16_7 (lv_at hl 3 rfl) ?_
  refine lv_icmp_ge (tgt := 22) hx hb dJ7_fill_d0a16_9 (by decide) (fun q202 => ?_) (fun q202 => ?_)
  · replace hf := brT hf q202
    obtain rfl := rt1 hf
    exact g_vret X hH hS dJ7_fill_d0a16_22
  · replace hf := brF hf q202
    refine lv_aload_n hx hb dJ7_fill_d0a16_12 rfl (lv_at hl 0 rfl) ?_
    refine lv_iload_n hx hb dJ7_fill_d0a16_13 rfl (lv_at hl 2 rfl) ?_
    refine lv_lload_n hx hb dJ7_fill_d0a16_14 rfl (lv_at hl 1 rfl) ?_
    obtain ⟨q203, hf⟩ := chk hf
    refine g_last (j := v3.toNatClampNeg) X.1 hH hS h0 q203 rfl dJ7_fill_d0a16_15 (fun H locs hH hS => ?_)
    obtain ⟨σ204, eσ204, hH⟩ := nmX hH
    replace hf := nmU hf eσ204
    refine lv_iinc (v := (v3 + (1 : Int32))) (lv' := [(3, .int (v3 + (1 : Int32))), (0, .ref (B + k0)), (1, .long v1), (4, .int v4)]) hx hb dJ7_fill_d0a16_16 hl (k := 2) rfl rfl (by decide) rfl (fun ls hl => ?_)
    refine lv_goto (tgt := 6) hx hb dJ7_fill_d0a16_19 (by decide) ?_
    exact ih6 v1 (v3 + (1 : Int32)) v4 σ204 _ _ _ hf hH hS (lv_sub hl [1, 2, 0, 3] rfl)
def l_J7_fill_d0a16_6 (k0 n0 : Nat) : Nat → Int64 → Int32 → Int32 → Sto → Option (Sto)
  | 0, _, _, _, _ => none
  | n + 1, v1, v3, v4, σ => b_J7_fill_d0a16_6 (l_J7_fill_d0a16_6 k0 n0 n) k0 n0 v1 v3 v4 σ
set_option maxHeartbeats 4000000 in
set_option maxRecDepth 100000 in
theorem wl_J7_fill_d0a16_6 {p : Program} {l : Launch} {e : Env} {s : State} {m : MethodId} {args : Array Value} {below : List Frame} {meth : Method} {c : Code} {G : Gd} {B : Nat} (X : Cm p s m args meth c cJ7_fill_d0a16 5 RJ7 G none) (k0 n0 : Nat) (h0 : (k0 < layX.2.2 ∧ layX.1 k0 = .inr (.long, n0))) {σr : Sto} (n : Nat) : ∀ (v1 : Int64) (v3 : Int32) (v4 : Int32) (σ : Sto) (H : Heap) (locs : List Loc) (ls : Array Slot), l_J7_fill_d0a16_6 k0 n0 n v1 v3 v4 σ = some σr → HX G layX B σ H → va_S (inW layX B) s.heap H locs → lv_has ls 5 [(0, .ref (B + k0)), (1, .long v1), (3, .int v3), (4, .int v4)] → WM p l e 0 s m args below meth c H locs G layX B none σr (F0 m 6 ls []) := by
  induction n with
  | zero =>
    intro _ _ _ σ H locs ls hf
    cases hf
  | succ n ih =>
    intro v1 v3 v4 σ H locs ls hf hH hS hl
    exact w_J7_fill_d0a16_6 X (l_J7_fill_d0a16_6 k0 n0 n) k0 n0 h0 ih v1 v3 v4 σ hf H locs hH hS ls hl
def f_J7_fill_d0a16 (k0 n0 : Nat) (x1 : Int64) (σ : Sto) : Option (Sto) :=
  nmS (nI n0) fun y101 => l_J7_fill_d0a16_6 k0 n0 400 x1 (0 : Int32) y101 σ
set_option maxHeartbeats 4000000 in
set_option maxRecDepth 100000 in
theorem w_J7_fill_d0a16 {p : Program} {l : Launch} {e : Env} {s : State} {m : MethodId} {args : Array Value} {below : List Frame} {meth : Method} {c : Code} {G : Gd} {B : Nat} (X : Cm p s m args meth c cJ7_fill_d0a16 5 RJ7 G none) (k0 n0 : Nat) (h0 : (k0 < layX.2.2 ∧ layX.1 k0 = .inr (.long, n0))) {σr : Sto} (x1 : Int64) (σ : Sto) (hf : f_J7_fill_d0a16 k0 n0 x1 σ = some σr) (H : Heap) (locs : List Loc) (hH : HX G layX B σ H) (hS : va_S (inW layX B) s.heap H locs) (ls : Array Slot) (hl : lv_has ls 5 [(0, .ref (B + k0)), (1, .long x1)]) : WM p l e 0 s m args below meth c H locs G layX B none σr (F0 m 0 ls []) := by
  unfold f_J7_fill_d0a16 at hf
  have hx := X.1.1
  have hb := X.1.2.1
  refine lv_iconst (v := 0) hx hb dJ7_fill_d0a16_0 (by decide) ?_
  refine lv_istore_n (lv' := [(3, .int (0 : Int32)), (0, .ref (B + k0)), (1, .long x1)]) hx hb dJ7_fill_d0a16_1 rfl hl (by decide) rfl (fun ls hl => ?_)
  refine lv_aload_n hx hb dJ7_fill_d0a16_2 rfl (lv_at hl 1 rfl) ?_
  refine g_alen X.1 hH h0 (by decide) dJ7_fill_d0a16_3 ?_
  refine lv_topi (fun y101 ey101 => ?_)
  replace hf := nmU hf ey101
  refine lv_istore (lv' := [(4, .int y101), (3, .int (0 : Int32)), (0, .ref (B + k0)), (1, .long x1)]) hx hb dJ7_fill_d0a16_4 hl (by decide) rfl (fun ls hl => ?_)
  exact wl_J7_fill_d0a16_6 X k0 n0 h0 400 x1 (0 : Int32) y101 σ _ _ _ hf hH hS (lv_sub hl [2, 3, 1, 0] rfl)
theorem c_J7_fill_d0a16 (l : Launch) (G : Gd) (B : Nat) (k0 n0 : Nat) (h0 : (k0 < layX.2.2 ∧ layX.1 k0 = .inr (.long, n0))) (x1 : Int64) (σ σr : Sto) (hf : f_J7_fill_d0a16 k0 n0 x1 σ = some σr) : Ct l G layX B yJ7_fill_d0a16 cJ7_fill_d0a16 5 none 0 [.ref (B + k0), .long x1] none σ σr :=
  Ct.ofW (by decide) (Nat.le_of_ble_eq_true rfl) (fun _ _ _ _ _ _ _ X hH hS ls hl => w_J7_fill_d0a16 X k0 n0 h0 x1 σ hf _ _ hH hS ls (show lv_has ls 5 [(0, .ref (B + k0)), (1, .long x1)] from hl))
-- SlackProofs$Acts.forget()V  (D 0)
def f_X0_forget (σ : Sto) : Option (Sto) :=
  nmS (pI σ 223 3 (0 : Int32)) fun σ101 => nmS (pI σ101 223 4 (0 : Int32)) fun σ102 => some σ102
set_option maxHeartbeats 4000000 in
set_option maxRecDepth 100000 in
theorem w_X0_forget {p : Program} {l : Launch} {e : Env} {s : State} {m : MethodId} {args : Array Value} {below : List Frame} {meth : Method} {c : Code} {G : Gd} {B : Nat} (X : Cm p s m args meth c cX0_forget 1 RX0 G none) {σr : Sto} (σ : Sto) (hf : f_X0_forget σ = some σr) (H : Heap) (locs : List Loc) (hH : HX G layX B σ H) (hS : va_S (inW layX B) s.heap H locs) (ls : Array Slot) (hl : lv_has ls 1 [(0, .ref (B + 223))]) : WM p l e 0 s m args below meth c H locs G layX B none σr (F0 m 0 ls []) := by
  unfold f_X0_forget at hf
  have hx := X.1.1
  have hb := X.1.2.1
  refine lv_aload_n hx hb dX0_forget_0 rfl (lv_at hl 0 rfl) ?_
  refine lv_iconst (v := 0) hx hb dX0_forget_1 (by decide) ?_
  refine g_putI kX0 (by decide) fl_RX0_21 rfl rfl X.1 hH hS kx_223 dX0_forget_2 (fun H locs hH hS => ?_)
  obtain ⟨σ101, eσ101, hH⟩ := nmX hH
  replace hf := nmU hf eσ101
  refine lv_aload_n hx hb dX0_forget_5 rfl (lv_at hl 0 rfl) ?_
  refine lv_iconst (v := 0) hx hb dX0_forget_6 (by decide) ?_
  refine g_putI kX0 (by decide) fl_RX0_25 rfl rfl X.1 hH hS kx_223 dX0_forget_7 (fun H locs hH hS => ?_)
  obtain ⟨σ102, eσ102, hH⟩ := nmX hH
  replace hf := nmU hf eσ102
  obtain rfl := rt1 hf
  exact g_vret X hH hS dX0_forget_10
theorem c_X0_forget (l : Launch) (G : Gd) (B : Nat) (σ σr : Sto) (hf : f_X0_forget σ = some σr) : Ct l G layX B yX0_forget cX0_forget 1 none 0 [.ref (B + 223)] none σ σr :=
  Ct.ofW (by decide) (Nat.le_of_ble_eq_true rfl) (fun _ _ _ _ _ _ _ X hH hS ls hl => w_X0_forget X σ hf _ _ hH hS ls (show lv_has ls 1 [(0, .ref (B + 223))] from hl))
-- SlackProofs$Acts.keep(LSlackProofs$Book;)V  (D 0)
def b_X0_keep_32 (k0 : Nat) (σ : Sto) : Option (Sto) :=
  nmS (((σ.1 223 3) + (σ.1 223 4)) - ((σ.1 223 3) + (σ.1 223 4)) / (12 : Int32) * (12 : Int32)) fun y202 => if (y202 < 0 ∨ 12 ≤ y202.toNatClampNeg) then none else nmS (pI σ 224 y202.toNatClampNeg (σ.1 k0 3)) fun σ204 => if (y202 < 0 ∨ 12 ≤ y202.toNatClampNeg) then none else nmS (pI σ204 225 y202.toNatClampNeg (σ204.1 k0 4)) fun σ206 => if (y202 < 0 ∨ 12 ≤ y202.toNatClampNeg) then none else nmS (pI σ206 226 y202.toNatClampNeg (σ206.1 k0 5)) fun σ208 => nmS (pI σ208 223 4 ((σ208.1 223 4) + (1 : Int32))) fun σ209 => some σ209
set_option maxHeartbeats 4000000 in
set_option maxRecDepth 100000 in
theorem w_X0_keep_32 {p : Program} {l : Launch} {e : Env} {s : State} {m : MethodId} {args : Array Value} {below : List Frame} {meth : Method} {c : Code} {G : Gd} {B : Nat} (X : Cm p s m args meth c cX0_keep 3 RX0 G none) (k0 : Nat) (h0 : (k0 < layX.2.2 ∧ layX.1 k0 = .inl 2)) {σr : Sto} (σ : Sto) (hf : b_X0_keep_32 k0 σ = some σr) (H : Heap) (locs : List Loc) (hH : HX G layX B σ H) (hS : va_S (inW layX B) s.heap H locs) (ls : Array Slot) (hl : lv_has ls 3 [(0, .ref (B + 223)), (1, .ref (B + k0))]) : WM p l e 0 s m args below meth c H locs G layX B none σr (F0 m 32 ls []) := by
  unfold b_X0_keep_32 at hf
  have hx := X.1.1
  have hb := X.1.2.1
  refine lv_aload_n hx hb dX0_keep_32 rfl (lv_at hl 0 rfl) ?_
  refine g_get (v := .int (σ.1 223 3)) kX0 (by decide) fl_RX0_21 X.1 hH kx_223 rfl dX0_keep_33 ?_
  refine lv_aload_n hx hb dX0_keep_36 rfl (lv_at hl 0 rfl) ?_
  refine g_get (v := .int (σ.1 223 4)) kX0 (by decide) fl_RX0_25 X.1 hH kx_223 rfl dX0_keep_37 ?_
  refine lv_iadd hx hb dX0_keep_40 ?_
  refine lv_bipush (v := 12) hx hb dX0_keep_41 (by decide) ?_
  refine lv_irem hx hb dX0_keep_43 (by decide) ?_
  refine lv_topi (fun y202 ey202 => ?_)
  replace hf := nmU hf ey202
  refine lv_istore_n (lv' := [(2, .int y202), (0, .ref (B + 223)), (1, .ref (B + k0))]) hx hb dX0_keep_44 rfl hl (by decide) rfl (fun ls hl => ?_)
  refine lv_aload_n hx hb dX0_keep_45 rfl (lv_at hl 1 rfl) ?_
  refine g_get (v := .ref (B + 224)) kX0 (by decide) fl_RX0_9 X.1 hH kx_223 rfl dX0_keep_46 ?_
  refine lv_iload_n hx hb dX0_keep_49 rfl (lv_at hl 0 rfl) ?_
  refine lv_aload_n hx hb dX0_keep_50 rfl (lv_at hl 2 rfl) ?_
  refine g_get (v := .int (σ.1 k0 3)) kX2 (by decide) fl_RX0_28 X.1 hH h0 rfl dX0_keep_51 ?_
  obtain ⟨q203, hf⟩ := chk hf
  refine g_iast (j := y202.toNatClampNeg) X.1 hH hS kx_224 q203 rfl dX0_keep_54 (fun H locs hH hS => ?_)
  obtain ⟨σ204, eσ204, hH⟩ := nmX hH
  replace hf := nmU hf eσ204
  refine lv_aload_n hx hb dX0_keep_55 rfl (lv_at hl 1 rfl) ?_
  refine g_get (v := .ref (B + 225)) kX0 (by decide) fl_RX0_15 X.1 hH kx_223 rfl dX0_keep_56 ?_
  refine lv_iload_n hx hb dX0_keep_59 rfl (lv_at hl 0 rfl) ?_
  refine lv_aload_n hx hb dX0_keep_60 rfl (lv_at hl 2 rfl) ?_
  refine g_get (v := .int (σ204.1 k0 4)) kX2 (by decide) fl_RX0_32 X.1 hH h0 rfl dX0_keep_61 ?_
  obtain ⟨q205, hf⟩ := chk hf
  refine g_iast (j := y202.toNatClampNeg) X.1 hH hS kx_225 q205 rfl dX0_keep_64 (fun H locs hH hS => ?_)
  obtain ⟨σ206, eσ206, hH⟩ := nmX hH
  replace hf := nmU hf eσ206
  refine lv_aload_n hx hb dX0_keep_65 rfl (lv_at hl 1 rfl) ?_
  refine g_get (v := .ref (B + 226)) kX0 (by decide) fl_RX0_18 X.1 hH kx_223 rfl dX0_keep_66 ?_
  refine lv_iload_n hx hb dX0_keep_69 rfl (lv_at hl 0 rfl) ?_
  refine lv_aload_n hx hb dX0_keep_70 rfl (lv_at hl 2 rfl) ?_
  refine g_get (v := .int (σ206.1 k0 5)) kX2 (by decide) fl_RX0_34 X.1 hH h0 rfl dX0_keep_71 ?_
  obtain ⟨q207, hf⟩ := chk hf
  refine g_iast (j := y202.toNatClampNeg) X.1 hH hS kx_226 q207 rfl dX0_keep_74 (fun H locs hH hS => ?_)
  obtain ⟨σ208, eσ208, hH⟩ := nmX hH
  replace hf := nmU hf eσ208
  refine lv_aload_n hx hb dX0_keep_75 rfl (lv_at hl 1 rfl) ?_
  refine lv_dup hx hb dX0_keep_76 rfl ?_
  refine g_get (v := .int (σ208.1 223 4)) kX0 (by decide) fl_RX0_25 X.1 hH kx_223 rfl dX0_keep_77 ?_
  refine lv_iconst (v := 1) hx hb dX0_keep_80 (by decide) ?_
  refine lv_iadd hx hb dX0_keep_81 ?_
  refine g_putI kX0 (by decide) fl_RX0_25 rfl rfl X.1 hH hS kx_223 dX0_keep_82 (fun H locs hH hS => ?_)
  obtain ⟨σ209, eσ209, hH⟩ := nmX hH
  replace hf := nmU hf eσ209
  obtain rfl := rt1 hf
  exact g_vret X hH hS dX0_keep_85
def f_X0_keep (k0 : Nat) (σ : Sto) : Option (Sto) :=
  if (σ.1 223 4) = (12 : Int32) then (nmS (pI σ 223 3 (((σ.1 223 3) + (1 : Int32)) - ((σ.1 223 3) + (1 : Int32)) / (12 : Int32) * (12 : Int32))) fun σ210 => nmS (pI σ210 223 4 ((σ210.1 223 4) - (1 : Int32))) fun σ211 => b_X0_keep_32 k0 σ211) else (b_X0_keep_32 k0 σ)
set_option maxHeartbeats 4000000 in
set_option maxRecDepth 100000 in
theorem w_X0_keep {p : Program} {l : Launch} {e : Env} {s : State} {m : MethodId} {args : Array Value} {below : List Frame} {meth : Method} {c : Code} {G : Gd} {B : Nat} (X : Cm p s m args meth c cX0_keep 3 RX0 G none) (k0 : Nat) (h0 : (k0 < layX.2.2 ∧ layX.1 k0 = .inl 2)) {σr : Sto} (σ : Sto) (hf : f_X0_keep k0 σ = some σr) (H : Heap) (locs : List Loc) (hH : HX G layX B σ H) (hS : va_S (inW layX B) s.heap H locs) (ls : Array Slot) (hl : lv_has ls 3 [(0, .ref (B + 223)), (1, .ref (B + k0))]) : WM p l e 0 s m args below meth c H locs G layX B none σr (F0 m 0 ls []) := by
  unfold f_X0_keep at hf
  have hx := X.1.1
  have hb := X.1.2.1
  refine lv_aload_n hx hb dX0_keep_0 rfl (lv_at hl 0 rfl) ?_
  refine g_get (v := .int (σ.1 223 4)) kX0 (by decide) fl_RX0_25 X.1 hH kx_223 rfl dX0_keep_1 ?_
  refine lv_bipush (v := 12) hx hb dX0_keep_4 (by decide) ?_
  refine lv_icmp_ne (tgt := 32) hx hb dX0_keep_6 (by decide) (fun q101 => ?_) (fun q101 => ?_)
  · replace hf := brF hf q101
    exact w_X0_keep_32 X k0 h0 σ hf _ _ hH hS _ (lv_sub hl [0, 1] rfl)
  · replace hf := brT hf q101
    refine lv_aload_n hx hb dX0_keep_9 rfl (lv_at hl 0 rfl) ?_
    refine lv_aload_n hx hb dX0_keep_10 rfl (lv_at hl 0 rfl) ?_
    refine g_get (v := .int (σ.1 223 3)) kX0 (by decide) fl_RX0_21 X.1 hH kx_223 rfl dX0_keep_11 ?_
    refine lv_iconst (v := 1) hx hb dX0_keep_14 (by decide) ?_
    refine lv_iadd hx hb dX0_keep_15 ?_
    refine lv_bipush (v := 12) hx hb dX0_keep_16 (by decide) ?_
    refine lv_irem hx hb dX0_keep_18 (by decide) ?_
    refine g_putI kX0 (by decide) fl_RX0_21 rfl rfl X.1 hH hS kx_223 dX0_keep_19 (fun H locs hH hS => ?_)
    obtain ⟨σ210, eσ210, hH⟩ := nmX hH
    replace hf := nmU hf eσ210
    refine lv_aload_n hx hb dX0_keep_22 rfl (lv_at hl 0 rfl) ?_
    refine lv_dup hx hb dX0_keep_23 rfl ?_
    refine g_get (v := .int (σ210.1 223 4)) kX0 (by decide) fl_RX0_25 X.1 hH kx_223 rfl dX0_keep_24 ?_
    refine lv_iconst (v := 1) hx hb dX0_keep_27 (by decide) ?_
    refine lv_isub hx hb dX0_keep_28 ?_
    refine g_putI kX0 (by decide) fl_RX0_25 rfl rfl X.1 hH hS kx_223 dX0_keep_29 (fun H locs hH hS => ?_)
    obtain ⟨σ211, eσ211, hH⟩ := nmX hH
    replace hf := nmU hf eσ211
    exact w_X0_keep_32 X k0 h0 σ211 hf _ _ hH hS _ (lv_sub hl [0, 1] rfl)
theorem c_X0_keep (l : Launch) (G : Gd) (B : Nat) (k0 : Nat) (h0 : (k0 < layX.2.2 ∧ layX.1 k0 = .inl 2)) (σ σr : Sto) (hf : f_X0_keep k0 σ = some σr) : Ct l G layX B yX0_keep cX0_keep 3 none 0 [.ref (B + 223), .ref (B + k0)] none σ σr :=
  Ct.ofW (by decide) (Nat.le_of_ble_eq_true rfl) (fun _ _ _ _ _ _ _ X hH hS ls hl => w_X0_keep X k0 h0 σ hf _ _ hH hS ls (show lv_has ls 3 [(0, .ref (B + 223)), (1, .ref (B + k0))] from hl))
-- SlackProofs$Acts.takeBack(LSlackProofs$Book;)I  (D 0)
def f_X0_takeBack (k0 : Nat) (σ : Sto) : Option (Int32 × Sto) :=
  nmS (pI σ 223 4 ((σ.1 223 4) - (1 : Int32))) fun σ101 => nmS (((σ101.1 223 3) + (σ101.1 223 4)) - ((σ101.1 223 3) + (σ101.1 223 4)) / (12 : Int32) * (12 : Int32)) fun y102 => if (y102 < 0 ∨ 12 ≤ y102.toNatClampNeg) then none else nmS (pI σ101 k0 3 (σ101.1 224 y102.toNatClampNeg)) fun σ104 => if (y102 < 0 ∨ 12 ≤ y102.toNatClampNeg) then none else nmS (pI σ104 k0 4 (σ104.1 225 y102.toNatClampNeg)) fun σ106 => if (y102 < 0 ∨ 12 ≤ y102.toNatClampNeg) then none else nmS (pI σ106 k0 5 (σ106.1 226 y102.toNatClampNeg)) fun σ108 => some ((σ108.1 223 4), σ108)
set_option maxHeartbeats 4000000 in
set_option maxRecDepth 100000 in
theorem w_X0_takeBack {p : Program} {l : Launch} {e : Env} {s : State} {m : MethodId} {args : Array Value} {below : List Frame} {meth : Method} {c : Code} {G : Gd} {B : Nat} (X : Cm p s m args meth c cX0_takeBack 3 RX0 G (some .int)) (k0 : Nat) (h0 : (k0 < layX.2.2 ∧ layX.1 k0 = .inl 2)) {r : Int32} {σr : Sto} (σ : Sto) (hf : f_X0_takeBack k0 σ = some (r, σr)) (H : Heap) (locs : List Loc) (hH : HX G layX B σ H) (hS : va_S (inW layX B) s.heap H locs) (ls : Array Slot) (hl : lv_has ls 3 [(0, .ref (B + 223)), (1, .ref (B + k0))]) : WM p l e 0 s m args below meth c H locs G layX B (some (.int r)) σr (F0 m 0 ls []) := by
  unfold f_X0_takeBack at hf
  have hx := X.1.1
  have hb := X.1.2.1
  refine lv_aload_n hx hb dX0_takeBack_0 rfl (lv_at hl 0 rfl) ?_
  refine lv_dup hx hb dX0_takeBack_1 rfl ?_
  refine g_get (v := .int (σ.1 223 4)) kX0 (by decide) fl_RX0_25 X.1 hH kx_223 rfl dX0_takeBack_2 ?_
  refine lv_iconst (v := 1) hx hb dX0_takeBack_5 (by decide) ?_
  refine lv_isub hx hb dX0_takeBack_6 ?_
  refine g_putI kX0 (by decide) fl_RX0_25 rfl rfl X.1 hH hS kx_223 dX0_takeBack_7 (fun H locs hH hS => ?_)
  obtain ⟨σ101, eσ101, hH⟩ := nmX hH
  replace hf := nmU hf eσ101
  refine lv_aload_n hx hb dX0_takeBack_10 rfl (lv_at hl 0 rfl) ?_
  refine g_get (v := .int (σ101.1 223 3)) kX0 (by decide) fl_RX0_21 X.1 hH kx_223 rfl dX0_takeBack_11 ?_
  refine lv_aload_n hx hb dX0_takeBack_14 rfl (lv_at hl 0 rfl) ?_
  refine g_get (v := .int (σ101.1 223 4)) kX0 (by decide) fl_RX0_25 X.1 hH kx_223 rfl dX0_takeBack_15 ?_
  refine lv_iadd hx hb dX0_takeBack_18 ?_
  refine lv_bipush (v := 12) hx hb dX0_takeBack_19 (by decide) ?_
  refine lv_irem hx hb dX0_takeBack_21 (by decide) ?_
  refine lv_topi (fun y102 ey102 => ?_)
  replace hf := nmU hf ey102
  refine lv_istore_n (lv' := [(2, .int y102), (0, .ref (B + 223)), (1, .ref (B + k0))]) hx hb dX0_takeBack_22 rfl hl (by decide) rfl (fun ls hl => ?_)
  refine lv_aload_n hx hb dX0_takeBack_23 rfl (lv_at hl 2 rfl) ?_
  refine lv_aload_n hx hb dX0_takeBack_24 rfl (lv_at hl 1 rfl) ?_
  refine g_get (v := .ref (B + 224)) kX0 (by decide) fl_RX0_9 X.1 hH kx_223 rfl dX0_takeBack_25 ?_
  refine lv_iload_n hx hb dX0_takeBack_28 rfl (lv_at hl 0 rfl) ?_
  obtain ⟨q103, hf⟩ := chk hf
  refine g_iald (j := y102.toNatClampNeg) X.1 hH kx_224 q103 rfl dX0_takeBack_29 ?_
  refine g_putI kX2 (by decide) fl_RX0_28 rfl rfl X.1 hH hS h0 dX0_takeBack_30 (fun H locs hH hS => ?_)
  obtain ⟨σ104, eσ104, hH⟩ := nmX hH
  replace hf := nmU hf eσ104
  refine lv_aload_n hx hb dX0_takeBack_33 rfl (lv_at hl 2 rfl) ?_
  refine lv_aload_n hx hb dX0_takeBack_34 rfl (lv_at hl 1 rfl) ?_
  refine g_get (v := .ref (B + 225)) kX0 (by decide) fl_RX0_15 X.1 hH kx_223 rfl dX0_takeBack_35 ?_
  refine lv_iload_n hx hb dX0_takeBack_38 rfl (lv_at hl 0 rfl) ?_
  obtain ⟨q105, hf⟩ := chk hf
  refine g_iald (j := y102.toNatClampNeg) X.1 hH kx_225 q105 rfl dX0_takeBack_39 ?_
  refine g_putI kX2 (by decide) fl_RX0_32 rfl rfl X.1 hH hS h0 dX0_takeBack_40 (fun H locs hH hS => ?_)
  obtain ⟨σ106, eσ106, hH⟩ := nmX hH
  replace hf := nmU hf eσ106
  refine lv_aload_n hx hb dX0_takeBack_43 rfl (lv_at hl 2 rfl) ?_
  refine lv_aload_n hx hb dX0_takeBack_44 rfl (lv_at hl 1 rfl) ?_
  refine g_get (v := .ref (B + 226)) kX0 (by decide) fl_RX0_18 X.1 hH kx_223 rfl dX0_takeBack_45 ?_
  refine lv_iload_n hx hb dX0_takeBack_48 rfl (lv_at hl 0 rfl) ?_
  obtain ⟨q107, hf⟩ := chk hf
  refine g_iald (j := y102.toNatClampNeg) X.1 hH kx_226 q107 rfl dX0_takeBack_49 ?_
  refine g_putI kX2 (by decide) fl_RX0_34 rfl rfl X.1 hH hS h0 dX0_takeBack_50 (fun H locs hH hS => ?_)
  obtain ⟨σ108, eσ108, hH⟩ := nmX hH
  replace hf := nmU hf eσ108
  refine lv_aload_n hx hb dX0_takeBack_53 rfl (lv_at hl 1 rfl) ?_
  refine g_get (v := .int (σ108.1 223 4)) kX0 (by decide) fl_RX0_25 X.1 hH kx_223 rfl dX0_takeBack_54 ?_
  obtain ⟨rfl, rfl⟩ := rt2 hf
  exact g_iret X hH hS dX0_takeBack_57
theorem c_X0_takeBack (l : Launch) (G : Gd) (B : Nat) (k0 : Nat) (h0 : (k0 < layX.2.2 ∧ layX.1 k0 = .inl 2)) (σ σr : Sto) (r : Int32) (hf : f_X0_takeBack k0 σ = some (r, σr)) : Ct l G layX B yX0_takeBack cX0_takeBack 3 (some .int) 0 [.ref (B + 223), .ref (B + k0)] (some (.int r)) σ σr :=
  Ct.ofW (by decide) (Nat.le_of_ble_eq_true rfl) (fun _ _ _ _ _ _ _ X hH hS ls hl => w_X0_takeBack X k0 h0 σ hf _ _ hH hS ls (show lv_has ls 3 [(0, .ref (B + 223)), (1, .ref (B + k0))] from hl))
-- SlackProofs$Asker.begins(I)V  (D 0)
def b_X1_begins_29 (σ : Sto) : Option (Sto) :=
  some σ
set_option maxHeartbeats 4000000 in
set_option maxRecDepth 100000 in
theorem w_X1_begins_29 {p : Program} {l : Launch} {e : Env} {s : State} {m : MethodId} {args : Array Value} {below : List Frame} {meth : Method} {c : Code} {G : Gd} {B : Nat} (X : Cm p s m args meth c cX1_begins 2 RX1 G none) {σr : Sto} (σ : Sto) (hf : b_X1_begins_29 σ = some σr) (H : Heap) (locs : List Loc) (hH : HX G layX B σ H) (hS : va_S (inW layX B) s.heap H locs) (ls : Array Slot) (hl : lv_has ls 2 []) : WM p l e 0 s m args below meth c H locs G layX B none σr (F0 m 29 ls []) := by
  unfold b_X1_begins_29 at hf
  have hx := X.1.1
  have hb := X.1.2.1
  obtain rfl := rt1 hf
  exact g_vret X hH hS dX1_begins_29
def f_X1_begins (x1 : Int32) (σ : Sto) : Option (Sto) :=
  if (16 : Int32) ≤ (σ.1 236 1) then (b_X1_begins_29 σ) else (if ((σ.1 236 1) < 0 ∨ 16 ≤ (σ.1 236 1).toNatClampNeg) then none else nmS (pI σ 237 (σ.1 236 1).toNatClampNeg x1) fun σ203 => nmS (pI σ203 236 1 ((σ203.1 236 1) + (1 : Int32))) fun σ204 => b_X1_begins_29 σ204)
set_option maxHeartbeats 4000000 in
set_option maxRecDepth 100000 in
theorem w_X1_begins {p : Program} {l : Launch} {e : Env} {s : State} {m : MethodId} {args : Array Value} {below : List Frame} {meth : Method} {c : Code} {G : Gd} {B : Nat} (X : Cm p s m args meth c cX1_begins 2 RX1 G none) {σr : Sto} (x1 : Int32) (σ : Sto) (hf : f_X1_begins x1 σ = some σr) (H : Heap) (locs : List Loc) (hH : HX G layX B σ H) (hS : va_S (inW layX B) s.heap H locs) (ls : Array Slot) (hl : lv_has ls 2 [(0, .ref (B + 236)), (1, .int x1)]) : WM p l e 0 s m args below meth c H locs G layX B none σr (F0 m 0 ls []) := by
  unfold f_X1_begins at hf
  have hx := X.1.1
  have hb := X.1.2.1
  refine lv_aload_n hx hb dX1_begins_0 rfl (lv_at hl 0 rfl) ?_
  refine g_get (v := .int (σ.1 236 1)) kX1 (by decide) fl_RX1_15 X.1 hH kx_236 rfl dX1_begins_1 ?_
  refine lv_bipush (v := 16) hx hb dX1_begins_4 (by decide) ?_
  refine lv_icmp_ge (tgt := 29) hx hb dX1_begins_6 (by decide) (fun q101 => ?_) (fun q101 => ?_)
  · replace hf := brT hf q101
    exact w_X1_begins_29 X σ hf _ _ hH hS _ (lv_sub hl [] rfl)
  · replace hf := brF hf q101
    refine lv_aload_n hx hb dX1_begins_9 rfl (lv_at hl 0 rfl) ?_
    refine g_get (v := .ref (B + 237)) kX1 (by decide) fl_RX1_9 X.1 hH kx_236 rfl dX1_begins_10 ?_
    refine lv_aload_n hx hb dX1_begins_13 rfl (lv_at hl 0 rfl) ?_
    refine g_get (v := .int (σ.1 236 1)) kX1 (by decide) fl_RX1_15 X.1 hH kx_236 rfl dX1_begins_14 ?_
    refine lv_iload_n hx hb dX1_begins_17 rfl (lv_at hl 1 rfl) ?_
    obtain ⟨q202, hf⟩ := chk hf
    refine g_iast (j := (σ.1 236 1).toNatClampNeg) X.1 hH hS kx_237 q202 rfl dX1_begins_18 (fun H locs hH hS => ?_)
    obtain ⟨σ203, eσ203, hH⟩ := nmX hH
    replace hf := nmU hf eσ203
    refine lv_aload_n hx hb dX1_begins_19 rfl (lv_at hl 0 rfl) ?_
    refine lv_dup hx hb dX1_begins_20 rfl ?_
    refine g_get (v := .int (σ203.1 236 1)) kX1 (by decide) fl_RX1_15 X.1 hH kx_236 rfl dX1_begins_21 ?_
    refine lv_iconst (v := 1) hx hb dX1_begins_24 (by decide) ?_
    refine lv_iadd hx hb dX1_begins_25 ?_
    refine g_putI kX1 (by decide) fl_RX1_15 rfl rfl X.1 hH hS kx_236 dX1_begins_26 (fun H locs hH hS => ?_)
    obtain ⟨σ204, eσ204, hH⟩ := nmX hH
    replace hf := nmU hf eσ204
    exact w_X1_begins_29 X σ204 hf _ _ hH hS _ (lv_sub hl [] rfl)
theorem c_X1_begins (l : Launch) (G : Gd) (B : Nat) (x1 : Int32) (σ σr : Sto) (hf : f_X1_begins x1 σ = some σr) : Ct l G layX B yX1_begins cX1_begins 2 none 0 [.ref (B + 236), .int x1] none σ σr :=
  Ct.ofW (by decide) (Nat.le_of_ble_eq_true rfl) (fun _ _ _ _ _ _ _ X hH hS ls hl => w_X1_begins X x1 σ hf _ _ hH hS ls (show lv_has ls 2 [(0, .ref (B + 236)), (1, .int x1)] from hl))
-- SlackProofs$Asker.markOfAny(LSlackProofs$Clause;)I  (D 1)
def f_X1_markOfAny (k0 : Nat) (σ : Sto) : Option (Int32 × Sto) :=
  bd1 (f_X1_begins (20 : Int32) σ) fun σ101 => some ((σ101.1 k0 1), σ101)
set_option maxHeartbeats 4000000 in
set_option maxRecDepth 100000 in
theorem w_X1_markOfAny {p : Program} {l : Launch} {e : Env} {s : State} {m : MethodId} {args : Array Value} {below : List Frame} {meth : Method} {c : Code} {G : Gd} {B : Nat} (X : Cm p s m args meth c cX1_markOfAny 2 RX1 G (some .int)) (k0 : Nat) (h0 : (k0 < layX.2.2 ∧ layX.1 k0 = .inl 3)) {r : Int32} {σr : Sto} (σ : Sto) (hf : f_X1_markOfAny k0 σ = some (r, σr)) (H : Heap) (locs : List Loc) (hH : HX G layX B σ H) (hS : va_S (inW layX B) s.heap H locs) (ls : Array Slot) (hl : lv_has ls 2 [(0, .ref (B + 236)), (1, .ref (B + k0))]) : WM p l e 1 s m args below meth c H locs G layX B (some (.int r)) σr (F0 m 0 ls []) := by
  unfold f_X1_markOfAny at hf
  have hx := X.1.1
  have hb := X.1.2.1
  refine lv_aload_n hx hb dX1_markOfAny_0 rfl (lv_at hl 0 rfl) ?_
  refine lv_bipush (v := 20) hx hb dX1_markOfAny_1 (by decide) ?_
  obtain ⟨σ101, eσ101, hf⟩ := bnd1 hf
  refine g_cVv (As := [.int (20 : Int32)]) X.1 hH hS (c_X1_begins l G B (20 : Int32) σ σ101 eσ101) kw_RX1_41 kX1 kx_236 (by decide) rfl hl (Nat.le_of_ble_eq_true rfl) rfl dX1_markOfAny_3 (fun H locs hH hS => ?_)
  refine lv_aload_n hx hb dX1_markOfAny_6 rfl (lv_at hl 1 rfl) ?_
  refine g_get (v := .int (σ101.1 k0 1)) kX3 (by decide) fl_RX1_67 X.1 hH h0 rfl dX1_markOfAny_7 ?_
  obtain ⟨rfl, rfl⟩ := rt2 hf
  exact g_iret X hH hS dX1_markOfAny_10
theorem c_X1_markOfAny (l : Launch) (G : Gd) (B : Nat) (k0 : Nat) (h0 : (k0 < layX.2.2 ∧ layX.1 k0 = .inl 3)) (σ σr : Sto) (r : Int32) (hf : f_X1_markOfAny k0 σ = some (r, σr)) : Ct l G layX B yX1_markOfAny cX1_markOfAny 2 (some .int) 1 [.ref (B + 236), .ref (B + k0)] (some (.int r)) σ σr :=
  Ct.ofW (by decide) (Nat.le_of_ble_eq_true rfl) (fun _ _ _ _ _ _ _ X hH hS ls hl => w_X1_markOfAny X k0 h0 σ hf _ _ hH hS ls (show lv_has ls 2 [(0, .ref (B + 236)), (1, .ref (B + k0))] from hl))
-- SlackProofs$Clause.leastVariable()I  (D 0)
def b_X3_leastVariable_2 (c2 : Int32 → Sto → Option (Int32 × Sto)) (k0 : Nat) (v1 : Int32) (σ : Sto) : Option (Int32 × Sto) :=
  if (8 : Int32) ≤ v1 then (some ((8 : Int32), σ)) else (if (v1 < 0 ∨ 8 ≤ v1.toNatClampNeg) then none else if (σ.2 (k0 + 1) v1.toNatClampNeg) = (0 : Int64) then (c2 (v1 + (1 : Int32)) σ) else (some (v1, σ)))
set_option maxHeartbeats 4000000 in
set_option maxRecDepth 100000 in
theorem w_X3_leastVariable_2 {p : Program} {l : Launch} {e : Env} {s : State} {m : MethodId} {args : Array Value} {below : List Frame} {meth : Method} {c : Code} {G : Gd} {B : Nat} (X : Cm p s m args meth c cX3_leastVariable 2 RX3 G (some .int)) (c2 : Int32 → Sto → Option (Int32 × Sto)) (k0 : Nat) (h0 : (k0 < layX.2.2 ∧ layX.1 k0 = .inl 3)) {r : Int32} {σr : Sto} (ih2 : ∀ (v1 : Int32) (σ : Sto) (H : Heap) (locs : List Loc) (ls : Array Slot), c2 v1 σ = some (r, σr) → HX G layX B σ H → va_S (inW layX B) s.heap H locs → lv_has ls 2 [(0, .ref (B + k0)), (1, .int v1)] → WM p l e 0 s m args below meth c H locs G layX B (some (.int r)) σr (F0 m 2 ls [])) (v1 : Int32) (σ : Sto) (hf : b_X3_leastVariable_2 c2 k0 v1 σ = some (r, σr)) (H : Heap) (locs : List Loc) (hH : HX G layX B σ H) (hS : va_S (inW layX B) s.heap H locs) (ls : Array Slot) (hl : lv_has ls 2 [(0, .ref (B + k0)), (1, .int v1)]) : WM p l e 0 s m args below meth c H locs G layX B (some (.int r)) σr (F0 m 2 ls []) := by
  unfold b_X3_leastVariable_2 at hf
  have hx := X.1.1
  have hb := X.1.2.1
  refine lv_iload_n hx hb dX3_leastVariable_2 rfl (lv_at hl 1 rfl) ?_
  refine lv_bipush (v := 8) hx hb dX3_leastVariable_3 (by decide) ?_
  refine lv_icmp_ge (tgt := 27) hx hb dX3_leastVariable_5 (by decide) (fun q201 => ?_) (fun q201 => ?_)
  · replace hf := brT hf q201
    refine lv_bipush (v := 8) hx hb dX3_leastVariable_27 (by decide) ?_
    obtain ⟨rfl, rfl⟩ := rt2 hf
    exact g_iret X hH hS dX3_leastVariable_29
  · replace hf := brF hf q201
    refine lv_aload_n hx hb dX3_leastVariable_8 rfl (lv_at hl 0 rfl) ?_
    refine g_get (v := .ref (B + (k0 + 1))) kX3 (by decide) fl_RX3_9 X.1 hH h0 (cRef h0) dX3_leastVariable_9 ?_
    refine lv_iload_n hx hb dX3_leastVariable_12 rfl (lv_at hl 1 rfl) ?_
    obtain ⟨q202, hf⟩ := chk hf
    refine g_lald (j := v1.toNatClampNeg) X.1 hH (cArr h0) q202 rfl dX3_leastVariable_13 ?_
    refine lv_lconst (v := 0) hx hb dX3_leastVariable_14 (by decide) ?_
    refine g_leq (tgt := 21) X.1 dX3_leastVariable_15 dX3_leastVariable_16 (by decide) (fun q203 => ?_) (fun q203 => ?_)
    · replace hf := brT hf q203
      refine lv_iinc (v := (v1 + (1 : Int32))) (lv' := [(1, .int (v1 + (1 : Int32))), (0, .ref (B + k0))]) hx hb dX3_leastVariable_21 hl (k := 1) rfl rfl (by decide) rfl (fun ls hl => ?_)
      refine lv_goto (tgt := 2) hx hb dX3_leastVariable_24 (by decide) ?_
      exact ih2 (v1 + (1 : Int32)) σ _ _ _ hf hH hS (lv_sub hl [1, 0] rfl)
    · replace hf := brF hf q203
      refine lv_iload_n hx hb dX3_leastVariable_19 rfl (lv_at hl 1 rfl) ?_
      obtain ⟨rfl, rfl⟩ := rt2 hf
      exact g_iret X hH hS dX3_leastVariable_20
def l_X3_leastVariable_2 (k0 : Nat) : Nat → Int32 → Sto → Option (Int32 × Sto)
  | 0, _, _ => none
  | n + 1, v1, σ => b_X3_leastVariable_2 (l_X3_leastVariable_2 k0 n) k0 v1 σ
set_option maxHeartbeats 4000000 in
set_option maxRecDepth 100000 in
theorem wl_X3_leastVariable_2 {p : Program} {l : Launch} {e : Env} {s : State} {m : MethodId} {args : Array Value} {below : List Frame} {meth : Method} {c : Code} {G : Gd} {B : Nat} (X : Cm p s m args meth c cX3_leastVariable 2 RX3 G (some .int)) (k0 : Nat) (h0 : (k0 < layX.2.2 ∧ layX.1 k0 = .inl 3)) {r : Int32} {σr : Sto} (n : Nat) : ∀ (v1 : Int32) (σ : Sto) (H : Heap) (locs : List Loc) (ls : Array Slot), l_X3_leastVariable_2 k0 n v1 σ = some (r, σr) → HX G layX B σ H → va_S (inW layX B) s.heap H locs → lv_has ls 2 [(0, .ref (B + k0)), (1, .int v1)] → WM p l e 0 s m args below meth c H locs G layX B (some (.int r)) σr (F0 m 2 ls []) := by
  induction n with
  | zero =>
    intro _ σ H locs ls hf
    cases hf
  | succ n ih =>
    intro v1 σ H locs ls hf hH hS hl
    exact w_X3_leastVariable_2 X (l_X3_leastVariable_2 k0 n) k0 h0 ih v1 σ hf H locs hH hS ls hl
def f_X3_leastVariable (k0 : Nat) (σ : Sto) : Option (Int32 × Sto) :=
  l_X3_leastVariable_2 k0 400 (0 : Int32) σ
set_option maxHeartbeats 4000000 in
set_option maxRecDepth 100000 in
theorem w_X3_leastVariable {p : Program} {l : Launch} {e : Env} {s : State} {m : MethodId} {args : Array Value} {below : List Frame} {meth : Method} {c : Code} {G : Gd} {B : Nat} (X : Cm p s m args meth c cX3_leastVariable 2 RX3 G (some .int)) (k0 : Nat) (h0 : (k0 < layX.2.2 ∧ layX.1 k0 = .inl 3)) {r : Int32} {σr : Sto} (σ : Sto) (hf : f_X3_leastVariable k0 σ = some (r, σr)) (H : Heap) (locs : List Loc) (hH : HX G layX B σ H) (hS : va_S (inW layX B) s.heap H locs) (ls : Array Slot) (hl : lv_has ls 2 [(0, .ref (B + k0))]) : WM p l e 0 s m args below meth c H locs G layX B (some (.int r)) σr (F0 m 0 ls []) := by
  unfold f_X3_leastVariable at hf
  have hx := X.1.1
  have hb := X.1.2.1
  refine lv_iconst (v := 0) hx hb dX3_leastVariable_0 (by decide) ?_
  refine lv_istore_n (lv' := [(1, .int (0 : Int32)), (0, .ref (B + k0))]) hx hb dX3_leastVariable_1 rfl hl (by decide) rfl (fun ls hl => ?_)
  exact wl_X3_leastVariable_2 X k0 h0 400 (0 : Int32) σ _ _ _ hf hH hS (lv_sub hl [1, 0] rfl)
theorem c_X3_leastVariable (l : Launch) (G : Gd) (B : Nat) (k0 : Nat) (h0 : (k0 < layX.2.2 ∧ layX.1 k0 = .inl 3)) (σ σr : Sto) (r : Int32) (hf : f_X3_leastVariable k0 σ = some (r, σr)) : Ct l G layX B yX3_leastVariable cX3_leastVariable 2 (some .int) 0 [.ref (B + k0)] (some (.int r)) σ σr :=
  Ct.ofW (by decide) (Nat.le_of_ble_eq_true rfl) (fun _ _ _ _ _ _ _ X hH hS ls hl => w_X3_leastVariable X k0 h0 σ hf _ _ hH hS ls (show lv_has ls 2 [(0, .ref (B + k0))] from hl))
-- SlackProofs$Asker.markOfGiven(LSlackProofs$Clause;)I  (D 2)
def f_X1_markOfGiven (k0 : Nat) (σ : Sto) : Option (Int32 × Sto) :=
  bd1 (f_X1_begins (21 : Int32) σ) fun σ101 => bd2 (f_X1_markOfAny k0 σ101) fun r104 σ103 => bd2 (f_X3_leastVariable k0 σ103) fun r106 σ105 => some ((r104 + r106), σ105)
set_option maxHeartbeats 4000000 in
set_option maxRecDepth 100000 in
theorem w_X1_markOfGiven {p : Program} {l : Launch} {e : Env} {s : State} {m : MethodId} {args : Array Value} {below : List Frame} {meth : Method} {c : Code} {G : Gd} {B : Nat} (X : Cm p s m args meth c cX1_markOfGiven 2 RX1 G (some .int)) (k0 : Nat) (h0 : (k0 < layX.2.2 ∧ layX.1 k0 = .inl 3)) {r : Int32} {σr : Sto} (σ : Sto) (hf : f_X1_markOfGiven k0 σ = some (r, σr)) (H : Heap) (locs : List Loc) (hH : HX G layX B σ H) (hS : va_S (inW layX B) s.heap H locs) (ls : Array Slot) (hl : lv_has ls 2 [(0, .ref (B + 236)), (1, .ref (B + k0))]) : WM p l e 2 s m args below meth c H locs G layX B (some (.int r)) σr (F0 m 0 ls []) := by
  unfold f_X1_markOfGiven at hf
  have hx := X.1.1
  have hb := X.1.2.1
  refine lv_aload_n hx hb dX1_markOfGiven_0 rfl (lv_at hl 0 rfl) ?_
  refine lv_bipush (v := 21) hx hb dX1_markOfGiven_1 (by decide) ?_
  obtain ⟨σ101, eσ101, hf⟩ := bnd1 hf
  refine g_cVv (As := [.int (21 : Int32)]) X.1 hH hS (c_X1_begins l G B (21 : Int32) σ σ101 eσ101) kw_RX1_41 kX1 kx_236 (by decide) rfl hl (Nat.le_of_ble_eq_true rfl) rfl dX1_markOfGiven_3 (fun H locs hH hS => ?_)
  refine lv_aload_n hx hb dX1_markOfGiven_6 rfl (lv_at hl 0 rfl) ?_
  refine lv_aload_n hx hb dX1_markOfGiven_7 rfl (lv_at hl 1 rfl) ?_
  obtain ⟨r104, σ103, eσ103, hf⟩ := bnd2 hf
  refine g_cVi (As := [.ref (B + k0)]) X.1 hH hS (c_X1_markOfAny l G B k0 h0 σ101 σ103 r104 eσ103) kw_RX1_64 kX1 kx_236 (by decide) rfl hl (Nat.le_of_ble_eq_true rfl) rfl dX1_markOfGiven_8 (fun H locs hH hS => ?_)
  refine lv_aload_n hx hb dX1_markOfGiven_11 rfl (lv_at hl 1 rfl) ?_
  obtain ⟨r106, σ105, eσ105, hf⟩ := bnd2 hf
  refine g_cVi (As := []) X.1 hH hS (c_X3_leastVariable l G B k0 h0 σ103 σ105 r106 eσ105) kw_RX1_70 kX3 h0 (by decide) rfl hl (Nat.le_of_ble_eq_true rfl) rfl dX1_markOfGiven_12 (fun H locs hH hS => ?_)
  refine lv_iadd hx hb dX1_markOfGiven_15 ?_
  obtain ⟨rfl, rfl⟩ := rt2 hf
  exact g_iret X hH hS dX1_markOfGiven_16
theorem c_X1_markOfGiven (l : Launch) (G : Gd) (B : Nat) (k0 : Nat) (h0 : (k0 < layX.2.2 ∧ layX.1 k0 = .inl 3)) (σ σr : Sto) (r : Int32) (hf : f_X1_markOfGiven k0 σ = some (r, σr)) : Ct l G layX B yX1_markOfGiven cX1_markOfGiven 2 (some .int) 2 [.ref (B + 236), .ref (B + k0)] (some (.int r)) σ σr :=
  Ct.ofW (by decide) (Nat.le_of_ble_eq_true rfl) (fun _ _ _ _ _ _ _ X hH hS ls hl => w_X1_markOfGiven X k0 h0 σ hf _ _ hH hS ls (show lv_has ls 2 [(0, .ref (B + 236)), (1, .ref (B + k0))] from hl))
-- SlackProofs$Asker.markOfAxiom(LSlackProofs$Clause;)I  (D 3)
def f_X1_markOfAxiom (k0 : Nat) (σ : Sto) : Option (Int32 × Sto) :=
  bd1 (f_X1_begins (24 : Int32) σ) fun σ101 => bd2 (f_X1_markOfGiven k0 σ101) fun r104 σ103 => some (((2 : Int32) * r104), σ103)
set_option maxHeartbeats 4000000 in
set_option maxRecDepth 100000 in
theorem w_X1_markOfAxiom {p : Program} {l : Launch} {e : Env} {s : State} {m : MethodId} {args : Array Value} {below : List Frame} {meth : Method} {c : Code} {G : Gd} {B : Nat} (X : Cm p s m args meth c cX1_markOfAxiom 2 RX1 G (some .int)) (k0 : Nat) (h0 : (k0 < layX.2.2 ∧ layX.1 k0 = .inl 3)) {r : Int32} {σr : Sto} (σ : Sto) (hf : f_X1_markOfAxiom k0 σ = some (r, σr)) (H : Heap) (locs : List Loc) (hH : HX G layX B σ H) (hS : va_S (inW layX B) s.heap H locs) (ls : Array Slot) (hl : lv_has ls 2 [(0, .ref (B + 236)), (1, .ref (B + k0))]) : WM p l e 3 s m args below meth c H locs G layX B (some (.int r)) σr (F0 m 0 ls []) := by
  unfold f_X1_markOfAxiom at hf
  have hx := X.1.1
  have hb := X.1.2.1
  refine lv_aload_n hx hb dX1_markOfAxiom_0 rfl (lv_at hl 0 rfl) ?_
  refine lv_bipush (v := 24) hx hb dX1_markOfAxiom_1 (by decide) ?_
  obtain ⟨σ101, eσ101, hf⟩ := bnd1 hf
  refine g_cVv (As := [.int (24 : Int32)]) X.1 hH hS (c_X1_begins l G B (24 : Int32) σ σ101 eσ101) kw_RX1_41 kX1 kx_236 (by decide) rfl hl (Nat.le_of_ble_eq_true rfl) rfl dX1_markOfAxiom_3 (fun H locs hH hS => ?_)
  refine lv_iconst (v := 2) hx hb dX1_markOfAxiom_6 (by decide) ?_
  refine lv_aload_n hx hb dX1_markOfAxiom_7 rfl (lv_at hl 0 rfl) ?_
  refine lv_aload_n hx hb dX1_markOfAxiom_8 rfl (lv_at hl 1 rfl) ?_
  obtain ⟨r104, σ103, eσ103, hf⟩ := bnd2 hf
  refine g_cVi (As := [.ref (B + k0)]) X.1 hH hS (c_X1_markOfGiven l G B k0 h0 σ101 σ103 r104 eσ103) kw_RX1_52 kX1 kx_236 (by decide) rfl hl (Nat.le_of_ble_eq_true rfl) rfl dX1_markOfAxiom_9 (fun H locs hH hS => ?_)
  refine lv_imul hx hb dX1_markOfAxiom_12 ?_
  obtain ⟨rfl, rfl⟩ := rt2 hf
  exact g_iret X hH hS dX1_markOfAxiom_13
theorem c_X1_markOfAxiom (l : Launch) (G : Gd) (B : Nat) (k0 : Nat) (h0 : (k0 < layX.2.2 ∧ layX.1 k0 = .inl 3)) (σ σr : Sto) (r : Int32) (hf : f_X1_markOfAxiom k0 σ = some (r, σr)) : Ct l G layX B yX1_markOfAxiom cX1_markOfAxiom 2 (some .int) 3 [.ref (B + 236), .ref (B + k0)] (some (.int r)) σ σr :=
  Ct.ofW (by decide) (Nat.le_of_ble_eq_true rfl) (fun _ _ _ _ _ _ _ X hH hS ls hl => w_X1_markOfAxiom X k0 h0 σ hf _ _ hH hS ls (show lv_has ls 2 [(0, .ref (B + 236)), (1, .ref (B + k0))] from hl))
-- SlackProofs$Asker.markOfBound(LSlackProofs$Clause;)I  (D 3)
def f_X1_markOfBound (k0 : Nat) (σ : Sto) : Option (Int32 × Sto) :=
  bd1 (f_X1_begins (22 : Int32) σ) fun σ101 => bd2 (f_X1_markOfGiven k0 σ101) fun r104 σ103 => some ((r104 - (1000 : Int32)), σ103)
set_option maxHeartbeats 4000000 in
set_option maxRecDepth 100000 in
theorem w_X1_markOfBound {p : Program} {l : Launch} {e : Env} {s : State} {m : MethodId} {args : Array Value} {below : List Frame} {meth : Method} {c : Code} {G : Gd} {B : Nat} (X : Cm p s m args meth c cX1_markOfBound 2 RX1 G (some .int)) (k0 : Nat) (h0 : (k0 < layX.2.2 ∧ layX.1 k0 = .inl 3)) {r : Int32} {σr : Sto} (σ : Sto) (hf : f_X1_markOfBound k0 σ = some (r, σr)) (H : Heap) (locs : List Loc) (hH : HX G layX B σ H) (hS : va_S (inW layX B) s.heap H locs) (ls : Array Slot) (hl : lv_has ls 2 [(0, .ref (B + 236)), (1, .ref (B + k0))]) : WM p l e 3 s m args below meth c H locs G layX B (some (.int r)) σr (F0 m 0 ls []) := by
  unfold f_X1_markOfBound at hf
  have hx := X.1.1
  have hb := X.1.2.1
  refine lv_aload_n hx hb dX1_markOfBound_0 rfl (lv_at hl 0 rfl) ?_
  refine lv_bipush (v := 22) hx hb dX1_markOfBound_1 (by decide) ?_
  obtain ⟨σ101, eσ101, hf⟩ := bnd1 hf
  refine g_cVv (As := [.int (22 : Int32)]) X.1 hH hS (c_X1_begins l G B (22 : Int32) σ σ101 eσ101) kw_RX1_41 kX1 kx_236 (by decide) rfl hl (Nat.le_of_ble_eq_true rfl) rfl dX1_markOfBound_3 (fun H locs hH hS => ?_)
  refine lv_aload_n hx hb dX1_markOfBound_6 rfl (lv_at hl 0 rfl) ?_
  refine lv_aload_n hx hb dX1_markOfBound_7 rfl (lv_at hl 1 rfl) ?_
  obtain ⟨r104, σ103, eσ103, hf⟩ := bnd2 hf
  refine g_cVi (As := [.ref (B + k0)]) X.1 hH hS (c_X1_markOfGiven l G B k0 h0 σ101 σ103 r104 eσ103) kw_RX1_52 kX1 kx_236 (by decide) rfl hl (Nat.le_of_ble_eq_true rfl) rfl dX1_markOfBound_8 (fun H locs hH hS => ?_)
  refine lv_sipush (v := 1000) hx hb dX1_markOfBound_11 (by decide) ?_
  refine lv_isub hx hb dX1_markOfBound_14 ?_
  obtain ⟨rfl, rfl⟩ := rt2 hf
  exact g_iret X hH hS dX1_markOfBound_15
theorem c_X1_markOfBound (l : Launch) (G : Gd) (B : Nat) (k0 : Nat) (h0 : (k0 < layX.2.2 ∧ layX.1 k0 = .inl 3)) (σ σr : Sto) (r : Int32) (hf : f_X1_markOfBound k0 σ = some (r, σr)) : Ct l G layX B yX1_markOfBound cX1_markOfBound 2 (some .int) 3 [.ref (B + 236), .ref (B + k0)] (some (.int r)) σ σr :=
  Ct.ofW (by decide) (Nat.le_of_ble_eq_true rfl) (fun _ _ _ _ _ _ _ X hH hS ls hl => w_X1_markOfBound X k0 h0 σ hf _ _ hH hS ls (show lv_has ls 2 [(0, .ref (B + 236)), (1, .ref (B + k0))] from hl))
-- SlackProofs$Clause.countVariables()I  (D 0)
def b_X3_countVariables_24 (c4 : Int32 → Int32 → Sto → Option (Int32 × Sto)) (k0 : Nat) (v1 : Int32) (v2 : Int32) (σ : Sto) : Option (Int32 × Sto) :=
  c4 v1 (v2 + (1 : Int32)) σ
set_option maxHeartbeats 4000000 in
set_option maxRecDepth 100000 in
theorem w_X3_countVariables_24 {p : Program} {l : Launch} {e : Env} {s : State} {m : MethodId} {args : Array Value} {below : List Frame} {meth : Method} {c : Code} {G : Gd} {B : Nat} (X : Cm p s m args meth c cX3_countVariables 3 RX3 G (some .int)) (c4 : Int32 → Int32 → Sto → Option (Int32 × Sto)) (k0 : Nat) (h0 : (k0 < layX.2.2 ∧ layX.1 k0 = .inl 3)) {r : Int32} {σr : Sto} (ih4 : ∀ (v1 : Int32) (v2 : Int32) (σ : Sto) (H : Heap) (locs : List Loc) (ls : Array Slot), c4 v1 v2 σ = some (r, σr) → HX G layX B σ H → va_S (inW layX B) s.heap H locs → lv_has ls 3 [(0, .ref (B + k0)), (1, .int v1), (2, .int v2)] → WM p l e 0 s m args below meth c H locs G layX B (some (.int r)) σr (F0 m 4 ls [])) (v1 : Int32) (v2 : Int32) (σ : Sto) (hf : b_X3_countVariables_24 c4 k0 v1 v2 σ = some (r, σr)) (H : Heap) (locs : List Loc) (hH : HX G layX B σ H) (hS : va_S (inW layX B) s.heap H locs) (ls : Array Slot) (hl : lv_has ls 3 [(0, .ref (B + k0)), (1, .int v1), (2, .int v2)]) : WM p l e 0 s m args below meth c H locs G layX B (some (.int r)) σr (F0 m 24 ls []) := by
  unfold b_X3_countVariables_24 at hf
  have hx := X.1.1
  have hb := X.1.2.1
  refine lv_iinc (v := (v2 + (1 : Int32))) (lv' := [(2, .int (v2 + (1 : Int32))), (0, .ref (B + k0)), (1, .int v1)]) hx hb dX3_countVariables_24 hl (k := 2) rfl rfl (by decide) rfl (fun ls hl => ?_)
  refine lv_goto (tgt := 4) hx hb dX3_countVariables_27 (by decide) ?_
  exact ih4 v1 (v2 + (1 : Int32)) σ _ _ _ hf hH hS (lv_sub hl [1, 2, 0] rfl)
def b_X3_countVariables_4 (c4 : Int32 → Int32 → Sto → Option (Int32 × Sto)) (k0 : Nat) (v1 : Int32) (v2 : Int32) (σ : Sto) : Option (Int32 × Sto) :=
  if (8 : Int32) ≤ v2 then (some (v1, σ)) else (if (v2 < 0 ∨ 8 ≤ v2.toNatClampNeg) then none else if (σ.2 (k0 + 1) v2.toNatClampNeg) = (0 : Int64) then (b_X3_countVariables_24 c4 k0 v1 v2 σ) else (b_X3_countVariables_24 c4 k0 (v1 + (1 : Int32)) v2 σ))
set_option maxHeartbeats 4000000 in
set_option maxRecDepth 100000 in
theorem w_X3_countVariables_4 {p : Program} {l : Launch} {e : Env} {s : State} {m : MethodId} {args : Array Value} {below : List Frame} {meth : Method} {c : Code} {G : Gd} {B : Nat} (X : Cm p s m args meth c cX3_countVariables 3 RX3 G (some .int)) (c4 : Int32 → Int32 → Sto → Option (Int32 × Sto)) (k0 : Nat) (h0 : (k0 < layX.2.2 ∧ layX.1 k0 = .inl 3)) {r : Int32} {σr : Sto} (ih4 : ∀ (v1 : Int32) (v2 : Int32) (σ : Sto) (H : Heap) (locs : List Loc) (ls : Array Slot), c4 v1 v2 σ = some (r, σr) → HX G layX B σ H → va_S (inW layX B) s.heap H locs → lv_has ls 3 [(0, .ref (B + k0)), (1, .int v1), (2, .int v2)] → WM p l e 0 s m args below meth c H locs G layX B (some (.int r)) σr (F0 m 4 ls [])) (v1 : Int32) (v2 : Int32) (σ : Sto) (hf : b_X3_countVariables_4 c4 k0 v1 v2 σ = some (r, σr)) (H : Heap) (locs : List Loc) (hH : HX G layX B σ H) (hS : va_S (inW layX B) s.heap H locs) (ls : Array Slot) (hl : lv_has ls 3 [(0, .ref (B + k0)), (1, .int v1), (2, .int v2)]) : WM p l e 0 s m args below meth c H locs G layX B (some (.int r)) σr (F0 m 4 ls []) := by
  unfold b_X3_countVariables_4 at hf
  have hx := X.1.1
  have hb := X.1.2.1
  refine lv_iload_n hx hb dX3_countVariables_4 rfl (lv_at hl 2 rfl) ?_
  refine lv_bipush (v := 8) hx hb dX3_countVariables_5 (by decide) ?_
  refine lv_icmp_ge (tgt := 30) hx hb dX3_countVariables_7 (by decide) (fun q201 => ?_) (fun q201 => ?_)
  · replace hf := brT hf q201
    refine lv_iload_n hx hb dX3_countVariables_30 rfl (lv_at hl 1 rfl) ?_
    obtain ⟨rfl, rfl⟩ := rt2 hf
    exact g_iret X hH hS dX3_countVariables_31
  · replace hf := brF hf q201
    refine lv_aload_n hx hb dX3_countVariables_10 rfl (lv_at hl 0 rfl) ?_
    refine g_get (v := .ref (B + (k0 + 1))) kX3 (by decide) fl_RX3_9 X.1 hH h0 (cRef h0) dX3_countVariables_11 ?_
    refine lv_iload_n hx hb dX3_countVariables_14 rfl (lv_at hl 2 rfl) ?_
    obtain ⟨q202, hf⟩ := chk hf
    refine g_lald (j := v2.toNatClampNeg) X.1 hH (cArr h0) q202 rfl dX3_countVariables_15 ?_
    refine lv_lconst (v := 0) hx hb dX3_countVariables_16 (by decide) ?_
    refine g_leq (tgt := 24) X.1 dX3_countVariables_17 dX3_countVariables_18 (by decide) (fun q203 => ?_) (fun q203 => ?_)
    · replace hf := brT hf q203
      exact w_X3_countVariables_24 X c4 k0 h0 ih4 v1 v2 σ hf _ _ hH hS _ (lv_sub hl [0, 1, 2] rfl)
    · replace hf := brF hf q203
      refine lv_iinc (v := (v1 + (1 : Int32))) (lv' := [(1, .int (v1 + (1 : Int32))), (0, .ref (B + k0)), (2, .int v2)]) hx hb dX3_countVariables_21 hl (k := 1) rfl rfl (by decide) rfl (fun ls hl => ?_)
      exact w_X3_countVariables_24 X c4 k0 h0 ih4 (v1 + (1 : Int32)) v2 σ hf _ _ hH hS _ (lv_sub hl [1, 0, 2] rfl)
def l_X3_countVariables_4 (k0 : Nat) : Nat → Int32 → Int32 → Sto → Option (Int32 × Sto)
  | 0, _, _, _ => none
  | n + 1, v1, v2, σ => b_X3_countVariables_4 (l_X3_countVariables_4 k0 n) k0 v1 v2 σ
set_option maxHeartbeats 4000000 in
set_option maxRecDepth 100000 in
theorem wl_X3_countVariables_4 {p : Program} {l : Launch} {e : Env} {s : State} {m : MethodId} {args : Array Value} {below : List Frame} {meth : Method} {c : Code} {G : Gd} {B : Nat} (X : Cm p s m args meth c cX3_countVariables 3 RX3 G (some .int)) (k0 : Nat) (h0 : (k0 < layX.2.2 ∧ layX.1 k0 = .inl 3)) {r : Int32} {σr : Sto} (n : Nat) : ∀ (v1 : Int32) (v2 : Int32) (σ : Sto) (H : Heap) (locs : List Loc) (ls : Array Slot), l_X3_countVariables_4 k0 n v1 v2 σ = some (r, σr) → HX G layX B σ H → va_S (inW layX B) s.heap H locs → lv_has ls 3 [(0, .ref (B + k0)), (1, .int v1), (2, .int v2)] → WM p l e 0 s m args below meth c H locs G layX B (some (.int r)) σr (F0 m 4 ls []) := by
  induction n with
  | zero =>
    intro _ _ σ H locs ls hf
    cases hf
  | succ n ih =>
    intro v1 v2 σ H locs ls hf hH hS hl
    exact w_X3_countVariables_4 X (l_X3_countVariables_4 k0 n) k0 h0 ih v1 v2 σ hf H locs hH hS ls hl
def f_X3_countVariables (k0 : Nat) (σ : Sto) : Option (Int32 × Sto) :=
  l_X3_countVariables_4 k0 400 (0 : Int32) (0 : Int32) σ
set_option maxHeartbeats 4000000 in
set_option maxRecDepth 100000 in
theorem w_X3_countVariables {p : Program} {l : Launch} {e : Env} {s : State} {m : MethodId} {args : Array Value} {below : List Frame} {meth : Method} {c : Code} {G : Gd} {B : Nat} (X : Cm p s m args meth c cX3_countVariables 3 RX3 G (some .int)) (k0 : Nat) (h0 : (k0 < layX.2.2 ∧ layX.1 k0 = .inl 3)) {r : Int32} {σr : Sto} (σ : Sto) (hf : f_X3_countVariables k0 σ = some (r, σr)) (H : Heap) (locs : List Loc) (hH : HX G layX B σ H) (hS : va_S (inW layX B) s.heap H locs) (ls : Array Slot) (hl : lv_has ls 3 [(0, .ref (B + k0))]) : WM p l e 0 s m args below meth c H locs G layX B (some (.int r)) σr (F0 m 0 ls []) := by
  unfold f_X3_countVariables at hf
  have hx := X.1.1
  have hb := X.1.2.1
  refine lv_iconst (v := 0) hx hb dX3_countVariables_0 (by decide) ?_
  refine lv_istore_n (lv' := [(1, .int (0 : Int32)), (0, .ref (B + k0))]) hx hb dX3_countVariables_1 rfl hl (by decide) rfl (fun ls hl => ?_)
  refine lv_iconst (v := 0) hx hb dX3_countVariables_2 (by decide) ?_
  refine lv_istore_n (lv' := [(2, .int (0 : Int32)), (1, .int (0 : Int32)), (0, .ref (B + k0))]) hx hb dX3_countVariables_3 rfl hl (by decide) rfl (fun ls hl => ?_)
  exact wl_X3_countVariables_4 X k0 h0 400 (0 : Int32) (0 : Int32) σ _ _ _ hf hH hS (lv_sub hl [2, 1, 0] rfl)
theorem c_X3_countVariables (l : Launch) (G : Gd) (B : Nat) (k0 : Nat) (h0 : (k0 < layX.2.2 ∧ layX.1 k0 = .inl 3)) (σ σr : Sto) (r : Int32) (hf : f_X3_countVariables k0 σ = some (r, σr)) : Ct l G layX B yX3_countVariables cX3_countVariables 3 (some .int) 0 [.ref (B + k0)] (some (.int r)) σ σr :=
  Ct.ofW (by decide) (Nat.le_of_ble_eq_true rfl) (fun _ _ _ _ _ _ _ X hH hS ls hl => w_X3_countVariables X k0 h0 σ hf _ _ hH hS ls (show lv_has ls 3 [(0, .ref (B + k0))] from hl))
