-- SlackProofs$Clause.becomeBound([III)V  (D 0)
def b_X3_becomeBound_3 (c3 : Int32 → Int32 → Int32 → Sto → Option (Sto)) (k0 : Nat) (k1 n1 : Nat) (v2 : Int32) (v3 : Int32) (v4 : Int32) (σ : Sto) : Option (Sto) :=
  if (8 : Int32) ≤ v4 then (nmS (pL σ k0 2 (((v2 - v3) + (1 : Int32)).toInt64)) fun σ202 => some σ202) else (if (v4 < 0 ∨ n1 ≤ v4.toNatClampNeg) then none else if (v4 < 0 ∨ 8 ≤ v4.toNatClampNeg) then none else nmS (pL σ (k0 + 1) v4.toNatClampNeg ((-(σ.1 k1 v4.toNatClampNeg)).toInt64)) fun σ205 => c3 v2 v3 (v4 + (1 : Int32)) σ205)
set_option maxHeartbeats 4000000 in
set_option maxRecDepth 100000 in
theorem w_X3_becomeBound_3 {p : Program} {l : Launch} {e : Env} {s : State} {m : MethodId} {args : Array Value} {below : List Frame} {meth : Method} {c : Code} {G : Gd} {B : Nat} (X : Cm p s m args meth c cX3_becomeBound 5 RX3 G none) (c3 : Int32 → Int32 → Int32 → Sto → Option (Sto)) (k0 : Nat) (k1 n1 : Nat) (h0 : (k0 < layX.2.2 ∧ layX.1 k0 = .inl 3)) (h1 : (k1 < layX.2.2 ∧ layX.1 k1 = .inr (.int, n1))) {σr : Sto} (ih3 : ∀ (v2 : Int32) (v3 : Int32) (v4 : Int32) (σ : Sto) (H : Heap) (locs : List Loc) (ls : Array Slot), c3 v2 v3 v4 σ = some σr → HX G layX B σ H → va_S (inW layX B) s.heap H locs → lv_has ls 5 [(0, .ref (B + k0)), (1, .ref (B + k1)), (2, .int v2), (3, .int v3), (4, .int v4)] → WM p l e 0 s m args below meth c H locs G layX B none σr (F0 m 3 ls [])) (v2 : Int32) (v3 : Int32) (v4 : Int32) (σ : Sto) (hf : b_X3_becomeBound_3 c3 k0 k1 n1 v2 v3 v4 σ = some σr) (H : Heap) (locs : List Loc) (hH : HX G layX B σ H) (hS : va_S (inW layX B) s.heap H locs) (ls : Array Slot) (hl : lv_has ls 5 [(0, .ref (B + k0)), (1, .ref (B + k1)), (2, .int v2), (3, .int v3), (4, .int v4)]) : WM p l e 0 s m args below meth c H locs G layX B none σr (F0 m 3 ls []) := by
  unfold b_X3_becomeBound_3 at hf
  have hx := X.1.1
  have hb := X.1.2.1
  refine lv_iload hx hb dX3_becomeBound_3 (lv_at hl 4 rfl) ?_
  refine lv_bipush (v := 8) hx hb dX3_becomeBound_5 (by decide) ?_
  refine lv_icmp_ge (tgt := 29) hx hb dX3_becomeBound_7 (by decide) (fun q201 => ?_) (fun q201 => ?_)
  · replace hf := brT hf q201
    refine lv_aload_n hx hb dX3_becomeBound_29 rfl (lv_at hl 0 rfl) ?_
    refine lv_iload_n hx hb dX3_becomeBound_30 rfl (lv_at hl 2 rfl) ?_
    refine lv_iload_n hx hb dX3_becomeBound_31 rfl (lv_at hl 3 rfl) ?_
    refine lv_isub hx hb dX3_becomeBound_32 ?_
    refine lv_iconst (v := 1) hx hb dX3_becomeBound_33 (by decide) ?_
    refine lv_iadd hx hb dX3_becomeBound_34 ?_
    refine lv_i2l hx hb dX3_becomeBound_35 rfl ?_
    refine g_putL kX3 (by decide) fl_RX3_25 rfl rfl X.1 hH hS h0 dX3_becomeBound_36 (fun H locs hH hS => ?_)
    obtain ⟨σ202, eσ202, hH⟩ := nmX hH
    replace hf := nmU hf eσ202
    obtain rfl := rt1 hf
    exact g_vret X hH hS dX3_becomeBound_39
  · replace hf := brF hf q201
    refine lv_aload_n hx hb dX3_becomeBound_10 rfl (lv_at hl 0 rfl) ?_
    refine g_get (v := .ref (B + (k0 + 1))) kX3 (by decide) fl_RX3_9 X.1 hH h0 (cRef h0) dX3_becomeBound_11 ?_
    refine lv_iload hx hb dX3_becomeBound_14 (lv_at hl 4 rfl) ?_
    refine lv_aload_n hx hb dX3_becomeBound_16 rfl (lv_at hl 1 rfl) ?_
    refine lv_iload hx hb dX3_becomeBound_17 (lv_at hl 4 rfl) ?_
    obtain ⟨q203, hf⟩ := chk hf
    refine g_iald (j := v4.toNatClampNeg) X.1 hH h1 q203 rfl dX3_becomeBound_19 ?_
    refine lv_ineg hx hb dX3_becomeBound_20 ?_
    refine lv_i2l hx hb dX3_becomeBound_21 rfl ?_
    obtain ⟨q204, hf⟩ := chk hf
    refine g_last (j := v4.toNatClampNeg) X.1 hH hS (cArr h0) q204 rfl dX3_becomeBound_22 (fun H locs hH hS => ?_)
    obtain ⟨σ205, eσ205, hH⟩ := nmX hH
    replace hf := nmU hf eσ205
    refine lv_iinc (v := (v4 + (1 : Int32))) (lv' := [(4, .int (v4 + (1 : Int32))), (0, .ref (B + k0)), (1, .ref (B + k1)), (2, .int v2), (3, .int v3)]) hx hb dX3_becomeBound_23 hl (k := 4) rfl rfl (by decide) rfl (fun ls hl => ?_)
    refine lv_goto (tgt := 3) hx hb dX3_becomeBound_26 (by decide) ?_
    exact ih3 v2 v3 (v4 + (1 : Int32)) σ205 _ _ _ hf hH hS (lv_sub hl [1, 2, 3, 4, 0] rfl)
def l_X3_becomeBound_3 (k0 : Nat) (k1 n1 : Nat) : Nat → Int32 → Int32 → Int32 → Sto → Option (Sto)
  | 0, _, _, _, _ => none
  | n + 1, v2, v3, v4, σ => b_X3_becomeBound_3 (l_X3_becomeBound_3 k0 k1 n1 n) k0 k1 n1 v2 v3 v4 σ
set_option maxHeartbeats 4000000 in
set_option maxRecDepth 100000 in
theorem wl_X3_becomeBound_3 {p : Program} {l : Launch} {e : Env} {s : State} {m : MethodId} {args : Array Value} {below : List Frame} {meth : Method} {c : Code} {G : Gd} {B : Nat} (X : Cm p s m args meth c cX3_becomeBound 5 RX3 G none) (k0 : Nat) (k1 n1 : Nat) (h0 : (k0 < layX.2.2 ∧ layX.1 k0 = .inl 3)) (h1 : (k1 < layX.2.2 ∧ layX.1 k1 = .inr (.int, n1))) {σr : Sto} (n : Nat) : ∀ (v2 : Int32) (v3 : Int32) (v4 : Int32) (σ : Sto) (H : Heap) (locs : List Loc) (ls : Array Slot), l_X3_becomeBound_3 k0 k1 n1 n v2 v3 v4 σ = some σr → HX G layX B σ H → va_S (inW layX B) s.heap H locs → lv_has ls 5 [(0, .ref (B + k0)), (1, .ref (B + k1)), (2, .int v2), (3, .int v3), (4, .int v4)] → WM p l e 0 s m args below meth c H locs G layX B none σr (F0 m 3 ls []) := by
  induction n with
  | zero =>
    intro _ _ _ σ H locs ls hf
    cases hf
  | succ n ih =>
    intro v2 v3 v4 σ H locs ls hf hH hS hl
    exact w_X3_becomeBound_3 X (l_X3_becomeBound_3 k0 k1 n1 n) k0 k1 n1 h0 h1 ih v2 v3 v4 σ hf H locs hH hS ls hl
def f_X3_becomeBound (k0 : Nat) (k1 n1 : Nat) (x2 : Int32) (x3 : Int32) (σ : Sto) : Option (Sto) :=
  l_X3_becomeBound_3 k0 k1 n1 400 x2 x3 (0 : Int32) σ
set_option maxHeartbeats 4000000 in
set_option maxRecDepth 100000 in
theorem w_X3_becomeBound {p : Program} {l : Launch} {e : Env} {s : State} {m : MethodId} {args : Array Value} {below : List Frame} {meth : Method} {c : Code} {G : Gd} {B : Nat} (X : Cm p s m args meth c cX3_becomeBound 5 RX3 G none) (k0 : Nat) (k1 n1 : Nat) (h0 : (k0 < layX.2.2 ∧ layX.1 k0 = .inl 3)) (h1 : (k1 < layX.2.2 ∧ layX.1 k1 = .inr (.int, n1))) {σr : Sto} (x2 : Int32) (x3 : Int32) (σ : Sto) (hf : f_X3_becomeBound k0 k1 n1 x2 x3 σ = some σr) (H : Heap) (locs : List Loc) (hH : HX G layX B σ H) (hS : va_S (inW layX B) s.heap H locs) (ls : Array Slot) (hl : lv_has ls 5 [(0, .ref (B + k0)), (1, .ref (B + k1)), (2, .int x2), (3, .int x3)]) : WM p l e 0 s m args below meth c H locs G layX B none σr (F0 m 0 ls []) := by
  unfold f_X3_becomeBound at hf
  have hx := X.1.1
  have hb := X.1.2.1
  refine lv_iconst (v := 0) hx hb dX3_becomeBound_0 (by decide) ?_
  refine lv_istore (lv' := [(4, .int (0 : Int32)), (0, .ref (B + k0)), (1, .ref (B + k1)), (2, .int x2), (3, .int x3)]) hx hb dX3_becomeBound_1 hl (by decide) rfl (fun ls hl => ?_)
  exact wl_X3_becomeBound_3 X k0 k1 n1 h0 h1 400 x2 x3 (0 : Int32) σ _ _ _ hf hH hS (lv_sub hl [1, 2, 3, 4, 0] rfl)
theorem c_X3_becomeBound (l : Launch) (G : Gd) (B : Nat) (k0 : Nat) (h0 : (k0 < layX.2.2 ∧ layX.1 k0 = .inl 3)) (k1 n1 : Nat) (h1 : (k1 < layX.2.2 ∧ layX.1 k1 = .inr (.int, n1))) (x2 : Int32) (x3 : Int32) (σ σr : Sto) (hf : f_X3_becomeBound k0 k1 n1 x2 x3 σ = some σr) : Ct l G layX B yX3_becomeBound cX3_becomeBound 5 none 0 [.ref (B + k0), .ref (B + k1), .int x2, .int x3] none σ σr :=
  Ct.ofW (by decide) (Nat.le_of_ble_eq_true rfl) (fun _ _ _ _ _ _ _ X hH hS ls hl => w_X3_becomeBound X k0 k1 n1 h0 h1 x2 x3 σ hf _ _ hH hS ls (show lv_has ls 5 [(0, .ref (B + k0)), (1, .ref (B + k1)), (2, .int x2), (3, .int x3)] from hl))
-- SlackProofs$Clause.becomeContrary(LSlackProofs$Clause;)V  (D 2)
def b_X3_becomeContrary_51 (k0 : Nat) (k1 : Nat) (s0 : Int64) (σ : Sto) : Option (Sto) :=
  nmS (pL σ k0 2 s0) fun σ306 => some σ306
set_option maxHeartbeats 4000000 in
set_option maxRecDepth 100000 in
theorem w_X3_becomeContrary_51 {p : Program} {l : Launch} {e : Env} {s : State} {m : MethodId} {args : Array Value} {below : List Frame} {meth : Method} {c : Code} {G : Gd} {B : Nat} (X : Cm p s m args meth c cX3_becomeContrary 4 RX3 G none) (k0 : Nat) (k1 : Nat) (h0 : (k0 < layX.2.2 ∧ layX.1 k0 = .inl 3)) (h1 : (k1 < layX.2.2 ∧ layX.1 k1 = .inl 3)) {σr : Sto} (s0 : Int64) (σ : Sto) (hf : b_X3_becomeContrary_51 k0 k1 s0 σ = some σr) (H : Heap) (locs : List Loc) (hH : HX G layX B σ H) (hS : va_S (inW layX B) s.heap H locs) (ls : Array Slot) (hl : lv_has ls 4 []) : WM p l e 2 s m args below meth c H locs G layX B none σr (F0 m 51 ls [.long s0, .ref (B + k0)]) := by
  unfold b_X3_becomeContrary_51 at hf
  have hx := X.1.1
  have hb := X.1.2.1
  refine g_putL kX3 (by decide) fl_RX3_25 rfl rfl X.1 hH hS h0 dX3_becomeContrary_51 (fun H locs hH hS => ?_)
  obtain ⟨σ306, eσ306, hH⟩ := nmX hH
  replace hf := nmU hf eσ306
  obtain rfl := rt1 hf
  exact g_vret X hH hS dX3_becomeContrary_54
def b_X3_becomeContrary_2 (c2 : Int32 → Sto → Option (Sto)) (k0 : Nat) (k1 : Nat) (v2 : Int32) (σ : Sto) : Option (Sto) :=
  if (8 : Int32) ≤ v2 then (bd2 (f_X3_total k1 σ) fun r203 σ202 => nmS (r203 - (σ202.2 k1 2)) fun y204 => if (0 : Int64) ≤ y204 then (b_X3_becomeContrary_51 k0 k1 (y204 + (1 : Int64)) σ202) else (b_X3_becomeContrary_51 k0 k1 (0 : Int64) σ202)) else (if (v2 < 0 ∨ 8 ≤ v2.toNatClampNeg) then none else if (v2 < 0 ∨ 8 ≤ v2.toNatClampNeg) then none else nmS (pL σ (k0 + 1) v2.toNatClampNeg (-(σ.2 (k1 + 1) v2.toNatClampNeg))) fun σ309 => c2 (v2 + (1 : Int32)) σ309)
set_option maxHeartbeats 4000000 in
set_option maxRecDepth 100000 in
theorem w_X3_becomeContrary_2 {p : Program} {l : Launch} {e : Env} {s : State} {m : MethodId} {args : Array Value} {below : List Frame} {meth : Method} {c : Code} {G : Gd} {B : Nat} (X : Cm p s m args meth c cX3_becomeContrary 4 RX3 G none) (c2 : Int32 → Sto → Option (Sto)) (k0 : Nat) (k1 : Nat) (h0 : (k0 < layX.2.2 ∧ layX.1 k0 = .inl 3)) (h1 : (k1 < layX.2.2 ∧ layX.1 k1 = .inl 3)) {σr : Sto} (ih2 : ∀ (v2 : Int32) (σ : Sto) (H : Heap) (locs : List Loc) (ls : Array Slot), c2 v2 σ = some σr → HX G layX B σ H → va_S (inW layX B) s.heap H locs → lv_has ls 4 [(0, .ref (B + k0)), (1, .ref (B + k1)), (2, .int v2)] → WM p l e 2 s m args below meth c H locs G layX B none σr (F0 m 2 ls [])) (v2 : Int32) (σ : Sto) (hf : b_X3_becomeContrary_2 c2 k0 k1 v2 σ = some σr) (H : Heap) (locs : List Loc) (hH : HX G layX B σ H) (hS : va_S (inW layX B) s.heap H locs) (ls : Array Slot) (hl : lv_has ls 4 [(0, .ref (B + k0)), (1, .ref (B + k1)), (2, .int v2)]) : WM p l e 2 s m args below meth c H locs G layX B none σr (F0 m 2 ls []) := by
  unfold b_X3_becomeContrary_2 at hf
  have hx := X.1.1
  have hb := X.1.2.1
  refine lv_iload_n hx hb dX3_becomeContrary_2 rfl (lv_at hl 2 rfl) ?_
  refine lv_bipush (v := 8) hx hb dX3_becomeContrary_3 (by decide) ?_
  refine lv_icmp_ge (tgt := 27) hx hb dX3_becomeContrary_5 (by decide) (fun q201 => ?_) (fun q201 => ?_)
  · replace hf := brT hf q201
    refine lv_aload_n hx hb dX3_becomeContrary_27 rfl (lv_at hl 1 rfl) ?_
    obtain ⟨r203, σ202, eσ202, hf⟩ := bnd2 hf
    refine g_cVl (As := []) X.1 hH hS (c_X3_total l G B k1 h1 σ σ202 r203 eσ202) kw_RX3_61 kX3 h1 (by decide) rfl hl (Nat.le_of_ble_eq_true rfl) rfl dX3_becomeContrary_28 (fun H locs hH hS => ?_)
    refine lv_aload_n hx hb dX3_becomeContrary_31 rfl (lv_at hl 1 rfl) ?_
    refine g_get (v := .long (σ202.2 k1 2)) kX3 (by decide) fl_RX3_25 X.1 hH h1 rfl dX3_becomeContrary_32 ?_
    refine lv_lsub hx hb dX3_becomeContrary_35 ?_
    refine lv_topl (fun y204 ey204 => ?_)
    replace hf := nmU hf ey204
    refine lv_lstore_n (lv' := [(2, .long y204), (0, .ref (B + k0)), (1, .ref (B + k1))]) hx hb dX3_becomeContrary_36 rfl hl (by decide) rfl (fun ls hl => ?_)
    refine lv_aload_n hx hb dX3_becomeContrary_37 rfl (lv_at hl 1 rfl) ?_
    refine lv_lload_n hx hb dX3_becomeContrary_38 rfl (lv_at hl 0 rfl) ?_
    refine lv_lconst (v := 0) hx hb dX3_becomeContrary_39 (by decide) ?_
    refine g_lge (tgt := 48) X.1 dX3_becomeContrary_40 dX3_becomeContrary_41 (by decide) (fun q205 => ?_) (fun q205 => ?_)
    · replace hf := brT hf q205
      refine lv_lload_n hx hb dX3_becomeContrary_48 rfl (lv_at hl 0 rfl) ?_
      refine lv_lconst (v := 1) hx hb dX3_becomeContrary_49 (by decide) ?_
      refine lv_ladd hx hb dX3_becomeContrary_50 ?_
      exact w_X3_becomeContrary_51 X k0 k1 h0 h1 (y204 + (1 : Int64)) σ202 hf _ _ hH hS _ (lv_sub hl [] rfl)
    · replace hf := brF hf q205
      refine lv_lconst (v := 0) hx hb dX3_becomeContrary_44 (by decide) ?_
      refine lv_goto (tgt := 51) hx hb dX3_becomeContrary_45 (by decide) ?_
      exact w_X3_becomeContrary_51 X k0 k1 h0 h1 (0 : Int64) σ202 hf _ _ hH hS _ (lv_sub hl [] rfl)
  · replace hf := brF hf q201
    refine lv_aload_n hx hb dX3_becomeContrary_8 rfl (lv_at hl 0 rfl) ?_
    refine g_get (v := .ref (B + (k0 + 1))) kX3 (by decide) fl_RX3_9 X.1 hH h0 (cRef h0) dX3_becomeContrary_9 ?_
    refine lv_iload_n hx hb dX3_becomeContrary_12 rfl (lv_at hl 2 rfl) ?_
    refine lv_aload_n hx hb dX3_becomeContrary_13 rfl (lv_at hl 1 rfl) ?_
    refine g_get (v := .ref (B + (k1 + 1))) kX3 (by decide) fl_RX3_9 X.1 hH h1 (cRef h1) dX3_becomeContrary_14 ?_
    refine lv_iload_n hx hb dX3_becomeContrary_17 rfl (lv_at hl 2 rfl) ?_
    obtain ⟨q307, hf⟩ := chk hf
    refine g_lald (j := v2.toNatClampNeg) X.1 hH (cArr h1) q307 rfl dX3_becomeContrary_18 ?_
    refine lv_lneg hx hb dX3_becomeContrary_19 ?_
    obtain ⟨q308, hf⟩ := chk hf
    refine g_last (j := v2.toNatClampNeg) X.1 hH hS (cArr h0) q308 rfl dX3_becomeContrary_20 (fun H locs hH hS => ?_)
    obtain ⟨σ309, eσ309, hH⟩ := nmX hH
    replace hf := nmU hf eσ309
    refine lv_iinc (v := (v2 + (1 : Int32))) (lv' := [(2, .int (v2 + (1 : Int32))), (0, .ref (B + k0)), (1, .ref (B + k1))]) hx hb dX3_becomeContrary_21 hl (k := 2) rfl rfl (by decide) rfl (fun ls hl => ?_)
    refine lv_goto (tgt := 2) hx hb dX3_becomeContrary_24 (by decide) ?_
    exact ih2 (v2 + (1 : Int32)) σ309 _ _ _ hf hH hS (lv_sub hl [1, 2, 0] rfl)
def l_X3_becomeContrary_2 (k0 : Nat) (k1 : Nat) : Nat → Int32 → Sto → Option (Sto)
  | 0, _, _ => none
  | n + 1, v2, σ => b_X3_becomeContrary_2 (l_X3_becomeContrary_2 k0 k1 n) k0 k1 v2 σ
set_option maxHeartbeats 4000000 in
set_option maxRecDepth 100000 in
theorem wl_X3_becomeContrary_2 {p : Program} {l : Launch} {e : Env} {s : State} {m : MethodId} {args : Array Value} {below : List Frame} {meth : Method} {c : Code} {G : Gd} {B : Nat} (X : Cm p s m args meth c cX3_becomeContrary 4 RX3 G none) (k0 : Nat) (k1 : Nat) (h0 : (k0 < layX.2.2 ∧ layX.1 k0 = .inl 3)) (h1 : (k1 < layX.2.2 ∧ layX.1 k1 = .inl 3)) {σr : Sto} (n : Nat) : ∀ (v2 : Int32) (σ : Sto) (H : Heap) (locs : List Loc) (ls : Array Slot), l_X3_becomeContrary_2 k0 k1 n v2 σ = some σr → HX G layX B σ H → va_S (inW layX B) s.heap H locs → lv_has ls 4 [(0, .ref (B + k0)), (1, .ref (B + k1)), (2, .int v2)] → WM p l e 2 s m args below meth c H locs G layX B none σr (F0 m 2 ls []) := by
  induction n with
  | zero =>
    intro _ σ H locs ls hf
    cases hf
  | succ n ih =>
    intro v2 σ H locs ls hf hH hS hl
    exact w_X3_becomeContrary_2 X (l_X3_becomeContrary_2 k0 k1 n) k0 k1 h0 h1 ih v2 σ hf H locs hH hS ls hl
def f_X3_becomeContrary (k0 : Nat) (k1 : Nat) (σ : Sto) : Option (Sto) :=
  l_X3_becomeContrary_2 k0 k1 400 (0 : Int32) σ
set_option maxHeartbeats 4000000 in
set_option maxRecDepth 100000 in
theorem w_X3_becomeContrary {p : Program} {l : Launch} {e : Env} {s : State} {m : MethodId} {args : Array Value} {below : List Frame} {meth : Method} {c : Code} {G : Gd} {B : Nat} (X : Cm p s m args meth c cX3_becomeContrary 4 RX3 G none) (k0 : Nat) (k1 : Nat) (h0 : (k0 < layX.2.2 ∧ layX.1 k0 = .inl 3)) (h1 : (k1 < layX.2.2 ∧ layX.1 k1 = .inl 3)) {σr : Sto} (σ : Sto) (hf : f_X3_becomeContrary k0 k1 σ = some σr) (H : Heap) (locs : List Loc) (hH : HX G layX B σ H) (hS : va_S (inW layX B) s.heap H locs) (ls : Array Slot) (hl : lv_has ls 4 [(0, .ref (B + k0)), (1, .ref (B + k1))]) : WM p l e 2 s m args below meth c H locs G layX B none σr (F0 m 0 ls []) := by
  unfold f_X3_becomeContrary at hf
  have hx := X.1.1
  have hb := X.1.2.1
  refine lv_iconst (v := 0) hx hb dX3_becomeContrary_0 (by decide) ?_
  refine lv_istore_n (lv' := [(2, .int (0 : Int32)), (0, .ref (B + k0)), (1, .ref (B + k1))]) hx hb dX3_becomeContrary_1 rfl hl (by decide) rfl (fun ls hl => ?_)
  exact wl_X3_becomeContrary_2 X k0 k1 h0 h1 400 (0 : Int32) σ _ _ _ hf hH hS (lv_sub hl [1, 2, 0] rfl)
theorem c_X3_becomeContrary (l : Launch) (G : Gd) (B : Nat) (k0 : Nat) (h0 : (k0 < layX.2.2 ∧ layX.1 k0 = .inl 3)) (k1 : Nat) (h1 : (k1 < layX.2.2 ∧ layX.1 k1 = .inl 3)) (σ σr : Sto) (hf : f_X3_becomeContrary k0 k1 σ = some σr) : Ct l G layX B yX3_becomeContrary cX3_becomeContrary 4 none 2 [.ref (B + k0), .ref (B + k1)] none σ σr :=
  Ct.ofW (by decide) (Nat.le_of_ble_eq_true rfl) (fun _ _ _ _ _ _ _ X hH hS ls hl => w_X3_becomeContrary X k0 k1 h0 h1 σ hf _ _ hH hS ls (show lv_has ls 4 [(0, .ref (B + k0)), (1, .ref (B + k1))] from hl))
-- SlackProofs$Clause.joins(IJ)Z  (D 1)
def b_X3_joins_94 (k0 : Nat) (v1 : Int32) (v2 : Int64) (v4 : Int64) (σ : Sto) : Option (Int32 × Sto) :=
  if (v1 < 0 ∨ 8 ≤ v1.toNatClampNeg) then none else nmS (pL σ (k0 + 1) v1.toNatClampNeg (v4 + v2)) fun σ306 => some ((1 : Int32), σ306)
set_option maxHeartbeats 4000000 in
set_option maxRecDepth 100000 in
theorem w_X3_joins_94 {p : Program} {l : Launch} {e : Env} {s : State} {m : MethodId} {args : Array Value} {below : List Frame} {meth : Method} {c : Code} {G : Gd} {B : Nat} (X : Cm p s m args meth c cX3_joins 6 RX3 G (some .boolean)) (k0 : Nat) (h0 : (k0 < layX.2.2 ∧ layX.1 k0 = .inl 3)) {r : Int32} {σr : Sto} (v1 : Int32) (v2 : Int64) (v4 : Int64) (σ : Sto) (hf : b_X3_joins_94 k0 v1 v2 v4 σ = some (r, σr)) (H : Heap) (locs : List Loc) (hH : HX G layX B σ H) (hS : va_S (inW layX B) s.heap H locs) (ls : Array Slot) (hl : lv_has ls 6 [(0, .ref (B + k0)), (1, .int v1), (2, .long v2), (4, .long v4)]) : WM p l e 1 s m args below meth c H locs G layX B (some (.int r)) σr (F0 m 94 ls []) := by
  unfold b_X3_joins_94 at hf
  have hx := X.1.1
  have hb := X.1.2.1
  refine lv_aload_n hx hb dX3_joins_94 rfl (lv_at hl 0 rfl) ?_
  refine g_get (v := .ref (B + (k0 + 1))) kX3 (by decide) fl_RX3_9 X.1 hH h0 (cRef h0) dX3_joins_95 ?_
  refine lv_iload_n hx hb dX3_joins_98 rfl (lv_at hl 1 rfl) ?_
  refine lv_lload hx hb dX3_joins_99 (lv_at hl 3 rfl) ?_
  refine lv_lload_n hx hb dX3_joins_101 rfl (lv_at hl 2 rfl) ?_
  refine lv_ladd hx hb dX3_joins_102 ?_
  obtain ⟨q305, hf⟩ := chk hf
  refine g_last (j := v1.toNatClampNeg) X.1 hH hS (cArr h0) q305 rfl dX3_joins_103 (fun H locs hH hS => ?_)
  obtain ⟨σ306, eσ306, hH⟩ := nmX hH
  replace hf := nmU hf eσ306
  refine lv_iconst (v := 1) hx hb dX3_joins_104 (by decide) ?_
  obtain ⟨rfl, rfl⟩ := rt2 hf
  exact g_zret X hH hS (by decide) dX3_joins_105
def b_X3_joins_75 (k0 : Nat) (v1 : Int32) (v2 : Int64) (v4 : Int64) (σ : Sto) : Option (Int32 × Sto) :=
  if (mabs v4) ≤ ((9223372036854775807 : Int64) - (mabs v2)) then (b_X3_joins_94 k0 v1 v2 v4 σ) else (some ((0 : Int32), σ))
set_option maxHeartbeats 4000000 in
set_option maxRecDepth 100000 in
theorem w_X3_joins_75 {p : Program} {l : Launch} {e : Env} {s : State} {m : MethodId} {args : Array Value} {below : List Frame} {meth : Method} {c : Code} {G : Gd} {B : Nat} (X : Cm p s m args meth c cX3_joins 6 RX3 G (some .boolean)) (k0 : Nat) (h0 : (k0 < layX.2.2 ∧ layX.1 k0 = .inl 3)) {r : Int32} {σr : Sto} (v1 : Int32) (v2 : Int64) (v4 : Int64) (σ : Sto) (hf : b_X3_joins_75 k0 v1 v2 v4 σ = some (r, σr)) (H : Heap) (locs : List Loc) (hH : HX G layX B σ H) (hS : va_S (inW layX B) s.heap H locs) (ls : Array Slot) (hl : lv_has ls 6 [(0, .ref (B + k0)), (1, .int v1), (2, .long v2), (4, .long v4)]) : WM p l e 1 s m args below meth c H locs G layX B (some (.int r)) σr (F0 m 75 ls []) := by
  unfold b_X3_joins_75 at hf
  have hx := X.1.1
  have hb := X.1.2.1
  refine lv_lload hx hb dX3_joins_75 (lv_at hl 3 rfl) ?_
  refine g_abs X.1 mt_RX3_44 (by decide) hl (Nat.le_of_ble_eq_true rfl) dX3_joins_77 ?_
  refine lv_ldc2 (v := 9223372036854775807) hx hb X.1.2.2.2.1 (X.1.2.2.2.2.1 _ kc_RX3_38) dX3_joins_80 ?_
  refine lv_lload_n hx hb dX3_joins_83 rfl (lv_at hl 2 rfl) ?_
  refine g_abs X.1 mt_RX3_44 (by decide) hl (Nat.le_of_ble_eq_true rfl) dX3_joins_84 ?_
  refine lv_lsub hx hb dX3_joins_87 ?_
  refine g_lle (tgt := 94) X.1 dX3_joins_88 dX3_joins_89 (by decide) (fun q204 => ?_) (fun q204 => ?_)
  · replace hf := brT hf q204
    exact w_X3_joins_94 X k0 h0 v1 v2 v4 σ hf _ _ hH hS _ (lv_sub hl [0, 1, 2, 3] rfl)
  · replace hf := brF hf q204
    refine lv_iconst (v := 0) hx hb dX3_joins_92 (by decide) ?_
    obtain ⟨rfl, rfl⟩ := rt2 hf
    exact g_zret X hH hS (by decide) dX3_joins_93
def b_X3_joins_44 (k0 : Nat) (v1 : Int32) (v2 : Int64) (v4 : Int64) (s0 : Int32) (s1 : Int32) (σ : Sto) : Option (Int32 × Sto) :=
  if s1 = s0 then (b_X3_joins_75 k0 v1 v2 v4 σ) else (nmS (pL σ k0 2 (mmax (0 : Int64) ((σ.2 k0 2) - (mmin (mabs v4) (mabs v2))))) fun σ511 => b_X3_joins_94 k0 v1 v2 v4 σ511)
set_option maxHeartbeats 4000000 in
set_option maxRecDepth 100000 in
theorem w_X3_joins_44 {p : Program} {l : Launch} {e : Env} {s : State} {m : MethodId} {args : Array Value} {below : List Frame} {meth : Method} {c : Code} {G : Gd} {B : Nat} (X : Cm p s m args meth c cX3_joins 6 RX3 G (some .boolean)) (k0 : Nat) (h0 : (k0 < layX.2.2 ∧ layX.1 k0 = .inl 3)) {r : Int32} {σr : Sto} (v1 : Int32) (v2 : Int64) (v4 : Int64) (s0 : Int32) (s1 : Int32) (σ : Sto) (hf : b_X3_joins_44 k0 v1 v2 v4 s0 s1 σ = some (r, σr)) (H : Heap) (locs : List Loc) (hH : HX G layX B σ H) (hS : va_S (inW layX B) s.heap H locs) (ls : Array Slot) (hl : lv_has ls 6 [(0, .ref (B + k0)), (1, .int v1), (2, .long v2), (4, .long v4)]) : WM p l e 1 s m args below meth c H locs G layX B (some (.int r)) σr (F0 m 44 ls [.int s0, .int s1]) := by
  unfold b_X3_joins_44 at hf
  have hx := X.1.1
  have hb := X.1.2.1
  refine lv_icmp_eq (tgt := 75) hx hb dX3_joins_44 (by decide) (fun q510 => ?_) (fun q510 => ?_)
  · replace hf := brT hf q510
    exact w_X3_joins_75 X k0 h0 v1 v2 v4 σ hf _ _ hH hS _ (lv_sub hl [0, 1, 2, 3] rfl)
  · replace hf := brF hf q510
    refine lv_aload_n hx hb dX3_joins_47 rfl (lv_at hl 0 rfl) ?_
    refine lv_lconst (v := 0) hx hb dX3_joins_48 (by decide) ?_
    refine lv_aload_n hx hb dX3_joins_49 rfl (lv_at hl 0 rfl) ?_
    refine g_get (v := .long (σ.2 k0 2)) kX3 (by decide) fl_RX3_25 X.1 hH h0 rfl dX3_joins_50 ?_
    refine lv_lload hx hb dX3_joins_53 (lv_at hl 3 rfl) ?_
    refine g_abs X.1 mt_RX3_44 (by decide) hl (Nat.le_of_ble_eq_true rfl) dX3_joins_55 ?_
    refine lv_lload_n hx hb dX3_joins_58 rfl (lv_at hl 2 rfl) ?_
    refine g_abs X.1 mt_RX3_44 (by decide) hl (Nat.le_of_ble_eq_true rfl) dX3_joins_59 ?_
    refine g_min X.1 mt_RX3_50 (by decide) hl (Nat.le_of_ble_eq_true rfl) dX3_joins_62 ?_
    refine lv_lsub hx hb dX3_joins_65 ?_
    refine g_max X.1 mt_RX3_54 (by decide) hl (Nat.le_of_ble_eq_true rfl) dX3_joins_66 ?_
    refine g_putL kX3 (by decide) fl_RX3_25 rfl rfl X.1 hH hS h0 dX3_joins_69 (fun H locs hH hS => ?_)
    obtain ⟨σ511, eσ511, hH⟩ := nmX hH
    replace hf := nmU hf eσ511
    refine lv_goto (tgt := 94) hx hb dX3_joins_72 (by decide) ?_
    exact w_X3_joins_94 X k0 h0 v1 v2 v4 σ511 hf _ _ hH hS _ (lv_sub hl [0, 1, 2, 3] rfl)
def b_X3_joins_33 (k0 : Nat) (v1 : Int32) (v2 : Int64) (v4 : Int64) (s0 : Int32) (σ : Sto) : Option (Int32 × Sto) :=
  if v2 ≤ (0 : Int64) then (b_X3_joins_44 k0 v1 v2 v4 (0 : Int32) s0 σ) else (b_X3_joins_44 k0 v1 v2 v4 (1 : Int32) s0 σ)
set_option maxHeartbeats 4000000 in
set_option maxRecDepth 100000 in
theorem w_X3_joins_33 {p : Program} {l : Launch} {e : Env} {s : State} {m : MethodId} {args : Array Value} {below : List Frame} {meth : Method} {c : Code} {G : Gd} {B : Nat} (X : Cm p s m args meth c cX3_joins 6 RX3 G (some .boolean)) (k0 : Nat) (h0 : (k0 < layX.2.2 ∧ layX.1 k0 = .inl 3)) {r : Int32} {σr : Sto} (v1 : Int32) (v2 : Int64) (v4 : Int64) (s0 : Int32) (σ : Sto) (hf : b_X3_joins_33 k0 v1 v2 v4 s0 σ = some (r, σr)) (H : Heap) (locs : List Loc) (hH : HX G layX B σ H) (hS : va_S (inW layX B) s.heap H locs) (ls : Array Slot) (hl : lv_has ls 6 [(0, .ref (B + k0)), (1, .int v1), (2, .long v2), (4, .long v4)]) : WM p l e 1 s m args below meth c H locs G layX B (some (.int r)) σr (F0 m 33 ls [.int s0]) := by
  unfold b_X3_joins_33 at hf
  have hx := X.1.1
  have hb := X.1.2.1
  refine lv_lload_n hx hb dX3_joins_33 rfl (lv_at hl 2 rfl) ?_
  refine lv_lconst (v := 0) hx hb dX3_joins_34 (by decide) ?_
  refine g_lle (tgt := 43) X.1 dX3_joins_35 dX3_joins_36 (by decide) (fun q409 => ?_) (fun q409 => ?_)
  · replace hf := brT hf q409
    refine lv_iconst (v := 0) hx hb dX3_joins_43 (by decide) ?_
    exact w_X3_joins_44 X k0 h0 v1 v2 v4 (0 : Int32) s0 σ hf _ _ hH hS _ (lv_sub hl [0, 1, 2, 3] rfl)
  · replace hf := brF hf q409
    refine lv_iconst (v := 1) hx hb dX3_joins_39 (by decide) ?_
    refine lv_goto (tgt := 44) hx hb dX3_joins_40 (by decide) ?_
    exact w_X3_joins_44 X k0 h0 v1 v2 v4 (1 : Int32) s0 σ hf _ _ hH hS _ (lv_sub hl [0, 1, 2, 3] rfl)
def f_X3_joins (k0 : Nat) (x1 : Int32) (x2 : Int64) (σ : Sto) : Option (Int32 × Sto) :=
  if (x1 < 0 ∨ 8 ≤ x1.toNatClampNeg) then none else nmS (σ.2 (k0 + 1) x1.toNatClampNeg) fun y102 => if y102 = (0 : Int64) then (b_X3_joins_75 k0 x1 x2 y102 σ) else (if x2 = (0 : Int64) then (b_X3_joins_75 k0 x1 x2 y102 σ) else (if y102 ≤ (0 : Int64) then (b_X3_joins_33 k0 x1 x2 y102 (0 : Int32) σ) else (b_X3_joins_33 k0 x1 x2 y102 (1 : Int32) σ)))
set_option maxHeartbeats 4000000 in
set_option maxRecDepth 100000 in
theorem w_X3_joins {p : Program} {l : Launch} {e : Env} {s : State} {m : MethodId} {args : Array Value} {below : List Frame} {meth : Method} {c : Code} {G : Gd} {B : Nat} (X : Cm p s m args meth c cX3_joins 6 RX3 G (some .boolean)) (k0 : Nat) (h0 : (k0 < layX.2.2 ∧ layX.1 k0 = .inl 3)) {r : Int32} {σr : Sto} (x1 : Int32) (x2 : Int64) (σ : Sto) (hf : f_X3_joins k0 x1 x2 σ = some (r, σr)) (H : Heap) (locs : List Loc) (hH : HX G layX B σ H) (hS : va_S (inW layX B) s.heap H locs) (ls : Array Slot) (hl : lv_has ls 6 [(0, .ref (B + k0)), (1, .int x1), (2, .long x2)]) : WM p l e 1 s m args below meth c H locs G layX B (some (.int r)) σr (F0 m 0 ls []) := by
  unfold f_X3_joins at hf
  have hx := X.1.1
  have hb := X.1.2.1
  refine lv_aload_n hx hb dX3_joins_0 rfl (lv_at hl 0 rfl) ?_
  refine g_get (v := .ref (B + (k0 + 1))) kX3 (by decide) fl_RX3_9 X.1 hH h0 (cRef h0) dX3_joins_1 ?_
  refine lv_iload_n hx hb dX3_joins_4 rfl (lv_at hl 1 rfl) ?_
  obtain ⟨q101, hf⟩ := chk hf
  refine g_lald (j := x1.toNatClampNeg) X.1 hH (cArr h0) q101 rfl dX3_joins_5 ?_
  refine lv_topl (fun y102 ey102 => ?_)
  replace hf := nmU hf ey102
  refine lv_lstore (lv' := [(4, .long y102), (0, .ref (B + k0)), (1, .int x1), (2, .long x2)]) hx hb dX3_joins_6 hl (by decide) rfl (fun ls hl => ?_)
  refine lv_lload hx hb dX3_joins_8 (lv_at hl 0 rfl) ?_
  refine lv_lconst (v := 0) hx hb dX3_joins_10 (by decide) ?_
  refine g_leq (tgt := 75) X.1 dX3_joins_11 dX3_joins_12 (by decide) (fun q103 => ?_) (fun q103 => ?_)
  · replace hf := brT hf q103
    exact w_X3_joins_75 X k0 h0 x1 x2 y102 σ hf _ _ hH hS _ (lv_sub hl [1, 2, 3, 0] rfl)
  · replace hf := brF hf q103
    refine lv_lload_n hx hb dX3_joins_15 rfl (lv_at hl 3 rfl) ?_
    refine lv_lconst (v := 0) hx hb dX3_joins_16 (by decide) ?_
    refine g_leq (tgt := 75) X.1 dX3_joins_17 dX3_joins_18 (by decide) (fun q307 => ?_) (fun q307 => ?_)
    · replace hf := brT hf q307
      exact w_X3_joins_75 X k0 h0 x1 x2 y102 σ hf _ _ hH hS _ (lv_sub hl [1, 2, 3, 0] rfl)
    · replace hf := brF hf q307
      refine lv_lload hx hb dX3_joins_21 (lv_at hl 0 rfl) ?_
      refine lv_lconst (v := 0) hx hb dX3_joins_23 (by decide) ?_
      refine g_lle (tgt := 32) X.1 dX3_joins_24 dX3_joins_25 (by decide) (fun q308 => ?_) (fun q308 => ?_)
      · replace hf := brT hf q308
        refine lv_iconst (v := 0) hx hb dX3_joins_32 (by decide) ?_
        exact w_X3_joins_33 X k0 h0 x1 x2 y102 (0 : Int32) σ hf _ _ hH hS _ (lv_sub hl [1, 2, 3, 0] rfl)
      · replace hf := brF hf q308
        refine lv_iconst (v := 1) hx hb dX3_joins_28 (by decide) ?_
        refine lv_goto (tgt := 33) hx hb dX3_joins_29 (by decide) ?_
        exact w_X3_joins_33 X k0 h0 x1 x2 y102 (1 : Int32) σ hf _ _ hH hS _ (lv_sub hl [1, 2, 3, 0] rfl)
theorem c_X3_joins (l : Launch) (G : Gd) (B : Nat) (k0 : Nat) (h0 : (k0 < layX.2.2 ∧ layX.1 k0 = .inl 3)) (x1 : Int32) (x2 : Int64) (σ σr : Sto) (r : Int32) (hf : f_X3_joins k0 x1 x2 σ = some (r, σr)) : Ct l G layX B yX3_joins cX3_joins 6 (some .boolean) 1 [.ref (B + k0), .int x1, .long x2] (some (.int r)) σ σr :=
  Ct.ofW (by decide) (Nat.le_of_ble_eq_true rfl) (fun _ _ _ _ _ _ _ X hH hS ls hl => w_X3_joins X k0 h0 x1 x2 σ hf _ _ hH hS ls (show lv_has ls 6 [(0, .ref (B + k0)), (1, .int x1), (2, .long x2)] from hl))
-- SlackProofs$Clause.becomePlus(LSlackProofs$Clause;LSlackProofs$Clause;)Z  (D 2)
def b_X3_becomePlus_48 (c48 : Int32 → Sto → Option (Int32 × Sto)) (k0 : Nat) (k1 : Nat) (k2 : Nat) (v3 : Int32) (σ : Sto) : Option (Int32 × Sto) :=
  if (8 : Int32) ≤ v3 then (some ((1 : Int32), σ)) else (if (v3 < 0 ∨ 8 ≤ v3.toNatClampNeg) then none else bd2 (f_X3_joins k0 v3 (σ.2 (k2 + 1) v3.toNatClampNeg) σ) fun r208 σ207 => if r208 = 0 then (some ((0 : Int32), σ207)) else (c48 (v3 + (1 : Int32)) σ207))
set_option maxHeartbeats 4000000 in
set_option maxRecDepth 100000 in
theorem w_X3_becomePlus_48 {p : Program} {l : Launch} {e : Env} {s : State} {m : MethodId} {args : Array Value} {below : List Frame} {meth : Method} {c : Code} {G : Gd} {B : Nat} (X : Cm p s m args meth c cX3_becomePlus 4 RX3 G (some .boolean)) (c48 : Int32 → Sto → Option (Int32 × Sto)) (k0 : Nat) (k1 : Nat) (k2 : Nat) (h0 : (k0 < layX.2.2 ∧ layX.1 k0 = .inl 3)) (h1 : (k1 < layX.2.2 ∧ layX.1 k1 = .inl 3)) (h2 : (k2 < layX.2.2 ∧ layX.1 k2 = .inl 3)) {r : Int32} {σr : Sto} (ih48 : ∀ (v3 : Int32) (σ : Sto) (H : Heap) (locs : List Loc) (ls : Array Slot), c48 v3 σ = some (r, σr) → HX G layX B σ H → va_S (inW layX B) s.heap H locs → lv_has ls 4 [(0, .ref (B + k0)), (2, .ref (B + k2)), (3, .int v3)] → WM p l e 2 s m args below meth c H locs G layX B (some (.int r)) σr (F0 m 48 ls [])) (v3 : Int32) (σ : Sto) (hf : b_X3_becomePlus_48 c48 k0 k1 k2 v3 σ = some (r, σr)) (H : Heap) (locs : List Loc) (hH : HX G layX B σ H) (hS : va_S (inW layX B) s.heap H locs) (ls : Array Slot) (hl : lv_has ls 4 [(0, .ref (B + k0)), (2, .ref (B + k2)), (3, .int v3)]) : WM p l e 2 s m args below meth c H locs G layX B (some (.int r)) σr (F0 m 48 ls []) := by
  unfold b_X3_becomePlus_48 at hf
  have hx := X.1.1
  have hb := X.1.2.1
  refine lv_iload_n hx hb dX3_becomePlus_48 rfl (lv_at hl 2 rfl) ?_
  refine lv_bipush (v := 8) hx hb dX3_becomePlus_49 (by decide) ?_
  refine lv_icmp_ge (tgt := 76) hx hb dX3_becomePlus_51 (by decide) (fun q205 => ?_) (fun q205 => ?_)
  · replace hf := brT hf q205
    refine lv_iconst (v := 1) hx hb dX3_becomePlus_76 (by decide) ?_
    obtain ⟨rfl, rfl⟩ := rt2 hf
    exact g_zret X hH hS (by decide) dX3_becomePlus_77
  · replace hf := brF hf q205
    refine lv_aload_n hx hb dX3_becomePlus_54 rfl (lv_at hl 0 rfl) ?_
    refine lv_iload_n hx hb dX3_becomePlus_55 rfl (lv_at hl 2 rfl) ?_
    refine lv_aload_n hx hb dX3_becomePlus_56 rfl (lv_at hl 1 rfl) ?_
    refine g_get (v := .ref (B + (k2 + 1))) kX3 (by decide) fl_RX3_9 X.1 hH h2 (cRef h2) dX3_becomePlus_57 ?_
    refine lv_iload_n hx hb dX3_becomePlus_60 rfl (lv_at hl 2 rfl) ?_
    obtain ⟨q206, hf⟩ := chk hf
    refine g_lald (j := v3.toNatClampNeg) X.1 hH (cArr h2) q206 rfl dX3_becomePlus_61 ?_
    obtain ⟨r208, σ207, eσ207, hf⟩ := bnd2 hf
    refine g_cVi (As := [.int v3, .long (σ.2 (k2 + 1) v3.toNatClampNeg)]) X.1 hH hS (c_X3_joins l G B k0 h0 v3 (σ.2 (k2 + 1) v3.toNatClampNeg) σ σ207 r208 eσ207) kw_RX3_40 kX3 h0 (by decide) rfl hl (Nat.le_of_ble_eq_true rfl) rfl dX3_becomePlus_62 (fun H locs hH hS => ?_)
    refine lv_if_ne (tgt := 70) hx hb dX3_becomePlus_65 (by decide) (fun q209 => ?_) (fun q209 => ?_)
    · replace hf := brF hf q209
      refine lv_iinc (v := (v3 + (1 : Int32))) (lv' := [(3, .int (v3 + (1 : Int32))), (0, .ref (B + k0)), (2, .ref (B + k2))]) hx hb dX3_becomePlus_70 hl (k := 2) rfl rfl (by decide) rfl (fun ls hl => ?_)
      refine lv_goto (tgt := 48) hx hb dX3_becomePlus_73 (by decide) ?_
      exact ih48 (v3 + (1 : Int32)) σ207 _ _ _ hf hH hS (lv_sub hl [1, 2, 0] rfl)
    · replace hf := brT hf q209
      refine lv_iconst (v := 0) hx hb dX3_becomePlus_68 (by decide) ?_
      obtain ⟨rfl, rfl⟩ := rt2 hf
      exact g_zret X hH hS (by decide) dX3_becomePlus_69
def l_X3_becomePlus_48 (k0 : Nat) (k1 : Nat) (k2 : Nat) : Nat → Int32 → Sto → Option (Int32 × Sto)
  | 0, _, _ => none
  | n + 1, v3, σ => b_X3_becomePlus_48 (l_X3_becomePlus_48 k0 k1 k2 n) k0 k1 k2 v3 σ
set_option maxHeartbeats 4000000 in
set_option maxRecDepth 100000 in
theorem wl_X3_becomePlus_48 {p : Program} {l : Launch} {e : Env} {s : State} {m : MethodId} {args : Array Value} {below : List Frame} {meth : Method} {c : Code} {G : Gd} {B : Nat} (X : Cm p s m args meth c cX3_becomePlus 4 RX3 G (some .boolean)) (k0 : Nat) (k1 : Nat) (k2 : Nat) (h0 : (k0 < layX.2.2 ∧ layX.1 k0 = .inl 3)) (h1 : (k1 < layX.2.2 ∧ layX.1 k1 = .inl 3)) (h2 : (k2 < layX.2.2 ∧ layX.1 k2 = .inl 3)) {r : Int32} {σr : Sto} (n : Nat) : ∀ (v3 : Int32) (σ : Sto) (H : Heap) (locs : List Loc) (ls : Array Slot), l_X3_becomePlus_48 k0 k1 k2 n v3 σ = some (r, σr) → HX G layX B σ H → va_S (inW layX B) s.heap H locs → lv_has ls 4 [(0, .ref (B + k0)), (2, .ref (B + k2)), (3, .int v3)] → WM p l e 2 s m args below meth c H locs G layX B (some (.int r)) σr (F0 m 48 ls []) := by
  induction n with
  | zero =>
    intro _ σ H locs ls hf
    cases hf
  | succ n ih =>
    intro v3 σ H locs ls hf hH hS hl
    exact w_X3_becomePlus_48 X (l_X3_becomePlus_48 k0 k1 k2 n) k0 k1 k2 h0 h1 h2 ih v3 σ hf H locs hH hS ls hl
def f_X3_becomePlus (k0 : Nat) (k1 : Nat) (k2 : Nat) (σ : Sto) : Option (Int32 × Sto) :=
  if (σ.2 k1 2) ≤ ((9223372036854775807 : Int64) - (σ.2 k2 2)) then (nmS (cpL σ (k1 + 1) 0 (k0 + 1) 0 8) fun σ103 => nmS (pL σ103 k0 2 ((σ103.2 k1 2) + (σ103.2 k2 2))) fun σ104 => l_X3_becomePlus_48 k0 k1 k2 400 (0 : Int32) σ104) else (some ((0 : Int32), σ))
set_option maxHeartbeats 4000000 in
set_option maxRecDepth 100000 in
theorem w_X3_becomePlus {p : Program} {l : Launch} {e : Env} {s : State} {m : MethodId} {args : Array Value} {below : List Frame} {meth : Method} {c : Code} {G : Gd} {B : Nat} (X : Cm p s m args meth c cX3_becomePlus 4 RX3 G (some .boolean)) (k0 : Nat) (k1 : Nat) (k2 : Nat) (h0 : (k0 < layX.2.2 ∧ layX.1 k0 = .inl 3)) (h1 : (k1 < layX.2.2 ∧ layX.1 k1 = .inl 3)) (h2 : (k2 < layX.2.2 ∧ layX.1 k2 = .inl 3)) {r : Int32} {σr : Sto} (σ : Sto) (hf : f_X3_becomePlus k0 k1 k2 σ = some (r, σr)) (H : Heap) (locs : List Loc) (hH : HX G layX B σ H) (hS : va_S (inW layX B) s.heap H locs) (ls : Array Slot) (hl : lv_has ls 4 [(0, .ref (B + k0)), (1, .ref (B + k1)), (2, .ref (B + k2))]) : WM p l e 2 s m args below meth c H locs G layX B (some (.int r)) σr (F0 m 0 ls []) := by
  unfold f_X3_becomePlus at hf
  have hx := X.1.1
  have hb := X.1.2.1
  refine lv_aload_n hx hb dX3_becomePlus_0 rfl (lv_at hl 1 rfl) ?_
  refine g_get (v := .long (σ.2 k1 2)) kX3 (by decide) fl_RX3_25 X.1 hH h1 rfl dX3_becomePlus_1 ?_
  refine lv_ldc2 (v := 9223372036854775807) hx hb X.1.2.2.2.1 (X.1.2.2.2.2.1 _ kc_RX3_38) dX3_becomePlus_4 ?_
  refine lv_aload_n hx hb dX3_becomePlus_7 rfl (lv_at hl 2 rfl) ?_
  refine g_get (v := .long (σ.2 k2 2)) kX3 (by decide) fl_RX3_25 X.1 hH h2 rfl dX3_becomePlus_8 ?_
  refine lv_lsub hx hb dX3_becomePlus_11 ?_
  refine g_lle (tgt := 18) X.1 dX3_becomePlus_12 dX3_becomePlus_13 (by decide) (fun q101 => ?_) (fun q101 => ?_)
  · replace hf := brT hf q101
    refine lv_aload_n hx hb dX3_becomePlus_18 rfl (lv_at hl 1 rfl) ?_
    refine g_get (v := .ref (B + (k1 + 1))) kX3 (by decide) fl_RX3_9 X.1 hH h1 (cRef h1) dX3_becomePlus_19 ?_
    refine lv_iconst (v := 0) hx hb dX3_becomePlus_22 (by decide) ?_
    refine lv_aload_n hx hb dX3_becomePlus_23 rfl (lv_at hl 0 rfl) ?_
    refine g_get (v := .ref (B + (k0 + 1))) kX3 (by decide) fl_RX3_9 X.1 hH h0 (cRef h0) dX3_becomePlus_24 ?_
    refine lv_iconst (v := 0) hx hb dX3_becomePlus_27 (by decide) ?_
    refine lv_bipush (v := 8) hx hb dX3_becomePlus_28 (by decide) ?_
    refine g_cpL X.1 cp_RX3_29 hH hS (cArr h1) (cArr h0) (by decide) hl (by decide) (Nat.le_of_ble_eq_true rfl) dX3_becomePlus_30 (fun H locs hH hS => ?_)
    obtain ⟨σ103, eσ103, hH⟩ := nmX hH
    replace hf := nmU hf eσ103
    refine lv_aload_n hx hb dX3_becomePlus_33 rfl (lv_at hl 0 rfl) ?_
    refine lv_aload_n hx hb dX3_becomePlus_34 rfl (lv_at hl 1 rfl) ?_
    refine g_get (v := .long (σ103.2 k1 2)) kX3 (by decide) fl_RX3_25 X.1 hH h1 rfl dX3_becomePlus_35 ?_
    refine lv_aload_n hx hb dX3_becomePlus_38 rfl (lv_at hl 2 rfl) ?_
    refine g_get (v := .long (σ103.2 k2 2)) kX3 (by decide) fl_RX3_25 X.1 hH h2 rfl dX3_becomePlus_39 ?_
    refine lv_ladd hx hb dX3_becomePlus_42 ?_
    refine g_putL kX3 (by decide) fl_RX3_25 rfl rfl X.1 hH hS h0 dX3_becomePlus_43 (fun H locs hH hS => ?_)
    obtain ⟨σ104, eσ104, hH⟩ := nmX hH
    replace hf := nmU hf eσ104
    refine lv_iconst (v := 0) hx hb dX3_becomePlus_46 (by decide) ?_
    refine lv_istore_n (lv' := [(3, .int (0 : Int32)), (0, .ref (B + k0)), (1, .ref (B + k1)), (2, .ref (B + k2))]) hx hb dX3_becomePlus_47 rfl hl (by decide) rfl (fun ls hl => ?_)
    exact wl_X3_becomePlus_48 X k0 k1 k2 h0 h1 h2 400 (0 : Int32) σ104 _ _ _ hf hH hS (lv_sub hl [1, 3, 0] rfl)
  · replace hf := brF hf q101
    refine lv_iconst (v := 0) hx hb dX3_becomePlus_16 (by decide) ?_
    obtain ⟨rfl, rfl⟩ := rt2 hf
    exact g_zret X hH hS (by decide) dX3_becomePlus_17
theorem c_X3_becomePlus (l : Launch) (G : Gd) (B : Nat) (k0 : Nat) (h0 : (k0 < layX.2.2 ∧ layX.1 k0 = .inl 3)) (k1 : Nat) (h1 : (k1 < layX.2.2 ∧ layX.1 k1 = .inl 3)) (k2 : Nat) (h2 : (k2 < layX.2.2 ∧ layX.1 k2 = .inl 3)) (σ σr : Sto) (r : Int32) (hf : f_X3_becomePlus k0 k1 k2 σ = some (r, σr)) : Ct l G layX B yX3_becomePlus cX3_becomePlus 4 (some .boolean) 2 [.ref (B + k0), .ref (B + k1), .ref (B + k2)] (some (.int r)) σ σr :=
  Ct.ofW (by decide) (Nat.le_of_ble_eq_true rfl) (fun _ _ _ _ _ _ _ X hH hS ls hl => w_X3_becomePlus X k0 k1 k2 h0 h1 h2 σ hf _ _ hH hS ls (show lv_has ls 4 [(0, .ref (B + k0)), (1, .ref (B + k1)), (2, .ref (B + k2))] from hl))
-- SlackProofs$Clause.clear()V  (D 1)
def f_X3_clear (k0 : Nat) (σ : Sto) : Option (Sto) :=
  bd1 (f_J7_fill_d0a16 (k0 + 1) 8 (0 : Int64) σ) fun σ101 => nmS (pL σ101 k0 2 (0 : Int64)) fun σ103 => some σ103
set_option maxHeartbeats 4000000 in
set_option maxRecDepth 100000 in
theorem w_X3_clear {p : Program} {l : Launch} {e : Env} {s : State} {m : MethodId} {args : Array Value} {below : List Frame} {meth : Method} {c : Code} {G : Gd} {B : Nat} (X : Cm p s m args meth c cX3_clear 1 RX3 G none) (k0 : Nat) (h0 : (k0 < layX.2.2 ∧ layX.1 k0 = .inl 3)) {σr : Sto} (σ : Sto) (hf : f_X3_clear k0 σ = some σr) (H : Heap) (locs : List Loc) (hH : HX G layX B σ H) (hS : va_S (inW layX B) s.heap H locs) (ls : Array Slot) (hl : lv_has ls 1 [(0, .ref (B + k0))]) : WM p l e 1 s m args below meth c H locs G layX B none σr (F0 m 0 ls []) := by
  unfold f_X3_clear at hf
  have hx := X.1.1
  have hb := X.1.2.1
  refine lv_aload_n hx hb dX3_clear_0 rfl (lv_at hl 0 rfl) ?_
  refine g_get (v := .ref (B + (k0 + 1))) kX3 (by decide) fl_RX3_9 X.1 hH h0 (cRef h0) dX3_clear_1 ?_
  refine lv_lconst (v := 0) hx hb dX3_clear_4 (by decide) ?_
  obtain ⟨σ101, eσ101, hf⟩ := bnd1 hf
  refine g_cSv (As := [.ref (B + (k0 + 1)), .long (0 : Int64)]) X.1 hH hS (c_J7_fill_d0a16 l G B (k0 + 1) 8 (cArr h0) (0 : Int64) σ σ101 eσ101) kw_RX3_19 (by decide) rfl hl (Nat.le_of_ble_eq_true rfl) rfl dX3_clear_5 (fun H locs hH hS => ?_)
  refine lv_aload_n hx hb dX3_clear_8 rfl (lv_at hl 0 rfl) ?_
  refine lv_lconst (v := 0) hx hb dX3_clear_9 (by decide) ?_
  refine g_putL kX3 (by decide) fl_RX3_25 rfl rfl X.1 hH hS h0 dX3_clear_10 (fun H locs hH hS => ?_)
  obtain ⟨σ103, eσ103, hH⟩ := nmX hH
  replace hf := nmU hf eσ103
  obtain rfl := rt1 hf
  exact g_vret X hH hS dX3_clear_13
theorem c_X3_clear (l : Launch) (G : Gd) (B : Nat) (k0 : Nat) (h0 : (k0 < layX.2.2 ∧ layX.1 k0 = .inl 3)) (σ σr : Sto) (hf : f_X3_clear k0 σ = some σr) : Ct l G layX B yX3_clear cX3_clear 1 none 1 [.ref (B + k0)] none σ σr :=
  Ct.ofW (by decide) (Nat.le_of_ble_eq_true rfl) (fun _ _ _ _ _ _ _ X hH hS ls hl => w_X3_clear X k0 h0 σ hf _ _ hH hS ls (show lv_has ls 1 [(0, .ref (B + k0))] from hl))
-- SlackProofs$Clause.contraryOf(I)I  (D 0)
def b_X3_contraryOf_26 (s0 : Int32) (σ : Sto) : Option (Int32 × Sto) :=
  some (s0, σ)
set_option maxHeartbeats 4000000 in
set_option maxRecDepth 100000 in
theorem w_X3_contraryOf_26 {p : Program} {l : Launch} {e : Env} {s : State} {m : MethodId} {args : Array Value} {below : List Frame} {meth : Method} {c : Code} {G : Gd} {B : Nat} (X : Cm p s m args meth c cX3_contraryOf 1 RX3 G (some .int)) {r : Int32} {σr : Sto} (s0 : Int32) (σ : Sto) (hf : b_X3_contraryOf_26 s0 σ = some (r, σr)) (H : Heap) (locs : List Loc) (hH : HX G layX B σ H) (hS : va_S (inW layX B) s.heap H locs) (ls : Array Slot) (hl : lv_has ls 1 []) : WM p l e 0 s m args below meth c H locs G layX B (some (.int r)) σr (F0 m 26 ls [.int s0]) := by
  unfold b_X3_contraryOf_26 at hf
  have hx := X.1.1
  have hb := X.1.2.1
  obtain ⟨rfl, rfl⟩ := rt2 hf
  exact g_iret X hH hS dX3_contraryOf_26
def f_X3_contraryOf (x0 : Int32) (σ : Sto) : Option (Int32 × Sto) :=
  if (2 : Int32) ≤ x0 then (if (10 : Int32) ≤ x0 then (b_X3_contraryOf_26 (x0 - (8 : Int32)) σ) else (b_X3_contraryOf_26 (x0 + (8 : Int32)) σ)) else (some (((1 : Int32) - x0), σ))
set_option maxHeartbeats 4000000 in
set_option maxRecDepth 100000 in
theorem w_X3_contraryOf {p : Program} {l : Launch} {e : Env} {s : State} {m : MethodId} {args : Array Value} {below : List Frame} {meth : Method} {c : Code} {G : Gd} {B : Nat} (X : Cm p s m args meth c cX3_contraryOf 1 RX3 G (some .int)) {r : Int32} {σr : Sto} (x0 : Int32) (σ : Sto) (hf : f_X3_contraryOf x0 σ = some (r, σr)) (H : Heap) (locs : List Loc) (hH : HX G layX B σ H) (hS : va_S (inW layX B) s.heap H locs) (ls : Array Slot) (hl : lv_has ls 1 [(0, .int x0)]) : WM p l e 0 s m args below meth c H locs G layX B (some (.int r)) σr (F0 m 0 ls []) := by
  unfold f_X3_contraryOf at hf
  have hx := X.1.1
  have hb := X.1.2.1
  refine lv_iload_n hx hb dX3_contraryOf_0 rfl (lv_at hl 0 rfl) ?_
  refine lv_iconst (v := 2) hx hb dX3_contraryOf_1 (by decide) ?_
  refine lv_icmp_ge (tgt := 9) hx hb dX3_contraryOf_2 (by decide) (fun q101 => ?_) (fun q101 => ?_)
  · replace hf := brT hf q101
    refine lv_iload_n hx hb dX3_contraryOf_9 rfl (lv_at hl 0 rfl) ?_
    refine lv_bipush (v := 10) hx hb dX3_contraryOf_10 (by decide) ?_
    refine lv_icmp_ge (tgt := 22) hx hb dX3_contraryOf_12 (by decide) (fun q102 => ?_) (fun q102 => ?_)
    · replace hf := brT hf q102
      refine lv_iload_n hx hb dX3_contraryOf_22 rfl (lv_at hl 0 rfl) ?_
      refine lv_bipush (v := 8) hx hb dX3_contraryOf_23 (by decide) ?_
      refine lv_isub hx hb dX3_contraryOf_25 ?_
      exact w_X3_contraryOf_26 X (x0 - (8 : Int32)) σ hf _ _ hH hS _ (lv_sub hl [] rfl)
    · replace hf := brF hf q102
      refine lv_iload_n hx hb dX3_contraryOf_15 rfl (lv_at hl 0 rfl) ?_
      refine lv_bipush (v := 8) hx hb dX3_contraryOf_16 (by decide) ?_
      refine lv_iadd hx hb dX3_contraryOf_18 ?_
      refine lv_goto (tgt := 26) hx hb dX3_contraryOf_19 (by decide) ?_
      exact w_X3_contraryOf_26 X (x0 + (8 : Int32)) σ hf _ _ hH hS _ (lv_sub hl [] rfl)
  · replace hf := brF hf q101
    refine lv_iconst (v := 1) hx hb dX3_contraryOf_5 (by decide) ?_
    refine lv_iload_n hx hb dX3_contraryOf_6 rfl (lv_at hl 0 rfl) ?_
    refine lv_isub hx hb dX3_contraryOf_7 ?_
    obtain ⟨rfl, rfl⟩ := rt2 hf
    exact g_iret X hH hS dX3_contraryOf_8
theorem c_X3_contraryOf (l : Launch) (G : Gd) (B : Nat) (x0 : Int32) (σ σr : Sto) (r : Int32) (hf : f_X3_contraryOf x0 σ = some (r, σr)) : Ct l G layX B yX3_contraryOf cX3_contraryOf 1 (some .int) 0 [.int x0] (some (.int r)) σ σr :=
  Ct.ofW (by decide) (Nat.le_of_ble_eq_true rfl) (fun _ _ _ _ _ _ _ X hH hS ls hl => w_X3_contraryOf X x0 σ hf _ _ hH hS ls (show lv_has ls 1 [(0, .int x0)] from hl))
-- SlackProofs$Clause.joinsPut(IJ)V  (D 2)
def b_X3_joinsPut_68 (k0 : Nat) (σ : Sto) : Option (Sto) :=
  some σ
set_option maxHeartbeats 4000000 in
set_option maxRecDepth 100000 in
theorem w_X3_joinsPut_68 {p : Program} {l : Launch} {e : Env} {s : State} {m : MethodId} {args : Array Value} {below : List Frame} {meth : Method} {c : Code} {G : Gd} {B : Nat} (X : Cm p s m args meth c cX3_joinsPut 4 RX3 G none) (k0 : Nat) (h0 : (k0 < layX.2.2 ∧ layX.1 k0 = .inl 3)) {σr : Sto} (σ : Sto) (hf : b_X3_joinsPut_68 k0 σ = some σr) (H : Heap) (locs : List Loc) (hH : HX G layX B σ H) (hS : va_S (inW layX B) s.heap H locs) (ls : Array Slot) (hl : lv_has ls 4 []) : WM p l e 2 s m args below meth c H locs G layX B none σr (F0 m 68 ls []) := by
  unfold b_X3_joinsPut_68 at hf
  have hx := X.1.1
  have hb := X.1.2.1
  obtain rfl := rt1 hf
  exact g_vret X hH hS dX3_joinsPut_68
def b_X3_joinsPut_48 (k0 : Nat) (v1 : Int32) (v2 : Int64) (σ : Sto) : Option (Sto) :=
  if v1 < (2 : Int32) then (b_X3_joinsPut_68 k0 σ) else (if (10 : Int32) ≤ v1 then (b_X3_joinsPut_68 k0 σ) else (bd2 (f_X3_joins k0 (v1 - (2 : Int32)) v2 σ) fun r306 σ305 => b_X3_joinsPut_68 k0 σ305))
set_option maxHeartbeats 4000000 in
set_option maxRecDepth 100000 in
theorem w_X3_joinsPut_48 {p : Program} {l : Launch} {e : Env} {s : State} {m : MethodId} {args : Array Value} {below : List Frame} {meth : Method} {c : Code} {G : Gd} {B : Nat} (X : Cm p s m args meth c cX3_joinsPut 4 RX3 G none) (k0 : Nat) (h0 : (k0 < layX.2.2 ∧ layX.1 k0 = .inl 3)) {σr : Sto} (v1 : Int32) (v2 : Int64) (σ : Sto) (hf : b_X3_joinsPut_48 k0 v1 v2 σ = some σr) (H : Heap) (locs : List Loc) (hH : HX G layX B σ H) (hS : va_S (inW layX B) s.heap H locs) (ls : Array Slot) (hl : lv_has ls 4 [(0, .ref (B + k0)), (1, .int v1), (2, .long v2)]) : WM p l e 2 s m args below meth c H locs G layX B none σr (F0 m 48 ls []) := by
  unfold b_X3_joinsPut_48 at hf
  have hx := X.1.1
  have hb := X.1.2.1
  refine lv_iload_n hx hb dX3_joinsPut_48 rfl (lv_at hl 1 rfl) ?_
  refine lv_iconst (v := 2) hx hb dX3_joinsPut_49 (by decide) ?_
  refine lv_icmp_lt (tgt := 68) hx hb dX3_joinsPut_50 (by decide) (fun q203 => ?_) (fun q203 => ?_)
  · replace hf := brT hf q203
    exact w_X3_joinsPut_68 X k0 h0 σ hf _ _ hH hS _ (lv_sub hl [] rfl)
  · replace hf := brF hf q203
    refine lv_iload_n hx hb dX3_joinsPut_53 rfl (lv_at hl 1 rfl) ?_
    refine lv_bipush (v := 10) hx hb dX3_joinsPut_54 (by decide) ?_
    refine lv_icmp_ge (tgt := 68) hx hb dX3_joinsPut_56 (by decide) (fun q304 => ?_) (fun q304 => ?_)
    · replace hf := brT hf q304
      exact w_X3_joinsPut_68 X k0 h0 σ hf _ _ hH hS _ (lv_sub hl [] rfl)
    · replace hf := brF hf q304
      refine lv_aload_n hx hb dX3_joinsPut_59 rfl (lv_at hl 0 rfl) ?_
      refine lv_iload_n hx hb dX3_joinsPut_60 rfl (lv_at hl 1 rfl) ?_
      refine lv_iconst (v := 2) hx hb dX3_joinsPut_61 (by decide) ?_
      refine lv_isub hx hb dX3_joinsPut_62 ?_
      refine lv_lload_n hx hb dX3_joinsPut_63 rfl (lv_at hl 2 rfl) ?_
      obtain ⟨r306, σ305, eσ305, hf⟩ := bnd2 hf
      refine g_cVi (As := [.int (v1 - (2 : Int32)), .long v2]) X.1 hH hS (c_X3_joins l G B k0 h0 (v1 - (2 : Int32)) v2 σ σ305 r306 eσ305) kw_RX3_40 kX3 h0 (by decide) rfl hl (Nat.le_of_ble_eq_true rfl) rfl dX3_joinsPut_64 (fun H locs hH hS => ?_)
      refine lv_pop hx hb dX3_joinsPut_67 rfl ?_
      exact w_X3_joinsPut_68 X k0 h0 σ305 hf _ _ hH hS _ (lv_sub hl [] rfl)
def f_X3_joinsPut (k0 : Nat) (x1 : Int32) (x2 : Int64) (σ : Sto) : Option (Sto) :=
  if x1 = (1 : Int32) then (nmS (pL σ k0 2 (mmax (0 : Int64) ((σ.2 k0 2) - x2))) fun σ310 => b_X3_joinsPut_68 k0 σ310) else (if x1 < (10 : Int32) then (b_X3_joinsPut_48 k0 x1 x2 σ) else (if (18 : Int32) ≤ x1 then (b_X3_joinsPut_48 k0 x1 x2 σ) else (bd2 (f_X3_joins k0 (x1 - (10 : Int32)) (-x2) σ) fun r309 σ308 => b_X3_joinsPut_68 k0 σ308)))
set_option maxHeartbeats 4000000 in
set_option maxRecDepth 100000 in
theorem w_X3_joinsPut {p : Program} {l : Launch} {e : Env} {s : State} {m : MethodId} {args : Array Value} {below : List Frame} {meth : Method} {c : Code} {G : Gd} {B : Nat} (X : Cm p s m args meth c cX3_joinsPut 4 RX3 G none) (k0 : Nat) (h0 : (k0 < layX.2.2 ∧ layX.1 k0 = .inl 3)) {σr : Sto} (x1 : Int32) (x2 : Int64) (σ : Sto) (hf : f_X3_joinsPut k0 x1 x2 σ = some σr) (H : Heap) (locs : List Loc) (hH : HX G layX B σ H) (hS : va_S (inW layX B) s.heap H locs) (ls : Array Slot) (hl : lv_has ls 4 [(0, .ref (B + k0)), (1, .int x1), (2, .long x2)]) : WM p l e 2 s m args below meth c H locs G layX B none σr (F0 m 0 ls []) := by
  unfold f_X3_joinsPut at hf
  have hx := X.1.1
  have hb := X.1.2.1
  refine lv_iload_n hx hb dX3_joinsPut_0 rfl (lv_at hl 1 rfl) ?_
  refine lv_iconst (v := 1) hx hb dX3_joinsPut_1 (by decide) ?_
  refine lv_icmp_ne (tgt := 22) hx hb dX3_joinsPut_2 (by decide) (fun q101 => ?_) (fun q101 => ?_)
  · replace hf := brF hf q101
    refine lv_iload_n hx hb dX3_joinsPut_22 rfl (lv_at hl 1 rfl) ?_
    refine lv_bipush (v := 10) hx hb dX3_joinsPut_23 (by decide) ?_
    refine lv_icmp_lt (tgt := 48) hx hb dX3_joinsPut_25 (by decide) (fun q102 => ?_) (fun q102 => ?_)
    · replace hf := brT hf q102
      exact w_X3_joinsPut_48 X k0 h0 x1 x2 σ hf _ _ hH hS _ (lv_sub hl [0, 1, 2] rfl)
    · replace hf := brF hf q102
      refine lv_iload_n hx hb dX3_joinsPut_28 rfl (lv_at hl 1 rfl) ?_
      refine lv_bipush (v := 18) hx hb dX3_joinsPut_29 (by decide) ?_
      refine lv_icmp_ge (tgt := 48) hx hb dX3_joinsPut_31 (by decide) (fun q307 => ?_) (fun q307 => ?_)
      · replace hf := brT hf q307
        exact w_X3_joinsPut_48 X k0 h0 x1 x2 σ hf _ _ hH hS _ (lv_sub hl [0, 1, 2] rfl)
      · replace hf := brF hf q307
        refine lv_aload_n hx hb dX3_joinsPut_34 rfl (lv_at hl 0 rfl) ?_
        refine lv_iload_n hx hb dX3_joinsPut_35 rfl (lv_at hl 1 rfl) ?_
        refine lv_bipush (v := 10) hx hb dX3_joinsPut_36 (by decide) ?_
        refine lv_isub hx hb dX3_joinsPut_38 ?_
        refine lv_lload_n hx hb dX3_joinsPut_39 rfl (lv_at hl 2 rfl) ?_
        refine lv_lneg hx hb dX3_joinsPut_40 ?_
        obtain ⟨r309, σ308, eσ308, hf⟩ := bnd2 hf
        refine g_cVi (As := [.int (x1 - (10 : Int32)), .long (-x2)]) X.1 hH hS (c_X3_joins l G B k0 h0 (x1 - (10 : Int32)) (-x2) σ σ308 r309 eσ308) kw_RX3_40 kX3 h0 (by decide) rfl hl (Nat.le_of_ble_eq_true rfl) rfl dX3_joinsPut_41 (fun H locs hH hS => ?_)
        refine lv_pop hx hb dX3_joinsPut_44 rfl ?_
        refine lv_goto (tgt := 68) hx hb dX3_joinsPut_45 (by decide) ?_
        exact w_X3_joinsPut_68 X k0 h0 σ308 hf _ _ hH hS _ (lv_sub hl [] rfl)
  · replace hf := brT hf q101
    refine lv_aload_n hx hb dX3_joinsPut_5 rfl (lv_at hl 0 rfl) ?_
    refine lv_lconst (v := 0) hx hb dX3_joinsPut_6 (by decide) ?_
    refine lv_aload_n hx hb dX3_joinsPut_7 rfl (lv_at hl 0 rfl) ?_
    refine g_get (v := .long (σ.2 k0 2)) kX3 (by decide) fl_RX3_25 X.1 hH h0 rfl dX3_joinsPut_8 ?_
    refine lv_lload_n hx hb dX3_joinsPut_11 rfl (lv_at hl 2 rfl) ?_
    refine lv_lsub hx hb dX3_joinsPut_12 ?_
    refine g_max X.1 mt_RX3_54 (by decide) hl (Nat.le_of_ble_eq_true rfl) dX3_joinsPut_13 ?_
    refine g_putL kX3 (by decide) fl_RX3_25 rfl rfl X.1 hH hS h0 dX3_joinsPut_16 (fun H locs hH hS => ?_)
    obtain ⟨σ310, eσ310, hH⟩ := nmX hH
    replace hf := nmU hf eσ310
    refine lv_goto (tgt := 68) hx hb dX3_joinsPut_19 (by decide) ?_
    exact w_X3_joinsPut_68 X k0 h0 σ310 hf _ _ hH hS _ (lv_sub hl [] rfl)
theorem c_X3_joinsPut (l : Launch) (G : Gd) (B : Nat) (k0 : Nat) (h0 : (k0 < layX.2.2 ∧ layX.1 k0 = .inl 3)) (x1 : Int32) (x2 : Int64) (σ σr : Sto) (hf : f_X3_joinsPut k0 x1 x2 σ = some σr) : Ct l G layX B yX3_joinsPut cX3_joinsPut 4 none 2 [.ref (B + k0), .int x1, .long x2] none σ σr :=
  Ct.ofW (by decide) (Nat.le_of_ble_eq_true rfl) (fun _ _ _ _ _ _ _ X hH hS ls hl => w_X3_joinsPut X k0 h0 x1 x2 σ hf _ _ hH hS ls (show lv_has ls 4 [(0, .ref (B + k0)), (1, .int x1), (2, .long x2)] from hl))
