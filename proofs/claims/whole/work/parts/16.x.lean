-- SlackProofs$Clause.becomeWeakened(LSlackProofs$Clause;I)V  (D 2)
def f_X3_becomeWeakened (k0 : Nat) (k1 : Nat) (x2 : Int32) (σ : Sto) : Option (Sto) :=
  nmS (cpL σ (k1 + 1) 0 (k0 + 1) 0 8) fun σ102 => if (x2 < 0 ∨ 8 ≤ x2.toNatClampNeg) then none else nmS (pL σ102 k0 2 (mmax (0 : Int64) ((σ102.2 k1 2) - (mabs (σ102.2 (k1 + 1) x2.toNatClampNeg))))) fun σ104 => if (x2 < 0 ∨ 8 ≤ x2.toNatClampNeg) then none else nmS (pL σ104 (k0 + 1) x2.toNatClampNeg (0 : Int64)) fun σ106 => some σ106
set_option maxHeartbeats 4000000 in
set_option maxRecDepth 100000 in
theorem w_X3_becomeWeakened {p : Program} {l : Launch} {e : Env} {s : State} {m : MethodId} {args : Array Value} {below : List Frame} {meth : Method} {c : Code} {G : Gd} {B : Nat} (X : Cm p s m args meth c cX3_becomeWeakened 3 RX3 G none) (k0 : Nat) (k1 : Nat) (h0 : (k0 < layX.2.2 ∧ layX.1 k0 = .inl 3)) (h1 : (k1 < layX.2.2 ∧ layX.1 k1 = .inl 3)) {σr : Sto} (x2 : Int32) (σ : Sto) (hf : f_X3_becomeWeakened k0 k1 x2 σ = some σr) (H : Heap) (locs : List Loc) (hH : HX G layX B σ H) (hS : va_S (inW layX B) s.heap H locs) (ls : Array Slot) (hl : lv_has ls 3 [(0, .ref (B + k0)), (1, .ref (B + k1)), (2, .int x2)]) : WM p l e 2 s m args below meth c H locs G layX B none σr (F0 m 0 ls []) := by
  unfold f_X3_becomeWeakened at hf
  have hx := X.1.1
  have hb := X.1.2.1
  refine lv_aload_n hx hb dX3_becomeWeakened_0 rfl (lv_at hl 1 rfl) ?_
  refine g_get (v := .ref (B + (k1 + 1))) kX3 (by decide) fl_RX3_9 X.1 hH h1 (cRef h1) dX3_becomeWeakened_1 ?_
  refine lv_iconst (v := 0) hx hb dX3_becomeWeakened_4 (by decide) ?_
  refine lv_aload_n hx hb dX3_becomeWeakened_5 rfl (lv_at hl 0 rfl) ?_
  refine g_get (v := .ref (B + (k0 + 1))) kX3 (by decide) fl_RX3_9 X.1 hH h0 (cRef h0) dX3_becomeWeakened_6 ?_
  refine lv_iconst (v := 0) hx hb dX3_becomeWeakened_9 (by decide) ?_
  refine lv_bipush (v := 8) hx hb dX3_becomeWeakened_10 (by decide) ?_
  refine g_cpL X.1 cp_RX3_29 hH hS (cArr h1) (cArr h0) (by decide) hl (by decide) (Nat.le_of_ble_eq_true rfl) dX3_becomeWeakened_12 (fun H locs hH hS => ?_)
  obtain ⟨σ102, eσ102, hH⟩ := nmX hH
  replace hf := nmU hf eσ102
  refine lv_aload_n hx hb dX3_becomeWeakened_15 rfl (lv_at hl 0 rfl) ?_
  refine lv_lconst (v := 0) hx hb dX3_becomeWeakened_16 (by decide) ?_
  refine lv_aload_n hx hb dX3_becomeWeakened_17 rfl (lv_at hl 1 rfl) ?_
  refine g_get (v := .long (σ102.2 k1 2)) kX3 (by decide) fl_RX3_25 X.1 hH h1 rfl dX3_becomeWeakened_18 ?_
  refine lv_aload_n hx hb dX3_becomeWeakened_21 rfl (lv_at hl 1 rfl) ?_
  refine g_get (v := .ref (B + (k1 + 1))) kX3 (by decide) fl_RX3_9 X.1 hH h1 (cRef h1) dX3_becomeWeakened_22 ?_
  refine lv_iload_n hx hb dX3_becomeWeakened_25 rfl (lv_at hl 2 rfl) ?_
  obtain ⟨q103, hf⟩ := chk hf
  refine g_lald (j := x2.toNatClampNeg) X.1 hH (cArr h1) q103 rfl dX3_becomeWeakened_26 ?_
  refine g_abs X.1 mt_RX3_44 (by decide) hl (Nat.le_of_ble_eq_true rfl) dX3_becomeWeakened_27 ?_
  refine lv_lsub hx hb dX3_becomeWeakened_30 ?_
  refine g_max X.1 mt_RX3_54 (by decide) hl (Nat.le_of_ble_eq_true rfl) dX3_becomeWeakened_31 ?_
  refine g_putL kX3 (by decide) fl_RX3_25 rfl rfl X.1 hH hS h0 dX3_becomeWeakened_34 (fun H locs hH hS => ?_)
  obtain ⟨σ104, eσ104, hH⟩ := nmX hH
  replace hf := nmU hf eσ104
  refine lv_aload_n hx hb dX3_becomeWeakened_37 rfl (lv_at hl 0 rfl) ?_
  refine g_get (v := .ref (B + (k0 + 1))) kX3 (by decide) fl_RX3_9 X.1 hH h0 (cRef h0) dX3_becomeWeakened_38 ?_
  refine lv_iload_n hx hb dX3_becomeWeakened_41 rfl (lv_at hl 2 rfl) ?_
  refine lv_lconst (v := 0) hx hb dX3_becomeWeakened_42 (by decide) ?_
  obtain ⟨q105, hf⟩ := chk hf
  refine g_last (j := x2.toNatClampNeg) X.1 hH hS (cArr h0) q105 rfl dX3_becomeWeakened_43 (fun H locs hH hS => ?_)
  obtain ⟨σ106, eσ106, hH⟩ := nmX hH
  replace hf := nmU hf eσ106
  obtain rfl := rt1 hf
  exact g_vret X hH hS dX3_becomeWeakened_44
theorem c_X3_becomeWeakened (l : Launch) (G : Gd) (B : Nat) (k0 : Nat) (h0 : (k0 < layX.2.2 ∧ layX.1 k0 = .inl 3)) (k1 : Nat) (h1 : (k1 < layX.2.2 ∧ layX.1 k1 = .inl 3)) (x2 : Int32) (σ σr : Sto) (hf : f_X3_becomeWeakened k0 k1 x2 σ = some σr) : Ct l G layX B yX3_becomeWeakened cX3_becomeWeakened 3 none 2 [.ref (B + k0), .ref (B + k1), .int x2] none σ σr :=
  Ct.ofW (by decide) (Nat.le_of_ble_eq_true rfl) (fun _ _ _ _ _ _ _ X hH hS ls hl => w_X3_becomeWeakened X k0 k1 h0 h1 x2 σ hf _ _ hH hS ls (show lv_has ls 3 [(0, .ref (B + k0)), (1, .ref (B + k1)), (2, .int x2)] from hl))
-- SlackProofs$Prover.conflicts(LSlackProofs$Clause;)Z  (D 2)
def b_X4_conflicts_108 (c24 : Int64 → Int32 → Sto → Option (Int32 × Sto)) (k0 : Nat) (v2 : Int64) (v4 : Int32) (σ : Sto) : Option (Int32 × Sto) :=
  c24 v2 (v4 + (1 : Int32)) σ
set_option maxHeartbeats 4000000 in
set_option maxRecDepth 100000 in
theorem w_X4_conflicts_108 {p : Program} {l : Launch} {e : Env} {s : State} {m : MethodId} {args : Array Value} {below : List Frame} {meth : Method} {c : Code} {G : Gd} {B : Nat} (X : Cm p s m args meth c cX4_conflicts 6 RX4 G (some .boolean)) (c24 : Int64 → Int32 → Sto → Option (Int32 × Sto)) (k0 : Nat) (h0 : (k0 < layX.2.2 ∧ layX.1 k0 = .inl 3)) {r : Int32} {σr : Sto} (ih24 : ∀ (v2 : Int64) (v4 : Int32) (σ : Sto) (H : Heap) (locs : List Loc) (ls : Array Slot), c24 v2 v4 σ = some (r, σr) → HX G layX B σ H → va_S (inW layX B) s.heap H locs → lv_has ls 6 [(0, .ref (B + 227)), (1, .ref (B + k0)), (2, .long v2), (4, .int v4)] → WM p l e 2 s m args below meth c H locs G layX B (some (.int r)) σr (F0 m 24 ls [])) (v2 : Int64) (v4 : Int32) (σ : Sto) (hf : b_X4_conflicts_108 c24 k0 v2 v4 σ = some (r, σr)) (H : Heap) (locs : List Loc) (hH : HX G layX B σ H) (hS : va_S (inW layX B) s.heap H locs) (ls : Array Slot) (hl : lv_has ls 6 [(0, .ref (B + 227)), (1, .ref (B + k0)), (2, .long v2), (4, .int v4)]) : WM p l e 2 s m args below meth c H locs G layX B (some (.int r)) σr (F0 m 108 ls []) := by
  unfold b_X4_conflicts_108 at hf
  have hx := X.1.1
  have hb := X.1.2.1
  refine lv_iinc (v := (v4 + (1 : Int32))) (lv' := [(4, .int (v4 + (1 : Int32))), (0, .ref (B + 227)), (1, .ref (B + k0)), (2, .long v2)]) hx hb dX4_conflicts_108 hl (k := 3) rfl rfl (by decide) rfl (fun ls hl => ?_)
  refine lv_goto (tgt := 24) hx hb dX4_conflicts_111 (by decide) ?_
  exact ih24 v2 (v4 + (1 : Int32)) σ _ _ _ hf hH hS (lv_sub hl [1, 2, 3, 0] rfl)
def b_X4_conflicts_48 (c24 : Int64 → Int32 → Sto → Option (Int32 × Sto)) (k0 : Nat) (v2 : Int64) (v4 : Int32) (s0 : Int32) (σ : Sto) : Option (Int32 × Sto) :=
  if s0 = 0 then (b_X4_conflicts_108 c24 k0 v2 v4 σ) else (if (v4 < 0 ∨ 8 ≤ v4.toNatClampNeg) then none else if (mabs (σ.2 (k0 + 1) v4.toNatClampNeg)) ≤ v2 then (b_X4_conflicts_108 c24 k0 v2 v4 σ) else (nmS (pI σ 227 5 ((σ.1 227 5) ||| ((1 : Int32) <<< (v4 &&& 31)))) fun σ409 => if (v4 < 0 ∨ 8 ≤ v4.toNatClampNeg) then none else if (σ409.2 (k0 + 1) v4.toNatClampNeg) ≤ (0 : Int64) then (b_X4_conflicts_108 c24 k0 v2 v4 σ409) else (nmS (pI σ409 227 6 ((σ409.1 227 6) ||| ((1 : Int32) <<< (v4 &&& 31)))) fun σ412 => b_X4_conflicts_108 c24 k0 v2 v4 σ412)))
set_option maxHeartbeats 4000000 in
set_option maxRecDepth 100000 in
theorem w_X4_conflicts_48 {p : Program} {l : Launch} {e : Env} {s : State} {m : MethodId} {args : Array Value} {below : List Frame} {meth : Method} {c : Code} {G : Gd} {B : Nat} (X : Cm p s m args meth c cX4_conflicts 6 RX4 G (some .boolean)) (c24 : Int64 → Int32 → Sto → Option (Int32 × Sto)) (k0 : Nat) (h0 : (k0 < layX.2.2 ∧ layX.1 k0 = .inl 3)) {r : Int32} {σr : Sto} (ih24 : ∀ (v2 : Int64) (v4 : Int32) (σ : Sto) (H : Heap) (locs : List Loc) (ls : Array Slot), c24 v2 v4 σ = some (r, σr) → HX G layX B σ H → va_S (inW layX B) s.heap H locs → lv_has ls 6 [(0, .ref (B + 227)), (1, .ref (B + k0)), (2, .long v2), (4, .int v4)] → WM p l e 2 s m args below meth c H locs G layX B (some (.int r)) σr (F0 m 24 ls [])) (v2 : Int64) (v4 : Int32) (s0 : Int32) (σ : Sto) (hf : b_X4_conflicts_48 c24 k0 v2 v4 s0 σ = some (r, σr)) (H : Heap) (locs : List Loc) (hH : HX G layX B σ H) (hS : va_S (inW layX B) s.heap H locs) (ls : Array Slot) (hl : lv_has ls 6 [(0, .ref (B + 227)), (1, .ref (B + k0)), (2, .long v2), (4, .int v4)]) : WM p l e 2 s m args below meth c H locs G layX B (some (.int r)) σr (F0 m 48 ls [.int s0]) := by
  unfold b_X4_conflicts_48 at hf
  have hx := X.1.1
  have hb := X.1.2.1
  refine lv_istore (lv' := [(5, .int s0), (0, .ref (B + 227)), (1, .ref (B + k0)), (2, .long v2), (4, .int v4)]) hx hb dX4_conflicts_48 hl (by decide) rfl (fun ls hl => ?_)
  refine lv_iload hx hb dX4_conflicts_50 (lv_at hl 0 rfl) ?_
  refine lv_if_eq (tgt := 108) hx hb dX4_conflicts_52 (by decide) (fun q306 => ?_) (fun q306 => ?_)
  · replace hf := brT hf q306
    exact w_X4_conflicts_108 X c24 k0 h0 ih24 v2 v4 σ hf _ _ hH hS _ (lv_sub hl [1, 2, 3, 4] rfl)
  · replace hf := brF hf q306
    refine lv_aload_n hx hb dX4_conflicts_55 rfl (lv_at hl 2 rfl) ?_
    refine g_get (v := .ref (B + (k0 + 1))) kX3 (by decide) fl_RX4_96 X.1 hH h0 (cRef h0) dX4_conflicts_56 ?_
    refine lv_iload hx hb dX4_conflicts_59 (lv_at hl 4 rfl) ?_
    obtain ⟨q407, hf⟩ := chk hf
    refine g_lald (j := v4.toNatClampNeg) X.1 hH (cArr h0) q407 rfl dX4_conflicts_61 ?_
    refine g_abs X.1 mt_RX4_100 (by decide) hl (Nat.le_of_ble_eq_true rfl) dX4_conflicts_62 ?_
    refine lv_lload_n hx hb dX4_conflicts_65 rfl (lv_at hl 3 rfl) ?_
    refine g_lle (tgt := 108) X.1 dX4_conflicts_66 dX4_conflicts_67 (by decide) (fun q408 => ?_) (fun q408 => ?_)
    · replace hf := brT hf q408
      exact w_X4_conflicts_108 X c24 k0 h0 ih24 v2 v4 σ hf _ _ hH hS _ (lv_sub hl [1, 2, 3, 4] rfl)
    · replace hf := brF hf q408
      refine lv_aload_n hx hb dX4_conflicts_70 rfl (lv_at hl 1 rfl) ?_
      refine lv_dup hx hb dX4_conflicts_71 rfl ?_
      refine g_get (v := .int (σ.1 227 5)) kX4 (by decide) fl_RX4_33 X.1 hH kx_227 rfl dX4_conflicts_72 ?_
      refine lv_iconst (v := 1) hx hb dX4_conflicts_75 (by decide) ?_
      refine lv_iload hx hb dX4_conflicts_76 (lv_at hl 4 rfl) ?_
      refine lv_ishl hx hb dX4_conflicts_78 ?_
      refine lv_ior hx hb dX4_conflicts_79 ?_
      refine g_putI kX4 (by decide) fl_RX4_33 rfl rfl X.1 hH hS kx_227 dX4_conflicts_80 (fun H locs hH hS => ?_)
      obtain ⟨σ409, eσ409, hH⟩ := nmX hH
      replace hf := nmU hf eσ409
      refine lv_aload_n hx hb dX4_conflicts_83 rfl (lv_at hl 2 rfl) ?_
      refine g_get (v := .ref (B + (k0 + 1))) kX3 (by decide) fl_RX4_96 X.1 hH h0 (cRef h0) dX4_conflicts_84 ?_
      refine lv_iload hx hb dX4_conflicts_87 (lv_at hl 4 rfl) ?_
      obtain ⟨q410, hf⟩ := chk hf
      refine g_lald (j := v4.toNatClampNeg) X.1 hH (cArr h0) q410 rfl dX4_conflicts_89 ?_
      refine lv_lconst (v := 0) hx hb dX4_conflicts_90 (by decide) ?_
      refine g_lle (tgt := 108) X.1 dX4_conflicts_91 dX4_conflicts_92 (by decide) (fun q411 => ?_) (fun q411 => ?_)
      · replace hf := brT hf q411
        exact w_X4_conflicts_108 X c24 k0 h0 ih24 v2 v4 σ409 hf _ _ hH hS _ (lv_sub hl [1, 2, 3, 4] rfl)
      · replace hf := brF hf q411
        refine lv_aload_n hx hb dX4_conflicts_95 rfl (lv_at hl 1 rfl) ?_
        refine lv_dup hx hb dX4_conflicts_96 rfl ?_
        refine g_get (v := .int (σ409.1 227 6)) kX4 (by decide) fl_RX4_37 X.1 hH kx_227 rfl dX4_conflicts_97 ?_
        refine lv_iconst (v := 1) hx hb dX4_conflicts_100 (by decide) ?_
        refine lv_iload hx hb dX4_conflicts_101 (lv_at hl 4 rfl) ?_
        refine lv_ishl hx hb dX4_conflicts_103 ?_
        refine lv_ior hx hb dX4_conflicts_104 ?_
        refine g_putI kX4 (by decide) fl_RX4_37 rfl rfl X.1 hH hS kx_227 dX4_conflicts_105 (fun H locs hH hS => ?_)
        obtain ⟨σ412, eσ412, hH⟩ := nmX hH
        replace hf := nmU hf eσ412
        exact w_X4_conflicts_108 X c24 k0 h0 ih24 v2 v4 σ412 hf _ _ hH hS _ (lv_sub hl [1, 2, 3, 4] rfl)
def b_X4_conflicts_24 (c24 : Int64 → Int32 → Sto → Option (Int32 × Sto)) (k0 : Nat) (v2 : Int64) (v4 : Int32) (σ : Sto) : Option (Int32 × Sto) :=
  if (8 : Int32) ≤ v4 then (some ((0 : Int32), σ)) else (if (((σ.1 227 5).toUInt32 >>> (v4.toUInt32 &&& Int32.toUInt32 31)).toInt32 &&& (1 : Int32)) = 0 then (b_X4_conflicts_48 c24 k0 v2 v4 (1 : Int32) σ) else (b_X4_conflicts_48 c24 k0 v2 v4 (0 : Int32) σ))
set_option maxHeartbeats 4000000 in
set_option maxRecDepth 100000 in
theorem w_X4_conflicts_24 {p : Program} {l : Launch} {e : Env} {s : State} {m : MethodId} {args : Array Value} {below : List Frame} {meth : Method} {c : Code} {G : Gd} {B : Nat} (X : Cm p s m args meth c cX4_conflicts 6 RX4 G (some .boolean)) (c24 : Int64 → Int32 → Sto → Option (Int32 × Sto)) (k0 : Nat) (h0 : (k0 < layX.2.2 ∧ layX.1 k0 = .inl 3)) {r : Int32} {σr : Sto} (ih24 : ∀ (v2 : Int64) (v4 : Int32) (σ : Sto) (H : Heap) (locs : List Loc) (ls : Array Slot), c24 v2 v4 σ = some (r, σr) → HX G layX B σ H → va_S (inW layX B) s.heap H locs → lv_has ls 6 [(0, .ref (B + 227)), (1, .ref (B + k0)), (2, .long v2), (4, .int v4)] → WM p l e 2 s m args below meth c H locs G layX B (some (.int r)) σr (F0 m 24 ls [])) (v2 : Int64) (v4 : Int32) (σ : Sto) (hf : b_X4_conflicts_24 c24 k0 v2 v4 σ = some (r, σr)) (H : Heap) (locs : List Loc) (hH : HX G layX B σ H) (hS : va_S (inW layX B) s.heap H locs) (ls : Array Slot) (hl : lv_has ls 6 [(0, .ref (B + 227)), (1, .ref (B + k0)), (2, .long v2), (4, .int v4)]) : WM p l e 2 s m args below meth c H locs G layX B (some (.int r)) σr (F0 m 24 ls []) := by
  unfold b_X4_conflicts_24 at hf
  have hx := X.1.1
  have hb := X.1.2.1
  refine lv_iload hx hb dX4_conflicts_24 (lv_at hl 3 rfl) ?_
  refine lv_bipush (v := 8) hx hb dX4_conflicts_26 (by decide) ?_
  refine lv_icmp_ge (tgt := 114) hx hb dX4_conflicts_28 (by decide) (fun q204 => ?_) (fun q204 => ?_)
  · replace hf := brT hf q204
    refine lv_iconst (v := 0) hx hb dX4_conflicts_114 (by decide) ?_
    obtain ⟨rfl, rfl⟩ := rt2 hf
    exact g_zret X hH hS (by decide) dX4_conflicts_115
  · replace hf := brF hf q204
    refine lv_aload_n hx hb dX4_conflicts_31 rfl (lv_at hl 0 rfl) ?_
    refine g_get (v := .int (σ.1 227 5)) kX4 (by decide) fl_RX4_33 X.1 hH kx_227 rfl dX4_conflicts_32 ?_
    refine lv_iload hx hb dX4_conflicts_35 (lv_at hl 3 rfl) ?_
    refine lv_iushr hx hb dX4_conflicts_37 rfl ?_
    refine lv_iconst (v := 1) hx hb dX4_conflicts_38 (by decide) ?_
    refine lv_iand hx hb dX4_conflicts_39 ?_
    refine lv_if_ne (tgt := 47) hx hb dX4_conflicts_40 (by decide) (fun q205 => ?_) (fun q205 => ?_)
    · replace hf := brF hf q205
      refine lv_iconst (v := 0) hx hb dX4_conflicts_47 (by decide) ?_
      exact w_X4_conflicts_48 X c24 k0 h0 ih24 v2 v4 (0 : Int32) σ hf _ _ hH hS _ (lv_sub hl [0, 1, 2, 3] rfl)
    · replace hf := brT hf q205
      refine lv_iconst (v := 1) hx hb dX4_conflicts_43 (by decide) ?_
      refine lv_goto (tgt := 48) hx hb dX4_conflicts_44 (by decide) ?_
      exact w_X4_conflicts_48 X c24 k0 h0 ih24 v2 v4 (1 : Int32) σ hf _ _ hH hS _ (lv_sub hl [0, 1, 2, 3] rfl)
def l_X4_conflicts_24 (k0 : Nat) : Nat → Int64 → Int32 → Sto → Option (Int32 × Sto)
  | 0, _, _, _ => none
  | n + 1, v2, v4, σ => b_X4_conflicts_24 (l_X4_conflicts_24 k0 n) k0 v2 v4 σ
set_option maxHeartbeats 4000000 in
set_option maxRecDepth 100000 in
theorem wl_X4_conflicts_24 {p : Program} {l : Launch} {e : Env} {s : State} {m : MethodId} {args : Array Value} {below : List Frame} {meth : Method} {c : Code} {G : Gd} {B : Nat} (X : Cm p s m args meth c cX4_conflicts 6 RX4 G (some .boolean)) (k0 : Nat) (h0 : (k0 < layX.2.2 ∧ layX.1 k0 = .inl 3)) {r : Int32} {σr : Sto} (n : Nat) : ∀ (v2 : Int64) (v4 : Int32) (σ : Sto) (H : Heap) (locs : List Loc) (ls : Array Slot), l_X4_conflicts_24 k0 n v2 v4 σ = some (r, σr) → HX G layX B σ H → va_S (inW layX B) s.heap H locs → lv_has ls 6 [(0, .ref (B + 227)), (1, .ref (B + k0)), (2, .long v2), (4, .int v4)] → WM p l e 2 s m args below meth c H locs G layX B (some (.int r)) σr (F0 m 24 ls []) := by
  induction n with
  | zero =>
    intro _ _ σ H locs ls hf
    cases hf
  | succ n ih =>
    intro v2 v4 σ H locs ls hf hH hS hl
    exact w_X4_conflicts_24 X (l_X4_conflicts_24 k0 n) k0 h0 ih v2 v4 σ hf H locs hH hS ls hl
def f_X4_conflicts (k0 : Nat) (σ : Sto) : Option (Int32 × Sto) :=
  bd2 (f_X3_slackBy k0 (σ.1 227 5) (σ.1 227 6) σ) fun r102 σ101 => if (0 : Int64) ≤ r102 then (l_X4_conflicts_24 k0 400 r102 (0 : Int32) σ101) else (some ((1 : Int32), σ101))
set_option maxHeartbeats 4000000 in
set_option maxRecDepth 100000 in
theorem w_X4_conflicts {p : Program} {l : Launch} {e : Env} {s : State} {m : MethodId} {args : Array Value} {below : List Frame} {meth : Method} {c : Code} {G : Gd} {B : Nat} (X : Cm p s m args meth c cX4_conflicts 6 RX4 G (some .boolean)) (k0 : Nat) (h0 : (k0 < layX.2.2 ∧ layX.1 k0 = .inl 3)) {r : Int32} {σr : Sto} (σ : Sto) (hf : f_X4_conflicts k0 σ = some (r, σr)) (H : Heap) (locs : List Loc) (hH : HX G layX B σ H) (hS : va_S (inW layX B) s.heap H locs) (ls : Array Slot) (hl : lv_has ls 6 [(0, .ref (B + 227)), (1, .ref (B + k0))]) : WM p l e 2 s m args below meth c H locs G layX B (some (.int r)) σr (F0 m 0 ls []) := by
  unfold f_X4_conflicts at hf
  have hx := X.1.1
  have hb := X.1.2.1
  refine lv_aload_n hx hb dX4_conflicts_0 rfl (lv_at hl 1 rfl) ?_
  refine lv_aload_n hx hb dX4_conflicts_1 rfl (lv_at hl 0 rfl) ?_
  refine g_get (v := .int (σ.1 227 5)) kX4 (by decide) fl_RX4_33 X.1 hH kx_227 rfl dX4_conflicts_2 ?_
  refine lv_aload_n hx hb dX4_conflicts_5 rfl (lv_at hl 0 rfl) ?_
  refine g_get (v := .int (σ.1 227 6)) kX4 (by decide) fl_RX4_37 X.1 hH kx_227 rfl dX4_conflicts_6 ?_
  obtain ⟨r102, σ101, eσ101, hf⟩ := bnd2 hf
  refine g_cVl (As := [.int (σ.1 227 5), .int (σ.1 227 6)]) X.1 hH hS (c_X3_slackBy l G B k0 h0 (σ.1 227 5) (σ.1 227 6) σ σ101 r102 eσ101) kw_RX4_92 kX3 h0 (by decide) rfl hl (Nat.le_of_ble_eq_true rfl) rfl dX4_conflicts_9 (fun H locs hH hS => ?_)
  refine lv_lstore_n (lv' := [(2, .long r102), (0, .ref (B + 227)), (1, .ref (B + k0))]) hx hb dX4_conflicts_12 rfl hl (by decide) rfl (fun ls hl => ?_)
  refine lv_lload_n hx hb dX4_conflicts_13 rfl (lv_at hl 0 rfl) ?_
  refine lv_lconst (v := 0) hx hb dX4_conflicts_14 (by decide) ?_
  refine g_lge (tgt := 21) X.1 dX4_conflicts_15 dX4_conflicts_16 (by decide) (fun q103 => ?_) (fun q103 => ?_)
  · replace hf := brT hf q103
    refine lv_iconst (v := 0) hx hb dX4_conflicts_21 (by decide) ?_
    refine lv_istore (lv' := [(4, .int (0 : Int32)), (2, .long r102), (0, .ref (B + 227)), (1, .ref (B + k0))]) hx hb dX4_conflicts_22 hl (by decide) rfl (fun ls hl => ?_)
    exact wl_X4_conflicts_24 X k0 h0 400 r102 (0 : Int32) σ101 _ _ _ hf hH hS (lv_sub hl [2, 3, 1, 0] rfl)
  · replace hf := brF hf q103
    refine lv_iconst (v := 1) hx hb dX4_conflicts_19 (by decide) ?_
    obtain ⟨rfl, rfl⟩ := rt2 hf
    exact g_zret X hH hS (by decide) dX4_conflicts_20
theorem c_X4_conflicts (l : Launch) (G : Gd) (B : Nat) (k0 : Nat) (h0 : (k0 < layX.2.2 ∧ layX.1 k0 = .inl 3)) (σ σr : Sto) (r : Int32) (hf : f_X4_conflicts k0 σ = some (r, σr)) : Ct l G layX B yX4_conflicts cX4_conflicts 6 (some .boolean) 2 [.ref (B + 227), .ref (B + k0)] (some (.int r)) σ σr :=
  Ct.ofW (by decide) (Nat.le_of_ble_eq_true rfl) (fun _ _ _ _ _ _ _ X hH hS ls hl => w_X4_conflicts X k0 h0 σ hf _ _ hH hS ls (show lv_has ls 6 [(0, .ref (B + 227)), (1, .ref (B + k0))] from hl))
-- SlackProofs$Prover.drives(ILSlackProofs$Clause;LSlackProofs$Clause;)Z  (D 3)
def b_X4_drives_82 (k0 : Nat) (k1 : Nat) (σ : Sto) : Option (Int32 × Sto) :=
  some ((1 : Int32), σ)
set_option maxHeartbeats 4000000 in
set_option maxRecDepth 100000 in
theorem w_X4_drives_82 {p : Program} {l : Launch} {e : Env} {s : State} {m : MethodId} {args : Array Value} {below : List Frame} {meth : Method} {c : Code} {G : Gd} {B : Nat} (X : Cm p s m args meth c cX4_drives 7 RX4 G (some .boolean)) (k0 : Nat) (k1 : Nat) (h0 : (k0 < layX.2.2 ∧ layX.1 k0 = .inl 3)) (h1 : (k1 < layX.2.2 ∧ layX.1 k1 = .inl 3)) {r : Int32} {σr : Sto} (σ : Sto) (hf : b_X4_drives_82 k0 k1 σ = some (r, σr)) (H : Heap) (locs : List Loc) (hH : HX G layX B σ H) (hS : va_S (inW layX B) s.heap H locs) (ls : Array Slot) (hl : lv_has ls 7 []) : WM p l e 3 s m args below meth c H locs G layX B (some (.int r)) σr (F0 m 82 ls []) := by
  unfold b_X4_drives_82 at hf
  have hx := X.1.1
  have hb := X.1.2.1
  refine lv_iconst (v := 1) hx hb dX4_drives_82 (by decide) ?_
  obtain ⟨rfl, rfl⟩ := rt2 hf
  exact g_zret X hH hS (by decide) dX4_drives_83
def b_X4_drives_60 (c3 : Int32 → Int32 → Sto → Option (Int32 × Sto)) (c19 : Int32 → Int32 → Int32 → Int32 → Sto → Option (Int32 × Sto)) (k0 : Nat) (k1 : Nat) (v1 : Int32) (v4 : Int32) (v5 : Int32) (v6 : Int32) (σ : Sto) : Option (Int32 × Sto) :=
  c19 v1 v4 v5 (v6 + (1 : Int32)) σ
set_option maxHeartbeats 4000000 in
set_option maxRecDepth 100000 in
theorem w_X4_drives_60 {p : Program} {l : Launch} {e : Env} {s : State} {m : MethodId} {args : Array Value} {below : List Frame} {meth : Method} {c : Code} {G : Gd} {B : Nat} (X : Cm p s m args meth c cX4_drives 7 RX4 G (some .boolean)) (c3 : Int32 → Int32 → Sto → Option (Int32 × Sto)) (c19 : Int32 → Int32 → Int32 → Int32 → Sto → Option (Int32 × Sto)) (k0 : Nat) (k1 : Nat) (h0 : (k0 < layX.2.2 ∧ layX.1 k0 = .inl 3)) (h1 : (k1 < layX.2.2 ∧ layX.1 k1 = .inl 3)) {r : Int32} {σr : Sto} (ih3 : ∀ (v1 : Int32) (v4 : Int32) (σ : Sto) (H : Heap) (locs : List Loc) (ls : Array Slot), c3 v1 v4 σ = some (r, σr) → HX G layX B σ H → va_S (inW layX B) s.heap H locs → lv_has ls 7 [(0, .ref (B + 227)), (1, .int v1), (2, .ref (B + k0)), (3, .ref (B + k1)), (4, .int v4)] → WM p l e 3 s m args below meth c H locs G layX B (some (.int r)) σr (F0 m 3 ls [])) (ih19 : ∀ (v1 : Int32) (v4 : Int32) (v5 : Int32) (v6 : Int32) (σ : Sto) (H : Heap) (locs : List Loc) (ls : Array Slot), c19 v1 v4 v5 v6 σ = some (r, σr) → HX G layX B σ H → va_S (inW layX B) s.heap H locs → lv_has ls 7 [(0, .ref (B + 227)), (1, .int v1), (2, .ref (B + k0)), (3, .ref (B + k1)), (4, .int v4), (5, .int v5), (6, .int v6)] → WM p l e 3 s m args below meth c H locs G layX B (some (.int r)) σr (F0 m 19 ls [])) (v1 : Int32) (v4 : Int32) (v5 : Int32) (v6 : Int32) (σ : Sto) (hf : b_X4_drives_60 c3 c19 k0 k1 v1 v4 v5 v6 σ = some (r, σr)) (H : Heap) (locs : List Loc) (hH : HX G layX B σ H) (hS : va_S (inW layX B) s.heap H locs) (ls : Array Slot) (hl : lv_has ls 7 [(0, .ref (B + 227)), (1, .int v1), (2, .ref (B + k0)), (3, .ref (B + k1)), (4, .int v4), (5, .int v5), (6, .int v6)]) : WM p l e 3 s m args below meth c H locs G layX B (some (.int r)) σr (F0 m 60 ls []) := by
  unfold b_X4_drives_60 at hf
  have hx := X.1.1
  have hb := X.1.2.1
  refine lv_iinc (v := (v6 + (1 : Int32))) (lv' := [(6, .int (v6 + (1 : Int32))), (0, .ref (B + 227)), (1, .int v1), (2, .ref (B + k0)), (3, .ref (B + k1)), (4, .int v4), (5, .int v5)]) hx hb dX4_drives_60 hl (k := 6) rfl rfl (by decide) rfl (fun ls hl => ?_)
  refine lv_goto (tgt := 19) hx hb dX4_drives_63 (by decide) ?_
  exact ih19 v1 v4 v5 (v6 + (1 : Int32)) σ _ _ _ hf hH hS (lv_sub hl [1, 2, 3, 4, 5, 6, 0] rfl)
def b_X4_drives_19 (c3 : Int32 → Int32 → Sto → Option (Int32 × Sto)) (c19 : Int32 → Int32 → Int32 → Int32 → Sto → Option (Int32 × Sto)) (k0 : Nat) (k1 : Nat) (v1 : Int32) (v4 : Int32) (v5 : Int32) (v6 : Int32) (σ : Sto) : Option (Int32 × Sto) :=
  if (σ.1 33 3) ≤ v6 then (bd2 (f_X4_conflicts k0 σ) fun r305 σ304 => if r305 = 0 then (bd2 (f_X4_conflicts k1 σ304) fun r408 σ407 => if r408 = 0 then (if (σ407.1 227 5) = v5 then (some ((0 : Int32), σ407)) else (c3 v1 (v4 + (1 : Int32)) σ407)) else (b_X4_drives_82 k0 k1 σ407)) else (b_X4_drives_82 k0 k1 σ304)) else (if ((v1.toUInt32 >>> (v6.toUInt32 &&& Int32.toUInt32 31)).toInt32 &&& (1 : Int32)) = (1 : Int32) then (if (v6 < 0 ∨ 30 ≤ v6.toNatClampNeg) then none else bd2 (f_X4_conflicts (36 + 2 * v6.toNatClampNeg) σ) fun r514 σ513 => if r514 = 0 then (b_X4_drives_60 c3 c19 k0 k1 v1 v4 v5 v6 σ513) else (some ((1 : Int32), σ513))) else (b_X4_drives_60 c3 c19 k0 k1 v1 v4 v5 v6 σ))
set_option maxHeartbeats 4000000 in
set_option maxRecDepth 100000 in
theorem w_X4_drives_19 {p : Program} {l : Launch} {e : Env} {s : State} {m : MethodId} {args : Array Value} {below : List Frame} {meth : Method} {c : Code} {G : Gd} {B : Nat} (X : Cm p s m args meth c cX4_drives 7 RX4 G (some .boolean)) (c3 : Int32 → Int32 → Sto → Option (Int32 × Sto)) (c19 : Int32 → Int32 → Int32 → Int32 → Sto → Option (Int32 × Sto)) (k0 : Nat) (k1 : Nat) (h0 : (k0 < layX.2.2 ∧ layX.1 k0 = .inl 3)) (h1 : (k1 < layX.2.2 ∧ layX.1 k1 = .inl 3)) {r : Int32} {σr : Sto} (ih3 : ∀ (v1 : Int32) (v4 : Int32) (σ : Sto) (H : Heap) (locs : List Loc) (ls : Array Slot), c3 v1 v4 σ = some (r, σr) → HX G layX B σ H → va_S (inW layX B) s.heap H locs → lv_has ls 7 [(0, .ref (B + 227)), (1, .int v1), (2, .ref (B + k0)), (3, .ref (B + k1)), (4, .int v4)] → WM p l e 3 s m args below meth c H locs G layX B (some (.int r)) σr (F0 m 3 ls [])) (ih19 : ∀ (v1 : Int32) (v4 : Int32) (v5 : Int32) (v6 : Int32) (σ : Sto) (H : Heap) (locs : List Loc) (ls : Array Slot), c19 v1 v4 v5 v6 σ = some (r, σr) → HX G layX B σ H → va_S (inW layX B) s.heap H locs → lv_has ls 7 [(0, .ref (B + 227)), (1, .int v1), (2, .ref (B + k0)), (3, .ref (B + k1)), (4, .int v4), (5, .int v5), (6, .int v6)] → WM p l e 3 s m args below meth c H locs G layX B (some (.int r)) σr (F0 m 19 ls [])) (v1 : Int32) (v4 : Int32) (v5 : Int32) (v6 : Int32) (σ : Sto) (hf : b_X4_drives_19 c3 c19 k0 k1 v1 v4 v5 v6 σ = some (r, σr)) (H : Heap) (locs : List Loc) (hH : HX G layX B σ H) (hS : va_S (inW layX B) s.heap H locs) (ls : Array Slot) (hl : lv_has ls 7 [(0, .ref (B + 227)), (1, .int v1), (2, .ref (B + k0)), (3, .ref (B + k1)), (4, .int v4), (5, .int v5), (6, .int v6)]) : WM p l e 3 s m args below meth c H locs G layX B (some (.int r)) σr (F0 m 19 ls []) := by
  unfold b_X4_drives_19 at hf
  have hx := X.1.1
  have hb := X.1.2.1
  refine lv_iload hx hb dX4_drives_19 (lv_at hl 6 rfl) ?_
  refine lv_aload_n hx hb dX4_drives_21 rfl (lv_at hl 0 rfl) ?_
  refine g_get (v := .ref (B + 33)) kX4 (by decide) fl_RX4_29 X.1 hH kx_227 rfl dX4_drives_22 ?_
  refine g_get (v := .int (σ.1 33 3)) kX2 (by decide) fl_RX4_61 X.1 hH kx_33 rfl dX4_drives_25 ?_
  refine lv_icmp_ge (tgt := 66) hx hb dX4_drives_28 (by decide) (fun q303 => ?_) (fun q303 => ?_)
  · replace hf := brT hf q303
    refine lv_aload_n hx hb dX4_drives_66 rfl (lv_at hl 0 rfl) ?_
    refine lv_aload_n hx hb dX4_drives_67 rfl (lv_at hl 2 rfl) ?_
    obtain ⟨r305, σ304, eσ304, hf⟩ := bnd2 hf
    refine g_cVi (As := [.ref (B + k0)]) X.1 hH hS (c_X4_conflicts l G B k0 h0 σ σ304 r305 eσ304) kw_RX4_88 kX4 kx_227 (by decide) rfl hl (Nat.le_of_ble_eq_true rfl) rfl dX4_drives_68 (fun H locs hH hS => ?_)
    refine lv_if_ne (tgt := 82) hx hb dX4_drives_71 (by decide) (fun q306 => ?_) (fun q306 => ?_)
    · replace hf := brF hf q306
      exact w_X4_drives_82 X k0 k1 h0 h1 σ304 hf _ _ hH hS _ (lv_sub hl [] rfl)
    · replace hf := brT hf q306
      refine lv_aload_n hx hb dX4_drives_74 rfl (lv_at hl 0 rfl) ?_
      refine lv_aload_n hx hb dX4_drives_75 rfl (lv_at hl 3 rfl) ?_
      obtain ⟨r408, σ407, eσ407, hf⟩ := bnd2 hf
      refine g_cVi (As := [.ref (B + k1)]) X.1 hH hS (c_X4_conflicts l G B k1 h1 σ304 σ407 r408 eσ407) kw_RX4_88 kX4 kx_227 (by decide) rfl hl (Nat.le_of_ble_eq_true rfl) rfl dX4_drives_76 (fun H locs hH hS => ?_)
      refine lv_if_eq (tgt := 84) hx hb dX4_drives_79 (by decide) (fun q409 => ?_) (fun q409 => ?_)
      · replace hf := brT hf q409
        refine lv_aload_n hx hb dX4_drives_84 rfl (lv_at hl 0 rfl) ?_
        refine g_get (v := .int (σ407.1 227 5)) kX4 (by decide) fl_RX4_33 X.1 hH kx_227 rfl dX4_drives_85 ?_
        refine lv_iload hx hb dX4_drives_88 (lv_at hl 5 rfl) ?_
        refine lv_icmp_ne (tgt := 95) hx hb dX4_drives_90 (by decide) (fun q410 => ?_) (fun q410 => ?_)
        · replace hf := brF hf q410
          refine lv_iinc (v := (v4 + (1 : Int32))) (lv' := [(4, .int (v4 + (1 : Int32))), (0, .ref (B + 227)), (1, .int v1), (2, .ref (B + k0)), (3, .ref (B + k1)), (5, .int v5), (6, .int v6)]) hx hb dX4_drives_95 hl (k := 4) rfl rfl (by decide) rfl (fun ls hl => ?_)
          refine lv_goto (tgt := 3) hx hb dX4_drives_98 (by decide) ?_
          exact ih3 v1 (v4 + (1 : Int32)) σ407 _ _ _ hf hH hS (lv_sub hl [1, 2, 3, 4, 0] rfl)
        · replace hf := brT hf q410
          refine lv_iconst (v := 0) hx hb dX4_drives_93 (by decide) ?_
          obtain ⟨rfl, rfl⟩ := rt2 hf
          exact g_zret X hH hS (by decide) dX4_drives_94
      · replace hf := brF hf q409
        exact w_X4_drives_82 X k0 k1 h0 h1 σ407 hf _ _ hH hS _ (lv_sub hl [] rfl)
  · replace hf := brF hf q303
    refine lv_iload_n hx hb dX4_drives_31 rfl (lv_at hl 1 rfl) ?_
    refine lv_iload hx hb dX4_drives_32 (lv_at hl 6 rfl) ?_
    refine lv_iushr hx hb dX4_drives_34 rfl ?_
    refine lv_iconst (v := 1) hx hb dX4_drives_35 (by decide) ?_
    refine lv_iand hx hb dX4_drives_36 ?_
    refine lv_iconst (v := 1) hx hb dX4_drives_37 (by decide) ?_
    refine lv_icmp_ne (tgt := 60) hx hb dX4_drives_38 (by decide) (fun q411 => ?_) (fun q411 => ?_)
    · replace hf := brF hf q411
      exact w_X4_drives_60 X c3 c19 k0 k1 h0 h1 ih3 ih19 v1 v4 v5 v6 σ hf _ _ hH hS _ (lv_sub hl [0, 1, 2, 3, 4, 5, 6] rfl)
    · replace hf := brT hf q411
      refine lv_aload_n hx hb dX4_drives_41 rfl (lv_at hl 0 rfl) ?_
      refine lv_aload_n hx hb dX4_drives_42 rfl (lv_at hl 0 rfl) ?_
      refine g_get (v := .ref (B + 33)) kX4 (by decide) fl_RX4_29 X.1 hH kx_227 rfl dX4_drives_43 ?_
      refine g_get (v := .ref (B + 34)) kX2 (by decide) fl_RX4_53 X.1 hH kx_33 rfl dX4_drives_46 ?_
      refine lv_iload hx hb dX4_drives_49 (lv_at hl 6 rfl) ?_
      obtain ⟨q512, hf⟩ := chk hf
      refine g_aald (b := (36 + 2 * v6.toNatClampNeg)) X.1 hH kx_34 (by decide) q512 rfl dX4_drives_51 ?_
      obtain ⟨r514, σ513, eσ513, hf⟩ := bnd2 hf
      refine g_cVi (As := [.ref (B + (36 + 2 * v6.toNatClampNeg))]) X.1 hH hS (c_X4_conflicts l G B (36 + 2 * v6.toNatClampNeg) (kB33 q512) σ σ513 r514 eσ513) kw_RX4_88 kX4 kx_227 (by decide) rfl hl (Nat.le_of_ble_eq_true rfl) rfl dX4_drives_52 (fun H locs hH hS => ?_)
      refine lv_if_eq (tgt := 60) hx hb dX4_drives_55 (by decide) (fun q515 => ?_) (fun q515 => ?_)
      · replace hf := brT hf q515
        exact w_X4_drives_60 X c3 c19 k0 k1 h0 h1 ih3 ih19 v1 v4 v5 v6 σ513 hf _ _ hH hS _ (lv_sub hl [0, 1, 2, 3, 4, 5, 6] rfl)
      · replace hf := brF hf q515
        refine lv_iconst (v := 1) hx hb dX4_drives_58 (by decide) ?_
        obtain ⟨rfl, rfl⟩ := rt2 hf
        exact g_zret X hH hS (by decide) dX4_drives_59
def l_X4_drives_19 (c3 : Int32 → Int32 → Sto → Option (Int32 × Sto)) (k0 : Nat) (k1 : Nat) : Nat → Int32 → Int32 → Int32 → Int32 → Sto → Option (Int32 × Sto)
  | 0, _, _, _, _, _ => none
  | n + 1, v1, v4, v5, v6, σ => b_X4_drives_19 c3 (l_X4_drives_19 c3 k0 k1 n) k0 k1 v1 v4 v5 v6 σ
set_option maxHeartbeats 4000000 in
set_option maxRecDepth 100000 in
theorem wl_X4_drives_19 {p : Program} {l : Launch} {e : Env} {s : State} {m : MethodId} {args : Array Value} {below : List Frame} {meth : Method} {c : Code} {G : Gd} {B : Nat} (X : Cm p s m args meth c cX4_drives 7 RX4 G (some .boolean)) (c3 : Int32 → Int32 → Sto → Option (Int32 × Sto)) (k0 : Nat) (k1 : Nat) (h0 : (k0 < layX.2.2 ∧ layX.1 k0 = .inl 3)) (h1 : (k1 < layX.2.2 ∧ layX.1 k1 = .inl 3)) {r : Int32} {σr : Sto} (ih3 : ∀ (v1 : Int32) (v4 : Int32) (σ : Sto) (H : Heap) (locs : List Loc) (ls : Array Slot), c3 v1 v4 σ = some (r, σr) → HX G layX B σ H → va_S (inW layX B) s.heap H locs → lv_has ls 7 [(0, .ref (B + 227)), (1, .int v1), (2, .ref (B + k0)), (3, .ref (B + k1)), (4, .int v4)] → WM p l e 3 s m args below meth c H locs G layX B (some (.int r)) σr (F0 m 3 ls [])) (n : Nat) : ∀ (v1 : Int32) (v4 : Int32) (v5 : Int32) (v6 : Int32) (σ : Sto) (H : Heap) (locs : List Loc) (ls : Array Slot), l_X4_drives_19 c3 k0 k1 n v1 v4 v5 v6 σ = some (r, σr) → HX G layX B σ H → va_S (inW layX B) s.heap H locs → lv_has ls 7 [(0, .ref (B + 227)), (1, .int v1), (2, .ref (B + k0)), (3, .ref (B + k1)), (4, .int v4), (5, .int v5), (6, .int v6)] → WM p l e 3 s m args below meth c H locs G layX B (some (.int r)) σr (F0 m 19 ls []) := by
  induction n with
  | zero =>
    intro _ _ _ _ σ H locs ls hf
    cases hf
  | succ n ih =>
    intro v1 v4 v5 v6 σ H locs ls hf hH hS hl
    exact w_X4_drives_19 X c3 (l_X4_drives_19 c3 k0 k1 n) k0 k1 h0 h1 ih3 ih v1 v4 v5 v6 σ hf H locs hH hS ls hl
def b_X4_drives_3 (c3 : Int32 → Int32 → Sto → Option (Int32 × Sto)) (k0 : Nat) (k1 : Nat) (v1 : Int32) (v4 : Int32) (σ : Sto) : Option (Int32 × Sto) :=
  if (8 : Int32) < v4 then (some ((0 : Int32), σ)) else (nmS (σ.1 227 5) fun y202 => l_X4_drives_19 c3 k0 k1 400 v1 v4 y202 (0 : Int32) σ)
set_option maxHeartbeats 4000000 in
set_option maxRecDepth 100000 in
theorem w_X4_drives_3 {p : Program} {l : Launch} {e : Env} {s : State} {m : MethodId} {args : Array Value} {below : List Frame} {meth : Method} {c : Code} {G : Gd} {B : Nat} (X : Cm p s m args meth c cX4_drives 7 RX4 G (some .boolean)) (c3 : Int32 → Int32 → Sto → Option (Int32 × Sto)) (k0 : Nat) (k1 : Nat) (h0 : (k0 < layX.2.2 ∧ layX.1 k0 = .inl 3)) (h1 : (k1 < layX.2.2 ∧ layX.1 k1 = .inl 3)) {r : Int32} {σr : Sto} (ih3 : ∀ (v1 : Int32) (v4 : Int32) (σ : Sto) (H : Heap) (locs : List Loc) (ls : Array Slot), c3 v1 v4 σ = some (r, σr) → HX G layX B σ H → va_S (inW layX B) s.heap H locs → lv_has ls 7 [(0, .ref (B + 227)), (1, .int v1), (2, .ref (B + k0)), (3, .ref (B + k1)), (4, .int v4)] → WM p l e 3 s m args below meth c H locs G layX B (some (.int r)) σr (F0 m 3 ls [])) (v1 : Int32) (v4 : Int32) (σ : Sto) (hf : b_X4_drives_3 c3 k0 k1 v1 v4 σ = some (r, σr)) (H : Heap) (locs : List Loc) (hH : HX G layX B σ H) (hS : va_S (inW layX B) s.heap H locs) (ls : Array Slot) (hl : lv_has ls 7 [(0, .ref (B + 227)), (1, .int v1), (2, .ref (B + k0)), (3, .ref (B + k1)), (4, .int v4)]) : WM p l e 3 s m args below meth c H locs G layX B (some (.int r)) σr (F0 m 3 ls []) := by
  unfold b_X4_drives_3 at hf
  have hx := X.1.1
  have hb := X.1.2.1
  refine lv_iload hx hb dX4_drives_3 (lv_at hl 4 rfl) ?_
  refine lv_bipush (v := 8) hx hb dX4_drives_5 (by decide) ?_
  refine lv_icmp_gt (tgt := 101) hx hb dX4_drives_7 (by decide) (fun q201 => ?_) (fun q201 => ?_)
  · replace hf := brT hf q201
    refine lv_iconst (v := 0) hx hb dX4_drives_101 (by decide) ?_
    obtain ⟨rfl, rfl⟩ := rt2 hf
    exact g_zret X hH hS (by decide) dX4_drives_102
  · replace hf := brF hf q201
    refine lv_aload_n hx hb dX4_drives_10 rfl (lv_at hl 0 rfl) ?_
    refine g_get (v := .int (σ.1 227 5)) kX4 (by decide) fl_RX4_33 X.1 hH kx_227 rfl dX4_drives_11 ?_
    refine lv_topi (fun y202 ey202 => ?_)
    replace hf := nmU hf ey202
    refine lv_istore (lv' := [(5, .int y202), (0, .ref (B + 227)), (1, .int v1), (2, .ref (B + k0)), (3, .ref (B + k1)), (4, .int v4)]) hx hb dX4_drives_14 hl (by decide) rfl (fun ls hl => ?_)
    refine lv_iconst (v := 0) hx hb dX4_drives_16 (by decide) ?_
    refine lv_istore (lv' := [(6, .int (0 : Int32)), (5, .int y202), (0, .ref (B + 227)), (1, .int v1), (2, .ref (B + k0)), (3, .ref (B + k1)), (4, .int v4)]) hx hb dX4_drives_17 hl (by decide) rfl (fun ls hl => ?_)
    exact wl_X4_drives_19 X c3 k0 k1 h0 h1 ih3 400 v1 v4 y202 (0 : Int32) σ _ _ _ hf hH hS (lv_sub hl [2, 3, 4, 5, 6, 1, 0] rfl)
def l_X4_drives_3 (k0 : Nat) (k1 : Nat) : Nat → Int32 → Int32 → Sto → Option (Int32 × Sto)
  | 0, _, _, _ => none
  | n + 1, v1, v4, σ => b_X4_drives_3 (l_X4_drives_3 k0 k1 n) k0 k1 v1 v4 σ
set_option maxHeartbeats 4000000 in
set_option maxRecDepth 100000 in
theorem wl_X4_drives_3 {p : Program} {l : Launch} {e : Env} {s : State} {m : MethodId} {args : Array Value} {below : List Frame} {meth : Method} {c : Code} {G : Gd} {B : Nat} (X : Cm p s m args meth c cX4_drives 7 RX4 G (some .boolean)) (k0 : Nat) (k1 : Nat) (h0 : (k0 < layX.2.2 ∧ layX.1 k0 = .inl 3)) (h1 : (k1 < layX.2.2 ∧ layX.1 k1 = .inl 3)) {r : Int32} {σr : Sto} (n : Nat) : ∀ (v1 : Int32) (v4 : Int32) (σ : Sto) (H : Heap) (locs : List Loc) (ls : Array Slot), l_X4_drives_3 k0 k1 n v1 v4 σ = some (r, σr) → HX G layX B σ H → va_S (inW layX B) s.heap H locs → lv_has ls 7 [(0, .ref (B + 227)), (1, .int v1), (2, .ref (B + k0)), (3, .ref (B + k1)), (4, .int v4)] → WM p l e 3 s m args below meth c H locs G layX B (some (.int r)) σr (F0 m 3 ls []) := by
  induction n with
  | zero =>
    intro _ _ σ H locs ls hf
    cases hf
  | succ n ih =>
    intro v1 v4 σ H locs ls hf hH hS hl
    exact w_X4_drives_3 X (l_X4_drives_3 k0 k1 n) k0 k1 h0 h1 ih v1 v4 σ hf H locs hH hS ls hl
def fr_X4_drives (k0 : Nat) (k1 : Nat) (x1 : Int32) (σ : Sto) : Option (Int32 × Sto) :=
  l_X4_drives_3 k0 k1 400 x1 (0 : Int32) σ
set_option maxHeartbeats 4000000 in
set_option maxRecDepth 100000 in
theorem w_X4_drives {p : Program} {l : Launch} {e : Env} {s : State} {m : MethodId} {args : Array Value} {below : List Frame} {meth : Method} {c : Code} {G : Gd} {B : Nat} (X : Cm p s m args meth c cX4_drives 7 RX4 G (some .boolean)) (k0 : Nat) (k1 : Nat) (h0 : (k0 < layX.2.2 ∧ layX.1 k0 = .inl 3)) (h1 : (k1 < layX.2.2 ∧ layX.1 k1 = .inl 3)) {r : Int32} {σr : Sto} (x1 : Int32) (σ : Sto) (hf : fr_X4_drives k0 k1 x1 σ = some (r, σr)) (H : Heap) (locs : List Loc) (hH : HX G layX B σ H) (hS : va_S (inW layX B) s.heap H locs) (ls : Array Slot) (hl : lv_has ls 7 [(0, .ref (B + 227)), (1, .int x1), (2, .ref (B + k0)), (3, .ref (B + k1))]) : WM p l e 3 s m args below meth c H locs G layX B (some (.int r)) σr (F0 m 0 ls []) := by
  unfold fr_X4_drives at hf
  have hx := X.1.1
  have hb := X.1.2.1
  refine lv_iconst (v := 0) hx hb dX4_drives_0 (by decide) ?_
  refine lv_istore (lv' := [(4, .int (0 : Int32)), (0, .ref (B + 227)), (1, .int x1), (2, .ref (B + k0)), (3, .ref (B + k1))]) hx hb dX4_drives_1 hl (by decide) rfl (fun ls hl => ?_)
  exact wl_X4_drives_3 X k0 k1 h0 h1 400 x1 (0 : Int32) σ _ _ _ hf hH hS (lv_sub hl [1, 2, 3, 4, 0] rfl)
def f_X4_drives (x1 : Int32) (k0 : Nat) (k1 : Nat) (σ : Sto) : Option (Int32 × Sto) := fr_X4_drives k0 k1 x1 σ
theorem c_X4_drives (l : Launch) (G : Gd) (B : Nat) (x1 : Int32) (k0 : Nat) (h0 : (k0 < layX.2.2 ∧ layX.1 k0 = .inl 3)) (k1 : Nat) (h1 : (k1 < layX.2.2 ∧ layX.1 k1 = .inl 3)) (σ σr : Sto) (r : Int32) (hf : f_X4_drives x1 k0 k1 σ = some (r, σr)) : Ct l G layX B yX4_drives cX4_drives 7 (some .boolean) 3 [.ref (B + 227), .int x1, .ref (B + k0), .ref (B + k1)] (some (.int r)) σ σr :=
  Ct.ofW (by decide) (Nat.le_of_ble_eq_true rfl) (fun _ _ _ _ _ _ _ X hH hS ls hl => w_X4_drives X k0 k1 h0 h1 x1 σ hf _ _ hH hS ls (show lv_has ls 7 [(0, .ref (B + 227)), (1, .int x1), (2, .ref (B + k0)), (3, .ref (B + k1))] from hl))
-- SlackProofs$Prover.followsFrom(LSlackProofs$Clause;ILSlackProofs$Clause;)Z  (D 4)
def fr_X4_followsFrom (k0 : Nat) (k1 : Nat) (x2 : Int32) (σ : Sto) : Option (Int32 × Sto) :=
  if (σ.2 k0 2) = (0 : Int64) then (some ((1 : Int32), σ)) else (bd1 (f_X3_becomeContrary 230 k0 σ) fun σ102 => nmS (pI σ102 227 5 (0 : Int32)) fun σ104 => nmS (pI σ104 227 6 (0 : Int32)) fun σ105 => bd2 (f_X4_drives x2 k1 230 σ105) fun r107 σ106 => if ¬ (r107 = 0 ∨ r107 = 1) then none else some (r107, σ106))
set_option maxHeartbeats 4000000 in
set_option maxRecDepth 100000 in
theorem w_X4_followsFrom {p : Program} {l : Launch} {e : Env} {s : State} {m : MethodId} {args : Array Value} {below : List Frame} {meth : Method} {c : Code} {G : Gd} {B : Nat} (X : Cm p s m args meth c cX4_followsFrom 4 RX4 G (some .boolean)) (k0 : Nat) (k1 : Nat) (h0 : (k0 < layX.2.2 ∧ layX.1 k0 = .inl 3)) (h1 : (k1 < layX.2.2 ∧ layX.1 k1 = .inl 3)) {r : Int32} {σr : Sto} (x2 : Int32) (σ : Sto) (hf : fr_X4_followsFrom k0 k1 x2 σ = some (r, σr)) (H : Heap) (locs : List Loc) (hH : HX G layX B σ H) (hS : va_S (inW layX B) s.heap H locs) (ls : Array Slot) (hl : lv_has ls 4 [(0, .ref (B + 227)), (1, .ref (B + k0)), (2, .int x2), (3, .ref (B + k1))]) : WM p l e 4 s m args below meth c H locs G layX B (some (.int r)) σr (F0 m 0 ls []) := by
  unfold fr_X4_followsFrom at hf
  have hx := X.1.1
  have hb := X.1.2.1
  refine lv_aload_n hx hb dX4_followsFrom_0 rfl (lv_at hl 1 rfl) ?_
  refine g_get (v := .long (σ.2 k0 2)) kX3 (by decide) fl_RX4_84 X.1 hH h0 rfl dX4_followsFrom_1 ?_
  refine lv_lconst (v := 0) hx hb dX4_followsFrom_4 (by decide) ?_
  refine g_lne (tgt := 11) X.1 dX4_followsFrom_5 dX4_followsFrom_6 (by decide) (fun q101 => ?_) (fun q101 => ?_)
  · replace hf := brF hf q101
    refine lv_aload_n hx hb dX4_followsFrom_11 rfl (lv_at hl 0 rfl) ?_
    refine g_get (v := .ref (B + 230)) kX4 (by decide) fl_RX4_20 X.1 hH kx_227 rfl dX4_followsFrom_12 ?_
    refine lv_aload_n hx hb dX4_followsFrom_15 rfl (lv_at hl 1 rfl) ?_
    obtain ⟨σ102, eσ102, hf⟩ := bnd1 hf
    refine g_cVv (As := [.ref (B + k0)]) X.1 hH hS (c_X3_becomeContrary l G B 230 kx_230 k0 h0 σ σ102 eσ102) kw_RX4_57 kX3 kx_230 (by decide) rfl hl (Nat.le_of_ble_eq_true rfl) rfl dX4_followsFrom_16 (fun H locs hH hS => ?_)
    refine lv_aload_n hx hb dX4_followsFrom_19 rfl (lv_at hl 0 rfl) ?_
    refine lv_iconst (v := 0) hx hb dX4_followsFrom_20 (by decide) ?_
    refine g_putI kX4 (by decide) fl_RX4_33 rfl rfl X.1 hH hS kx_227 dX4_followsFrom_21 (fun H locs hH hS => ?_)
    obtain ⟨σ104, eσ104, hH⟩ := nmX hH
    replace hf := nmU hf eσ104
    refine lv_aload_n hx hb dX4_followsFrom_24 rfl (lv_at hl 0 rfl) ?_
    refine lv_iconst (v := 0) hx hb dX4_followsFrom_25 (by decide) ?_
    refine g_putI kX4 (by decide) fl_RX4_37 rfl rfl X.1 hH hS kx_227 dX4_followsFrom_26 (fun H locs hH hS => ?_)
    obtain ⟨σ105, eσ105, hH⟩ := nmX hH
    replace hf := nmU hf eσ105
    refine lv_aload_n hx hb dX4_followsFrom_29 rfl (lv_at hl 0 rfl) ?_
    refine lv_iload_n hx hb dX4_followsFrom_30 rfl (lv_at hl 2 rfl) ?_
    refine lv_aload_n hx hb dX4_followsFrom_31 rfl (lv_at hl 3 rfl) ?_
    refine lv_aload_n hx hb dX4_followsFrom_32 rfl (lv_at hl 0 rfl) ?_
    refine g_get (v := .ref (B + 230)) kX4 (by decide) fl_RX4_20 X.1 hH kx_227 rfl dX4_followsFrom_33 ?_
    obtain ⟨r107, σ106, eσ106, hf⟩ := bnd2 hf
    refine g_cVi (As := [.int x2, .ref (B + k1), .ref (B + 230)]) X.1 hH hS (c_X4_drives l G B x2 k1 h1 230 kx_230 σ105 σ106 r107 eσ106) kw_RX4_45 kX4 kx_227 (by decide) rfl hl (Nat.le_of_ble_eq_true rfl) rfl dX4_followsFrom_36 (fun H locs hH hS => ?_)
    obtain ⟨q108, hf⟩ := chk hf
    obtain ⟨rfl, rfl⟩ := rt2 hf
    exact g_zret X hH hS (Decidable.not_not.mp q108) dX4_followsFrom_39
  · replace hf := brT hf q101
    refine lv_iconst (v := 1) hx hb dX4_followsFrom_9 (by decide) ?_
    obtain ⟨rfl, rfl⟩ := rt2 hf
    exact g_zret X hH hS (by decide) dX4_followsFrom_10
def f_X4_followsFrom (k0 : Nat) (x2 : Int32) (k1 : Nat) (σ : Sto) : Option (Int32 × Sto) := fr_X4_followsFrom k0 k1 x2 σ
theorem c_X4_followsFrom (l : Launch) (G : Gd) (B : Nat) (k0 : Nat) (h0 : (k0 < layX.2.2 ∧ layX.1 k0 = .inl 3)) (x2 : Int32) (k1 : Nat) (h1 : (k1 < layX.2.2 ∧ layX.1 k1 = .inl 3)) (σ σr : Sto) (r : Int32) (hf : f_X4_followsFrom k0 x2 k1 σ = some (r, σr)) : Ct l G layX B yX4_followsFrom cX4_followsFrom 4 (some .boolean) 4 [.ref (B + 227), .ref (B + k0), .int x2, .ref (B + k1)] (some (.int r)) σ σr :=
  Ct.ofW (by decide) (Nat.le_of_ble_eq_true rfl) (fun _ _ _ _ _ _ _ X hH hS ls hl => w_X4_followsFrom X k0 k1 h0 h1 x2 σ hf _ _ hH hS ls (show lv_has ls 4 [(0, .ref (B + 227)), (1, .ref (B + k0)), (2, .int x2), (3, .ref (B + k1))] from hl))
-- SlackProofs$Prover.comesByWitness(LSlackProofs$Clause;[I)Z  (D 5)
def b_X4_comesByWitness_73 (c10 : Int32 → Sto → Option (Int32 × Sto)) (k0 : Nat) (k1 n1 : Nat) (v3 : Int32) (σ : Sto) : Option (Int32 × Sto) :=
  c10 (v3 + (1 : Int32)) σ
set_option maxHeartbeats 4000000 in
set_option maxRecDepth 100000 in
theorem w_X4_comesByWitness_73 {p : Program} {l : Launch} {e : Env} {s : State} {m : MethodId} {args : Array Value} {below : List Frame} {meth : Method} {c : Code} {G : Gd} {B : Nat} (X : Cm p s m args meth c cX4_comesByWitness 4 RX4 G (some .boolean)) (c10 : Int32 → Sto → Option (Int32 × Sto)) (k0 : Nat) (k1 n1 : Nat) (h0 : (k0 < layX.2.2 ∧ layX.1 k0 = .inl 3)) (h1 : (k1 < layX.2.2 ∧ layX.1 k1 = .inr (.int, n1))) {r : Int32} {σr : Sto} (ih10 : ∀ (v3 : Int32) (σ : Sto) (H : Heap) (locs : List Loc) (ls : Array Slot), c10 v3 σ = some (r, σr) → HX G layX B σ H → va_S (inW layX B) s.heap H locs → lv_has ls 4 [(0, .ref (B + 227)), (1, .ref (B + k0)), (2, .ref (B + k1)), (3, .int v3)] → WM p l e 5 s m args below meth c H locs G layX B (some (.int r)) σr (F0 m 10 ls [])) (v3 : Int32) (σ : Sto) (hf : b_X4_comesByWitness_73 c10 k0 k1 n1 v3 σ = some (r, σr)) (H : Heap) (locs : List Loc) (hH : HX G layX B σ H) (hS : va_S (inW layX B) s.heap H locs) (ls : Array Slot) (hl : lv_has ls 4 [(0, .ref (B + 227)), (1, .ref (B + k0)), (2, .ref (B + k1)), (3, .int v3)]) : WM p l e 5 s m args below meth c H locs G layX B (some (.int r)) σr (F0 m 73 ls []) := by
  unfold b_X4_comesByWitness_73 at hf
  have hx := X.1.1
  have hb := X.1.2.1
  refine lv_iinc (v := (v3 + (1 : Int32))) (lv' := [(3, .int (v3 + (1 : Int32))), (0, .ref (B + 227)), (1, .ref (B + k0)), (2, .ref (B + k1))]) hx hb dX4_comesByWitness_73 hl (k := 3) rfl rfl (by decide) rfl (fun ls hl => ?_)
  refine lv_goto (tgt := 10) hx hb dX4_comesByWitness_76 (by decide) ?_
  exact ih10 (v3 + (1 : Int32)) σ _ _ _ hf hH hS (lv_sub hl [1, 2, 3, 0] rfl)
def b_X4_comesByWitness_10 (c10 : Int32 → Sto → Option (Int32 × Sto)) (k0 : Nat) (k1 n1 : Nat) (v3 : Int32) (σ : Sto) : Option (Int32 × Sto) :=
  if (σ.1 33 3) ≤ v3 then (bd1 (f_X3_becomePut 234 k0 k1 n1 σ) fun σ204 => bd2 (f_X4_followsFrom 234 (σ204.1 33 4) 232 σ204) fun r207 σ206 => if r207 = 0 then (some ((0 : Int32), σ206)) else (bd2 (f_X2_allPrices 33 σ206) fun r210 σ209 => if r210 = 0 then (some ((1 : Int32), σ209)) else (bd1 (f_X3_becomePriceKept 234 35 8 k1 n1 σ209) fun σ212 => bd2 (f_X4_followsFrom 234 (σ212.1 33 4) 232 σ212) fun r215 σ214 => if ¬ (r215 = 0 ∨ r215 = 1) then none else some (r215, σ214)))) else (bd2 (f_X2_isLive 33 v3 σ) fun r218 σ217 => if r218 = 0 then (b_X4_comesByWitness_73 c10 k0 k1 n1 v3 σ217) else (if (v3 < 0 ∨ 30 ≤ v3.toNatClampNeg) then none else bd1 (f_X3_becomePut 234 (36 + 2 * v3.toNatClampNeg) k1 n1 σ217) fun σ321 => bd2 (f_X4_followsFrom 234 (σ321.1 33 4) 232 σ321) fun r324 σ323 => if r324 = 0 then (some ((0 : Int32), σ323)) else (b_X4_comesByWitness_73 c10 k0 k1 n1 v3 σ323)))
set_option maxHeartbeats 4000000 in
set_option maxRecDepth 100000 in
theorem w_X4_comesByWitness_10 {p : Program} {l : Launch} {e : Env} {s : State} {m : MethodId} {args : Array Value} {below : List Frame} {meth : Method} {c : Code} {G : Gd} {B : Nat} (X : Cm p s m args meth c cX4_comesByWitness 4 RX4 G (some .boolean)) (c10 : Int32 → Sto → Option (Int32 × Sto)) (k0 : Nat) (k1 n1 : Nat) (h0 : (k0 < layX.2.2 ∧ layX.1 k0 = .inl 3)) (h1 : (k1 < layX.2.2 ∧ layX.1 k1 = .inr (.int, n1))) {r : Int32} {σr : Sto} (ih10 : ∀ (v3 : Int32) (σ : Sto) (H : Heap) (locs : List Loc) (ls : Array Slot), c10 v3 σ = some (r, σr) → HX G layX B σ H → va_S (inW layX B) s.heap H locs → lv_has ls 4 [(0, .ref (B + 227)), (1, .ref (B + k0)), (2, .ref (B + k1)), (3, .int v3)] → WM p l e 5 s m args below meth c H locs G layX B (some (.int r)) σr (F0 m 10 ls [])) (v3 : Int32) (σ : Sto) (hf : b_X4_comesByWitness_10 c10 k0 k1 n1 v3 σ = some (r, σr)) (H : Heap) (locs : List Loc) (hH : HX G layX B σ H) (hS : va_S (inW layX B) s.heap H locs) (ls : Array Slot) (hl : lv_has ls 4 [(0, .ref (B + 227)), (1, .ref (B + k0)), (2, .ref (B + k1)), (3, .int v3)]) : WM p l e 5 s m args below meth c H locs G layX B (some (.int r)) σr (F0 m 10 ls []) := by
  unfold b_X4_comesByWitness_10 at hf
  have hx := X.1.1
  have hb := X.1.2.1
  refine lv_iload_n hx hb dX4_comesByWitness_10 rfl (lv_at hl 3 rfl) ?_
  refine lv_aload_n hx hb dX4_comesByWitness_11 rfl (lv_at hl 0 rfl) ?_
  refine g_get (v := .ref (B + 33)) kX4 (by decide) fl_RX4_29 X.1 hH kx_227 rfl dX4_comesByWitness_12 ?_
  refine g_get (v := .int (σ.1 33 3)) kX2 (by decide) fl_RX4_61 X.1 hH kx_33 rfl dX4_comesByWitness_15 ?_
  refine lv_icmp_ge (tgt := 79) hx hb dX4_comesByWitness_18 (by decide) (fun q203 => ?_) (fun q203 => ?_)
  · replace hf := brT hf q203
    refine lv_aload_n hx hb dX4_comesByWitness_79 rfl (lv_at hl 0 rfl) ?_
    refine g_get (v := .ref (B + 234)) kX4 (by decide) fl_RX4_26 X.1 hH kx_227 rfl dX4_comesByWitness_80 ?_
    refine lv_aload_n hx hb dX4_comesByWitness_83 rfl (lv_at hl 1 rfl) ?_
    refine lv_aload_n hx hb dX4_comesByWitness_84 rfl (lv_at hl 2 rfl) ?_
    obtain ⟨σ204, eσ204, hf⟩ := bnd1 hf
    refine g_cVv (As := [.ref (B + k0), .ref (B + k1)]) X.1 hH hS (c_X3_becomePut l G B 234 kx_234 k0 h0 k1 n1 h1 σ σ204 eσ204) kw_RX4_68 kX3 kx_234 (by decide) rfl hl (Nat.le_of_ble_eq_true rfl) rfl dX4_comesByWitness_85 (fun H locs hH hS => ?_)
    refine lv_aload_n hx hb dX4_comesByWitness_88 rfl (lv_at hl 0 rfl) ?_
    refine lv_aload_n hx hb dX4_comesByWitness_89 rfl (lv_at hl 0 rfl) ?_
    refine g_get (v := .ref (B + 234)) kX4 (by decide) fl_RX4_26 X.1 hH kx_227 rfl dX4_comesByWitness_90 ?_
    refine lv_aload_n hx hb dX4_comesByWitness_93 rfl (lv_at hl 0 rfl) ?_
    refine g_get (v := .ref (B + 33)) kX4 (by decide) fl_RX4_29 X.1 hH kx_227 rfl dX4_comesByWitness_94 ?_
    refine g_get (v := .int (σ204.1 33 4)) kX2 (by decide) fl_RX4_40 X.1 hH kx_33 rfl dX4_comesByWitness_97 ?_
    refine lv_aload_n hx hb dX4_comesByWitness_100 rfl (lv_at hl 0 rfl) ?_
    refine g_get (v := .ref (B + 232)) kX4 (by decide) fl_RX4_23 X.1 hH kx_227 rfl dX4_comesByWitness_101 ?_
    obtain ⟨r207, σ206, eσ206, hf⟩ := bnd2 hf
    refine g_cVi (As := [.ref (B + 234), .int (σ204.1 33 4), .ref (B + 232)]) X.1 hH hS (c_X4_followsFrom l G B 234 kx_234 (σ204.1 33 4) 232 kx_232 σ204 σ206 r207 eσ206) kw_RX4_49 kX4 kx_227 (by decide) rfl hl (Nat.le_of_ble_eq_true rfl) rfl dX4_comesByWitness_104 (fun H locs hH hS => ?_)
    refine lv_if_ne (tgt := 112) hx hb dX4_comesByWitness_107 (by decide) (fun q208 => ?_) (fun q208 => ?_)
    · replace hf := brF hf q208
      refine lv_aload_n hx hb dX4_comesByWitness_112 rfl (lv_at hl 0 rfl) ?_
      refine g_get (v := .ref (B + 33)) kX4 (by decide) fl_RX4_29 X.1 hH kx_227 rfl dX4_comesByWitness_113 ?_
      obtain ⟨r210, σ209, eσ209, hf⟩ := bnd2 hf
      refine g_cVi (As := []) X.1 hH hS (c_X2_allPrices l G B 33 kx_33 σ206 σ209 r210 eσ209) kw_RX4_72 kX2 kx_33 (by decide) rfl hl (Nat.le_of_ble_eq_true rfl) rfl dX4_comesByWitness_116 (fun H locs hH hS => ?_)
      refine lv_if_ne (tgt := 124) hx hb dX4_comesByWitness_119 (by decide) (fun q211 => ?_) (fun q211 => ?_)
      · replace hf := brF hf q211
        refine lv_aload_n hx hb dX4_comesByWitness_124 rfl (lv_at hl 0 rfl) ?_
        refine g_get (v := .ref (B + 234)) kX4 (by decide) fl_RX4_26 X.1 hH kx_227 rfl dX4_comesByWitness_125 ?_
        refine lv_aload_n hx hb dX4_comesByWitness_128 rfl (lv_at hl 0 rfl) ?_
        refine g_get (v := .ref (B + 33)) kX4 (by decide) fl_RX4_29 X.1 hH kx_227 rfl dX4_comesByWitness_129 ?_
        refine g_get (v := .ref (B + 35)) kX2 (by decide) fl_RX4_76 X.1 hH kx_33 rfl dX4_comesByWitness_132 ?_
        refine lv_aload_n hx hb dX4_comesByWitness_135 rfl (lv_at hl 2 rfl) ?_
        obtain ⟨σ212, eσ212, hf⟩ := bnd1 hf
        refine g_cVv (As := [.ref (B + 35), .ref (B + k1)]) X.1 hH hS (c_X3_becomePriceKept l G B 234 kx_234 35 8 kx_35 k1 n1 h1 σ209 σ212 eσ212) kw_RX4_80 kX3 kx_234 (by decide) rfl hl (Nat.le_of_ble_eq_true rfl) rfl dX4_comesByWitness_136 (fun H locs hH hS => ?_)
        refine lv_aload_n hx hb dX4_comesByWitness_139 rfl (lv_at hl 0 rfl) ?_
        refine lv_aload_n hx hb dX4_comesByWitness_140 rfl (lv_at hl 0 rfl) ?_
        refine g_get (v := .ref (B + 234)) kX4 (by decide) fl_RX4_26 X.1 hH kx_227 rfl dX4_comesByWitness_141 ?_
        refine lv_aload_n hx hb dX4_comesByWitness_144 rfl (lv_at hl 0 rfl) ?_
        refine g_get (v := .ref (B + 33)) kX4 (by decide) fl_RX4_29 X.1 hH kx_227 rfl dX4_comesByWitness_145 ?_
        refine g_get (v := .int (σ212.1 33 4)) kX2 (by decide) fl_RX4_40 X.1 hH kx_33 rfl dX4_comesByWitness_148 ?_
        refine lv_aload_n hx hb dX4_comesByWitness_151 rfl (lv_at hl 0 rfl) ?_
        refine g_get (v := .ref (B + 232)) kX4 (by decide) fl_RX4_23 X.1 hH kx_227 rfl dX4_comesByWitness_152 ?_
        obtain ⟨r215, σ214, eσ214, hf⟩ := bnd2 hf
        refine g_cVi (As := [.ref (B + 234), .int (σ212.1 33 4), .ref (B + 232)]) X.1 hH hS (c_X4_followsFrom l G B 234 kx_234 (σ212.1 33 4) 232 kx_232 σ212 σ214 r215 eσ214) kw_RX4_49 kX4 kx_227 (by decide) rfl hl (Nat.le_of_ble_eq_true rfl) rfl dX4_comesByWitness_155 (fun H locs hH hS => ?_)
        obtain ⟨q216, hf⟩ := chk hf
        obtain ⟨rfl, rfl⟩ := rt2 hf
        exact g_zret X hH hS (Decidable.not_not.mp q216) dX4_comesByWitness_158
      · replace hf := brT hf q211
        refine lv_iconst (v := 1) hx hb dX4_comesByWitness_122 (by decide) ?_
        obtain ⟨rfl, rfl⟩ := rt2 hf
        exact g_zret X hH hS (by decide) dX4_comesByWitness_123
    · replace hf := brT hf q208
      refine lv_iconst (v := 0) hx hb dX4_comesByWitness_110 (by decide) ?_
      obtain ⟨rfl, rfl⟩ := rt2 hf
      exact g_zret X hH hS (by decide) dX4_comesByWitness_111
  · replace hf := brF hf q203
    refine lv_aload_n hx hb dX4_comesByWitness_21 rfl (lv_at hl 0 rfl) ?_
    refine g_get (v := .ref (B + 33)) kX4 (by decide) fl_RX4_29 X.1 hH kx_227 rfl dX4_comesByWitness_22 ?_
    refine lv_iload_n hx hb dX4_comesByWitness_25 rfl (lv_at hl 3 rfl) ?_
    obtain ⟨r218, σ217, eσ217, hf⟩ := bnd2 hf
    refine g_cVi (As := [.int v3]) X.1 hH hS (c_X2_isLive l G B 33 kx_33 v3 σ σ217 r218 eσ217) kw_RX4_64 kX2 kx_33 (by decide) rfl hl (Nat.le_of_ble_eq_true rfl) rfl dX4_comesByWitness_26 (fun H locs hH hS => ?_)
    refine lv_if_eq (tgt := 73) hx hb dX4_comesByWitness_29 (by decide) (fun q219 => ?_) (fun q219 => ?_)
    · replace hf := brT hf q219
      exact w_X4_comesByWitness_73 X c10 k0 k1 n1 h0 h1 ih10 v3 σ217 hf _ _ hH hS _ (lv_sub hl [0, 1, 2, 3] rfl)
    · replace hf := brF hf q219
      refine lv_aload_n hx hb dX4_comesByWitness_32 rfl (lv_at hl 0 rfl) ?_
      refine g_get (v := .ref (B + 234)) kX4 (by decide) fl_RX4_26 X.1 hH kx_227 rfl dX4_comesByWitness_33 ?_
      refine lv_aload_n hx hb dX4_comesByWitness_36 rfl (lv_at hl 0 rfl) ?_
      refine g_get (v := .ref (B + 33)) kX4 (by decide) fl_RX4_29 X.1 hH kx_227 rfl dX4_comesByWitness_37 ?_
      refine g_get (v := .ref (B + 34)) kX2 (by decide) fl_RX4_53 X.1 hH kx_33 rfl dX4_comesByWitness_40 ?_
      refine lv_iload_n hx hb dX4_comesByWitness_43 rfl (lv_at hl 3 rfl) ?_
      obtain ⟨q320, hf⟩ := chk hf
      refine g_aald (b := (36 + 2 * v3.toNatClampNeg)) X.1 hH kx_34 (by decide) q320 rfl dX4_comesByWitness_44 ?_
      refine lv_aload_n hx hb dX4_comesByWitness_45 rfl (lv_at hl 2 rfl) ?_
      obtain ⟨σ321, eσ321, hf⟩ := bnd1 hf
      refine g_cVv (As := [.ref (B + (36 + 2 * v3.toNatClampNeg)), .ref (B + k1)]) X.1 hH hS (c_X3_becomePut l G B 234 kx_234 (36 + 2 * v3.toNatClampNeg) (kB33 q320) k1 n1 h1 σ217 σ321 eσ321) kw_RX4_68 kX3 kx_234 (by decide) rfl hl (Nat.le_of_ble_eq_true rfl) rfl dX4_comesByWitness_46 (fun H locs hH hS => ?_)
      refine lv_aload_n hx hb dX4_comesByWitness_49 rfl (lv_at hl 0 rfl) ?_
      refine lv_aload_n hx hb dX4_comesByWitness_50 rfl (lv_at hl 0 rfl) ?_
      refine g_get (v := .ref (B + 234)) kX4 (by decide) fl_RX4_26 X.1 hH kx_227 rfl dX4_comesByWitness_51 ?_
      refine lv_aload_n hx hb dX4_comesByWitness_54 rfl (lv_at hl 0 rfl) ?_
      refine g_get (v := .ref (B + 33)) kX4 (by decide) fl_RX4_29 X.1 hH kx_227 rfl dX4_comesByWitness_55 ?_
      refine g_get (v := .int (σ321.1 33 4)) kX2 (by decide) fl_RX4_40 X.1 hH kx_33 rfl dX4_comesByWitness_58 ?_
      refine lv_aload_n hx hb dX4_comesByWitness_61 rfl (lv_at hl 0 rfl) ?_
      refine g_get (v := .ref (B + 232)) kX4 (by decide) fl_RX4_23 X.1 hH kx_227 rfl dX4_comesByWitness_62 ?_
      obtain ⟨r324, σ323, eσ323, hf⟩ := bnd2 hf
      refine g_cVi (As := [.ref (B + 234), .int (σ321.1 33 4), .ref (B + 232)]) X.1 hH hS (c_X4_followsFrom l G B 234 kx_234 (σ321.1 33 4) 232 kx_232 σ321 σ323 r324 eσ323) kw_RX4_49 kX4 kx_227 (by decide) rfl hl (Nat.le_of_ble_eq_true rfl) rfl dX4_comesByWitness_65 (fun H locs hH hS => ?_)
      refine lv_if_ne (tgt := 73) hx hb dX4_comesByWitness_68 (by decide) (fun q325 => ?_) (fun q325 => ?_)
      · replace hf := brF hf q325
        exact w_X4_comesByWitness_73 X c10 k0 k1 n1 h0 h1 ih10 v3 σ323 hf _ _ hH hS _ (lv_sub hl [0, 1, 2, 3] rfl)
      · replace hf := brT hf q325
        refine lv_iconst (v := 0) hx hb dX4_comesByWitness_71 (by decide) ?_
        obtain ⟨rfl, rfl⟩ := rt2 hf
        exact g_zret X hH hS (by decide) dX4_comesByWitness_72
def l_X4_comesByWitness_10 (k0 : Nat) (k1 n1 : Nat) : Nat → Int32 → Sto → Option (Int32 × Sto)
  | 0, _, _ => none
  | n + 1, v3, σ => b_X4_comesByWitness_10 (l_X4_comesByWitness_10 k0 k1 n1 n) k0 k1 n1 v3 σ
set_option maxHeartbeats 4000000 in
set_option maxRecDepth 100000 in
theorem wl_X4_comesByWitness_10 {p : Program} {l : Launch} {e : Env} {s : State} {m : MethodId} {args : Array Value} {below : List Frame} {meth : Method} {c : Code} {G : Gd} {B : Nat} (X : Cm p s m args meth c cX4_comesByWitness 4 RX4 G (some .boolean)) (k0 : Nat) (k1 n1 : Nat) (h0 : (k0 < layX.2.2 ∧ layX.1 k0 = .inl 3)) (h1 : (k1 < layX.2.2 ∧ layX.1 k1 = .inr (.int, n1))) {r : Int32} {σr : Sto} (n : Nat) : ∀ (v3 : Int32) (σ : Sto) (H : Heap) (locs : List Loc) (ls : Array Slot), l_X4_comesByWitness_10 k0 k1 n1 n v3 σ = some (r, σr) → HX G layX B σ H → va_S (inW layX B) s.heap H locs → lv_has ls 4 [(0, .ref (B + 227)), (1, .ref (B + k0)), (2, .ref (B + k1)), (3, .int v3)] → WM p l e 5 s m args below meth c H locs G layX B (some (.int r)) σr (F0 m 10 ls []) := by
  induction n with
  | zero =>
    intro _ σ H locs ls hf
    cases hf
  | succ n ih =>
    intro v3 σ H locs ls hf hH hS hl
    exact w_X4_comesByWitness_10 X (l_X4_comesByWitness_10 k0 k1 n1 n) k0 k1 n1 h0 h1 ih v3 σ hf H locs hH hS ls hl
def f_X4_comesByWitness (k0 : Nat) (k1 n1 : Nat) (σ : Sto) : Option (Int32 × Sto) :=
  bd1 (f_X3_becomeContrary 232 k0 σ) fun σ101 => l_X4_comesByWitness_10 k0 k1 n1 400 (0 : Int32) σ101
set_option maxHeartbeats 4000000 in
set_option maxRecDepth 100000 in
theorem w_X4_comesByWitness {p : Program} {l : Launch} {e : Env} {s : State} {m : MethodId} {args : Array Value} {below : List Frame} {meth : Method} {c : Code} {G : Gd} {B : Nat} (X : Cm p s m args meth c cX4_comesByWitness 4 RX4 G (some .boolean)) (k0 : Nat) (k1 n1 : Nat) (h0 : (k0 < layX.2.2 ∧ layX.1 k0 = .inl 3)) (h1 : (k1 < layX.2.2 ∧ layX.1 k1 = .inr (.int, n1))) {r : Int32} {σr : Sto} (σ : Sto) (hf : f_X4_comesByWitness k0 k1 n1 σ = some (r, σr)) (H : Heap) (locs : List Loc) (hH : HX G layX B σ H) (hS : va_S (inW layX B) s.heap H locs) (ls : Array Slot) (hl : lv_has ls 4 [(0, .ref (B + 227)), (1, .ref (B + k0)), (2, .ref (B + k1))]) : WM p l e 5 s m args below meth c H locs G layX B (some (.int r)) σr (F0 m 0 ls []) := by
  unfold f_X4_comesByWitness at hf
  have hx := X.1.1
  have hb := X.1.2.1
  refine lv_aload_n hx hb dX4_comesByWitness_0 rfl (lv_at hl 0 rfl) ?_
  refine g_get (v := .ref (B + 232)) kX4 (by decide) fl_RX4_23 X.1 hH kx_227 rfl dX4_comesByWitness_1 ?_
  refine lv_aload_n hx hb dX4_comesByWitness_4 rfl (lv_at hl 1 rfl) ?_
  obtain ⟨σ101, eσ101, hf⟩ := bnd1 hf
  refine g_cVv (As := [.ref (B + k0)]) X.1 hH hS (c_X3_becomeContrary l G B 232 kx_232 k0 h0 σ σ101 eσ101) kw_RX4_57 kX3 kx_232 (by decide) rfl hl (Nat.le_of_ble_eq_true rfl) rfl dX4_comesByWitness_5 (fun H locs hH hS => ?_)
  refine lv_iconst (v := 0) hx hb dX4_comesByWitness_8 (by decide) ?_
  refine lv_istore_n (lv' := [(3, .int (0 : Int32)), (0, .ref (B + 227)), (1, .ref (B + k0)), (2, .ref (B + k1))]) hx hb dX4_comesByWitness_9 rfl hl (by decide) rfl (fun ls hl => ?_)
  exact wl_X4_comesByWitness_10 X k0 k1 n1 h0 h1 400 (0 : Int32) σ101 _ _ _ hf hH hS (lv_sub hl [1, 2, 3, 0] rfl)
theorem c_X4_comesByWitness (l : Launch) (G : Gd) (B : Nat) (k0 : Nat) (h0 : (k0 < layX.2.2 ∧ layX.1 k0 = .inl 3)) (k1 n1 : Nat) (h1 : (k1 < layX.2.2 ∧ layX.1 k1 = .inr (.int, n1))) (σ σr : Sto) (r : Int32) (hf : f_X4_comesByWitness k0 k1 n1 σ = some (r, σr)) : Ct l G layX B yX4_comesByWitness cX4_comesByWitness 4 (some .boolean) 5 [.ref (B + 227), .ref (B + k0), .ref (B + k1)] (some (.int r)) σ σr :=
  Ct.ofW (by decide) (Nat.le_of_ble_eq_true rfl) (fun _ _ _ _ _ _ _ X hH hS ls hl => w_X4_comesByWitness X k0 k1 n1 h0 h1 σ hf _ _ hH hS ls (show lv_has ls 4 [(0, .ref (B + 227)), (1, .ref (B + k0)), (2, .ref (B + k1))] from hl))
