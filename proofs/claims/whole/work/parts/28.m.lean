-- SlackProofsModel.isFull()Z  (D 0)
def b_X8_isFull_19 (s0 : Int32) (σ : Sto) : Option (Int32 × Sto) :=
  if ¬ (s0 = 0 ∨ s0 = 1) then none else some (s0, σ)
set_option maxHeartbeats 4000000 in
set_option maxRecDepth 100000 in
theorem w_X8_isFull_19 {p : Program} {l : Launch} {e : Env} {s : State} {m : MethodId} {args : Array Value} {below : List Frame} {meth : Method} {c : Code} {G : Gd} {B : Nat} (X : Cm p s m args meth c cX8_isFull 1 RX8 G (some .boolean)) {r : Int32} {σr : Sto} (s0 : Int32) (σ : Sto) (hf : b_X8_isFull_19 s0 σ = some (r, σr)) (H : Heap) (locs : List Loc) (hH : HX G layM B σ H) (hS : va_S (inW layM B) s.heap H locs) (ls : Array Slot) (hl : lv_has ls 1 []) : WM p l e 0 s m args below meth c H locs G layM B (some (.int r)) σr (F0 m 19 ls [.int s0]) := by
  unfold b_X8_isFull_19 at hf
  have hx := X.1.1
  have hb := X.1.2.1
  obtain ⟨q202, hf⟩ := chk hf
  obtain ⟨rfl, rfl⟩ := rt2 hf
  exact g_zret X hH hS (Decidable.not_not.mp q202) dX8_isFull_19
def f_X8_isFull (σ : Sto) : Option (Int32 × Sto) :=
  if (σ.2 6 9) = (30 : Int64) then (b_X8_isFull_19 (1 : Int32) σ) else (b_X8_isFull_19 (0 : Int32) σ)
set_option maxHeartbeats 4000000 in
set_option maxRecDepth 100000 in
theorem w_X8_isFull {p : Program} {l : Launch} {e : Env} {s : State} {m : MethodId} {args : Array Value} {below : List Frame} {meth : Method} {c : Code} {G : Gd} {B : Nat} (X : Cm p s m args meth c cX8_isFull 1 RX8 G (some .boolean)) {r : Int32} {σr : Sto} (σ : Sto) (hf : f_X8_isFull σ = some (r, σr)) (H : Heap) (locs : List Loc) (hH : HX G layM B σ H) (hS : va_S (inW layM B) s.heap H locs) (ls : Array Slot) (hl : lv_has ls 1 [(0, .ref (B + 0))]) : WM p l e 0 s m args below meth c H locs G layM B (some (.int r)) σr (F0 m 0 ls []) := by
  unfold f_X8_isFull at hf
  have hx := X.1.1
  have hb := X.1.2.1
  refine lv_aload_n hx hb dX8_isFull_0 rfl (lv_at hl 0 rfl) ?_
  refine g_get (v := .ref (B + 6)) kX8 (by decide) fl_RX8_25 X.1 hH km_0 rfl dX8_isFull_1 ?_
  refine lv_bipush (v := 9) hx hb dX8_isFull_4 (by decide) ?_
  refine g_lald (j := 9) X.1 hH km_6 (by decide) rfl dX8_isFull_6 ?_
  refine lv_ldc2 (v := 30) hx hb X.1.2.2.2.1 (X.1.2.2.2.2.1 _ kc_RX8_166) dX8_isFull_7 ?_
  refine g_lne (tgt := 18) X.1 dX8_isFull_10 dX8_isFull_11 (by decide) (fun q101 => ?_) (fun q101 => ?_)
  · replace hf := brF hf q101
    refine lv_iconst (v := 0) hx hb dX8_isFull_18 (by decide) ?_
    exact w_X8_isFull_19 X (0 : Int32) σ hf _ _ hH hS _ (lv_sub hl [] rfl)
  · replace hf := brT hf q101
    refine lv_iconst (v := 1) hx hb dX8_isFull_14 (by decide) ?_
    refine lv_goto (tgt := 19) hx hb dX8_isFull_15 (by decide) ?_
    exact w_X8_isFull_19 X (1 : Int32) σ hf _ _ hH hS _ (lv_sub hl [] rfl)
theorem c_X8_isFull (l : Launch) (G : Gd) (B : Nat) (σ σr : Sto) (r : Int32) (hf : f_X8_isFull σ = some (r, σr)) : Ct l G layM B yX8_isFull cX8_isFull 1 (some .boolean) 0 [.ref (B + 0)] (some (.int r)) σ σr :=
  Ct.ofW (by decide) (Nat.le_of_ble_eq_true rfl) (fun _ _ _ _ _ _ _ X hH hS ls hl => w_X8_isFull X σ hf _ _ hH hS ls (show lv_has ls 1 [(0, .ref (B + 0))] from hl))
-- SlackProofsModel.copies([JI[JII)V  (D 0)
def b_X8_copies_3 (c3 : Int32 → Int32 → Int32 → Int32 → Sto → Option (Sto)) (k0 n0 : Nat) (k1 n1 : Nat) (v1 : Int32) (v3 : Int32) (v4 : Int32) (v5 : Int32) (σ : Sto) : Option (Sto) :=
  if v4 ≤ v5 then (some σ) else (if ((v1 + v5) < 0 ∨ n0 ≤ (v1 + v5).toNatClampNeg) then none else if ((v3 + v5) < 0 ∨ n1 ≤ (v3 + v5).toNatClampNeg) then none else nmS (pL σ k1 (v3 + v5).toNatClampNeg (σ.2 k0 (v1 + v5).toNatClampNeg)) fun σ204 => c3 v1 v3 v4 (v5 + (1 : Int32)) σ204)
set_option maxHeartbeats 4000000 in
set_option maxRecDepth 100000 in
theorem w_X8_copies_3 {p : Program} {l : Launch} {e : Env} {s : State} {m : MethodId} {args : Array Value} {below : List Frame} {meth : Method} {c : Code} {G : Gd} {B : Nat} (X : Cm p s m args meth c cX8_copies 6 RX8 G none) (c3 : Int32 → Int32 → Int32 → Int32 → Sto → Option (Sto)) (k0 n0 : Nat) (k1 n1 : Nat) (h0 : (k0 < layM.2.2 ∧ layM.1 k0 = .inr (.long, n0))) (h1 : (k1 < layM.2.2 ∧ layM.1 k1 = .inr (.long, n1))) {σr : Sto} (ih3 : ∀ (v1 : Int32) (v3 : Int32) (v4 : Int32) (v5 : Int32) (σ : Sto) (H : Heap) (locs : List Loc) (ls : Array Slot), c3 v1 v3 v4 v5 σ = some σr → HX G layM B σ H → va_S (inW layM B) s.heap H locs → lv_has ls 6 [(0, .ref (B + k0)), (1, .int v1), (2, .ref (B + k1)), (3, .int v3), (4, .int v4), (5, .int v5)] → WM p l e 0 s m args below meth c H locs G layM B none σr (F0 m 3 ls [])) (v1 : Int32) (v3 : Int32) (v4 : Int32) (v5 : Int32) (σ : Sto) (hf : b_X8_copies_3 c3 k0 n0 k1 n1 v1 v3 v4 v5 σ = some σr) (H : Heap) (locs : List Loc) (hH : HX G layM B σ H) (hS : va_S (inW layM B) s.heap H locs) (ls : Array Slot) (hl : lv_has ls 6 [(0, .ref (B + k0)), (1, .int v1), (2, .ref (B + k1)), (3, .int v3), (4, .int v4), (5, .int v5)]) : WM p l e 0 s m args below meth c H locs G layM B none σr (F0 m 3 ls []) := by
  unfold b_X8_copies_3 at hf
  have hx := X.1.1
  have hb := X.1.2.1
  refine lv_iload hx hb dX8_copies_3 (lv_at hl 5 rfl) ?_
  refine lv_iload hx hb dX8_copies_5 (lv_at hl 4 rfl) ?_
  refine lv_icmp_ge (tgt := 28) hx hb dX8_copies_7 (by decide) (fun q201 => ?_) (fun q201 => ?_)
  · replace hf := brT hf q201
    obtain rfl := rt1 hf
    exact g_vret X hH hS dX8_copies_28
  · replace hf := brF hf q201
    refine lv_aload_n hx hb dX8_copies_10 rfl (lv_at hl 2 rfl) ?_
    refine lv_iload_n hx hb dX8_copies_11 rfl (lv_at hl 3 rfl) ?_
    refine lv_iload hx hb dX8_copies_12 (lv_at hl 5 rfl) ?_
    refine lv_iadd hx hb dX8_copies_14 ?_
    refine lv_aload_n hx hb dX8_copies_15 rfl (lv_at hl 0 rfl) ?_
    refine lv_iload_n hx hb dX8_copies_16 rfl (lv_at hl 1 rfl) ?_
    refine lv_iload hx hb dX8_copies_17 (lv_at hl 5 rfl) ?_
    refine lv_iadd hx hb dX8_copies_19 ?_
    obtain ⟨q202, hf⟩ := chk hf
    refine g_lald (j := (v1 + v5).toNatClampNeg) X.1 hH h0 q202 rfl dX8_copies_20 ?_
    obtain ⟨q203, hf⟩ := chk hf
    refine g_last (j := (v3 + v5).toNatClampNeg) X.1 hH hS h1 q203 rfl dX8_copies_21 (fun H locs hH hS => ?_)
    obtain ⟨σ204, eσ204, hH⟩ := nmX hH
    replace hf := nmU hf eσ204
    refine lv_iinc (v := (v5 + (1 : Int32))) (lv' := [(5, .int (v5 + (1 : Int32))), (0, .ref (B + k0)), (1, .int v1), (2, .ref (B + k1)), (3, .int v3), (4, .int v4)]) hx hb dX8_copies_22 hl (k := 5) rfl rfl (by decide) rfl (fun ls hl => ?_)
    refine lv_goto (tgt := 3) hx hb dX8_copies_25 (by decide) ?_
    exact ih3 v1 v3 v4 (v5 + (1 : Int32)) σ204 _ _ _ hf hH hS (lv_sub hl [1, 2, 3, 4, 5, 0] rfl)
def l_X8_copies_3 (k0 n0 : Nat) (k1 n1 : Nat) : Nat → Int32 → Int32 → Int32 → Int32 → Sto → Option (Sto)
  | 0, _, _, _, _, _ => none
  | n + 1, v1, v3, v4, v5, σ => b_X8_copies_3 (l_X8_copies_3 k0 n0 k1 n1 n) k0 n0 k1 n1 v1 v3 v4 v5 σ
set_option maxHeartbeats 4000000 in
set_option maxRecDepth 100000 in
theorem wl_X8_copies_3 {p : Program} {l : Launch} {e : Env} {s : State} {m : MethodId} {args : Array Value} {below : List Frame} {meth : Method} {c : Code} {G : Gd} {B : Nat} (X : Cm p s m args meth c cX8_copies 6 RX8 G none) (k0 n0 : Nat) (k1 n1 : Nat) (h0 : (k0 < layM.2.2 ∧ layM.1 k0 = .inr (.long, n0))) (h1 : (k1 < layM.2.2 ∧ layM.1 k1 = .inr (.long, n1))) {σr : Sto} (n : Nat) : ∀ (v1 : Int32) (v3 : Int32) (v4 : Int32) (v5 : Int32) (σ : Sto) (H : Heap) (locs : List Loc) (ls : Array Slot), l_X8_copies_3 k0 n0 k1 n1 n v1 v3 v4 v5 σ = some σr → HX G layM B σ H → va_S (inW layM B) s.heap H locs → lv_has ls 6 [(0, .ref (B + k0)), (1, .int v1), (2, .ref (B + k1)), (3, .int v3), (4, .int v4), (5, .int v5)] → WM p l e 0 s m args below meth c H locs G layM B none σr (F0 m 3 ls []) := by
  induction n with
  | zero =>
    intro _ _ _ _ σ H locs ls hf
    cases hf
  | succ n ih =>
    intro v1 v3 v4 v5 σ H locs ls hf hH hS hl
    exact w_X8_copies_3 X (l_X8_copies_3 k0 n0 k1 n1 n) k0 n0 k1 n1 h0 h1 ih v1 v3 v4 v5 σ hf H locs hH hS ls hl
def fr_X8_copies (k0 n0 : Nat) (k1 n1 : Nat) (x1 : Int32) (x3 : Int32) (x4 : Int32) (σ : Sto) : Option (Sto) :=
  l_X8_copies_3 k0 n0 k1 n1 400 x1 x3 x4 (0 : Int32) σ
set_option maxHeartbeats 4000000 in
set_option maxRecDepth 100000 in
theorem w_X8_copies {p : Program} {l : Launch} {e : Env} {s : State} {m : MethodId} {args : Array Value} {below : List Frame} {meth : Method} {c : Code} {G : Gd} {B : Nat} (X : Cm p s m args meth c cX8_copies 6 RX8 G none) (k0 n0 : Nat) (k1 n1 : Nat) (h0 : (k0 < layM.2.2 ∧ layM.1 k0 = .inr (.long, n0))) (h1 : (k1 < layM.2.2 ∧ layM.1 k1 = .inr (.long, n1))) {σr : Sto} (x1 : Int32) (x3 : Int32) (x4 : Int32) (σ : Sto) (hf : fr_X8_copies k0 n0 k1 n1 x1 x3 x4 σ = some σr) (H : Heap) (locs : List Loc) (hH : HX G layM B σ H) (hS : va_S (inW layM B) s.heap H locs) (ls : Array Slot) (hl : lv_has ls 6 [(0, .ref (B + k0)), (1, .int x1), (2, .ref (B + k1)), (3, .int x3), (4, .int x4)]) : WM p l e 0 s m args below meth c H locs G layM B none σr (F0 m 0 ls []) := by
  unfold fr_X8_copies at hf
  have hx := X.1.1
  have hb := X.1.2.1
  refine lv_iconst (v := 0) hx hb dX8_copies_0 (by decide) ?_
  refine lv_istore (lv' := [(5, .int (0 : Int32)), (0, .ref (B + k0)), (1, .int x1), (2, .ref (B + k1)), (3, .int x3), (4, .int x4)]) hx hb dX8_copies_1 hl (by decide) rfl (fun ls hl => ?_)
  exact wl_X8_copies_3 X k0 n0 k1 n1 h0 h1 400 x1 x3 x4 (0 : Int32) σ _ _ _ hf hH hS (lv_sub hl [1, 2, 3, 4, 5, 0] rfl)
def f_X8_copies (k0 n0 : Nat) (x1 : Int32) (k1 n1 : Nat) (x3 : Int32) (x4 : Int32) (σ : Sto) : Option (Sto) := fr_X8_copies k0 n0 k1 n1 x1 x3 x4 σ
theorem c_X8_copies (l : Launch) (G : Gd) (B : Nat) (k0 n0 : Nat) (h0 : (k0 < layM.2.2 ∧ layM.1 k0 = .inr (.long, n0))) (x1 : Int32) (k1 n1 : Nat) (h1 : (k1 < layM.2.2 ∧ layM.1 k1 = .inr (.long, n1))) (x3 : Int32) (x4 : Int32) (σ σr : Sto) (hf : f_X8_copies k0 n0 x1 k1 n1 x3 x4 σ = some σr) : Ct l G layM B yX8_copies cX8_copies 6 none 0 [.ref (B + k0), .int x1, .ref (B + k1), .int x3, .int x4] none σ σr :=
  Ct.ofW (by decide) (Nat.le_of_ble_eq_true rfl) (fun _ _ _ _ _ _ _ X hH hS ls hl => w_X8_copies X k0 n0 k1 n1 h0 h1 x1 x3 x4 σ hf _ _ hH hS ls (show lv_has ls 6 [(0, .ref (B + k0)), (1, .int x1), (2, .ref (B + k1)), (3, .int x3), (4, .int x4)] from hl))
-- SlackProofsModel.notes()V  (D 1)
def b_X8_notes_50 (σ : Sto) : Option (Sto) :=
  bd1 (f_X8_copies 6 312 (0 : Int32) 8 3744 ((312 : Int32) * (σ.1 0 16)) (312 : Int32) σ) fun σ202 => nmS (pI σ202 0 16 ((σ202.1 0 16) + (1 : Int32))) fun σ204 => some σ204
set_option maxHeartbeats 4000000 in
set_option maxRecDepth 100000 in
theorem w_X8_notes_50 {p : Program} {l : Launch} {e : Env} {s : State} {m : MethodId} {args : Array Value} {below : List Frame} {meth : Method} {c : Code} {G : Gd} {B : Nat} (X : Cm p s m args meth c cX8_notes 2 RX8 G none) {σr : Sto} (σ : Sto) (hf : b_X8_notes_50 σ = some σr) (H : Heap) (locs : List Loc) (hH : HX G layM B σ H) (hS : va_S (inW layM B) s.heap H locs) (ls : Array Slot) (hl : lv_has ls 2 [(0, .ref (B + 0))]) : WM p l e 1 s m args below meth c H locs G layM B none σr (F0 m 50 ls []) := by
  unfold b_X8_notes_50 at hf
  have hx := X.1.1
  have hb := X.1.2.1
  refine lv_aload_n hx hb dX8_notes_50 rfl (lv_at hl 0 rfl) ?_
  refine g_get (v := .ref (B + 6)) kX8 (by decide) fl_RX8_25 X.1 hH km_0 rfl dX8_notes_51 ?_
  refine lv_iconst (v := 0) hx hb dX8_notes_54 (by decide) ?_
  refine lv_aload_n hx hb dX8_notes_55 rfl (lv_at hl 0 rfl) ?_
  refine g_get (v := .ref (B + 8)) kX8 (by decide) fl_RX8_32 X.1 hH km_0 rfl dX8_notes_56 ?_
  refine lv_sipush (v := 312) hx hb dX8_notes_59 (by decide) ?_
  refine lv_aload_n hx hb dX8_notes_62 rfl (lv_at hl 0 rfl) ?_
  refine g_get (v := .int (σ.1 0 16)) kX8 (by decide) fl_RX8_163 X.1 hH km_0 rfl dX8_notes_63 ?_
  refine lv_imul hx hb dX8_notes_66 ?_
  refine lv_sipush (v := 312) hx hb dX8_notes_67 (by decide) ?_
  obtain ⟨σ202, eσ202, hf⟩ := bnd1 hf
  refine g_cSv (As := [.ref (B + 6), .int (0 : Int32), .ref (B + 8), .int ((312 : Int32) * (σ.1 0 16)), .int (312 : Int32)]) X.1 hH hS (c_X8_copies l G B 6 312 km_6 (0 : Int32) 8 3744 km_8 ((312 : Int32) * (σ.1 0 16)) (312 : Int32) σ σ202 eσ202) kw_RX8_154 (by decide) rfl hl (Nat.le_of_ble_eq_true rfl) rfl dX8_notes_70 (fun H locs hH hS => ?_)
  refine lv_aload_n hx hb dX8_notes_73 rfl (lv_at hl 0 rfl) ?_
  refine lv_dup hx hb dX8_notes_74 rfl ?_
  refine g_get (v := .int (σ202.1 0 16)) kX8 (by decide) fl_RX8_163 X.1 hH km_0 rfl dX8_notes_75 ?_
  refine lv_iconst (v := 1) hx hb dX8_notes_78 (by decide) ?_
  refine lv_iadd hx hb dX8_notes_79 ?_
  refine g_putI kX8 (by decide) fl_RX8_163 rfl rfl X.1 hH hS km_0 dX8_notes_80 (fun H locs hH hS => ?_)
  obtain ⟨σ204, eσ204, hH⟩ := nmX hH
  replace hf := nmU hf eσ204
  obtain rfl := rt1 hf
  exact g_vret X hH hS dX8_notes_83
def b_X8_notes_11 (c11 : Int32 → Sto → Option (Sto)) (v1 : Int32) (σ : Sto) : Option (Sto) :=
  if (3432 : Int32) ≤ v1 then (nmS (pI σ 0 16 ((σ.1 0 16) - (1 : Int32))) fun σ306 => b_X8_notes_50 σ306) else (if ((v1 + (312 : Int32)) < 0 ∨ 3744 ≤ (v1 + (312 : Int32)).toNatClampNeg) then none else if (v1 < 0 ∨ 3744 ≤ v1.toNatClampNeg) then none else nmS (pL σ 8 v1.toNatClampNeg (σ.2 8 (v1 + (312 : Int32)).toNatClampNeg)) fun σ309 => c11 (v1 + (1 : Int32)) σ309)
set_option maxHeartbeats 4000000 in
set_option maxRecDepth 100000 in
theorem w_X8_notes_11 {p : Program} {l : Launch} {e : Env} {s : State} {m : MethodId} {args : Array Value} {below : List Frame} {meth : Method} {c : Code} {G : Gd} {B : Nat} (X : Cm p s m args meth c cX8_notes 2 RX8 G none) (c11 : Int32 → Sto → Option (Sto)) {σr : Sto} (ih11 : ∀ (v1 : Int32) (σ : Sto) (H : Heap) (locs : List Loc) (ls : Array Slot), c11 v1 σ = some σr → HX G layM B σ H → va_S (inW layM B) s.heap H locs → lv_has ls 2 [(0, .ref (B + 0)), (1, .int v1)] → WM p l e 1 s m args below meth c H locs G layM B none σr (F0 m 11 ls [])) (v1 : Int32) (σ : Sto) (hf : b_X8_notes_11 c11 v1 σ = some σr) (H : Heap) (locs : List Loc) (hH : HX G layM B σ H) (hS : va_S (inW layM B) s.heap H locs) (ls : Array Slot) (hl : lv_has ls 2 [(0, .ref (B + 0)), (1, .int v1)]) : WM p l e 1 s m args below meth c H locs G layM B none σr (F0 m 11 ls []) := by
  unfold b_X8_notes_11 at hf
  have hx := X.1.1
  have hb := X.1.2.1
  refine lv_iload_n hx hb dX8_notes_11 rfl (lv_at hl 1 rfl) ?_
  refine lv_sipush (v := 3432) hx hb dX8_notes_12 (by decide) ?_
  refine lv_icmp_ge (tgt := 40) hx hb dX8_notes_15 (by decide) (fun q305 => ?_) (fun q305 => ?_)
  · replace hf := brT hf q305
    refine lv_aload_n hx hb dX8_notes_40 rfl (lv_at hl 0 rfl) ?_
    refine lv_dup hx hb dX8_notes_41 rfl ?_
    refine g_get (v := .int (σ.1 0 16)) kX8 (by decide) fl_RX8_163 X.1 hH km_0 rfl dX8_notes_42 ?_
    refine lv_iconst (v := 1) hx hb dX8_notes_45 (by decide) ?_
    refine lv_isub hx hb dX8_notes_46 ?_
    refine g_putI kX8 (by decide) fl_RX8_163 rfl rfl X.1 hH hS km_0 dX8_notes_47 (fun H locs hH hS => ?_)
    obtain ⟨σ306, eσ306, hH⟩ := nmX hH
    replace hf := nmU hf eσ306
    exact w_X8_notes_50 X σ306 hf _ _ hH hS _ (lv_sub hl [0] rfl)
  · replace hf := brF hf q305
    refine lv_aload_n hx hb dX8_notes_18 rfl (lv_at hl 0 rfl) ?_
    refine g_get (v := .ref (B + 8)) kX8 (by decide) fl_RX8_32 X.1 hH km_0 rfl dX8_notes_19 ?_
    refine lv_iload_n hx hb dX8_notes_22 rfl (lv_at hl 1 rfl) ?_
    refine lv_aload_n hx hb dX8_notes_23 rfl (lv_at hl 0 rfl) ?_
    refine g_get (v := .ref (B + 8)) kX8 (by decide) fl_RX8_32 X.1 hH km_0 rfl dX8_notes_24 ?_
    refine lv_iload_n hx hb dX8_notes_27 rfl (lv_at hl 1 rfl) ?_
    refine lv_sipush (v := 312) hx hb dX8_notes_28 (by decide) ?_
    refine lv_iadd hx hb dX8_notes_31 ?_
    obtain ⟨q307, hf⟩ := chk hf
    refine g_lald (j := (v1 + (312 : Int32)).toNatClampNeg) X.1 hH km_8 q307 rfl dX8_notes_32 ?_
    obtain ⟨q308, hf⟩ := chk hf
    refine g_last (j := v1.toNatClampNeg) X.1 hH hS km_8 q308 rfl dX8_notes_33 (fun H locs hH hS => ?_)
    obtain ⟨σ309, eσ309, hH⟩ := nmX hH
    replace hf := nmU hf eσ309
    refine lv_iinc (v := (v1 + (1 : Int32))) (lv' := [(1, .int (v1 + (1 : Int32))), (0, .ref (B + 0))]) hx hb dX8_notes_34 hl (k := 1) rfl rfl (by decide) rfl (fun ls hl => ?_)
    refine lv_goto (tgt := 11) hx hb dX8_notes_37 (by decide) ?_
    exact ih11 (v1 + (1 : Int32)) σ309 _ _ _ hf hH hS (lv_sub hl [1, 0] rfl)
def l_X8_notes_11 : Nat → Int32 → Sto → Option (Sto)
  | 0, _, _ => none
  | n + 1, v1, σ => b_X8_notes_11 (l_X8_notes_11 n) v1 σ
set_option maxHeartbeats 4000000 in
set_option maxRecDepth 100000 in
theorem wl_X8_notes_11 {p : Program} {l : Launch} {e : Env} {s : State} {m : MethodId} {args : Array Value} {below : List Frame} {meth : Method} {c : Code} {G : Gd} {B : Nat} (X : Cm p s m args meth c cX8_notes 2 RX8 G none) {σr : Sto} (n : Nat) : ∀ (v1 : Int32) (σ : Sto) (H : Heap) (locs : List Loc) (ls : Array Slot), l_X8_notes_11 n v1 σ = some σr → HX G layM B σ H → va_S (inW layM B) s.heap H locs → lv_has ls 2 [(0, .ref (B + 0)), (1, .int v1)] → WM p l e 1 s m args below meth c H locs G layM B none σr (F0 m 11 ls []) := by
  induction n with
  | zero =>
    intro _ σ H locs ls hf
    cases hf
  | succ n ih =>
    intro v1 σ H locs ls hf hH hS hl
    exact w_X8_notes_11 X (l_X8_notes_11 n) ih v1 σ hf H locs hH hS ls hl
def f_X8_notes (σ : Sto) : Option (Sto) :=
  if (σ.1 0 16) = (12 : Int32) then (l_X8_notes_11 4000 (0 : Int32) σ) else (b_X8_notes_50 σ)
set_option maxHeartbeats 4000000 in
set_option maxRecDepth 100000 in
theorem w_X8_notes {p : Program} {l : Launch} {e : Env} {s : State} {m : MethodId} {args : Array Value} {below : List Frame} {meth : Method} {c : Code} {G : Gd} {B : Nat} (X : Cm p s m args meth c cX8_notes 2 RX8 G none) {σr : Sto} (σ : Sto) (hf : f_X8_notes σ = some σr) (H : Heap) (locs : List Loc) (hH : HX G layM B σ H) (hS : va_S (inW layM B) s.heap H locs) (ls : Array Slot) (hl : lv_has ls 2 [(0, .ref (B + 0))]) : WM p l e 1 s m args below meth c H locs G layM B none σr (F0 m 0 ls []) := by
  unfold f_X8_notes at hf
  have hx := X.1.1
  have hb := X.1.2.1
  refine lv_aload_n hx hb dX8_notes_0 rfl (lv_at hl 0 rfl) ?_
  refine g_get (v := .int (σ.1 0 16)) kX8 (by decide) fl_RX8_163 X.1 hH km_0 rfl dX8_notes_1 ?_
  refine lv_bipush (v := 12) hx hb dX8_notes_4 (by decide) ?_
  refine lv_icmp_ne (tgt := 50) hx hb dX8_notes_6 (by decide) (fun q101 => ?_) (fun q101 => ?_)
  · replace hf := brF hf q101
    exact w_X8_notes_50 X σ hf _ _ hH hS _ (lv_sub hl [0] rfl)
  · replace hf := brT hf q101
    refine lv_iconst (v := 0) hx hb dX8_notes_9 (by decide) ?_
    refine lv_istore_n (lv' := [(1, .int (0 : Int32)), (0, .ref (B + 0))]) hx hb dX8_notes_10 rfl hl (by decide) rfl (fun ls hl => ?_)
    exact wl_X8_notes_11 X 4000 (0 : Int32) σ _ _ _ hf hH hS (lv_sub hl [1, 0] rfl)
theorem c_X8_notes (l : Launch) (G : Gd) (B : Nat) (σ σr : Sto) (hf : f_X8_notes σ = some σr) : Ct l G layM B yX8_notes cX8_notes 2 none 1 [.ref (B + 0)] none σ σr :=
  Ct.ofW (by decide) (Nat.le_of_ble_eq_true rfl) (fun _ _ _ _ _ _ _ X hH hS ls hl => w_X8_notes X σ hf _ _ hH hS ls (show lv_has ls 2 [(0, .ref (B + 0))] from hl))
-- SlackProofsModel.comes(I)I  (D 2)
def f_X8_comes (x1 : Int32) (σ : Sto) : Option (Int32 × Sto) :=
  bd1 (f_X8_notes σ) fun σ101 => nmS ((σ101.2 6 9).toInt32) fun y103 => nmS (pL σ101 11 0 x1.toInt64) fun σ104 => bd1 (f_X8_copies 11 10 (0 : Int32) 6 312 ((12 : Int32) + ((10 : Int32) * y103)) (10 : Int32) σ104) fun σ105 => nmS (pL σ105 6 10 ((σ105.2 6 10) ||| ((1 : Int64) <<< (y103.toInt64 &&& 63)))) fun σ107 => nmS (pL σ107 6 9 ((σ107.2 6 9) + (1 : Int64))) fun σ108 => some (y103, σ108)
set_option maxHeartbeats 4000000 in
set_option maxRecDepth 100000 in
theorem w_X8_comes {p : Program} {l : Launch} {e : Env} {s : State} {m : MethodId} {args : Array Value} {below : List Frame} {meth : Method} {c : Code} {G : Gd} {B : Nat} (X : Cm p s m args meth c cX8_comes 3 RX8 G (some .int)) {r : Int32} {σr : Sto} (x1 : Int32) (σ : Sto) (hf : f_X8_comes x1 σ = some (r, σr)) (H : Heap) (locs : List Loc) (hH : HX G layM B σ H) (hS : va_S (inW layM B) s.heap H locs) (ls : Array Slot) (hl : lv_has ls 3 [(0, .ref (B + 0)), (1, .int x1)]) : WM p l e 2 s m args below meth c H locs G layM B (some (.int r)) σr (F0 m 0 ls []) := by
  unfold f_X8_comes at hf
  have hx := X.1.1
  have hb := X.1.2.1
  refine lv_aload_n hx hb dX8_comes_0 rfl (lv_at hl 0 rfl) ?_
  obtain ⟨σ101, eσ101, hf⟩ := bnd1 hf
  refine g_cVv (As := []) X.1 hH hS (c_X8_notes l G B σ σ101 eσ101) kw_RX8_168 kX8 km_0 (by decide) rfl hl (Nat.le_of_ble_eq_true rfl) rfl dX8_comes_1 (fun H locs hH hS => ?_)
  refine lv_aload_n hx hb dX8_comes_4 rfl (lv_at hl 0 rfl) ?_
  refine g_get (v := .ref (B + 6)) kX8 (by decide) fl_RX8_25 X.1 hH km_0 rfl dX8_comes_5 ?_
  refine lv_bipush (v := 9) hx hb dX8_comes_8 (by decide) ?_
  refine g_lald (j := 9) X.1 hH km_6 (by decide) rfl dX8_comes_10 ?_
  refine lv_l2i hx hb dX8_comes_11 rfl ?_
  refine lv_topi (fun y103 ey103 => ?_)
  replace hf := nmU hf ey103
  refine lv_istore_n (lv' := [(2, .int y103), (0, .ref (B + 0)), (1, .int x1)]) hx hb dX8_comes_12 rfl hl (by decide) rfl (fun ls hl => ?_)
  refine lv_aload_n hx hb dX8_comes_13 rfl (lv_at hl 1 rfl) ?_
  refine g_get (v := .ref (B + 11)) kX8 (by decide) fl_RX8_42 X.1 hH km_0 rfl dX8_comes_14 ?_
  refine lv_iconst (v := 0) hx hb dX8_comes_17 (by decide) ?_
  refine lv_iload_n hx hb dX8_comes_18 rfl (lv_at hl 2 rfl) ?_
  refine lv_i2l hx hb dX8_comes_19 rfl ?_
  refine g_last (j := 0) X.1 hH hS km_11 (by decide) rfl dX8_comes_20 (fun H locs hH hS => ?_)
  obtain ⟨σ104, eσ104, hH⟩ := nmX hH
  replace hf := nmU hf eσ104
  refine lv_aload_n hx hb dX8_comes_21 rfl (lv_at hl 1 rfl) ?_
  refine g_get (v := .ref (B + 11)) kX8 (by decide) fl_RX8_42 X.1 hH km_0 rfl dX8_comes_22 ?_
  refine lv_iconst (v := 0) hx hb dX8_comes_25 (by decide) ?_
  refine lv_aload_n hx hb dX8_comes_26 rfl (lv_at hl 1 rfl) ?_
  refine g_get (v := .ref (B + 6)) kX8 (by decide) fl_RX8_25 X.1 hH km_0 rfl dX8_comes_27 ?_
  refine lv_bipush (v := 12) hx hb dX8_comes_30 (by decide) ?_
  refine lv_bipush (v := 10) hx hb dX8_comes_32 (by decide) ?_
  refine lv_iload_n hx hb dX8_comes_34 rfl (lv_at hl 0 rfl) ?_
  refine lv_imul hx hb dX8_comes_35 ?_
  refine lv_iadd hx hb dX8_comes_36 ?_
  refine lv_bipush (v := 10) hx hb dX8_comes_37 (by decide) ?_
  obtain ⟨σ105, eσ105, hf⟩ := bnd1 hf
  refine g_cSv (As := [.ref (B + 11), .int (0 : Int32), .ref (B + 6), .int ((12 : Int32) + ((10 : Int32) * y103)), .int (10 : Int32)]) X.1 hH hS (c_X8_copies l G B 11 10 km_11 (0 : Int32) 6 312 km_6 ((12 : Int32) + ((10 : Int32) * y103)) (10 : Int32) σ104 σ105 eσ105) kw_RX8_154 (by decide) rfl hl (Nat.le_of_ble_eq_true rfl) rfl dX8_comes_39 (fun H locs hH hS => ?_)
  refine lv_aload_n hx hb dX8_comes_42 rfl (lv_at hl 1 rfl) ?_
  refine g_get (v := .ref (B + 6)) kX8 (by decide) fl_RX8_25 X.1 hH km_0 rfl dX8_comes_43 ?_
  refine lv_bipush (v := 10) hx hb dX8_comes_46 (by decide) ?_
  refine lv_dup2_11 hx hb dX8_comes_48 rfl rfl ?_
  refine g_lald (j := 10) X.1 hH km_6 (by decide) rfl dX8_comes_49 ?_
  refine lv_lconst (v := 1) hx hb dX8_comes_50 (by decide) ?_
  refine lv_iload_n hx hb dX8_comes_51 rfl (lv_at hl 0 rfl) ?_
  refine lv_lshl hx hb dX8_comes_52 rfl ?_
  refine lv_lor hx hb dX8_comes_53 ?_
  refine g_last (j := 10) X.1 hH hS km_6 (by decide) rfl dX8_comes_54 (fun H locs hH hS => ?_)
  obtain ⟨σ107, eσ107, hH⟩ := nmX hH
  replace hf := nmU hf eσ107
  refine lv_aload_n hx hb dX8_comes_55 rfl (lv_at hl 1 rfl) ?_
  refine g_get (v := .ref (B + 6)) kX8 (by decide) fl_RX8_25 X.1 hH km_0 rfl dX8_comes_56 ?_
  refine lv_bipush (v := 9) hx hb dX8_comes_59 (by decide) ?_
  refine lv_dup2_11 hx hb dX8_comes_61 rfl rfl ?_
  refine g_lald (j := 9) X.1 hH km_6 (by decide) rfl dX8_comes_62 ?_
  refine lv_lconst (v := 1) hx hb dX8_comes_63 (by decide) ?_
  refine lv_ladd hx hb dX8_comes_64 ?_
  refine g_last (j := 9) X.1 hH hS km_6 (by decide) rfl dX8_comes_65 (fun H locs hH hS => ?_)
  obtain ⟨σ108, eσ108, hH⟩ := nmX hH
  replace hf := nmU hf eσ108
  refine lv_iload_n hx hb dX8_comes_66 rfl (lv_at hl 0 rfl) ?_
  obtain ⟨rfl, rfl⟩ := rt2 hf
  exact g_iret X hH hS dX8_comes_67
theorem c_X8_comes (l : Launch) (G : Gd) (B : Nat) (x1 : Int32) (σ σr : Sto) (r : Int32) (hf : f_X8_comes x1 σ = some (r, σr)) : Ct l G layM B yX8_comes cX8_comes 3 (some .int) 2 [.ref (B + 0), .int x1] (some (.int r)) σ σr :=
  Ct.ofW (by decide) (Nat.le_of_ble_eq_true rfl) (fun _ _ _ _ _ _ _ X hH hS ls hl => w_X8_comes X x1 σ hf _ _ hH hS ls (show lv_has ls 3 [(0, .ref (B + 0)), (1, .int x1)] from hl))
-- SlackProofsModel.axiom(II)I  (D 3)
def b_X8_axiom_29 (σ : Sto) : Option (Int32 × Sto) :=
  some ((-1000001 : Int32), σ)
set_option maxHeartbeats 4000000 in
set_option maxRecDepth 100000 in
theorem w_X8_axiom_29 {p : Program} {l : Launch} {e : Env} {s : State} {m : MethodId} {args : Array Value} {below : List Frame} {meth : Method} {c : Code} {G : Gd} {B : Nat} (X : Cm p s m args meth c cX8_axiom 4 RX8 G (some .int)) {r : Int32} {σr : Sto} (σ : Sto) (hf : b_X8_axiom_29 σ = some (r, σr)) (H : Heap) (locs : List Loc) (hH : HX G layM B σ H) (hS : va_S (inW layM B) s.heap H locs) (ls : Array Slot) (hl : lv_has ls 4 []) : WM p l e 3 s m args below meth c H locs G layM B (some (.int r)) σr (F0 m 29 ls []) := by
  unfold b_X8_axiom_29 at hf
  have hx := X.1.1
  have hb := X.1.2.1
  refine lv_ldc (v := -1000001) hx hb X.1.2.2.2.1 (X.1.2.2.2.2.1 _ kc_RX8_76) dX8_axiom_29 ?_
  obtain ⟨rfl, rfl⟩ := rt2 hf
  exact g_iret X hH hS dX8_axiom_31
def b_X8_axiom_82 (s0 : Int64) (s1 : Int32) (σ : Sto) : Option (Int32 × Sto) :=
  if (s1 < 0 ∨ 10 ≤ s1.toNatClampNeg) then none else nmS (pL σ 11 s1.toNatClampNeg s0) fun σ416 => bd2 (f_X8_comes (2 : Int32) σ416) fun r418 σ417 => some (r418, σ417)
set_option maxHeartbeats 4000000 in
set_option maxRecDepth 100000 in
theorem w_X8_axiom_82 {p : Program} {l : Launch} {e : Env} {s : State} {m : MethodId} {args : Array Value} {below : List Frame} {meth : Method} {c : Code} {G : Gd} {B : Nat} (X : Cm p s m args meth c cX8_axiom 4 RX8 G (some .int)) {r : Int32} {σr : Sto} (s0 : Int64) (s1 : Int32) (σ : Sto) (hf : b_X8_axiom_82 s0 s1 σ = some (r, σr)) (H : Heap) (locs : List Loc) (hH : HX G layM B σ H) (hS : va_S (inW layM B) s.heap H locs) (ls : Array Slot) (hl : lv_has ls 4 [(0, .ref (B + 0))]) : WM p l e 3 s m args below meth c H locs G layM B (some (.int r)) σr (F0 m 82 ls [.long s0, .int s1, .ref (B + 11)]) := by
  unfold b_X8_axiom_82 at hf
  have hx := X.1.1
  have hb := X.1.2.1
  obtain ⟨q415, hf⟩ := chk hf
  refine g_last (j := s1.toNatClampNeg) X.1 hH hS km_11 q415 rfl dX8_axiom_82 (fun H locs hH hS => ?_)
  obtain ⟨σ416, eσ416, hH⟩ := nmX hH
  replace hf := nmU hf eσ416
  refine lv_aload_n hx hb dX8_axiom_83 rfl (lv_at hl 0 rfl) ?_
  refine lv_iconst (v := 2) hx hb dX8_axiom_84 (by decide) ?_
  obtain ⟨r418, σ417, eσ417, hf⟩ := bnd2 hf
  refine g_cVi (As := [.int (2 : Int32)]) X.1 hH hS (c_X8_comes l G B (2 : Int32) σ416 σ417 r418 eσ417) kw_RX8_191 kX8 km_0 (by decide) rfl hl (Nat.le_of_ble_eq_true rfl) rfl dX8_axiom_85 (fun H locs hH hS => ?_)
  obtain ⟨rfl, rfl⟩ := rt2 hf
  exact g_iret X hH hS dX8_axiom_88
def b_X8_axiom_44 (c44 : Int32 → Int32 → Int32 → Sto → Option (Int32 × Sto)) (v1 : Int32) (v2 : Int32) (v3 : Int32) (σ : Sto) : Option (Int32 × Sto) :=
  if (10 : Int32) ≤ v3 then (if v2 = (1 : Int32) then (b_X8_axiom_82 (1 : Int64) ((2 : Int32) + v1) σ) else (b_X8_axiom_82 (-1 : Int64) ((2 : Int32) + v1) σ)) else (if (v3 < 0 ∨ 10 ≤ v3.toNatClampNeg) then none else nmS (pL σ 11 v3.toNatClampNeg (0 : Int64)) fun σ420 => c44 v1 v2 (v3 + (1 : Int32)) σ420)
set_option maxHeartbeats 4000000 in
set_option maxRecDepth 100000 in
theorem w_X8_axiom_44 {p : Program} {l : Launch} {e : Env} {s : State} {m : MethodId} {args : Array Value} {below : List Frame} {meth : Method} {c : Code} {G : Gd} {B : Nat} (X : Cm p s m args meth c cX8_axiom 4 RX8 G (some .int)) (c44 : Int32 → Int32 → Int32 → Sto → Option (Int32 × Sto)) {r : Int32} {σr : Sto} (ih44 : ∀ (v1 : Int32) (v2 : Int32) (v3 : Int32) (σ : Sto) (H : Heap) (locs : List Loc) (ls : Array Slot), c44 v1 v2 v3 σ = some (r, σr) → HX G layM B σ H → va_S (inW layM B) s.heap H locs → lv_has ls 4 [(0, .ref (B + 0)), (1, .int v1), (2, .int v2), (3, .int v3)] → WM p l e 3 s m args below meth c H locs G layM B (some (.int r)) σr (F0 m 44 ls [])) (v1 : Int32) (v2 : Int32) (v3 : Int32) (σ : Sto) (hf : b_X8_axiom_44 c44 v1 v2 v3 σ = some (r, σr)) (H : Heap) (locs : List Loc) (hH : HX G layM B σ H) (hS : va_S (inW layM B) s.heap H locs) (ls : Array Slot) (hl : lv_has ls 4 [(0, .ref (B + 0)), (1, .int v1), (2, .int v2), (3, .int v3)]) : WM p l e 3 s m args below meth c H locs G layM B (some (.int r)) σr (F0 m 44 ls []) := by
  unfold b_X8_axiom_44 at hf
  have hx := X.1.1
  have hb := X.1.2.1
  refine lv_iload_n hx hb dX8_axiom_44 rfl (lv_at hl 3 rfl) ?_
  refine lv_bipush (v := 10) hx hb dX8_axiom_45 (by decide) ?_
  refine lv_icmp_ge (tgt := 63) hx hb dX8_axiom_47 (by decide) (fun q313 => ?_) (fun q313 => ?_)
  · replace hf := brT hf q313
    refine lv_aload_n hx hb dX8_axiom_63 rfl (lv_at hl 0 rfl) ?_
    refine g_get (v := .ref (B + 11)) kX8 (by decide) fl_RX8_42 X.1 hH km_0 rfl dX8_axiom_64 ?_
    refine lv_iconst (v := 2) hx hb dX8_axiom_67 (by decide) ?_
    refine lv_iload_n hx hb dX8_axiom_68 rfl (lv_at hl 1 rfl) ?_
    refine lv_iadd hx hb dX8_axiom_69 ?_
    refine lv_iload_n hx hb dX8_axiom_70 rfl (lv_at hl 2 rfl) ?_
    refine lv_iconst (v := 1) hx hb dX8_axiom_71 (by decide) ?_
    refine lv_icmp_ne (tgt := 79) hx hb dX8_axiom_72 (by decide) (fun q314 => ?_) (fun q314 => ?_)
    · replace hf := brF hf q314
      refine lv_ldc2 (v := -1) hx hb X.1.2.2.2.1 (X.1.2.2.2.2.1 _ kc_RX8_194) dX8_axiom_79 ?_
      exact w_X8_axiom_82 X (-1 : Int64) ((2 : Int32) + v1) σ hf _ _ hH hS _ (lv_sub hl [0] rfl)
    · replace hf := brT hf q314
      refine lv_lconst (v := 1) hx hb dX8_axiom_75 (by decide) ?_
      refine lv_goto (tgt := 82) hx hb dX8_axiom_76 (by decide) ?_
      exact w_X8_axiom_82 X (1 : Int64) ((2 : Int32) + v1) σ hf _ _ hH hS _ (lv_sub hl [0] rfl)
  · replace hf := brF hf q313
    refine lv_aload_n hx hb dX8_axiom_50 rfl (lv_at hl 0 rfl) ?_
    refine g_get (v := .ref (B + 11)) kX8 (by decide) fl_RX8_42 X.1 hH km_0 rfl dX8_axiom_51 ?_
    refine lv_iload_n hx hb dX8_axiom_54 rfl (lv_at hl 3 rfl) ?_
    refine lv_lconst (v := 0) hx hb dX8_axiom_55 (by decide) ?_
    obtain ⟨q419, hf⟩ := chk hf
    refine g_last (j := v3.toNatClampNeg) X.1 hH hS km_11 q419 rfl dX8_axiom_56 (fun H locs hH hS => ?_)
    obtain ⟨σ420, eσ420, hH⟩ := nmX hH
    replace hf := nmU hf eσ420
    refine lv_iinc (v := (v3 + (1 : Int32))) (lv' := [(3, .int (v3 + (1 : Int32))), (0, .ref (B + 0)), (1, .int v1), (2, .int v2)]) hx hb dX8_axiom_57 hl (k := 3) rfl rfl (by decide) rfl (fun ls hl => ?_)
    refine lv_goto (tgt := 44) hx hb dX8_axiom_60 (by decide) ?_
    exact ih44 v1 v2 (v3 + (1 : Int32)) σ420 _ _ _ hf hH hS (lv_sub hl [1, 2, 3, 0] rfl)
def l_X8_axiom_44 : Nat → Int32 → Int32 → Int32 → Sto → Option (Int32 × Sto)
  | 0, _, _, _, _ => none
  | n + 1, v1, v2, v3, σ => b_X8_axiom_44 (l_X8_axiom_44 n) v1 v2 v3 σ
set_option maxHeartbeats 4000000 in
set_option maxRecDepth 100000 in
theorem wl_X8_axiom_44 {p : Program} {l : Launch} {e : Env} {s : State} {m : MethodId} {args : Array Value} {below : List Frame} {meth : Method} {c : Code} {G : Gd} {B : Nat} (X : Cm p s m args meth c cX8_axiom 4 RX8 G (some .int)) {r : Int32} {σr : Sto} (n : Nat) : ∀ (v1 : Int32) (v2 : Int32) (v3 : Int32) (σ : Sto) (H : Heap) (locs : List Loc) (ls : Array Slot), l_X8_axiom_44 n v1 v2 v3 σ = some (r, σr) → HX G layM B σ H → va_S (inW layM B) s.heap H locs → lv_has ls 4 [(0, .ref (B + 0)), (1, .int v1), (2, .int v2), (3, .int v3)] → WM p l e 3 s m args below meth c H locs G layM B (some (.int r)) σr (F0 m 44 ls []) := by
  induction n with
  | zero =>
    intro _ _ _ σ H locs ls hf
    cases hf
  | succ n ih =>
    intro v1 v2 v3 σ H locs ls hf hH hS hl
    exact w_X8_axiom_44 X (l_X8_axiom_44 n) ih v1 v2 v3 σ hf H locs hH hS ls hl
def f_X8_axiom (x1 : Int32) (x2 : Int32) (σ : Sto) : Option (Int32 × Sto) :=
  bd2 (f_X8_isFormula σ) fun r102 σ101 => if r102 = 0 then (some ((-1000002 : Int32), σ101)) else (bd2 (f_X8_in x1 (0 : Int32) (7 : Int32) σ101) fun r105 σ104 => if r105 = 0 then (b_X8_axiom_29 σ104) else (bd2 (f_X8_in x2 (0 : Int32) (1 : Int32) σ104) fun r208 σ207 => if r208 = 0 then (b_X8_axiom_29 σ207) else (bd2 (f_X8_isFull σ207) fun r211 σ210 => if r211 = 0 then (l_X8_axiom_44 400 x1 x2 (0 : Int32) σ210) else (some ((-1000003 : Int32), σ210)))))
set_option maxHeartbeats 4000000 in
set_option maxRecDepth 100000 in
theorem w_X8_axiom {p : Program} {l : Launch} {e : Env} {s : State} {m : MethodId} {args : Array Value} {below : List Frame} {meth : Method} {c : Code} {G : Gd} {B : Nat} (X : Cm p s m args meth c cX8_axiom 4 RX8 G (some .int)) {r : Int32} {σr : Sto} (x1 : Int32) (x2 : Int32) (σ : Sto) (hf : f_X8_axiom x1 x2 σ = some (r, σr)) (H : Heap) (locs : List Loc) (hH : HX G layM B σ H) (hS : va_S (inW layM B) s.heap H locs) (ls : Array Slot) (hl : lv_has ls 4 [(0, .ref (B + 0)), (1, .int x1), (2, .int x2)]) : WM p l e 3 s m args below meth c H locs G layM B (some (.int r)) σr (F0 m 0 ls []) := by
  unfold f_X8_axiom at hf
  have hx := X.1.1
  have hb := X.1.2.1
  refine lv_aload_n hx hb dX8_axiom_0 rfl (lv_at hl 0 rfl) ?_
  obtain ⟨r102, σ101, eσ101, hf⟩ := bnd2 hf
  refine g_cVi (As := []) X.1 hH hS (c_X8_isFormula l G B σ σ101 r102 eσ101) kw_RX8_171 kX8 km_0 (by decide) rfl hl (Nat.le_of_ble_eq_true rfl) rfl dX8_axiom_1 (fun H locs hH hS => ?_)
  refine lv_if_ne (tgt := 10) hx hb dX8_axiom_4 (by decide) (fun q103 => ?_) (fun q103 => ?_)
  · replace hf := brF hf q103
    refine lv_iload_n hx hb dX8_axiom_10 rfl (lv_at hl 1 rfl) ?_
    refine lv_iconst (v := 0) hx hb dX8_axiom_11 (by decide) ?_
    refine lv_bipush (v := 7) hx hb dX8_axiom_12 (by decide) ?_
    obtain ⟨r105, σ104, eσ104, hf⟩ := bnd2 hf
    refine g_cSi (As := [.int x1, .int (0 : Int32), .int (7 : Int32)]) X.1 hH hS (c_X8_in l G B x1 (0 : Int32) (7 : Int32) σ101 σ104 r105 eσ104) kw_RX8_68 (by decide) rfl hl (Nat.le_of_ble_eq_true rfl) rfl dX8_axiom_14 (fun H locs hH hS => ?_)
    refine lv_if_eq (tgt := 29) hx hb dX8_axiom_17 (by decide) (fun q106 => ?_) (fun q106 => ?_)
    · replace hf := brT hf q106
      exact w_X8_axiom_29 X σ104 hf _ _ hH hS _ (lv_sub hl [] rfl)
    · replace hf := brF hf q106
      refine lv_iload_n hx hb dX8_axiom_20 rfl (lv_at hl 2 rfl) ?_
      refine lv_iconst (v := 0) hx hb dX8_axiom_21 (by decide) ?_
      refine lv_iconst (v := 1) hx hb dX8_axiom_22 (by decide) ?_
      obtain ⟨r208, σ207, eσ207, hf⟩ := bnd2 hf
      refine g_cSi (As := [.int x2, .int (0 : Int32), .int (1 : Int32)]) X.1 hH hS (c_X8_in l G B x2 (0 : Int32) (1 : Int32) σ104 σ207 r208 eσ207) kw_RX8_68 (by decide) rfl hl (Nat.le_of_ble_eq_true rfl) rfl dX8_axiom_23 (fun H locs hH hS => ?_)
      refine lv_if_ne (tgt := 32) hx hb dX8_axiom_26 (by decide) (fun q209 => ?_) (fun q209 => ?_)
      · replace hf := brF hf q209
        refine lv_aload_n hx hb dX8_axiom_32 rfl (lv_at hl 0 rfl) ?_
        obtain ⟨r211, σ210, eσ210, hf⟩ := bnd2 hf
        refine g_cVi (As := []) X.1 hH hS (c_X8_isFull l G B σ207 σ210 r211 eσ210) kw_RX8_178 kX8 km_0 (by decide) rfl hl (Nat.le_of_ble_eq_true rfl) rfl dX8_axiom_33 (fun H locs hH hS => ?_)
        refine lv_if_eq (tgt := 42) hx hb dX8_axiom_36 (by decide) (fun q212 => ?_) (fun q212 => ?_)
        · replace hf := brT hf q212
          refine lv_iconst (v := 0) hx hb dX8_axiom_42 (by decide) ?_
          refine lv_istore_n (lv' := [(3, .int (0 : Int32)), (0, .ref (B + 0)), (1, .int x1), (2, .int x2)]) hx hb dX8_axiom_43 rfl hl (by decide) rfl (fun ls hl => ?_)
          exact wl_X8_axiom_44 X 400 x1 x2 (0 : Int32) σ210 _ _ _ hf hH hS (lv_sub hl [1, 2, 3, 0] rfl)
        · replace hf := brF hf q212
          refine lv_ldc (v := -1000003) hx hb X.1.2.2.2.1 (X.1.2.2.2.2.1 _ kc_RX8_97) dX8_axiom_39 ?_
          obtain ⟨rfl, rfl⟩ := rt2 hf
          exact g_iret X hH hS dX8_axiom_41
      · replace hf := brT hf q209
        exact w_X8_axiom_29 X σ207 hf _ _ hH hS _ (lv_sub hl [] rfl)
  · replace hf := brT hf q103
    refine lv_ldc (v := -1000002) hx hb X.1.2.2.2.1 (X.1.2.2.2.2.1 _ kc_RX8_174) dX8_axiom_7 ?_
    obtain ⟨rfl, rfl⟩ := rt2 hf
    exact g_iret X hH hS dX8_axiom_9
theorem c_X8_axiom (l : Launch) (G : Gd) (B : Nat) (x1 : Int32) (x2 : Int32) (σ σr : Sto) (r : Int32) (hf : f_X8_axiom x1 x2 σ = some (r, σr)) : Ct l G layM B yX8_axiom cX8_axiom 4 (some .int) 3 [.ref (B + 0), .int x1, .int x2] (some (.int r)) σ σr :=
  Ct.ofW (by decide) (Nat.le_of_ble_eq_true rfl) (fun _ _ _ _ _ _ _ X hH hS ls hl => w_X8_axiom X x1 x2 σ hf _ _ hH hS ls (show lv_has ls 4 [(0, .ref (B + 0)), (1, .int x1), (2, .int x2)] from hl))
-- SlackProofsModel.begins()V  (D 2)
def f_X8_begins (σ : Sto) : Option (Sto) :=
  nmS (pI σ 0 9 (0 : Int32)) fun σ101 => nmS (pI σ101 0 8 (-1 : Int32)) fun σ102 => bd1 (f_X8_advances σ102) fun σ103 => some σ103
set_option maxHeartbeats 4000000 in
set_option maxRecDepth 100000 in
theorem w_X8_begins {p : Program} {l : Launch} {e : Env} {s : State} {m : MethodId} {args : Array Value} {below : List Frame} {meth : Method} {c : Code} {G : Gd} {B : Nat} (X : Cm p s m args meth c cX8_begins 1 RX8 G none) {σr : Sto} (σ : Sto) (hf : f_X8_begins σ = some σr) (H : Heap) (locs : List Loc) (hH : HX G layM B σ H) (hS : va_S (inW layM B) s.heap H locs) (ls : Array Slot) (hl : lv_has ls 1 [(0, .ref (B + 0))]) : WM p l e 2 s m args below meth c H locs G layM B none σr (F0 m 0 ls []) := by
  unfold f_X8_begins at hf
  have hx := X.1.1
  have hb := X.1.2.1
  refine lv_aload_n hx hb dX8_begins_0 rfl (lv_at hl 0 rfl) ?_
  refine lv_iconst (v := 0) hx hb dX8_begins_1 (by decide) ?_
  refine g_putI kX8 (by decide) fl_RX8_98 rfl rfl X.1 hH hS km_0 dX8_begins_2 (fun H locs hH hS => ?_)
  obtain ⟨σ101, eσ101, hH⟩ := nmX hH
  replace hf := nmU hf eσ101
  refine lv_aload_n hx hb dX8_begins_5 rfl (lv_at hl 0 rfl) ?_
  refine lv_iconst (v := -1) hx hb dX8_begins_6 (by decide) ?_
  refine g_putI kX8 (by decide) fl_RX8_113 rfl rfl X.1 hH hS km_0 dX8_begins_7 (fun H locs hH hS => ?_)
  obtain ⟨σ102, eσ102, hH⟩ := nmX hH
  replace hf := nmU hf eσ102
  refine lv_aload_n hx hb dX8_begins_10 rfl (lv_at hl 0 rfl) ?_
  obtain ⟨σ103, eσ103, hf⟩ := bnd1 hf
  refine g_cVv (As := []) X.1 hH hS (c_X8_advances l G B σ102 σ103 eσ103) kw_RX8_123 kX8 km_0 (by decide) rfl hl (Nat.le_of_ble_eq_true rfl) rfl dX8_begins_11 (fun H locs hH hS => ?_)
  obtain rfl := rt1 hf
  exact g_vret X hH hS dX8_begins_14
theorem c_X8_begins (l : Launch) (G : Gd) (B : Nat) (σ σr : Sto) (hf : f_X8_begins σ = some σr) : Ct l G layM B yX8_begins cX8_begins 1 none 2 [.ref (B + 0)] none σ σr :=
  Ct.ofW (by decide) (Nat.le_of_ble_eq_true rfl) (fun _ _ _ _ _ _ _ X hH hS ls hl => w_X8_begins X σ hf _ _ hH hS ls (show lv_has ls 1 [(0, .ref (B + 0))] from hl))
-- SlackProofsModel.isWell()Z  (D 0)
def b_X8_isWell_12 (s0 : Int32) (σ : Sto) : Option (Int32 × Sto) :=
  if ¬ (s0 = 0 ∨ s0 = 1) then none else some (s0, σ)
set_option maxHeartbeats 4000000 in
set_option maxRecDepth 100000 in
theorem w_X8_isWell_12 {p : Program} {l : Launch} {e : Env} {s : State} {m : MethodId} {args : Array Value} {below : List Frame} {meth : Method} {c : Code} {G : Gd} {B : Nat} (X : Cm p s m args meth c cX8_isWell 1 RX8 G (some .boolean)) {r : Int32} {σr : Sto} (s0 : Int32) (σ : Sto) (hf : b_X8_isWell_12 s0 σ = some (r, σr)) (H : Heap) (locs : List Loc) (hH : HX G layM B σ H) (hS : va_S (inW layM B) s.heap H locs) (ls : Array Slot) (hl : lv_has ls 1 []) : WM p l e 0 s m args below meth c H locs G layM B (some (.int r)) σr (F0 m 12 ls [.int s0]) := by
  unfold b_X8_isWell_12 at hf
  have hx := X.1.1
  have hb := X.1.2.1
  obtain ⟨q202, hf⟩ := chk hf
  obtain ⟨rfl, rfl⟩ := rt2 hf
  exact g_zret X hH hS (Decidable.not_not.mp q202) dX8_isWell_12
def f_X8_isWell (σ : Sto) : Option (Int32 × Sto) :=
  if 0 ≤ (σ.1 0 8) then (b_X8_isWell_12 (0 : Int32) σ) else (b_X8_isWell_12 (1 : Int32) σ)
set_option maxHeartbeats 4000000 in
set_option maxRecDepth 100000 in
theorem w_X8_isWell {p : Program} {l : Launch} {e : Env} {s : State} {m : MethodId} {args : Array Value} {below : List Frame} {meth : Method} {c : Code} {G : Gd} {B : Nat} (X : Cm p s m args meth c cX8_isWell 1 RX8 G (some .boolean)) {r : Int32} {σr : Sto} (σ : Sto) (hf : f_X8_isWell σ = some (r, σr)) (H : Heap) (locs : List Loc) (hH : HX G layM B σ H) (hS : va_S (inW layM B) s.heap H locs) (ls : Array Slot) (hl : lv_has ls 1 [(0, .ref (B + 0))]) : WM p l e 0 s m args below meth c H locs G layM B (some (.int r)) σr (F0 m 0 ls []) := by
  unfold f_X8_isWell at hf
  have hx := X.1.1
  have hb := X.1.2.1
  refine lv_aload_n hx hb dX8_isWell_0 rfl (lv_at hl 0 rfl) ?_
  refine g_get (v := .int (σ.1 0 8)) kX8 (by decide) fl_RX8_113 X.1 hH km_0 rfl dX8_isWell_1 ?_
  refine lv_if_ge (tgt := 11) hx hb dX8_isWell_4 (by decide) (fun q101 => ?_) (fun q101 => ?_)
  · replace hf := brT hf q101
    refine lv_iconst (v := 0) hx hb dX8_isWell_11 (by decide) ?_
    exact w_X8_isWell_12 X (0 : Int32) σ hf _ _ hH hS _ (lv_sub hl [] rfl)
  · replace hf := brF hf q101
    refine lv_iconst (v := 1) hx hb dX8_isWell_7 (by decide) ?_
    refine lv_goto (tgt := 12) hx hb dX8_isWell_8 (by decide) ?_
    exact w_X8_isWell_12 X (1 : Int32) σ hf _ _ hH hS _ (lv_sub hl [] rfl)
theorem c_X8_isWell (l : Launch) (G : Gd) (B : Nat) (σ σr : Sto) (r : Int32) (hf : f_X8_isWell σ = some (r, σr)) : Ct l G layM B yX8_isWell cX8_isWell 1 (some .boolean) 0 [.ref (B + 0)] (some (.int r)) σ σr :=
  Ct.ofW (by decide) (Nat.le_of_ble_eq_true rfl) (fun _ _ _ _ _ _ _ X hH hS ls hl => w_X8_isWell X σ hf _ _ hH hS ls (show lv_has ls 1 [(0, .ref (B + 0))] from hl))
-- SlackProofsModel.takes(ZI)I  (D 2)
def f_X8_takes (x1 : Int32) (x2 : Int32) (σ : Sto) : Option (Int32 × Sto) :=
  bd2 (f_X8_isWell σ) fun r102 σ101 => if r102 = 0 then (some ((0 : Int32), σ101)) else (if x1 = 0 then (nmS (pI σ101 0 8 (σ101.1 0 10)) fun σ108 => nmS (pI σ108 0 7 x2) fun σ109 => some ((0 : Int32), σ109)) else (nmS (σ101.1 0 12) fun y105 => bd1 (f_X8_advances σ101) fun σ106 => some (y105, σ106)))
set_option maxHeartbeats 4000000 in
set_option maxRecDepth 100000 in
theorem w_X8_takes {p : Program} {l : Launch} {e : Env} {s : State} {m : MethodId} {args : Array Value} {below : List Frame} {meth : Method} {c : Code} {G : Gd} {B : Nat} (X : Cm p s m args meth c cX8_takes 4 RX8 G (some .int)) {r : Int32} {σr : Sto} (x1 : Int32) (x2 : Int32) (σ : Sto) (hf : f_X8_takes x1 x2 σ = some (r, σr)) (H : Heap) (locs : List Loc) (hH : HX G layM B σ H) (hS : va_S (inW layM B) s.heap H locs) (ls : Array Slot) (hl : lv_has ls 4 [(0, .ref (B + 0)), (1, .int x1), (2, .int x2)]) : WM p l e 2 s m args below meth c H locs G layM B (some (.int r)) σr (F0 m 0 ls []) := by
  unfold f_X8_takes at hf
  have hx := X.1.1
  have hb := X.1.2.1
  refine lv_aload_n hx hb dX8_takes_0 rfl (lv_at hl 0 rfl) ?_
  obtain ⟨r102, σ101, eσ101, hf⟩ := bnd2 hf
  refine g_cVi (As := []) X.1 hH hS (c_X8_isWell l G B σ σ101 r102 eσ101) kw_RX8_116 kX8 km_0 (by decide) rfl hl (Nat.le_of_ble_eq_true rfl) rfl dX8_takes_1 (fun H locs hH hS => ?_)
  refine lv_if_ne (tgt := 9) hx hb dX8_takes_4 (by decide) (fun q103 => ?_) (fun q103 => ?_)
  · replace hf := brF hf q103
    refine lv_iload_n hx hb dX8_takes_9 rfl (lv_at hl 1 rfl) ?_
    refine lv_if_ne (tgt := 28) hx hb dX8_takes_10 (by decide) (fun q104 => ?_) (fun q104 => ?_)
    · replace hf := brF hf q104
      refine lv_aload_n hx hb dX8_takes_28 rfl (lv_at hl 0 rfl) ?_
      refine g_get (v := .int (σ101.1 0 12)) kX8 (by decide) fl_RX8_107 X.1 hH km_0 rfl dX8_takes_29 ?_
      refine lv_topi (fun y105 ey105 => ?_)
      replace hf := nmU hf ey105
      refine lv_istore_n (lv' := [(3, .int y105), (0, .ref (B + 0)), (1, .int x1), (2, .int x2)]) hx hb dX8_takes_32 rfl hl (by decide) rfl (fun ls hl => ?_)
      refine lv_aload_n hx hb dX8_takes_33 rfl (lv_at hl 1 rfl) ?_
      obtain ⟨σ106, eσ106, hf⟩ := bnd1 hf
      refine g_cVv (As := []) X.1 hH hS (c_X8_advances l G B σ101 σ106 eσ106) kw_RX8_123 kX8 km_0 (by decide) rfl hl (Nat.le_of_ble_eq_true rfl) rfl dX8_takes_34 (fun H locs hH hS => ?_)
      refine lv_iload_n hx hb dX8_takes_37 rfl (lv_at hl 0 rfl) ?_
      obtain ⟨rfl, rfl⟩ := rt2 hf
      exact g_iret X hH hS dX8_takes_38
    · replace hf := brT hf q104
      refine lv_aload_n hx hb dX8_takes_13 rfl (lv_at hl 0 rfl) ?_
      refine lv_aload_n hx hb dX8_takes_14 rfl (lv_at hl 0 rfl) ?_
      refine g_get (v := .int (σ101.1 0 10)) kX8 (by decide) fl_RX8_101 X.1 hH km_0 rfl dX8_takes_15 ?_
      refine g_putI kX8 (by decide) fl_RX8_113 rfl rfl X.1 hH hS km_0 dX8_takes_18 (fun H locs hH hS => ?_)
      obtain ⟨σ108, eσ108, hH⟩ := nmX hH
      replace hf := nmU hf eσ108
      refine lv_aload_n hx hb dX8_takes_21 rfl (lv_at hl 0 rfl) ?_
      refine lv_iload_n hx hb dX8_takes_22 rfl (lv_at hl 2 rfl) ?_
      refine g_putI kX8 (by decide) fl_RX8_120 rfl rfl X.1 hH hS km_0 dX8_takes_23 (fun H locs hH hS => ?_)
      obtain ⟨σ109, eσ109, hH⟩ := nmX hH
      replace hf := nmU hf eσ109
      refine lv_iconst (v := 0) hx hb dX8_takes_26 (by decide) ?_
      obtain ⟨rfl, rfl⟩ := rt2 hf
      exact g_iret X hH hS dX8_takes_27
  · replace hf := brT hf q103
    refine lv_iconst (v := 0) hx hb dX8_takes_7 (by decide) ?_
    obtain ⟨rfl, rfl⟩ := rt2 hf
    exact g_iret X hH hS dX8_takes_8
theorem c_X8_takes (l : Launch) (G : Gd) (B : Nat) (x1 : Int32) (x2 : Int32) (σ σr : Sto) (r : Int32) (hf : f_X8_takes x1 x2 σ = some (r, σr)) : Ct l G layM B yX8_takes cX8_takes 4 (some .int) 2 [.ref (B + 0), .int x1, .int x2] (some (.int r)) σ σr :=
  Ct.ofW (by decide) (Nat.le_of_ble_eq_true rfl) (fun _ _ _ _ _ _ _ X hH hS ls hl => w_X8_takes X x1 x2 σ hf _ _ hH hS ls (show lv_has ls 4 [(0, .ref (B + 0)), (1, .int x1), (2, .int x2)] from hl))
-- SlackProofsModel.figure(II)I  (D 3)
def b_X8_figure_22 (v1 : Int32) (v2 : Int32) (σ : Sto) : Option (Int32 × Sto) :=
  bd2 (f_X8_in (σ.1 0 12) v1 v2 σ) fun r205 σ204 => bd2 (f_X8_takes r205 (2 : Int32) σ204) fun r207 σ206 => some (r207, σ206)
set_option maxHeartbeats 4000000 in
set_option maxRecDepth 100000 in
theorem w_X8_figure_22 {p : Program} {l : Launch} {e : Env} {s : State} {m : MethodId} {args : Array Value} {below : List Frame} {meth : Method} {c : Code} {G : Gd} {B : Nat} (X : Cm p s m args meth c cX8_figure 3 RX8 G (some .int)) {r : Int32} {σr : Sto} (v1 : Int32) (v2 : Int32) (σ : Sto) (hf : b_X8_figure_22 v1 v2 σ = some (r, σr)) (H : Heap) (locs : List Loc) (hH : HX G layM B σ H) (hS : va_S (inW layM B) s.heap H locs) (ls : Array Slot) (hl : lv_has ls 3 [(0, .ref (B + 0)), (1, .int v1), (2, .int v2)]) : WM p l e 3 s m args below meth c H locs G layM B (some (.int r)) σr (F0 m 22 ls []) := by
  unfold b_X8_figure_22 at hf
  have hx := X.1.1
  have hb := X.1.2.1
  refine lv_aload_n hx hb dX8_figure_22 rfl (lv_at hl 0 rfl) ?_
  refine lv_aload_n hx hb dX8_figure_23 rfl (lv_at hl 0 rfl) ?_
  refine g_get (v := .int (σ.1 0 12)) kX8 (by decide) fl_RX8_107 X.1 hH km_0 rfl dX8_figure_24 ?_
  refine lv_iload_n hx hb dX8_figure_27 rfl (lv_at hl 1 rfl) ?_
  refine lv_iload_n hx hb dX8_figure_28 rfl (lv_at hl 2 rfl) ?_
  obtain ⟨r205, σ204, eσ204, hf⟩ := bnd2 hf
  refine g_cSi (As := [.int (σ.1 0 12), .int v1, .int v2]) X.1 hH hS (c_X8_in l G B (σ.1 0 12) v1 v2 σ σ204 r205 eσ204) kw_RX8_68 (by decide) rfl hl (Nat.le_of_ble_eq_true rfl) rfl dX8_figure_29 (fun H locs hH hS => ?_)
  refine lv_iconst (v := 2) hx hb dX8_figure_32 (by decide) ?_
  obtain ⟨r207, σ206, eσ206, hf⟩ := bnd2 hf
  refine g_cVi (As := [.int r205, .int (2 : Int32)]) X.1 hH hS (c_X8_takes l G B r205 (2 : Int32) σ204 σ206 r207 eσ206) kw_RX8_126 kX8 km_0 (by decide) rfl hl (Nat.le_of_ble_eq_true rfl) rfl dX8_figure_33 (fun H locs hH hS => ?_)
  obtain ⟨rfl, rfl⟩ := rt2 hf
  exact g_iret X hH hS dX8_figure_36
def f_X8_figure (x1 : Int32) (x2 : Int32) (σ : Sto) : Option (Int32 × Sto) :=
  bd2 (f_X8_isWell σ) fun r102 σ101 => if r102 = 0 then (b_X8_figure_22 x1 x2 σ101) else (if (σ101.1 0 11) = (2 : Int32) then (b_X8_figure_22 x1 x2 σ101) else (bd2 (f_X8_takes (0 : Int32) (1 : Int32) σ101) fun r210 σ209 => some (r210, σ209)))
set_option maxHeartbeats 4000000 in
set_option maxRecDepth 100000 in
theorem w_X8_figure {p : Program} {l : Launch} {e : Env} {s : State} {m : MethodId} {args : Array Value} {below : List Frame} {meth : Method} {c : Code} {G : Gd} {B : Nat} (X : Cm p s m args meth c cX8_figure 3 RX8 G (some .int)) {r : Int32} {σr : Sto} (x1 : Int32) (x2 : Int32) (σ : Sto) (hf : f_X8_figure x1 x2 σ = some (r, σr)) (H : Heap) (locs : List Loc) (hH : HX G layM B σ H) (hS : va_S (inW layM B) s.heap H locs) (ls : Array Slot) (hl : lv_has ls 3 [(0, .ref (B + 0)), (1, .int x1), (2, .int x2)]) : WM p l e 3 s m args below meth c H locs G layM B (some (.int r)) σr (F0 m 0 ls []) := by
  unfold f_X8_figure at hf
  have hx := X.1.1
  have hb := X.1.2.1
  refine lv_aload_n hx hb dX8_figure_0 rfl (lv_at hl 0 rfl) ?_
  obtain ⟨r102, σ101, eσ101, hf⟩ := bnd2 hf
  refine g_cVi (As := []) X.1 hH hS (c_X8_isWell l G B σ σ101 r102 eσ101) kw_RX8_116 kX8 km_0 (by decide) rfl hl (Nat.le_of_ble_eq_true rfl) rfl dX8_figure_1 (fun H locs hH hS => ?_)
  refine lv_if_eq (tgt := 22) hx hb dX8_figure_4 (by decide) (fun q103 => ?_) (fun q103 => ?_)
  · replace hf := brT hf q103
    exact w_X8_figure_22 X x1 x2 σ101 hf _ _ hH hS _ (lv_sub hl [0, 1, 2] rfl)
  · replace hf := brF hf q103
    refine lv_aload_n hx hb dX8_figure_7 rfl (lv_at hl 0 rfl) ?_
    refine g_get (v := .int (σ101.1 0 11)) kX8 (by decide) fl_RX8_110 X.1 hH km_0 rfl dX8_figure_8 ?_
    refine lv_iconst (v := 2) hx hb dX8_figure_11 (by decide) ?_
    refine lv_icmp_eq (tgt := 22) hx hb dX8_figure_12 (by decide) (fun q208 => ?_) (fun q208 => ?_)
    · replace hf := brT hf q208
      exact w_X8_figure_22 X x1 x2 σ101 hf _ _ hH hS _ (lv_sub hl [0, 1, 2] rfl)
    · replace hf := brF hf q208
      refine lv_aload_n hx hb dX8_figure_15 rfl (lv_at hl 0 rfl) ?_
      refine lv_iconst (v := 0) hx hb dX8_figure_16 (by decide) ?_
      refine lv_iconst (v := 1) hx hb dX8_figure_17 (by decide) ?_
      obtain ⟨r210, σ209, eσ209, hf⟩ := bnd2 hf
      refine g_cVi (As := [.int (0 : Int32), .int (1 : Int32)]) X.1 hH hS (c_X8_takes l G B (0 : Int32) (1 : Int32) σ101 σ209 r210 eσ209) kw_RX8_126 kX8 km_0 (by decide) rfl hl (Nat.le_of_ble_eq_true rfl) rfl dX8_figure_18 (fun H locs hH hS => ?_)
      obtain ⟨rfl, rfl⟩ := rt2 hf
      exact g_iret X hH hS dX8_figure_21
theorem c_X8_figure (l : Launch) (G : Gd) (B : Nat) (x1 : Int32) (x2 : Int32) (σ σr : Sto) (r : Int32) (hf : f_X8_figure x1 x2 σ = some (r, σr)) : Ct l G layM B yX8_figure cX8_figure 3 (some .int) 3 [.ref (B + 0), .int x1, .int x2] (some (.int r)) σ σr :=
  Ct.ofW (by decide) (Nat.le_of_ble_eq_true rfl) (fun _ _ _ _ _ _ _ X hH hS ls hl => w_X8_figure X x1 x2 σ hf _ _ hH hS ls (show lv_has ls 3 [(0, .ref (B + 0)), (1, .int x1), (2, .int x2)] from hl))
-- SlackProofsModel.behind(II)I  (D 4)
def b_X8_behind_14 (v1 : Int32) (v2 : Int32) (s0 : Int32) (σ : Sto) : Option (Int32 × Sto) :=
  bd2 (f_X8_takes s0 (1 : Int32) σ) fun r203 σ202 => bd2 (f_X8_figure v1 v2 σ202) fun r205 σ204 => some (r205, σ204)
set_option maxHeartbeats 4000000 in
set_option maxRecDepth 100000 in
theorem w_X8_behind_14 {p : Program} {l : Launch} {e : Env} {s : State} {m : MethodId} {args : Array Value} {below : List Frame} {meth : Method} {c : Code} {G : Gd} {B : Nat} (X : Cm p s m args meth c cX8_behind 3 RX8 G (some .int)) {r : Int32} {σr : Sto} (v1 : Int32) (v2 : Int32) (s0 : Int32) (σ : Sto) (hf : b_X8_behind_14 v1 v2 s0 σ = some (r, σr)) (H : Heap) (locs : List Loc) (hH : HX G layM B σ H) (hS : va_S (inW layM B) s.heap H locs) (ls : Array Slot) (hl : lv_has ls 3 [(0, .ref (B + 0)), (1, .int v1), (2, .int v2)]) : WM p l e 4 s m args below meth c H locs G layM B (some (.int r)) σr (F0 m 14 ls [.int s0, .ref (B + 0)]) := by
  unfold b_X8_behind_14 at hf
  have hx := X.1.1
  have hb := X.1.2.1
  refine lv_iconst (v := 1) hx hb dX8_behind_14 (by decide) ?_
  obtain ⟨r203, σ202, eσ202, hf⟩ := bnd2 hf
  refine g_cVi (As := [.int s0, .int (1 : Int32)]) X.1 hH hS (c_X8_takes l G B s0 (1 : Int32) σ σ202 r203 eσ202) kw_RX8_126 kX8 km_0 (by decide) rfl hl (Nat.le_of_ble_eq_true rfl) rfl dX8_behind_15 (fun H locs hH hS => ?_)
  refine lv_pop hx hb dX8_behind_18 rfl ?_
  refine lv_aload_n hx hb dX8_behind_19 rfl (lv_at hl 0 rfl) ?_
  refine lv_iload_n hx hb dX8_behind_20 rfl (lv_at hl 1 rfl) ?_
  refine lv_iload_n hx hb dX8_behind_21 rfl (lv_at hl 2 rfl) ?_
  obtain ⟨r205, σ204, eσ204, hf⟩ := bnd2 hf
  refine g_cVi (As := [.int v1, .int v2]) X.1 hH hS (c_X8_figure l G B v1 v2 σ202 σ204 r205 eσ204) kw_RX8_130 kX8 km_0 (by decide) rfl hl (Nat.le_of_ble_eq_true rfl) rfl dX8_behind_22 (fun H locs hH hS => ?_)
  obtain ⟨rfl, rfl⟩ := rt2 hf
  exact g_iret X hH hS dX8_behind_25
def f_X8_behind (x1 : Int32) (x2 : Int32) (σ : Sto) : Option (Int32 × Sto) :=
  if (σ.1 0 11) = (3 : Int32) then (b_X8_behind_14 x1 x2 (1 : Int32) σ) else (b_X8_behind_14 x1 x2 (0 : Int32) σ)
set_option maxHeartbeats 4000000 in
set_option maxRecDepth 100000 in
theorem w_X8_behind {p : Program} {l : Launch} {e : Env} {s : State} {m : MethodId} {args : Array Value} {below : List Frame} {meth : Method} {c : Code} {G : Gd} {B : Nat} (X : Cm p s m args meth c cX8_behind 3 RX8 G (some .int)) {r : Int32} {σr : Sto} (x1 : Int32) (x2 : Int32) (σ : Sto) (hf : f_X8_behind x1 x2 σ = some (r, σr)) (H : Heap) (locs : List Loc) (hH : HX G layM B σ H) (hS : va_S (inW layM B) s.heap H locs) (ls : Array Slot) (hl : lv_has ls 3 [(0, .ref (B + 0)), (1, .int x1), (2, .int x2)]) : WM p l e 4 s m args below meth c H locs G layM B (some (.int r)) σr (F0 m 0 ls []) := by
  unfold f_X8_behind at hf
  have hx := X.1.1
  have hb := X.1.2.1
  refine lv_aload_n hx hb dX8_behind_0 rfl (lv_at hl 0 rfl) ?_
  refine lv_aload_n hx hb dX8_behind_1 rfl (lv_at hl 0 rfl) ?_
  refine g_get (v := .int (σ.1 0 11)) kX8 (by decide) fl_RX8_110 X.1 hH km_0 rfl dX8_behind_2 ?_
  refine lv_iconst (v := 3) hx hb dX8_behind_5 (by decide) ?_
  refine lv_icmp_ne (tgt := 13) hx hb dX8_behind_6 (by decide) (fun q101 => ?_) (fun q101 => ?_)
  · replace hf := brF hf q101
    refine lv_iconst (v := 0) hx hb dX8_behind_13 (by decide) ?_
    exact w_X8_behind_14 X x1 x2 (0 : Int32) σ hf _ _ hH hS _ (lv_sub hl [0, 1, 2] rfl)
  · replace hf := brT hf q101
    refine lv_iconst (v := 1) hx hb dX8_behind_9 (by decide) ?_
    refine lv_goto (tgt := 14) hx hb dX8_behind_10 (by decide) ?_
    exact w_X8_behind_14 X x1 x2 (1 : Int32) σ hf _ _ hH hS _ (lv_sub hl [0, 1, 2] rfl)
theorem c_X8_behind (l : Launch) (G : Gd) (B : Nat) (x1 : Int32) (x2 : Int32) (σ σr : Sto) (r : Int32) (hf : f_X8_behind x1 x2 σ = some (r, σr)) : Ct l G layM B yX8_behind cX8_behind 3 (some .int) 4 [.ref (B + 0), .int x1, .int x2] (some (.int r)) σ σr :=
  Ct.ofW (by decide) (Nat.le_of_ble_eq_true rfl) (fun _ _ _ _ _ _ _ X hH hS ls hl => w_X8_behind X x1 x2 σ hf _ _ hH hS ls (show lv_has ls 3 [(0, .ref (B + 0)), (1, .int x1), (2, .int x2)] from hl))
