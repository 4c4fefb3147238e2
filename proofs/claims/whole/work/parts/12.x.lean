-- SlackProofs$Clause.slackBy(II)J  (D 1)
def b_X3_slackBy_85 (c5 : Int32 → Int32 → Int64 → Int32 → Sto → Option (Int64 × Sto)) (k0 : Nat) (v1 : Int32) (v2 : Int32) (v3 : Int64) (v5 : Int32) (σ : Sto) : Option (Int64 × Sto) :=
  c5 v1 v2 v3 (v5 + (1 : Int32)) σ
set_option maxHeartbeats 4000000 in
set_option maxRecDepth 100000 in
theorem w_X3_slackBy_85 {p : Program} {l : Launch} {e : Env} {s : State} {m : MethodId} {args : Array Value} {below : List Frame} {meth : Method} {c : Code} {G : Gd} {B : Nat} (X : Cm p s m args meth c cX3_slackBy 8 RX3 G (some .long)) (c5 : Int32 → Int32 → Int64 → Int32 → Sto → Option (Int64 × Sto)) (k0 : Nat) (h0 : (k0 < layX.2.2 ∧ layX.1 k0 = .inl 3)) {r : Int64} {σr : Sto} (ih5 : ∀ (v1 : Int32) (v2 : Int32) (v3 : Int64) (v5 : Int32) (σ : Sto) (H : Heap) (locs : List Loc) (ls : Array Slot), c5 v1 v2 v3 v5 σ = some (r, σr) → HX G layX B σ H → va_S (inW layX B) s.heap H locs → lv_has ls 8 [(0, .ref (B + k0)), (1, .int v1), (2, .int v2), (3, .long v3), (5, .int v5)] → WM p l e 1 s m args below meth c H locs G layX B (some (.long r)) σr (F0 m 5 ls [])) (v1 : Int32) (v2 : Int32) (v3 : Int64) (v5 : Int32) (σ : Sto) (hf : b_X3_slackBy_85 c5 k0 v1 v2 v3 v5 σ = some (r, σr)) (H : Heap) (locs : List Loc) (hH : HX G layX B σ H) (hS : va_S (inW layX B) s.heap H locs) (ls : Array Slot) (hl : lv_has ls 8 [(0, .ref (B + k0)), (1, .int v1), (2, .int v2), (3, .long v3), (5, .int v5)]) : WM p l e 1 s m args below meth c H locs G layX B (some (.long r)) σr (F0 m 85 ls []) := by
  unfold b_X3_slackBy_85 at hf
  have hx := X.1.1
  have hb := X.1.2.1
  refine lv_iinc (v := (v5 + (1 : Int32))) (lv' := [(5, .int (v5 + (1 : Int32))), (0, .ref (B + k0)), (1, .int v1), (2, .int v2), (3, .long v3)]) hx hb dX3_slackBy_85 hl (k := 4) rfl rfl (by decide) rfl (fun ls hl => ?_)
  refine lv_goto (tgt := 5) hx hb dX3_slackBy_88 (by decide) ?_
  exact ih5 v1 v2 v3 (v5 + (1 : Int32)) σ _ _ _ hf hH hS (lv_sub hl [1, 2, 3, 4, 0] rfl)
def b_X3_slackBy_72 (c5 : Int32 → Int32 → Int64 → Int32 → Sto → Option (Int64 × Sto)) (k0 : Nat) (v1 : Int32) (v2 : Int32) (v3 : Int64) (v5 : Int32) (σ : Sto) : Option (Int64 × Sto) :=
  if (v5 < 0 ∨ 8 ≤ v5.toNatClampNeg) then none else nmS (v3 + (mabs (σ.2 (k0 + 1) v5.toNatClampNeg))) fun y506 => b_X3_slackBy_85 c5 k0 v1 v2 y506 v5 σ
set_option maxHeartbeats 4000000 in
set_option maxRecDepth 100000 in
theorem w_X3_slackBy_72 {p : Program} {l : Launch} {e : Env} {s : State} {m : MethodId} {args : Array Value} {below : List Frame} {meth : Method} {c : Code} {G : Gd} {B : Nat} (X : Cm p s m args meth c cX3_slackBy 8 RX3 G (some .long)) (c5 : Int32 → Int32 → Int64 → Int32 → Sto → Option (Int64 × Sto)) (k0 : Nat) (h0 : (k0 < layX.2.2 ∧ layX.1 k0 = .inl 3)) {r : Int64} {σr : Sto} (ih5 : ∀ (v1 : Int32) (v2 : Int32) (v3 : Int64) (v5 : Int32) (σ : Sto) (H : Heap) (locs : List Loc) (ls : Array Slot), c5 v1 v2 v3 v5 σ = some (r, σr) → HX G layX B σ H → va_S (inW layX B) s.heap H locs → lv_has ls 8 [(0, .ref (B + k0)), (1, .int v1), (2, .int v2), (3, .long v3), (5, .int v5)] → WM p l e 1 s m args below meth c H locs G layX B (some (.long r)) σr (F0 m 5 ls [])) (v1 : Int32) (v2 : Int32) (v3 : Int64) (v5 : Int32) (σ : Sto) (hf : b_X3_slackBy_72 c5 k0 v1 v2 v3 v5 σ = some (r, σr)) (H : Heap) (locs : List Loc) (hH : HX G layX B σ H) (hS : va_S (inW layX B) s.heap H locs) (ls : Array Slot) (hl : lv_has ls 8 [(0, .ref (B + k0)), (1, .int v1), (2, .int v2), (3, .long v3), (5, .int v5)]) : WM p l e 1 s m args below meth c H locs G layX B (some (.long r)) σr (F0 m 72 ls []) := by
  unfold b_X3_slackBy_72 at hf
  have hx := X.1.1
  have hb := X.1.2.1
  refine lv_lload_n hx hb dX3_slackBy_72 rfl (lv_at hl 3 rfl) ?_
  refine lv_aload_n hx hb dX3_slackBy_73 rfl (lv_at hl 0 rfl) ?_
  refine g_get (v := .ref (B + (k0 + 1))) kX3 (by decide) fl_RX3_9 X.1 hH h0 (cRef h0) dX3_slackBy_74 ?_
  refine lv_iload hx hb dX3_slackBy_77 (lv_at hl 4 rfl) ?_
  obtain ⟨q505, hf⟩ := chk hf
  refine g_lald (j := v5.toNatClampNeg) X.1 hH (cArr h0) q505 rfl dX3_slackBy_79 ?_
  refine g_abs X.1 mt_RX3_44 (by decide) hl (Nat.le_of_ble_eq_true rfl) dX3_slackBy_80 ?_
  refine lv_ladd hx hb dX3_slackBy_83 ?_
  refine lv_topl (fun y506 ey506 => ?_)
  replace hf := nmU hf ey506
  refine lv_lstore_n (lv' := [(3, .long y506), (0, .ref (B + k0)), (1, .int v1), (2, .int v2), (5, .int v5)]) hx hb dX3_slackBy_84 rfl hl (by decide) rfl (fun ls hl => ?_)
  exact w_X3_slackBy_85 X c5 k0 h0 ih5 v1 v2 y506 v5 σ hf _ _ hH hS _ (lv_sub hl [1, 2, 3, 0, 4] rfl)
def b_X3_slackBy_69 (c5 : Int32 → Int32 → Int64 → Int32 → Sto → Option (Int64 × Sto)) (k0 : Nat) (v1 : Int32) (v2 : Int32) (v3 : Int64) (v5 : Int32) (s0 : Int32) (s1 : Int32) (σ : Sto) : Option (Int64 × Sto) :=
  if s1 = s0 then (b_X3_slackBy_72 c5 k0 v1 v2 v3 v5 σ) else (b_X3_slackBy_85 c5 k0 v1 v2 v3 v5 σ)
set_option maxHeartbeats 4000000 in
set_option maxRecDepth 100000 in
theorem w_X3_slackBy_69 {p : Program} {l : Launch} {e : Env} {s : State} {m : MethodId} {args : Array Value} {below : List Frame} {meth : Method} {c : Code} {G : Gd} {B : Nat} (X : Cm p s m args meth c cX3_slackBy 8 RX3 G (some .long)) (c5 : Int32 → Int32 → Int64 → Int32 → Sto → Option (Int64 × Sto)) (k0 : Nat) (h0 : (k0 < layX.2.2 ∧ layX.1 k0 = .inl 3)) {r : Int64} {σr : Sto} (ih5 : ∀ (v1 : Int32) (v2 : Int32) (v3 : Int64) (v5 : Int32) (σ : Sto) (H : Heap) (locs : List Loc) (ls : Array Slot), c5 v1 v2 v3 v5 σ = some (r, σr) → HX G layX B σ H → va_S (inW layX B) s.heap H locs → lv_has ls 8 [(0, .ref (B + k0)), (1, .int v1), (2, .int v2), (3, .long v3), (5, .int v5)] → WM p l e 1 s m args below meth c H locs G layX B (some (.long r)) σr (F0 m 5 ls [])) (v1 : Int32) (v2 : Int32) (v3 : Int64) (v5 : Int32) (s0 : Int32) (s1 : Int32) (σ : Sto) (hf : b_X3_slackBy_69 c5 k0 v1 v2 v3 v5 s0 s1 σ = some (r, σr)) (H : Heap) (locs : List Loc) (hH : HX G layX B σ H) (hS : va_S (inW layX B) s.heap H locs) (ls : Array Slot) (hl : lv_has ls 8 [(0, .ref (B + k0)), (1, .int v1), (2, .int v2), (3, .long v3), (5, .int v5)]) : WM p l e 1 s m args below meth c H locs G layX B (some (.long r)) σr (F0 m 69 ls [.int s0, .int s1]) := by
  unfold b_X3_slackBy_69 at hf
  have hx := X.1.1
  have hb := X.1.2.1
  refine lv_icmp_ne (tgt := 85) hx hb dX3_slackBy_69 (by decide) (fun q709 => ?_) (fun q709 => ?_)
  · replace hf := brF hf q709
    exact w_X3_slackBy_85 X c5 k0 h0 ih5 v1 v2 v3 v5 σ hf _ _ hH hS _ (lv_sub hl [0, 1, 2, 3, 4] rfl)
  · replace hf := brT hf q709
    exact w_X3_slackBy_72 X c5 k0 h0 ih5 v1 v2 v3 v5 σ hf _ _ hH hS _ (lv_sub hl [0, 1, 2, 3, 4] rfl)
def b_X3_slackBy_43 (c5 : Int32 → Int32 → Int64 → Int32 → Sto → Option (Int64 × Sto)) (k0 : Nat) (v1 : Int32) (v2 : Int32) (v3 : Int64) (v5 : Int32) (v6 : Int32) (s0 : Int32) (σ : Sto) : Option (Int64 × Sto) :=
  if s0 = 0 then (if (v5 < 0 ∨ 8 ≤ v5.toNatClampNeg) then none else if (σ.2 (k0 + 1) v5.toNatClampNeg) ≤ (0 : Int64) then (b_X3_slackBy_69 c5 k0 v1 v2 v3 v5 (0 : Int32) v6 σ) else (b_X3_slackBy_69 c5 k0 v1 v2 v3 v5 (1 : Int32) v6 σ)) else (b_X3_slackBy_72 c5 k0 v1 v2 v3 v5 σ)
set_option maxHeartbeats 4000000 in
set_option maxRecDepth 100000 in
theorem w_X3_slackBy_43 {p : Program} {l : Launch} {e : Env} {s : State} {m : MethodId} {args : Array Value} {below : List Frame} {meth : Method} {c : Code} {G : Gd} {B : Nat} (X : Cm p s m args meth c cX3_slackBy 8 RX3 G (some .long)) (c5 : Int32 → Int32 → Int64 → Int32 → Sto → Option (Int64 × Sto)) (k0 : Nat) (h0 : (k0 < layX.2.2 ∧ layX.1 k0 = .inl 3)) {r : Int64} {σr : Sto} (ih5 : ∀ (v1 : Int32) (v2 : Int32) (v3 : Int64) (v5 : Int32) (σ : Sto) (H : Heap) (locs : List Loc) (ls : Array Slot), c5 v1 v2 v3 v5 σ = some (r, σr) → HX G layX B σ H → va_S (inW layX B) s.heap H locs → lv_has ls 8 [(0, .ref (B + k0)), (1, .int v1), (2, .int v2), (3, .long v3), (5, .int v5)] → WM p l e 1 s m args below meth c H locs G layX B (some (.long r)) σr (F0 m 5 ls [])) (v1 : Int32) (v2 : Int32) (v3 : Int64) (v5 : Int32) (v6 : Int32) (s0 : Int32) (σ : Sto) (hf : b_X3_slackBy_43 c5 k0 v1 v2 v3 v5 v6 s0 σ = some (r, σr)) (H : Heap) (locs : List Loc) (hH : HX G layX B σ H) (hS : va_S (inW layX B) s.heap H locs) (ls : Array Slot) (hl : lv_has ls 8 [(0, .ref (B + k0)), (1, .int v1), (2, .int v2), (3, .long v3), (5, .int v5), (6, .int v6)]) : WM p l e 1 s m args below meth c H locs G layX B (some (.long r)) σr (F0 m 43 ls [.int s0]) := by
  unfold b_X3_slackBy_43 at hf
  have hx := X.1.1
  have hb := X.1.2.1
  refine lv_istore (lv' := [(7, .int s0), (0, .ref (B + k0)), (1, .int v1), (2, .int v2), (3, .long v3), (5, .int v5), (6, .int v6)]) hx hb dX3_slackBy_43 hl (by decide) rfl (fun ls hl => ?_)
  refine lv_iload hx hb dX3_slackBy_45 (lv_at hl 0 rfl) ?_
  refine lv_if_ne (tgt := 72) hx hb dX3_slackBy_47 (by decide) (fun q404 => ?_) (fun q404 => ?_)
  · replace hf := brF hf q404
    exact w_X3_slackBy_72 X c5 k0 h0 ih5 v1 v2 v3 v5 σ hf _ _ hH hS _ (lv_sub hl [1, 2, 3, 4, 5] rfl)
  · replace hf := brT hf q404
    refine lv_iload hx hb dX3_slackBy_50 (lv_at hl 6 rfl) ?_
    refine lv_aload_n hx hb dX3_slackBy_52 rfl (lv_at hl 1 rfl) ?_
    refine g_get (v := .ref (B + (k0 + 1))) kX3 (by decide) fl_RX3_9 X.1 hH h0 (cRef h0) dX3_slackBy_53 ?_
    refine lv_iload hx hb dX3_slackBy_56 (lv_at hl 5 rfl) ?_
    obtain ⟨q607, hf⟩ := chk hf
    refine g_lald (j := v5.toNatClampNeg) X.1 hH (cArr h0) q607 rfl dX3_slackBy_58 ?_
    refine lv_lconst (v := 0) hx hb dX3_slackBy_59 (by decide) ?_
    refine g_lle (tgt := 68) X.1 dX3_slackBy_60 dX3_slackBy_61 (by decide) (fun q608 => ?_) (fun q608 => ?_)
    · replace hf := brT hf q608
      refine lv_iconst (v := 0) hx hb dX3_slackBy_68 (by decide) ?_
      exact w_X3_slackBy_69 X c5 k0 h0 ih5 v1 v2 v3 v5 (0 : Int32) v6 σ hf _ _ hH hS _ (lv_sub hl [1, 2, 3, 4, 5] rfl)
    · replace hf := brF hf q608
      refine lv_iconst (v := 1) hx hb dX3_slackBy_64 (by decide) ?_
      refine lv_goto (tgt := 69) hx hb dX3_slackBy_65 (by decide) ?_
      exact w_X3_slackBy_69 X c5 k0 h0 ih5 v1 v2 v3 v5 (1 : Int32) v6 σ hf _ _ hH hS _ (lv_sub hl [1, 2, 3, 4, 5] rfl)
def b_X3_slackBy_27 (c5 : Int32 → Int32 → Int64 → Int32 → Sto → Option (Int64 × Sto)) (k0 : Nat) (v1 : Int32) (v2 : Int32) (v3 : Int64) (v5 : Int32) (s0 : Int32) (σ : Sto) : Option (Int64 × Sto) :=
  if ((v1.toUInt32 >>> (v5.toUInt32 &&& Int32.toUInt32 31)).toInt32 &&& (1 : Int32)) = 0 then (b_X3_slackBy_43 c5 k0 v1 v2 v3 v5 s0 (1 : Int32) σ) else (b_X3_slackBy_43 c5 k0 v1 v2 v3 v5 s0 (0 : Int32) σ)
set_option maxHeartbeats 4000000 in
set_option maxRecDepth 100000 in
theorem w_X3_slackBy_27 {p : Program} {l : Launch} {e : Env} {s : State} {m : MethodId} {args : Array Value} {below : List Frame} {meth : Method} {c : Code} {G : Gd} {B : Nat} (X : Cm p s m args meth c cX3_slackBy 8 RX3 G (some .long)) (c5 : Int32 → Int32 → Int64 → Int32 → Sto → Option (Int64 × Sto)) (k0 : Nat) (h0 : (k0 < layX.2.2 ∧ layX.1 k0 = .inl 3)) {r : Int64} {σr : Sto} (ih5 : ∀ (v1 : Int32) (v2 : Int32) (v3 : Int64) (v5 : Int32) (σ : Sto) (H : Heap) (locs : List Loc) (ls : Array Slot), c5 v1 v2 v3 v5 σ = some (r, σr) → HX G layX B σ H → va_S (inW layX B) s.heap H locs → lv_has ls 8 [(0, .ref (B + k0)), (1, .int v1), (2, .int v2), (3, .long v3), (5, .int v5)] → WM p l e 1 s m args below meth c H locs G layX B (some (.long r)) σr (F0 m 5 ls [])) (v1 : Int32) (v2 : Int32) (v3 : Int64) (v5 : Int32) (s0 : Int32) (σ : Sto) (hf : b_X3_slackBy_27 c5 k0 v1 v2 v3 v5 s0 σ = some (r, σr)) (H : Heap) (locs : List Loc) (hH : HX G layX B σ H) (hS : va_S (inW layX B) s.heap H locs) (ls : Array Slot) (hl : lv_has ls 8 [(0, .ref (B + k0)), (1, .int v1), (2, .int v2), (3, .long v3), (5, .int v5)]) : WM p l e 1 s m args below meth c H locs G layX B (some (.long r)) σr (F0 m 27 ls [.int s0]) := by
  unfold b_X3_slackBy_27 at hf
  have hx := X.1.1
  have hb := X.1.2.1
  refine lv_istore (lv' := [(6, .int s0), (0, .ref (B + k0)), (1, .int v1), (2, .int v2), (3, .long v3), (5, .int v5)]) hx hb dX3_slackBy_27 hl (by decide) rfl (fun ls hl => ?_)
  refine lv_iload_n hx hb dX3_slackBy_29 rfl (lv_at hl 2 rfl) ?_
  refine lv_iload hx hb dX3_slackBy_30 (lv_at hl 5 rfl) ?_
  refine lv_iushr hx hb dX3_slackBy_32 rfl ?_
  refine lv_iconst (v := 1) hx hb dX3_slackBy_33 (by decide) ?_
  refine lv_iand hx hb dX3_slackBy_34 ?_
  refine lv_if_ne (tgt := 42) hx hb dX3_slackBy_35 (by decide) (fun q303 => ?_) (fun q303 => ?_)
  · replace hf := brF hf q303
    refine lv_iconst (v := 0) hx hb dX3_slackBy_42 (by decide) ?_
    exact w_X3_slackBy_43 X c5 k0 h0 ih5 v1 v2 v3 v5 s0 (0 : Int32) σ hf _ _ hH hS _ (lv_sub hl [1, 2, 3, 4, 5, 0] rfl)
  · replace hf := brT hf q303
    refine lv_iconst (v := 1) hx hb dX3_slackBy_38 (by decide) ?_
    refine lv_goto (tgt := 43) hx hb dX3_slackBy_39 (by decide) ?_
    exact w_X3_slackBy_43 X c5 k0 h0 ih5 v1 v2 v3 v5 s0 (1 : Int32) σ hf _ _ hH hS _ (lv_sub hl [1, 2, 3, 4, 5, 0] rfl)
def b_X3_slackBy_5 (c5 : Int32 → Int32 → Int64 → Int32 → Sto → Option (Int64 × Sto)) (k0 : Nat) (v1 : Int32) (v2 : Int32) (v3 : Int64) (v5 : Int32) (σ : Sto) : Option (Int64 × Sto) :=
  if (8 : Int32) ≤ v5 then (some ((v3 - (σ.2 k0 2)), σ)) else (if ((v2.toUInt32 >>> (v5.toUInt32 &&& Int32.toUInt32 31)).toInt32 &&& (1 : Int32)) = (1 : Int32) then (b_X3_slackBy_27 c5 k0 v1 v2 v3 v5 (1 : Int32) σ) else (b_X3_slackBy_27 c5 k0 v1 v2 v3 v5 (0 : Int32) σ))
set_option maxHeartbeats 4000000 in
set_option maxRecDepth 100000 in
theorem w_X3_slackBy_5 {p : Program} {l : Launch} {e : Env} {s : State} {m : MethodId} {args : Array Value} {below : List Frame} {meth : Method} {c : Code} {G : Gd} {B : Nat} (X : Cm p s m args meth c cX3_slackBy 8 RX3 G (some .long)) (c5 : Int32 → Int32 → Int64 → Int32 → Sto → Option (Int64 × Sto)) (k0 : Nat) (h0 : (k0 < layX.2.2 ∧ layX.1 k0 = .inl 3)) {r : Int64} {σr : Sto} (ih5 : ∀ (v1 : Int32) (v2 : Int32) (v3 : Int64) (v5 : Int32) (σ : Sto) (H : Heap) (locs : List Loc) (ls : Array Slot), c5 v1 v2 v3 v5 σ = some (r, σr) → HX G layX B σ H → va_S (inW layX B) s.heap H locs → lv_has ls 8 [(0, .ref (B + k0)), (1, .int v1), (2, .int v2), (3, .long v3), (5, .int v5)] → WM p l e 1 s m args below meth c H locs G layX B (some (.long r)) σr (F0 m 5 ls [])) (v1 : Int32) (v2 : Int32) (v3 : Int64) (v5 : Int32) (σ : Sto) (hf : b_X3_slackBy_5 c5 k0 v1 v2 v3 v5 σ = some (r, σr)) (H : Heap) (locs : List Loc) (hH : HX G layX B σ H) (hS : va_S (inW layX B) s.heap H locs) (ls : Array Slot) (hl : lv_has ls 8 [(0, .ref (B + k0)), (1, .int v1), (2, .int v2), (3, .long v3), (5, .int v5)]) : WM p l e 1 s m args below meth c H locs G layX B (some (.long r)) σr (F0 m 5 ls []) := by
  unfold b_X3_slackBy_5 at hf
  have hx := X.1.1
  have hb := X.1.2.1
  refine lv_iload hx hb dX3_slackBy_5 (lv_at hl 4 rfl) ?_
  refine lv_bipush (v := 8) hx hb dX3_slackBy_7 (by decide) ?_
  refine lv_icmp_ge (tgt := 91) hx hb dX3_slackBy_9 (by decide) (fun q201 => ?_) (fun q201 => ?_)
  · replace hf := brT hf q201
    refine lv_lload_n hx hb dX3_slackBy_91 rfl (lv_at hl 3 rfl) ?_
    refine lv_aload_n hx hb dX3_slackBy_92 rfl (lv_at hl 0 rfl) ?_
    refine g_get (v := .long (σ.2 k0 2)) kX3 (by decide) fl_RX3_25 X.1 hH h0 rfl dX3_slackBy_93 ?_
    refine lv_lsub hx hb dX3_slackBy_96 ?_
    obtain ⟨rfl, rfl⟩ := rt2 hf
    exact g_lret X hH hS dX3_slackBy_97
  · replace hf := brF hf q201
    refine lv_iload_n hx hb dX3_slackBy_12 rfl (lv_at hl 2 rfl) ?_
    refine lv_iload hx hb dX3_slackBy_13 (lv_at hl 4 rfl) ?_
    refine lv_iushr hx hb dX3_slackBy_15 rfl ?_
    refine lv_iconst (v := 1) hx hb dX3_slackBy_16 (by decide) ?_
    refine lv_iand hx hb dX3_slackBy_17 ?_
    refine lv_iconst (v := 1) hx hb dX3_slackBy_18 (by decide) ?_
    refine lv_icmp_ne (tgt := 26) hx hb dX3_slackBy_19 (by decide) (fun q202 => ?_) (fun q202 => ?_)
    · replace hf := brF hf q202
      refine lv_iconst (v := 0) hx hb dX3_slackBy_26 (by decide) ?_
      exact w_X3_slackBy_27 X c5 k0 h0 ih5 v1 v2 v3 v5 (0 : Int32) σ hf _ _ hH hS _ (lv_sub hl [0, 1, 2, 3, 4] rfl)
    · replace hf := brT hf q202
      refine lv_iconst (v := 1) hx hb dX3_slackBy_22 (by decide) ?_
      refine lv_goto (tgt := 27) hx hb dX3_slackBy_23 (by decide) ?_
      exact w_X3_slackBy_27 X c5 k0 h0 ih5 v1 v2 v3 v5 (1 : Int32) σ hf _ _ hH hS _ (lv_sub hl [0, 1, 2, 3, 4] rfl)
def l_X3_slackBy_5 (k0 : Nat) : Nat → Int32 → Int32 → Int64 → Int32 → Sto → Option (Int64 × Sto)
  | 0, _, _, _, _, _ => none
  | n + 1, v1, v2, v3, v5, σ => b_X3_slackBy_5 (l_X3_slackBy_5 k0 n) k0 v1 v2 v3 v5 σ
set_option maxHeartbeats 4000000 in
set_option maxRecDepth 100000 in
theorem wl_X3_slackBy_5 {p : Program} {l : Launch} {e : Env} {s : State} {m : MethodId} {args : Array Value} {below : List Frame} {meth : Method} {c : Code} {G : Gd} {B : Nat} (X : Cm p s m args meth c cX3_slackBy 8 RX3 G (some .long)) (k0 : Nat) (h0 : (k0 < layX.2.2 ∧ layX.1 k0 = .inl 3)) {r : Int64} {σr : Sto} (n : Nat) : ∀ (v1 : Int32) (v2 : Int32) (v3 : Int64) (v5 : Int32) (σ : Sto) (H : Heap) (locs : List Loc) (ls : Array Slot), l_X3_slackBy_5 k0 n v1 v2 v3 v5 σ = some (r, σr) → HX G layX B σ H → va_S (inW layX B) s.heap H locs → lv_has ls 8 [(0, .ref (B + k0)), (1, .int v1), (2, .int v2), (3, .long v3), (5, .int v5)] → WM p l e 1 s m args below meth c H locs G layX B (some (.long r)) σr (F0 m 5 ls []) := by
  induction n with
  | zero =>
    intro _ _ _ _ σ H locs ls hf
    cases hf
  | succ n ih =>
    intro v1 v2 v3 v5 σ H locs ls hf hH hS hl
    exact w_X3_slackBy_5 X (l_X3_slackBy_5 k0 n) k0 h0 ih v1 v2 v3 v5 σ hf H locs hH hS ls hl
def f_X3_slackBy (k0 : Nat) (x1 : Int32) (x2 : Int32) (σ : Sto) : Option (Int64 × Sto) :=
  l_X3_slackBy_5 k0 400 x1 x2 (0 : Int64) (0 : Int32) σ
set_option maxHeartbeats 4000000 in
set_option maxRecDepth 100000 in
theorem w_X3_slackBy {p : Program} {l : Launch} {e : Env} {s : State} {m : MethodId} {args : Array Value} {below : List Frame} {meth : Method} {c : Code} {G : Gd} {B : Nat} (X : Cm p s m args meth c cX3_slackBy 8 RX3 G (some .long)) (k0 : Nat) (h0 : (k0 < layX.2.2 ∧ layX.1 k0 = .inl 3)) {r : Int64} {σr : Sto} (x1 : Int32) (x2 : Int32) (σ : Sto) (hf : f_X3_slackBy k0 x1 x2 σ = some (r, σr)) (H : Heap) (locs : List Loc) (hH : HX G layX B σ H) (hS : va_S (inW layX B) s.heap H locs) (ls : Array Slot) (hl : lv_has ls 8 [(0, .ref (B + k0)), (1, .int x1), (2, .int x2)]) : WM p l e 1 s m args below meth c H locs G layX B (some (.long r)) σr (F0 m 0 ls []) := by
  unfold f_X3_slackBy at hf
  have hx := X.1.1
  have hb := X.1.2.1
  refine lv_lconst (v := 0) hx hb dX3_slackBy_0 (by decide) ?_
  refine lv_lstore_n (lv' := [(3, .long (0 : Int64)), (0, .ref (B + k0)), (1, .int x1), (2, .int x2)]) hx hb dX3_slackBy_1 rfl hl (by decide) rfl (fun ls hl => ?_)
  refine lv_iconst (v := 0) hx hb dX3_slackBy_2 (by decide) ?_
  refine lv_istore (lv' := [(5, .int (0 : Int32)), (3, .long (0 : Int64)), (0, .ref (B + k0)), (1, .int x1), (2, .int x2)]) hx hb dX3_slackBy_3 hl (by decide) rfl (fun ls hl => ?_)
  exact wl_X3_slackBy_5 X k0 h0 400 x1 x2 (0 : Int64) (0 : Int32) σ _ _ _ hf hH hS (lv_sub hl [2, 3, 4, 1, 0] rfl)
theorem c_X3_slackBy (l : Launch) (G : Gd) (B : Nat) (k0 : Nat) (h0 : (k0 < layX.2.2 ∧ layX.1 k0 = .inl 3)) (x1 : Int32) (x2 : Int32) (σ σr : Sto) (r : Int64) (hf : f_X3_slackBy k0 x1 x2 σ = some (r, σr)) : Ct l G layX B yX3_slackBy cX3_slackBy 8 (some .long) 1 [.ref (B + k0), .int x1, .int x2] (some (.long r)) σ σr :=
  Ct.ofW (by decide) (Nat.le_of_ble_eq_true rfl) (fun _ _ _ _ _ _ _ X hH hS ls hl => w_X3_slackBy X k0 h0 x1 x2 σ hf _ _ hH hS ls (show lv_has ls 8 [(0, .ref (B + k0)), (1, .int x1), (2, .int x2)] from hl))
-- SlackProofs$Clause.holdsBy(I)Z  (D 2)
def b_X3_holdsBy_18 (k0 : Nat) (s0 : Int32) (σ : Sto) : Option (Int32 × Sto) :=
  if ¬ (s0 = 0 ∨ s0 = 1) then none else some (s0, σ)
set_option maxHeartbeats 4000000 in
set_option maxRecDepth 100000 in
theorem w_X3_holdsBy_18 {p : Program} {l : Launch} {e : Env} {s : State} {m : MethodId} {args : Array Value} {below : List Frame} {meth : Method} {c : Code} {G : Gd} {B : Nat} (X : Cm p s m args meth c cX3_holdsBy 2 RX3 G (some .boolean)) (k0 : Nat) (h0 : (k0 < layX.2.2 ∧ layX.1 k0 = .inl 3)) {r : Int32} {σr : Sto} (s0 : Int32) (σ : Sto) (hf : b_X3_holdsBy_18 k0 s0 σ = some (r, σr)) (H : Heap) (locs : List Loc) (hH : HX G layX B σ H) (hS : va_S (inW layX B) s.heap H locs) (ls : Array Slot) (hl : lv_has ls 2 []) : WM p l e 2 s m args below meth c H locs G layX B (some (.int r)) σr (F0 m 18 ls [.int s0]) := by
  unfold b_X3_holdsBy_18 at hf
  have hx := X.1.1
  have hb := X.1.2.1
  obtain ⟨q204, hf⟩ := chk hf
  obtain ⟨rfl, rfl⟩ := rt2 hf
  exact g_zret X hH hS (Decidable.not_not.mp q204) dX3_holdsBy_18
def f_X3_holdsBy (k0 : Nat) (x1 : Int32) (σ : Sto) : Option (Int32 × Sto) :=
  bd2 (f_X3_slackBy k0 (255 : Int32) x1 σ) fun r102 σ101 => if r102 < (0 : Int64) then (b_X3_holdsBy_18 k0 (0 : Int32) σ101) else (b_X3_holdsBy_18 k0 (1 : Int32) σ101)
set_option maxHeartbeats 4000000 in
set_option maxRecDepth 100000 in
theorem w_X3_holdsBy {p : Program} {l : Launch} {e : Env} {s : State} {m : MethodId} {args : Array Value} {below : List Frame} {meth : Method} {c : Code} {G : Gd} {B : Nat} (X : Cm p s m args meth c cX3_holdsBy 2 RX3 G (some .boolean)) (k0 : Nat) (h0 : (k0 < layX.2.2 ∧ layX.1 k0 = .inl 3)) {r : Int32} {σr : Sto} (x1 : Int32) (σ : Sto) (hf : f_X3_holdsBy k0 x1 σ = some (r, σr)) (H : Heap) (locs : List Loc) (hH : HX G layX B σ H) (hS : va_S (inW layX B) s.heap H locs) (ls : Array Slot) (hl : lv_has ls 2 [(0, .ref (B + k0)), (1, .int x1)]) : WM p l e 2 s m args below meth c H locs G layX B (some (.int r)) σr (F0 m 0 ls []) := by
  unfold f_X3_holdsBy at hf
  have hx := X.1.1
  have hb := X.1.2.1
  refine lv_aload_n hx hb dX3_holdsBy_0 rfl (lv_at hl 0 rfl) ?_
  refine lv_sipush (v := 255) hx hb dX3_holdsBy_1 (by decide) ?_
  refine lv_iload_n hx hb dX3_holdsBy_4 rfl (lv_at hl 1 rfl) ?_
  obtain ⟨r102, σ101, eσ101, hf⟩ := bnd2 hf
  refine g_cVl (As := [.int (255 : Int32), .int x1]) X.1 hH hS (c_X3_slackBy l G B k0 h0 (255 : Int32) x1 σ σ101 r102 eσ101) kw_RX3_78 kX3 h0 (by decide) rfl hl (Nat.le_of_ble_eq_true rfl) rfl dX3_holdsBy_5 (fun H locs hH hS => ?_)
  refine lv_lconst (v := 0) hx hb dX3_holdsBy_8 (by decide) ?_
  refine g_llt (tgt := 17) X.1 dX3_holdsBy_9 dX3_holdsBy_10 (by decide) (fun q103 => ?_) (fun q103 => ?_)
  · replace hf := brT hf q103
    refine lv_iconst (v := 0) hx hb dX3_holdsBy_17 (by decide) ?_
    exact w_X3_holdsBy_18 X k0 h0 (0 : Int32) σ101 hf _ _ hH hS _ (lv_sub hl [] rfl)
  · replace hf := brF hf q103
    refine lv_iconst (v := 1) hx hb dX3_holdsBy_13 (by decide) ?_
    refine lv_goto (tgt := 18) hx hb dX3_holdsBy_14 (by decide) ?_
    exact w_X3_holdsBy_18 X k0 h0 (1 : Int32) σ101 hf _ _ hH hS _ (lv_sub hl [] rfl)
theorem c_X3_holdsBy (l : Launch) (G : Gd) (B : Nat) (k0 : Nat) (h0 : (k0 < layX.2.2 ∧ layX.1 k0 = .inl 3)) (x1 : Int32) (σ σr : Sto) (r : Int32) (hf : f_X3_holdsBy k0 x1 σ = some (r, σr)) : Ct l G layX B yX3_holdsBy cX3_holdsBy 2 (some .boolean) 2 [.ref (B + k0), .int x1] (some (.int r)) σ σr :=
  Ct.ofW (by decide) (Nat.le_of_ble_eq_true rfl) (fun _ _ _ _ _ _ _ X hH hS ls hl => w_X3_holdsBy X k0 h0 x1 σ hf _ _ hH hS ls (show lv_has ls 2 [(0, .ref (B + k0)), (1, .int x1)] from hl))
-- SlackProofs$Book.allHold(I)Z  (D 3)
def b_X2_allHold_33 (c2 : Int32 → Int32 → Sto → Option (Int32 × Sto)) (k0 : Nat) (v1 : Int32) (v2 : Int32) (σ : Sto) : Option (Int32 × Sto) :=
  c2 v1 (v2 + (1 : Int32)) σ
set_option maxHeartbeats 4000000 in
set_option maxRecDepth 100000 in
theorem w_X2_allHold_33 {p : Program} {l : Launch} {e : Env} {s : State} {m : MethodId} {args : Array Value} {below : List Frame} {meth : Method} {c : Code} {G : Gd} {B : Nat} (X : Cm p s m args meth c cX2_allHold 3 RX2 G (some .boolean)) (c2 : Int32 → Int32 → Sto → Option (Int32 × Sto)) (k0 : Nat) (h0 : (k0 < layX.2.2 ∧ layX.1 k0 = .inl 2)) {r : Int32} {σr : Sto} (ih2 : ∀ (v1 : Int32) (v2 : Int32) (σ : Sto) (H : Heap) (locs : List Loc) (ls : Array Slot), c2 v1 v2 σ = some (r, σr) → HX G layX B σ H → va_S (inW layX B) s.heap H locs → lv_has ls 3 [(0, .ref (B + k0)), (1, .int v1), (2, .int v2)] → WM p l e 3 s m args below meth c H locs G layX B (some (.int r)) σr (F0 m 2 ls [])) (v1 : Int32) (v2 : Int32) (σ : Sto) (hf : b_X2_allHold_33 c2 k0 v1 v2 σ = some (r, σr)) (H : Heap) (locs : List Loc) (hH : HX G layX B σ H) (hS : va_S (inW layX B) s.heap H locs) (ls : Array Slot) (hl : lv_has ls 3 [(0, .ref (B + k0)), (1, .int v1), (2, .int v2)]) : WM p l e 3 s m args below meth c H locs G layX B (some (.int r)) σr (F0 m 33 ls []) := by
  unfold b_X2_allHold_33 at hf
  have hx := X.1.1
  have hb := X.1.2.1
  refine lv_iinc (v := (v2 + (1 : Int32))) (lv' := [(2, .int (v2 + (1 : Int32))), (0, .ref (B + k0)), (1, .int v1)]) hx hb dX2_allHold_33 hl (k := 2) rfl rfl (by decide) rfl (fun ls hl => ?_)
  refine lv_goto (tgt := 2) hx hb dX2_allHold_36 (by decide) ?_
  exact ih2 v1 (v2 + (1 : Int32)) σ _ _ _ hf hH hS (lv_sub hl [1, 2, 0] rfl)
def b_X2_allHold_2 (c2 : Int32 → Int32 → Sto → Option (Int32 × Sto)) (k0 : Nat) (v1 : Int32) (v2 : Int32) (σ : Sto) : Option (Int32 × Sto) :=
  if (σ.1 k0 3) ≤ v2 then (some ((1 : Int32), σ)) else (bd2 (f_X2_isLive k0 v2 σ) fun r203 σ202 => if r203 = 0 then (b_X2_allHold_33 c2 k0 v1 v2 σ202) else (if (v2 < 0 ∨ 30 ≤ v2.toNatClampNeg) then none else bd2 (f_X3_holdsBy (k0 + 3 + 2 * v2.toNatClampNeg) v1 σ202) fun r307 σ306 => if r307 = 0 then (some ((0 : Int32), σ306)) else (b_X2_allHold_33 c2 k0 v1 v2 σ306)))
set_option maxHeartbeats 4000000 in
set_option maxRecDepth 100000 in
theorem w_X2_allHold_2 {p : Program} {l : Launch} {e : Env} {s : State} {m : MethodId} {args : Array Value} {below : List Frame} {meth : Method} {c : Code} {G : Gd} {B : Nat} (X : Cm p s m args meth c cX2_allHold 3 RX2 G (some .boolean)) (c2 : Int32 → Int32 → Sto → Option (Int32 × Sto)) (k0 : Nat) (h0 : (k0 < layX.2.2 ∧ layX.1 k0 = .inl 2)) {r : Int32} {σr : Sto} (ih2 : ∀ (v1 : Int32) (v2 : Int32) (σ : Sto) (H : Heap) (locs : List Loc) (ls : Array Slot), c2 v1 v2 σ = some (r, σr) → HX G layX B σ H → va_S (inW layX B) s.heap H locs → lv_has ls 3 [(0, .ref (B + k0)), (1, .int v1), (2, .int v2)] → WM p l e 3 s m args below meth c H locs G layX B (some (.int r)) σr (F0 m 2 ls [])) (v1 : Int32) (v2 : Int32) (σ : Sto) (hf : b_X2_allHold_2 c2 k0 v1 v2 σ = some (r, σr)) (H : Heap) (locs : List Loc) (hH : HX G layX B σ H) (hS : va_S (inW layX B) s.heap H locs) (ls : Array Slot) (hl : lv_has ls 3 [(0, .ref (B + k0)), (1, .int v1), (2, .int v2)]) : WM p l e 3 s m args below meth c H locs G layX B (some (.int r)) σr (F0 m 2 ls []) := by
  unfold b_X2_allHold_2 at hf
  have hx := X.1.1
  have hb := X.1.2.1
  refine lv_iload_n hx hb dX2_allHold_2 rfl (lv_at hl 2 rfl) ?_
  refine lv_aload_n hx hb dX2_allHold_3 rfl (lv_at hl 0 rfl) ?_
  refine g_get (v := .int (σ.1 k0 3)) kX2 (by decide) fl_RX2_39 X.1 hH h0 rfl dX2_allHold_4 ?_
  refine lv_icmp_ge (tgt := 39) hx hb dX2_allHold_7 (by decide) (fun q201 => ?_) (fun q201 => ?_)
  · replace hf := brT hf q201
    refine lv_iconst (v := 1) hx hb dX2_allHold_39 (by decide) ?_
    obtain ⟨rfl, rfl⟩ := rt2 hf
    exact g_zret X hH hS (by decide) dX2_allHold_40
  · replace hf := brF hf q201
    refine lv_aload_n hx hb dX2_allHold_10 rfl (lv_at hl 0 rfl) ?_
    refine lv_iload_n hx hb dX2_allHold_11 rfl (lv_at hl 2 rfl) ?_
    obtain ⟨r203, σ202, eσ202, hf⟩ := bnd2 hf
    refine g_cVi (As := [.int v2]) X.1 hH hS (c_X2_isLive l G B k0 h0 v2 σ σ202 r203 eσ202) kw_RX2_53 kX2 h0 (by decide) rfl hl (Nat.le_of_ble_eq_true rfl) rfl dX2_allHold_12 (fun H locs hH hS => ?_)
    refine lv_if_eq (tgt := 33) hx hb dX2_allHold_15 (by decide) (fun q204 => ?_) (fun q204 => ?_)
    · replace hf := brT hf q204
      exact w_X2_allHold_33 X c2 k0 h0 ih2 v1 v2 σ202 hf _ _ hH hS _ (lv_sub hl [0, 1, 2] rfl)
    · replace hf := brF hf q204
      refine lv_aload_n hx hb dX2_allHold_18 rfl (lv_at hl 0 rfl) ?_
      refine g_get (v := .ref (B + (k0 + 1))) kX2 (by decide) fl_RX2_11 X.1 hH h0 (bRef0 h0) dX2_allHold_19 ?_
      refine lv_iload_n hx hb dX2_allHold_22 rfl (lv_at hl 2 rfl) ?_
      obtain ⟨q305, hf⟩ := chk hf
      refine g_aald (b := (k0 + 3 + 2 * v2.toNatClampNeg)) X.1 hH (bArr h0) (by decide) q305 (bRf h0 q305) dX2_allHold_23 ?_
      refine lv_iload_n hx hb dX2_allHold_24 rfl (lv_at hl 1 rfl) ?_
      obtain ⟨r307, σ306, eσ306, hf⟩ := bnd2 hf
      refine g_cVi (As := [.int v1]) X.1 hH hS (c_X3_holdsBy l G B (k0 + 3 + 2 * v2.toNatClampNeg) (bCl h0 q305) v1 σ202 σ306 r307 eσ306) kw_RX2_72 kX3 (bCl h0 q305) (by decide) rfl hl (Nat.le_of_ble_eq_true rfl) rfl dX2_allHold_25 (fun H locs hH hS => ?_)
      refine lv_if_ne (tgt := 33) hx hb dX2_allHold_28 (by decide) (fun q308 => ?_) (fun q308 => ?_)
      · replace hf := brF hf q308
        exact w_X2_allHold_33 X c2 k0 h0 ih2 v1 v2 σ306 hf _ _ hH hS _ (lv_sub hl [0, 1, 2] rfl)
      · replace hf := brT hf q308
        refine lv_iconst (v := 0) hx hb dX2_allHold_31 (by decide) ?_
        obtain ⟨rfl, rfl⟩ := rt2 hf
        exact g_zret X hH hS (by decide) dX2_allHold_32
def l_X2_allHold_2 (k0 : Nat) : Nat → Int32 → Int32 → Sto → Option (Int32 × Sto)
  | 0, _, _, _ => none
  | n + 1, v1, v2, σ => b_X2_allHold_2 (l_X2_allHold_2 k0 n) k0 v1 v2 σ
set_option maxHeartbeats 4000000 in
set_option maxRecDepth 100000 in
theorem wl_X2_allHold_2 {p : Program} {l : Launch} {e : Env} {s : State} {m : MethodId} {args : Array Value} {below : List Frame} {meth : Method} {c : Code} {G : Gd} {B : Nat} (X : Cm p s m args meth c cX2_allHold 3 RX2 G (some .boolean)) (k0 : Nat) (h0 : (k0 < layX.2.2 ∧ layX.1 k0 = .inl 2)) {r : Int32} {σr : Sto} (n : Nat) : ∀ (v1 : Int32) (v2 : Int32) (σ : Sto) (H : Heap) (locs : List Loc) (ls : Array Slot), l_X2_allHold_2 k0 n v1 v2 σ = some (r, σr) → HX G layX B σ H → va_S (inW layX B) s.heap H locs → lv_has ls 3 [(0, .ref (B + k0)), (1, .int v1), (2, .int v2)] → WM p l e 3 s m args below meth c H locs G layX B (some (.int r)) σr (F0 m 2 ls []) := by
  induction n with
  | zero =>
    intro _ _ σ H locs ls hf
    cases hf
  | succ n ih =>
    intro v1 v2 σ H locs ls hf hH hS hl
    exact w_X2_allHold_2 X (l_X2_allHold_2 k0 n) k0 h0 ih v1 v2 σ hf H locs hH hS ls hl
def f_X2_allHold (k0 : Nat) (x1 : Int32) (σ : Sto) : Option (Int32 × Sto) :=
  l_X2_allHold_2 k0 400 x1 (0 : Int32) σ
set_option maxHeartbeats 4000000 in
set_option maxRecDepth 100000 in
theorem w_X2_allHold {p : Program} {l : Launch} {e : Env} {s : State} {m : MethodId} {args : Array Value} {below : List Frame} {meth : Method} {c : Code} {G : Gd} {B : Nat} (X : Cm p s m args meth c cX2_allHold 3 RX2 G (some .boolean)) (k0 : Nat) (h0 : (k0 < layX.2.2 ∧ layX.1 k0 = .inl 2)) {r : Int32} {σr : Sto} (x1 : Int32) (σ : Sto) (hf : f_X2_allHold k0 x1 σ = some (r, σr)) (H : Heap) (locs : List Loc) (hH : HX G layX B σ H) (hS : va_S (inW layX B) s.heap H locs) (ls : Array Slot) (hl : lv_has ls 3 [(0, .ref (B + k0)), (1, .int x1)]) : WM p l e 3 s m args below meth c H locs G layX B (some (.int r)) σr (F0 m 0 ls []) := by
  unfold f_X2_allHold at hf
  have hx := X.1.1
  have hb := X.1.2.1
  refine lv_iconst (v := 0) hx hb dX2_allHold_0 (by decide) ?_
  refine lv_istore_n (lv' := [(2, .int (0 : Int32)), (0, .ref (B + k0)), (1, .int x1)]) hx hb dX2_allHold_1 rfl hl (by decide) rfl (fun ls hl => ?_)
  exact wl_X2_allHold_2 X k0 h0 400 x1 (0 : Int32) σ _ _ _ hf hH hS (lv_sub hl [1, 2, 0] rfl)
theorem c_X2_allHold (l : Launch) (G : Gd) (B : Nat) (k0 : Nat) (h0 : (k0 < layX.2.2 ∧ layX.1 k0 = .inl 2)) (x1 : Int32) (σ σr : Sto) (r : Int32) (hf : f_X2_allHold k0 x1 σ = some (r, σr)) : Ct l G layX B yX2_allHold cX2_allHold 3 (some .boolean) 3 [.ref (B + k0), .int x1] (some (.int r)) σ σr :=
  Ct.ofW (by decide) (Nat.le_of_ble_eq_true rfl) (fun _ _ _ _ _ _ _ X hH hS ls hl => w_X2_allHold X k0 h0 x1 σ hf _ _ hH hS ls (show lv_has ls 3 [(0, .ref (B + k0)), (1, .int x1)] from hl))
-- SlackProofs$Book.priceOf(I)I  (D 0)
def b_X2_priceOf_28 (c4 : Int32 → Int32 → Int32 → Sto → Option (Int32 × Sto)) (k0 : Nat) (v1 : Int32) (v2 : Int32) (v3 : Int32) (σ : Sto) : Option (Int32 × Sto) :=
  c4 v1 v2 (v3 + (1 : Int32)) σ
set_option maxHeartbeats 4000000 in
set_option maxRecDepth 100000 in
theorem w_X2_priceOf_28 {p : Program} {l : Launch} {e : Env} {s : State} {m : MethodId} {args : Array Value} {below : List Frame} {meth : Method} {c : Code} {G : Gd} {B : Nat} (X : Cm p s m args meth c cX2_priceOf 4 RX2 G (some .int)) (c4 : Int32 → Int32 → Int32 → Sto → Option (Int32 × Sto)) (k0 : Nat) (h0 : (k0 < layX.2.2 ∧ layX.1 k0 = .inl 2)) {r : Int32} {σr : Sto} (ih4 : ∀ (v1 : Int32) (v2 : Int32) (v3 : Int32) (σ : Sto) (H : Heap) (locs : List Loc) (ls : Array Slot), c4 v1 v2 v3 σ = some (r, σr) → HX G layX B σ H → va_S (inW layX B) s.heap H locs → lv_has ls 4 [(0, .ref (B + k0)), (1, .int v1), (2, .int v2), (3, .int v3)] → WM p l e 0 s m args below meth c H locs G layX B (some (.int r)) σr (F0 m 4 ls [])) (v1 : Int32) (v2 : Int32) (v3 : Int32) (σ : Sto) (hf : b_X2_priceOf_28 c4 k0 v1 v2 v3 σ = some (r, σr)) (H : Heap) (locs : List Loc) (hH : HX G layX B σ H) (hS : va_S (inW layX B) s.heap H locs) (ls : Array Slot) (hl : lv_has ls 4 [(0, .ref (B + k0)), (1, .int v1), (2, .int v2), (3, .int v3)]) : WM p l e 0 s m args below meth c H locs G layX B (some (.int r)) σr (F0 m 28 ls []) := by
  unfold b_X2_priceOf_28 at hf
  have hx := X.1.1
  have hb := X.1.2.1
  refine lv_iinc (v := (v3 + (1 : Int32))) (lv' := [(3, .int (v3 + (1 : Int32))), (0, .ref (B + k0)), (1, .int v1), (2, .int v2)]) hx hb dX2_priceOf_28 hl (k := 3) rfl rfl (by decide) rfl (fun ls hl => ?_)
  refine lv_goto (tgt := 4) hx hb dX2_priceOf_31 (by decide) ?_
  exact ih4 v1 v2 (v3 + (1 : Int32)) σ _ _ _ hf hH hS (lv_sub hl [1, 2, 3, 0] rfl)
def b_X2_priceOf_4 (c4 : Int32 → Int32 → Int32 → Sto → Option (Int32 × Sto)) (k0 : Nat) (v1 : Int32) (v2 : Int32) (v3 : Int32) (σ : Sto) : Option (Int32 × Sto) :=
  if (8 : Int32) ≤ v3 then (some (v2, σ)) else (if ((v1.toUInt32 >>> (v3.toUInt32 &&& Int32.toUInt32 31)).toInt32 &&& (1 : Int32)) = (1 : Int32) then (if (v3 < 0 ∨ 8 ≤ v3.toNatClampNeg) then none else nmS (v2 + (σ.1 (k0 + 2) v3.toNatClampNeg)) fun y304 => b_X2_priceOf_28 c4 k0 v1 y304 v3 σ) else (b_X2_priceOf_28 c4 k0 v1 v2 v3 σ))
set_option maxHeartbeats 4000000 in
set_option maxRecDepth 100000 in
theorem w_X2_priceOf_4 {p : Program} {l : Launch} {e : Env} {s : State} {m : MethodId} {args : Array Value} {below : List Frame} {meth : Method} {c : Code} {G : Gd} {B : Nat} (X : Cm p s m args meth c cX2_priceOf 4 RX2 G (some .int)) (c4 : Int32 → Int32 → Int32 → Sto → Option (Int32 × Sto)) (k0 : Nat) (h0 : (k0 < layX.2.2 ∧ layX.1 k0 = .inl 2)) {r : Int32} {σr : Sto} (ih4 : ∀ (v1 : Int32) (v2 : Int32) (v3 : Int32) (σ : Sto) (H : Heap) (locs : List Loc) (ls : Array Slot), c4 v1 v2 v3 σ = some (r, σr) → HX G layX B σ H → va_S (inW layX B) s.heap H locs → lv_has ls 4 [(0, .ref (B + k0)), (1, .int v1), (2, .int v2), (3, .int v3)] → WM p l e 0 s m args below meth c H locs G layX B (some (.int r)) σr (F0 m 4 ls [])) (v1 : Int32) (v2 : Int32) (v3 : Int32) (σ : Sto) (hf : b_X2_priceOf_4 c4 k0 v1 v2 v3 σ = some (r, σr)) (H : Heap) (locs : List Loc) (hH : HX G layX B σ H) (hS : va_S (inW layX B) s.heap H locs) (ls : Array Slot) (hl : lv_has ls 4 [(0, .ref (B + k0)), (1, .int v1), (2, .int v2), (3, .int v3)]) : WM p l e 0 s m args below meth c H locs G layX B (some (.int r)) σr (F0 m 4 ls []) := by
  unfold b_X2_priceOf_4 at hf
  have hx := X.1.1
  have hb := X.1.2.1
  refine lv_iload_n hx hb dX2_priceOf_4 rfl (lv_at hl 3 rfl) ?_
  refine lv_bipush (v := 8) hx hb dX2_priceOf_5 (by decide) ?_
  refine lv_icmp_ge (tgt := 34) hx hb dX2_priceOf_7 (by decide) (fun q201 => ?_) (fun q201 => ?_)
  · replace hf := brT hf q201
    refine lv_iload_n hx hb dX2_priceOf_34 rfl (lv_at hl 2 rfl) ?_
    obtain ⟨rfl, rfl⟩ := rt2 hf
    exact g_iret X hH hS dX2_priceOf_35
  · replace hf := brF hf q201
    refine lv_iload_n hx hb dX2_priceOf_10 rfl (lv_at hl 1 rfl) ?_
    refine lv_iload_n hx hb dX2_priceOf_11 rfl (lv_at hl 3 rfl) ?_
    refine lv_iushr hx hb dX2_priceOf_12 rfl ?_
    refine lv_iconst (v := 1) hx hb dX2_priceOf_13 (by decide) ?_
    refine lv_iand hx hb dX2_priceOf_14 ?_
    refine lv_iconst (v := 1) hx hb dX2_priceOf_15 (by decide) ?_
    refine lv_icmp_ne (tgt := 28) hx hb dX2_priceOf_16 (by decide) (fun q202 => ?_) (fun q202 => ?_)
    · replace hf := brF hf q202
      exact w_X2_priceOf_28 X c4 k0 h0 ih4 v1 v2 v3 σ hf _ _ hH hS _ (lv_sub hl [0, 1, 2, 3] rfl)
    · replace hf := brT hf q202
      refine lv_iload_n hx hb dX2_priceOf_19 rfl (lv_at hl 2 rfl) ?_
      refine lv_aload_n hx hb dX2_priceOf_20 rfl (lv_at hl 0 rfl) ?_
      refine g_get (v := .ref (B + (k0 + 2))) kX2 (by decide) fl_RX2_17 X.1 hH h0 (bRef1 h0) dX2_priceOf_21 ?_
      refine lv_iload_n hx hb dX2_priceOf_24 rfl (lv_at hl 3 rfl) ?_
      obtain ⟨q303, hf⟩ := chk hf
      refine g_iald (j := v3.toNatClampNeg) X.1 hH (bPrc h0) q303 rfl dX2_priceOf_25 ?_
      refine lv_iadd hx hb dX2_priceOf_26 ?_
      refine lv_topi (fun y304 ey304 => ?_)
      replace hf := nmU hf ey304
      refine lv_istore_n (lv' := [(2, .int y304), (0, .ref (B + k0)), (1, .int v1), (3, .int v3)]) hx hb dX2_priceOf_27 rfl hl (by decide) rfl (fun ls hl => ?_)
      exact w_X2_priceOf_28 X c4 k0 h0 ih4 v1 y304 v3 σ hf _ _ hH hS _ (lv_sub hl [1, 2, 0, 3] rfl)
def l_X2_priceOf_4 (k0 : Nat) : Nat → Int32 → Int32 → Int32 → Sto → Option (Int32 × Sto)
  | 0, _, _, _, _ => none
  | n + 1, v1, v2, v3, σ => b_X2_priceOf_4 (l_X2_priceOf_4 k0 n) k0 v1 v2 v3 σ
set_option maxHeartbeats 4000000 in
set_option maxRecDepth 100000 in
theorem wl_X2_priceOf_4 {p : Program} {l : Launch} {e : Env} {s : State} {m : MethodId} {args : Array Value} {below : List Frame} {meth : Method} {c : Code} {G : Gd} {B : Nat} (X : Cm p s m args meth c cX2_priceOf 4 RX2 G (some .int)) (k0 : Nat) (h0 : (k0 < layX.2.2 ∧ layX.1 k0 = .inl 2)) {r : Int32} {σr : Sto} (n : Nat) : ∀ (v1 : Int32) (v2 : Int32) (v3 : Int32) (σ : Sto) (H : Heap) (locs : List Loc) (ls : Array Slot), l_X2_priceOf_4 k0 n v1 v2 v3 σ = some (r, σr) → HX G layX B σ H → va_S (inW layX B) s.heap H locs → lv_has ls 4 [(0, .ref (B + k0)), (1, .int v1), (2, .int v2), (3, .int v3)] → WM p l e 0 s m args below meth c H locs G layX B (some (.int r)) σr (F0 m 4 ls []) := by
  induction n with
  | zero =>
    intro _ _ _ σ H locs ls hf
    cases hf
  | succ n ih =>
    intro v1 v2 v3 σ H locs ls hf hH hS hl
    exact w_X2_priceOf_4 X (l_X2_priceOf_4 k0 n) k0 h0 ih v1 v2 v3 σ hf H locs hH hS ls hl
def f_X2_priceOf (k0 : Nat) (x1 : Int32) (σ : Sto) : Option (Int32 × Sto) :=
  l_X2_priceOf_4 k0 400 x1 (0 : Int32) (0 : Int32) σ
set_option maxHeartbeats 4000000 in
set_option maxRecDepth 100000 in
theorem w_X2_priceOf {p : Program} {l : Launch} {e : Env} {s : State} {m : MethodId} {args : Array Value} {below : List Frame} {meth : Method} {c : Code} {G : Gd} {B : Nat} (X : Cm p s m args meth c cX2_priceOf 4 RX2 G (some .int)) (k0 : Nat) (h0 : (k0 < layX.2.2 ∧ layX.1 k0 = .inl 2)) {r : Int32} {σr : Sto} (x1 : Int32) (σ : Sto) (hf : f_X2_priceOf k0 x1 σ = some (r, σr)) (H : Heap) (locs : List Loc) (hH : HX G layX B σ H) (hS : va_S (inW layX B) s.heap H locs) (ls : Array Slot) (hl : lv_has ls 4 [(0, .ref (B + k0)), (1, .int x1)]) : WM p l e 0 s m args below meth c H locs G layX B (some (.int r)) σr (F0 m 0 ls []) := by
  unfold f_X2_priceOf at hf
  have hx := X.1.1
  have hb := X.1.2.1
  refine lv_iconst (v := 0) hx hb dX2_priceOf_0 (by decide) ?_
  refine lv_istore_n (lv' := [(2, .int (0 : Int32)), (0, .ref (B + k0)), (1, .int x1)]) hx hb dX2_priceOf_1 rfl hl (by decide) rfl (fun ls hl => ?_)
  refine lv_iconst (v := 0) hx hb dX2_priceOf_2 (by decide) ?_
  refine lv_istore_n (lv' := [(3, .int (0 : Int32)), (2, .int (0 : Int32)), (0, .ref (B + k0)), (1, .int x1)]) hx hb dX2_priceOf_3 rfl hl (by decide) rfl (fun ls hl => ?_)
  exact wl_X2_priceOf_4 X k0 h0 400 x1 (0 : Int32) (0 : Int32) σ _ _ _ hf hH hS (lv_sub hl [2, 3, 1, 0] rfl)
theorem c_X2_priceOf (l : Launch) (G : Gd) (B : Nat) (k0 : Nat) (h0 : (k0 < layX.2.2 ∧ layX.1 k0 = .inl 2)) (x1 : Int32) (σ σr : Sto) (r : Int32) (hf : f_X2_priceOf k0 x1 σ = some (r, σr)) : Ct l G layX B yX2_priceOf cX2_priceOf 4 (some .int) 0 [.ref (B + k0), .int x1] (some (.int r)) σ σr :=
  Ct.ofW (by decide) (Nat.le_of_ble_eq_true rfl) (fun _ _ _ _ _ _ _ X hH hS ls hl => w_X2_priceOf X k0 h0 x1 σ hf _ _ hH hS ls (show lv_has ls 4 [(0, .ref (B + k0)), (1, .int x1)] from hl))
-- SlackProofs$Book.allPrices()I  (D 1)
def f_X2_allPrices (k0 : Nat) (σ : Sto) : Option (Int32 × Sto) :=
  bd2 (f_X2_priceOf k0 (255 : Int32) σ) fun r102 σ101 => some (r102, σ101)
set_option maxHeartbeats 4000000 in
set_option maxRecDepth 100000 in
theorem w_X2_allPrices {p : Program} {l : Launch} {e : Env} {s : State} {m : MethodId} {args : Array Value} {below : List Frame} {meth : Method} {c : Code} {G : Gd} {B : Nat} (X : Cm p s m args meth c cX2_allPrices 1 RX2 G (some .int)) (k0 : Nat) (h0 : (k0 < layX.2.2 ∧ layX.1 k0 = .inl 2)) {r : Int32} {σr : Sto} (σ : Sto) (hf : f_X2_allPrices k0 σ = some (r, σr)) (H : Heap) (locs : List Loc) (hH : HX G layX B σ H) (hS : va_S (inW layX B) s.heap H locs) (ls : Array Slot) (hl : lv_has ls 1 [(0, .ref (B + k0))]) : WM p l e 1 s m args below meth c H locs G layX B (some (.int r)) σr (F0 m 0 ls []) := by
  unfold f_X2_allPrices at hf
  have hx := X.1.1
  have hb := X.1.2.1
  refine lv_aload_n hx hb dX2_allPrices_0 rfl (lv_at hl 0 rfl) ?_
  refine lv_sipush (v := 255) hx hb dX2_allPrices_1 (by decide) ?_
  obtain ⟨r102, σ101, eσ101, hf⟩ := bnd2 hf
  refine g_cVi (As := [.int (255 : Int32)]) X.1 hH hS (c_X2_priceOf l G B k0 h0 (255 : Int32) σ σ101 r102 eσ101) kw_RX2_78 kX2 h0 (by decide) rfl hl (Nat.le_of_ble_eq_true rfl) rfl dX2_allPrices_4 (fun H locs hH hS => ?_)
  obtain ⟨rfl, rfl⟩ := rt2 hf
  exact g_iret X hH hS dX2_allPrices_7
theorem c_X2_allPrices (l : Launch) (G : Gd) (B : Nat) (k0 : Nat) (h0 : (k0 < layX.2.2 ∧ layX.1 k0 = .inl 2)) (σ σr : Sto) (r : Int32) (hf : f_X2_allPrices k0 σ = some (r, σr)) : Ct l G layX B yX2_allPrices cX2_allPrices 1 (some .int) 1 [.ref (B + k0)] (some (.int r)) σ σr :=
  Ct.ofW (by decide) (Nat.le_of_ble_eq_true rfl) (fun _ _ _ _ _ _ _ X hH hS ls hl => w_X2_allPrices X k0 h0 σ hf _ _ hH hS ls (show lv_has ls 1 [(0, .ref (B + k0))] from hl))
-- SlackProofs$Book.begin([I)V  (D 2)
def f_X2_begin (k0 : Nat) (k1 n1 : Nat) (σ : Sto) : Option (Sto) :=
  if ((0 : Int32) < 0 ∨ (0 : Int32) < 0 ∨ (8 : Int32) < 0 ∨ n1 < (0 : Int32).toNatClampNeg + (8 : Int32).toNatClampNeg ∨ 8 < (0 : Int32).toNatClampNeg + (8 : Int32).toNatClampNeg) then none else nmS (cpI σ k1 0 (k0 + 2) 0 8) fun σ102 => nmS (pI σ102 k0 2 (1 : Int32)) fun σ103 => nmS (pI σ103 k0 3 (0 : Int32)) fun σ104 => nmS (pI σ104 k0 4 (0 : Int32)) fun σ105 => nmS (pI σ105 k0 5 (-1000000 : Int32)) fun σ106 => some σ106
set_option maxHeartbeats 4000000 in
set_option maxRecDepth 100000 in
theorem w_X2_begin {p : Program} {l : Launch} {e : Env} {s : State} {m : MethodId} {args : Array Value} {below : List Frame} {meth : Method} {c : Code} {G : Gd} {B : Nat} (X : Cm p s m args meth c cX2_begin 2 RX2 G none) (k0 : Nat) (k1 n1 : Nat) (h0 : (k0 < layX.2.2 ∧ layX.1 k0 = .inl 2)) (h1 : (k1 < layX.2.2 ∧ layX.1 k1 = .inr (.int, n1))) {σr : Sto} (σ : Sto) (hf : f_X2_begin k0 k1 n1 σ = some σr) (H : Heap) (locs : List Loc) (hH : HX G layX B σ H) (hS : va_S (inW layX B) s.heap H locs) (ls : Array Slot) (hl : lv_has ls 2 [(0, .ref (B + k0)), (1, .ref (B + k1))]) : WM p l e 2 s m args below meth c H locs G layX B none σr (F0 m 0 ls []) := by
  unfold f_X2_begin at hf
  have hx := X.1.1
  have hb := X.1.2.1
  refine lv_aload_n hx hb dX2_begin_0 rfl (lv_at hl 1 rfl) ?_
  refine lv_iconst (v := 0) hx hb dX2_begin_1 (by decide) ?_
  refine lv_aload_n hx hb dX2_begin_2 rfl (lv_at hl 0 rfl) ?_
  refine g_get (v := .ref (B + (k0 + 2))) kX2 (by decide) fl_RX2_17 X.1 hH h0 (bRef1 h0) dX2_begin_3 ?_
  refine lv_iconst (v := 0) hx hb dX2_begin_6 (by decide) ?_
  refine lv_bipush (v := 8) hx hb dX2_begin_7 (by decide) ?_
  obtain ⟨q101, hf⟩ := chk hf
  refine g_cpI X.1 cp_RX2_29 hH hS h1 (bPrc h0) q101 hl (by decide) (Nat.le_of_ble_eq_true rfl) dX2_begin_9 (fun H locs hH hS => ?_)
  obtain ⟨σ102, eσ102, hH⟩ := nmX hH
  replace hf := nmU hf eσ102
  refine lv_aload_n hx hb dX2_begin_12 rfl (lv_at hl 0 rfl) ?_
  refine lv_iconst (v := 1) hx hb dX2_begin_13 (by decide) ?_
  refine g_putZ kX2 (by decide) fl_RX2_35 rfl rfl X.1 hH hS h0 ⟨rfl, rfl⟩ dX2_begin_14 (fun H locs hH hS => ?_)
  obtain ⟨σ103, eσ103, hH⟩ := nmX hH
  replace hf := nmU hf eσ103
  refine lv_aload_n hx hb dX2_begin_17 rfl (lv_at hl 0 rfl) ?_
  refine lv_iconst (v := 0) hx hb dX2_begin_18 (by decide) ?_
  refine g_putI kX2 (by decide) fl_RX2_39 rfl rfl X.1 hH hS h0 dX2_begin_19 (fun H locs hH hS => ?_)
  obtain ⟨σ104, eσ104, hH⟩ := nmX hH
  replace hf := nmU hf eσ104
  refine lv_aload_n hx hb dX2_begin_22 rfl (lv_at hl 0 rfl) ?_
  refine lv_iconst (v := 0) hx hb dX2_begin_23 (by decide) ?_
  refine g_putI kX2 (by decide) fl_RX2_42 rfl rfl X.1 hH hS h0 dX2_begin_24 (fun H locs hH hS => ?_)
  obtain ⟨σ105, eσ105, hH⟩ := nmX hH
  replace hf := nmU hf eσ105
  refine lv_aload_n hx hb dX2_begin_27 rfl (lv_at hl 0 rfl) ?_
  refine lv_ldc (v := -1000000) hx hb X.1.2.2.2.1 (X.1.2.2.2.2.1 _ kc_RX2_21) dX2_begin_28 ?_
  refine g_putI kX2 (by decide) fl_RX2_22 rfl rfl X.1 hH hS h0 dX2_begin_30 (fun H locs hH hS => ?_)
  obtain ⟨σ106, eσ106, hH⟩ := nmX hH
  replace hf := nmU hf eσ106
  obtain rfl := rt1 hf
  exact g_vret X hH hS dX2_begin_33
theorem c_X2_begin (l : Launch) (G : Gd) (B : Nat) (k0 : Nat) (h0 : (k0 < layX.2.2 ∧ layX.1 k0 = .inl 2)) (k1 n1 : Nat) (h1 : (k1 < layX.2.2 ∧ layX.1 k1 = .inr (.int, n1))) (σ σr : Sto) (hf : f_X2_begin k0 k1 n1 σ = some σr) : Ct l G layX B yX2_begin cX2_begin 2 none 2 [.ref (B + k0), .ref (B + k1)] none σ σr :=
  Ct.ofW (by decide) (Nat.le_of_ble_eq_true rfl) (fun _ _ _ _ _ _ _ X hH hS ls hl => w_X2_begin X k0 k1 n1 h0 h1 σ hf _ _ hH hS ls (show lv_has ls 2 [(0, .ref (B + k0)), (1, .ref (B + k1))] from hl))
-- SlackProofs$Clause.become(LSlackProofs$Clause;)V  (D 2)
def f_X3_become (k0 : Nat) (k1 : Nat) (σ : Sto) : Option (Sto) :=
  nmS (cpL σ (k1 + 1) 0 (k0 + 1) 0 8) fun σ102 => nmS (pL σ102 k0 2 (σ102.2 k1 2)) fun σ103 => nmS (pI σ103 k0 3 (σ103.1 k1 3)) fun σ104 => some σ104
set_option maxHeartbeats 4000000 in
set_option maxRecDepth 100000 in
theorem w_X3_become {p : Program} {l : Launch} {e : Env} {s : State} {m : MethodId} {args : Array Value} {below : List Frame} {meth : Method} {c : Code} {G : Gd} {B : Nat} (X : Cm p s m args meth c cX3_become 2 RX3 G none) (k0 : Nat) (k1 : Nat) (h0 : (k0 < layX.2.2 ∧ layX.1 k0 = .inl 3)) (h1 : (k1 < layX.2.2 ∧ layX.1 k1 = .inl 3)) {σr : Sto} (σ : Sto) (hf : f_X3_become k0 k1 σ = some σr) (H : Heap) (locs : List Loc) (hH : HX G layX B σ H) (hS : va_S (inW layX B) s.heap H locs) (ls : Array Slot) (hl : lv_has ls 2 [(0, .ref (B + k0)), (1, .ref (B + k1))]) : WM p l e 2 s m args below meth c H locs G layX B none σr (F0 m 0 ls []) := by
  unfold f_X3_become at hf
  have hx := X.1.1
  have hb := X.1.2.1
  refine lv_aload_n hx hb dX3_become_0 rfl (lv_at hl 1 rfl) ?_
  refine g_get (v := .ref (B + (k1 + 1))) kX3 (by decide) fl_RX3_9 X.1 hH h1 (cRef h1) dX3_become_1 ?_
  refine lv_iconst (v := 0) hx hb dX3_become_4 (by decide) ?_
  refine lv_aload_n hx hb dX3_become_5 rfl (lv_at hl 0 rfl) ?_
  refine g_get (v := .ref (B + (k0 + 1))) kX3 (by decide) fl_RX3_9 X.1 hH h0 (cRef h0) dX3_become_6 ?_
  refine lv_iconst (v := 0) hx hb dX3_become_9 (by decide) ?_
  refine lv_bipush (v := 8) hx hb dX3_become_10 (by decide) ?_
  refine g_cpL X.1 cp_RX3_29 hH hS (cArr h1) (cArr h0) (by decide) hl (by decide) (Nat.le_of_ble_eq_true rfl) dX3_become_12 (fun H locs hH hS => ?_)
  obtain ⟨σ102, eσ102, hH⟩ := nmX hH
  replace hf := nmU hf eσ102
  refine lv_aload_n hx hb dX3_become_15 rfl (lv_at hl 0 rfl) ?_
  refine lv_aload_n hx hb dX3_become_16 rfl (lv_at hl 1 rfl) ?_
  refine g_get (v := .long (σ102.2 k1 2)) kX3 (by decide) fl_RX3_25 X.1 hH h1 rfl dX3_become_17 ?_
  refine g_putL kX3 (by decide) fl_RX3_25 rfl rfl X.1 hH hS h0 dX3_become_20 (fun H locs hH hS => ?_)
  obtain ⟨σ103, eσ103, hH⟩ := nmX hH
  replace hf := nmU hf eσ103
  refine lv_aload_n hx hb dX3_become_23 rfl (lv_at hl 0 rfl) ?_
  refine lv_aload_n hx hb dX3_become_24 rfl (lv_at hl 1 rfl) ?_
  refine g_get (v := .int (σ103.1 k1 3)) kX3 (by decide) fl_RX3_35 X.1 hH h1 rfl dX3_become_25 ?_
  refine g_putI kX3 (by decide) fl_RX3_35 rfl rfl X.1 hH hS h0 dX3_become_28 (fun H locs hH hS => ?_)
  obtain ⟨σ104, eσ104, hH⟩ := nmX hH
  replace hf := nmU hf eσ104
  obtain rfl := rt1 hf
  exact g_vret X hH hS dX3_become_31
theorem c_X3_become (l : Launch) (G : Gd) (B : Nat) (k0 : Nat) (h0 : (k0 < layX.2.2 ∧ layX.1 k0 = .inl 3)) (k1 : Nat) (h1 : (k1 < layX.2.2 ∧ layX.1 k1 = .inl 3)) (σ σr : Sto) (hf : f_X3_become k0 k1 σ = some σr) : Ct l G layX B yX3_become cX3_become 2 none 2 [.ref (B + k0), .ref (B + k1)] none σ σr :=
  Ct.ofW (by decide) (Nat.le_of_ble_eq_true rfl) (fun _ _ _ _ _ _ _ X hH hS ls hl => w_X3_become X k0 k1 h0 h1 σ hf _ _ hH hS ls (show lv_has ls 2 [(0, .ref (B + k0)), (1, .ref (B + k1))] from hl))
-- SlackProofs$Book.become(LSlackProofs$Book;)V  (D 3)
def b_X2_become_10 (c10 : Int32 → Sto → Option (Sto)) (k0 : Nat) (k1 : Nat) (v2 : Int32) (σ : Sto) : Option (Sto) :=
  if (σ.1 k1 3) ≤ v2 then (nmS (pI σ k0 3 (σ.1 k1 3)) fun σ204 => nmS (pI σ204 k0 4 (σ204.1 k1 4)) fun σ205 => nmS (pI σ205 k0 5 (σ205.1 k1 5)) fun σ206 => some σ206) else (if (v2 < 0 ∨ 30 ≤ v2.toNatClampNeg) then none else if (v2 < 0 ∨ 30 ≤ v2.toNatClampNeg) then none else bd1 (f_X3_become (k0 + 3 + 2 * v2.toNatClampNeg) (k1 + 3 + 2 * v2.toNatClampNeg) σ) fun σ209 => c10 (v2 + (1 : Int32)) σ209)
set_option maxHeartbeats 4000000 in
set_option maxRecDepth 100000 in
theorem w_X2_become_10 {p : Program} {l : Launch} {e : Env} {s : State} {m : MethodId} {args : Array Value} {below : List Frame} {meth : Method} {c : Code} {G : Gd} {B : Nat} (X : Cm p s m args meth c cX2_become 3 RX2 G none) (c10 : Int32 → Sto → Option (Sto)) (k0 : Nat) (k1 : Nat) (h0 : (k0 < layX.2.2 ∧ layX.1 k0 = .inl 2)) (h1 : (k1 < layX.2.2 ∧ layX.1 k1 = .inl 2)) {σr : Sto} (ih10 : ∀ (v2 : Int32) (σ : Sto) (H : Heap) (locs : List Loc) (ls : Array Slot), c10 v2 σ = some σr → HX G layX B σ H → va_S (inW layX B) s.heap H locs → lv_has ls 3 [(0, .ref (B + k0)), (1, .ref (B + k1)), (2, .int v2)] → WM p l e 3 s m args below meth c H locs G layX B none σr (F0 m 10 ls [])) (v2 : Int32) (σ : Sto) (hf : b_X2_become_10 c10 k0 k1 v2 σ = some σr) (H : Heap) (locs : List Loc) (hH : HX G layX B σ H) (hS : va_S (inW layX B) s.heap H locs) (ls : Array Slot) (hl : lv_has ls 3 [(0, .ref (B + k0)), (1, .ref (B + k1)), (2, .int v2)]) : WM p l e 3 s m args below meth c H locs G layX B none σr (F0 m 10 ls []) := by
  unfold b_X2_become_10 at hf
  have hx := X.1.1
  have hb := X.1.2.1
  refine lv_iload_n hx hb dX2_become_10 rfl (lv_at hl 2 rfl) ?_
  refine lv_aload_n hx hb dX2_become_11 rfl (lv_at hl 1 rfl) ?_
  refine g_get (v := .int (σ.1 k1 3)) kX2 (by decide) fl_RX2_39 X.1 hH h1 rfl dX2_become_12 ?_
  refine lv_icmp_ge (tgt := 39) hx hb dX2_become_15 (by decide) (fun q203 => ?_) (fun q203 => ?_)
  · replace hf := brT hf q203
    refine lv_aload_n hx hb dX2_become_39 rfl (lv_at hl 0 rfl) ?_
    refine lv_aload_n hx hb dX2_become_40 rfl (lv_at hl 1 rfl) ?_
    refine g_get (v := .int (σ.1 k1 3)) kX2 (by decide) fl_RX2_39 X.1 hH h1 rfl dX2_become_41 ?_
    refine g_putI kX2 (by decide) fl_RX2_39 rfl rfl X.1 hH hS h0 dX2_become_44 (fun H locs hH hS => ?_)
    obtain ⟨σ204, eσ204, hH⟩ := nmX hH
    replace hf := nmU hf eσ204
    refine lv_aload_n hx hb dX2_become_47 rfl (lv_at hl 0 rfl) ?_
    refine lv_aload_n hx hb dX2_become_48 rfl (lv_at hl 1 rfl) ?_
    refine g_get (v := .int (σ204.1 k1 4)) kX2 (by decide) fl_RX2_42 X.1 hH h1 rfl dX2_become_49 ?_
    refine g_putI kX2 (by decide) fl_RX2_42 rfl rfl X.1 hH hS h0 dX2_become_52 (fun H locs hH hS => ?_)
    obtain ⟨σ205, eσ205, hH⟩ := nmX hH
    replace hf := nmU hf eσ205
    refine lv_aload_n hx hb dX2_become_55 rfl (lv_at hl 0 rfl) ?_
    refine lv_aload_n hx hb dX2_become_56 rfl (lv_at hl 1 rfl) ?_
    refine g_get (v := .int (σ205.1 k1 5)) kX2 (by decide) fl_RX2_22 X.1 hH h1 rfl dX2_become_57 ?_
    refine g_putI kX2 (by decide) fl_RX2_22 rfl rfl X.1 hH hS h0 dX2_become_60 (fun H locs hH hS => ?_)
    obtain ⟨σ206, eσ206, hH⟩ := nmX hH
    replace hf := nmU hf eσ206
    obtain rfl := rt1 hf
    exact g_vret X hH hS dX2_become_63
  · replace hf := brF hf q203
    refine lv_aload_n hx hb dX2_become_18 rfl (lv_at hl 0 rfl) ?_
    refine g_get (v := .ref (B + (k0 + 1))) kX2 (by decide) fl_RX2_11 X.1 hH h0 (bRef0 h0) dX2_become_19 ?_
    refine lv_iload_n hx hb dX2_become_22 rfl (lv_at hl 2 rfl) ?_
    obtain ⟨q207, hf⟩ := chk hf
    refine g_aald (b := (k0 + 3 + 2 * v2.toNatClampNeg)) X.1 hH (bArr h0) (by decide) q207 (bRf h0 q207) dX2_become_23 ?_
    refine lv_aload_n hx hb dX2_become_24 rfl (lv_at hl 1 rfl) ?_
    refine g_get (v := .ref (B + (k1 + 1))) kX2 (by decide) fl_RX2_11 X.1 hH h1 (bRef0 h1) dX2_become_25 ?_
    refine lv_iload_n hx hb dX2_become_28 rfl (lv_at hl 2 rfl) ?_
    obtain ⟨q208, hf⟩ := chk hf
    refine g_aald (b := (k1 + 3 + 2 * v2.toNatClampNeg)) X.1 hH (bArr h1) (by decide) q208 (bRf h1 q208) dX2_become_29 ?_
    obtain ⟨σ209, eσ209, hf⟩ := bnd1 hf
    refine g_cVv (As := [.ref (B + (k1 + 3 + 2 * v2.toNatClampNeg))]) X.1 hH hS (c_X3_become l G B (k0 + 3 + 2 * v2.toNatClampNeg) (bCl h0 q207) (k1 + 3 + 2 * v2.toNatClampNeg) (bCl h1 q208) σ σ209 eσ209) kw_RX2_49 kX3 (bCl h0 q207) (by decide) rfl hl (Nat.le_of_ble_eq_true rfl) rfl dX2_become_30 (fun H locs hH hS => ?_)
    refine lv_iinc (v := (v2 + (1 : Int32))) (lv' := [(2, .int (v2 + (1 : Int32))), (0, .ref (B + k0)), (1, .ref (B + k1))]) hx hb dX2_become_33 hl (k := 2) rfl rfl (by decide) rfl (fun ls hl => ?_)
    refine lv_goto (tgt := 10) hx hb dX2_become_36 (by decide) ?_
    exact ih10 (v2 + (1 : Int32)) σ209 _ _ _ hf hH hS (lv_sub hl [1, 2, 0] rfl)
def l_X2_become_10 (k0 : Nat) (k1 : Nat) : Nat → Int32 → Sto → Option (Sto)
  | 0, _, _ => none
  | n + 1, v2, σ => b_X2_become_10 (l_X2_become_10 k0 k1 n) k0 k1 v2 σ
set_option maxHeartbeats 4000000 in
set_option maxRecDepth 100000 in
theorem wl_X2_become_10 {p : Program} {l : Launch} {e : Env} {s : State} {m : MethodId} {args : Array Value} {below : List Frame} {meth : Method} {c : Code} {G : Gd} {B : Nat} (X : Cm p s m args meth c cX2_become 3 RX2 G none) (k0 : Nat) (k1 : Nat) (h0 : (k0 < layX.2.2 ∧ layX.1 k0 = .inl 2)) (h1 : (k1 < layX.2.2 ∧ layX.1 k1 = .inl 2)) {σr : Sto} (n : Nat) : ∀ (v2 : Int32) (σ : Sto) (H : Heap) (locs : List Loc) (ls : Array Slot), l_X2_become_10 k0 k1 n v2 σ = some σr → HX G layX B σ H → va_S (inW layX B) s.heap H locs → lv_has ls 3 [(0, .ref (B + k0)), (1, .ref (B + k1)), (2, .int v2)] → WM p l e 3 s m args below meth c H locs G layX B none σr (F0 m 10 ls []) := by
  induction n with
  | zero =>
    intro _ σ H locs ls hf
    cases hf
  | succ n ih =>
    intro v2 σ H locs ls hf hH hS hl
    exact w_X2_become_10 X (l_X2_become_10 k0 k1 n) k0 k1 h0 h1 ih v2 σ hf H locs hH hS ls hl
def f_X2_become (k0 : Nat) (k1 : Nat) (σ : Sto) : Option (Sto) :=
  bd1 (f_X2_begin k0 (k1 + 2) 8 σ) fun σ101 => l_X2_become_10 k0 k1 400 (0 : Int32) σ101
set_option maxHeartbeats 4000000 in
set_option maxRecDepth 100000 in
theorem w_X2_become {p : Program} {l : Launch} {e : Env} {s : State} {m : MethodId} {args : Array Value} {below : List Frame} {meth : Method} {c : Code} {G : Gd} {B : Nat} (X : Cm p s m args meth c cX2_become 3 RX2 G none) (k0 : Nat) (k1 : Nat) (h0 : (k0 < layX.2.2 ∧ layX.1 k0 = .inl 2)) (h1 : (k1 < layX.2.2 ∧ layX.1 k1 = .inl 2)) {σr : Sto} (σ : Sto) (hf : f_X2_become k0 k1 σ = some σr) (H : Heap) (locs : List Loc) (hH : HX G layX B σ H) (hS : va_S (inW layX B) s.heap H locs) (ls : Array Slot) (hl : lv_has ls 3 [(0, .ref (B + k0)), (1, .ref (B + k1))]) : WM p l e 3 s m args below meth c H locs G layX B none σr (F0 m 0 ls []) := by
  unfold f_X2_become at hf
  have hx := X.1.1
  have hb := X.1.2.1
  refine lv_aload_n hx hb dX2_become_0 rfl (lv_at hl 0 rfl) ?_
  refine lv_aload_n hx hb dX2_become_1 rfl (lv_at hl 1 rfl) ?_
  refine g_get (v := .ref (B + (k1 + 2))) kX2 (by decide) fl_RX2_17 X.1 hH h1 (bRef1 h1) dX2_become_2 ?_
  obtain ⟨σ101, eσ101, hf⟩ := bnd1 hf
  refine g_cVv (As := [.ref (B + (k1 + 2))]) X.1 hH hS (c_X2_begin l G B k0 h0 (k1 + 2) 8 (bPrc h1) σ σ101 eσ101) kw_RX2_45 kX2 h0 (by decide) rfl hl (Nat.le_of_ble_eq_true rfl) rfl dX2_become_5 (fun H locs hH hS => ?_)
  refine lv_iconst (v := 0) hx hb dX2_become_8 (by decide) ?_
  refine lv_istore_n (lv' := [(2, .int (0 : Int32)), (0, .ref (B + k0)), (1, .ref (B + k1))]) hx hb dX2_become_9 rfl hl (by decide) rfl (fun ls hl => ?_)
  exact wl_X2_become_10 X k0 k1 h0 h1 400 (0 : Int32) σ101 _ _ _ hf hH hS (lv_sub hl [1, 2, 0] rfl)
theorem c_X2_become (l : Launch) (G : Gd) (B : Nat) (k0 : Nat) (h0 : (k0 < layX.2.2 ∧ layX.1 k0 = .inl 2)) (k1 : Nat) (h1 : (k1 < layX.2.2 ∧ layX.1 k1 = .inl 2)) (σ σr : Sto) (hf : f_X2_become k0 k1 σ = some σr) : Ct l G layX B yX2_become cX2_become 3 none 3 [.ref (B + k0), .ref (B + k1)] none σ σr :=
  Ct.ofW (by decide) (Nat.le_of_ble_eq_true rfl) (fun _ _ _ _ _ _ _ X hH hS ls hl => w_X2_become X k0 k1 h0 h1 σ hf _ _ hH hS ls (show lv_has ls 3 [(0, .ref (B + k0)), (1, .ref (B + k1))] from hl))
