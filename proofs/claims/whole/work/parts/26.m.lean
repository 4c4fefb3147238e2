-- SlackProofsModel.slackOf([JIII)J  (D 1)
def b_X8_slackOf_76 (c6 : Int32 → Int32 → Int32 → Int64 → Int32 → Sto → Option (Int64 × Sto)) (k0 n0 : Nat) (v1 : Int32) (v2 : Int32) (v3 : Int32) (v6 : Int32) (s0 : Int64) (s1 : Int64) (σ : Sto) : Option (Int64 × Sto) :=
  nmS (s1 + s0) fun y511 => c6 v1 v2 v3 y511 (v6 + (1 : Int32)) σ
set_option maxHeartbeats 4000000 in
set_option maxRecDepth 100000 in
theorem w_X8_slackOf_76 {p : Program} {l : Launch} {e : Env} {s : State} {m : MethodId} {args : Array Value} {below : List Frame} {meth : Method} {c : Code} {G : Gd} {B : Nat} (X : Cm p s m args meth c cX8_slackOf 10 RX8 G (some .long)) (c6 : Int32 → Int32 → Int32 → Int64 → Int32 → Sto → Option (Int64 × Sto)) (k0 n0 : Nat) (h0 : (k0 < layM.2.2 ∧ layM.1 k0 = .inr (.long, n0))) {r : Int64} {σr : Sto} (ih6 : ∀ (v1 : Int32) (v2 : Int32) (v3 : Int32) (v4 : Int64) (v6 : Int32) (σ : Sto) (H : Heap) (locs : List Loc) (ls : Array Slot), c6 v1 v2 v3 v4 v6 σ = some (r, σr) → HX G layM B σ H → va_S (inW layM B) s.heap H locs → lv_has ls 10 [(0, .ref (B + k0)), (1, .int v1), (2, .int v2), (3, .int v3), (4, .long v4), (6, .int v6)] → WM p l e 1 s m args below meth c H locs G layM B (some (.long r)) σr (F0 m 6 ls [])) (v1 : Int32) (v2 : Int32) (v3 : Int32) (v6 : Int32) (s0 : Int64) (s1 : Int64) (σ : Sto) (hf : b_X8_slackOf_76 c6 k0 n0 v1 v2 v3 v6 s0 s1 σ = some (r, σr)) (H : Heap) (locs : List Loc) (hH : HX G layM B σ H) (hS : va_S (inW layM B) s.heap H locs) (ls : Array Slot) (hl : lv_has ls 10 [(0, .ref (B + k0)), (1, .int v1), (2, .int v2), (3, .int v3), (6, .int v6)]) : WM p l e 1 s m args below meth c H locs G layM B (some (.long r)) σr (F0 m 76 ls [.long s0, .long s1]) := by
  unfold b_X8_slackOf_76 at hf
  have hx := X.1.1
  have hb := X.1.2.1
  refine lv_ladd hx hb dX8_slackOf_76 ?_
  refine lv_topl (fun y511 ey511 => ?_)
  replace hf := nmU hf ey511
  refine lv_lstore (lv' := [(4, .long y511), (0, .ref (B + k0)), (1, .int v1), (2, .int v2), (3, .int v3), (6, .int v6)]) hx hb dX8_slackOf_77 hl (by decide) rfl (fun ls hl => ?_)
  refine lv_iinc (v := (v6 + (1 : Int32))) (lv' := [(6, .int (v6 + (1 : Int32))), (4, .long y511), (0, .ref (B + k0)), (1, .int v1), (2, .int v2), (3, .int v3)]) hx hb dX8_slackOf_79 hl (k := 5) rfl rfl (by decide) rfl (fun ls hl => ?_)
  refine lv_goto (tgt := 6) hx hb dX8_slackOf_82 (by decide) ?_
  exact ih6 v1 v2 v3 y511 (v6 + (1 : Int32)) σ _ _ _ hf hH hS (lv_sub hl [2, 3, 4, 5, 1, 0] rfl)
def b_X8_slackOf_58 (c6 : Int32 → Int32 → Int32 → Int64 → Int32 → Sto → Option (Int64 × Sto)) (k0 n0 : Nat) (v1 : Int32) (v2 : Int32) (v3 : Int32) (v4 : Int64) (v6 : Int32) (v7 : Int64) (s0 : Int32) (σ : Sto) : Option (Int64 × Sto) :=
  if s0 = 0 then (bd2 (f_X8_size v7 σ) fun r410 σ409 => b_X8_slackOf_76 c6 k0 n0 v1 v2 v3 v6 r410 v4 σ409) else (b_X8_slackOf_76 c6 k0 n0 v1 v2 v3 v6 (0 : Int64) v4 σ)
set_option maxHeartbeats 4000000 in
set_option maxRecDepth 100000 in
theorem w_X8_slackOf_58 {p : Program} {l : Launch} {e : Env} {s : State} {m : MethodId} {args : Array Value} {below : List Frame} {meth : Method} {c : Code} {G : Gd} {B : Nat} (X : Cm p s m args meth c cX8_slackOf 10 RX8 G (some .long)) (c6 : Int32 → Int32 → Int32 → Int64 → Int32 → Sto → Option (Int64 × Sto)) (k0 n0 : Nat) (h0 : (k0 < layM.2.2 ∧ layM.1 k0 = .inr (.long, n0))) {r : Int64} {σr : Sto} (ih6 : ∀ (v1 : Int32) (v2 : Int32) (v3 : Int32) (v4 : Int64) (v6 : Int32) (σ : Sto) (H : Heap) (locs : List Loc) (ls : Array Slot), c6 v1 v2 v3 v4 v6 σ = some (r, σr) → HX G layM B σ H → va_S (inW layM B) s.heap H locs → lv_has ls 10 [(0, .ref (B + k0)), (1, .int v1), (2, .int v2), (3, .int v3), (4, .long v4), (6, .int v6)] → WM p l e 1 s m args below meth c H locs G layM B (some (.long r)) σr (F0 m 6 ls [])) (v1 : Int32) (v2 : Int32) (v3 : Int32) (v4 : Int64) (v6 : Int32) (v7 : Int64) (s0 : Int32) (σ : Sto) (hf : b_X8_slackOf_58 c6 k0 n0 v1 v2 v3 v4 v6 v7 s0 σ = some (r, σr)) (H : Heap) (locs : List Loc) (hH : HX G layM B σ H) (hS : va_S (inW layM B) s.heap H locs) (ls : Array Slot) (hl : lv_has ls 10 [(0, .ref (B + k0)), (1, .int v1), (2, .int v2), (3, .int v3), (4, .long v4), (6, .int v6), (7, .long v7)]) : WM p l e 1 s m args below meth c H locs G layM B (some (.long r)) σr (F0 m 58 ls [.int s0]) := by
  unfold b_X8_slackOf_58 at hf
  have hx := X.1.1
  have hb := X.1.2.1
  refine lv_istore (lv' := [(9, .int s0), (0, .ref (B + k0)), (1, .int v1), (2, .int v2), (3, .int v3), (4, .long v4), (6, .int v6), (7, .long v7)]) hx hb dX8_slackOf_58 hl (by decide) rfl (fun ls hl => ?_)
  refine lv_lload hx hb dX8_slackOf_60 (lv_at hl 5 rfl) ?_
  refine lv_iload hx hb dX8_slackOf_62 (lv_at hl 0 rfl) ?_
  refine lv_if_eq (tgt := 71) hx hb dX8_slackOf_64 (by decide) (fun q408 => ?_) (fun q408 => ?_)
  · replace hf := brT hf q408
    refine lv_lload hx hb dX8_slackOf_71 (lv_at hl 7 rfl) ?_
    obtain ⟨r410, σ409, eσ409, hf⟩ := bnd2 hf
    refine g_cSl (As := [.long v7]) X.1 hH hS (c_X8_size l G B v7 σ σ409 r410 eσ409) kw_RX8_187 (by decide) rfl hl (Nat.le_of_ble_eq_true rfl) rfl dX8_slackOf_73 (fun H locs hH hS => ?_)
    exact w_X8_slackOf_76 X c6 k0 n0 h0 ih6 v1 v2 v3 v6 r410 v4 σ409 hf _ _ hH hS _ (lv_sub hl [1, 2, 3, 4, 6] rfl)
  · replace hf := brF hf q408
    refine lv_lconst (v := 0) hx hb dX8_slackOf_67 (by decide) ?_
    refine lv_goto (tgt := 76) hx hb dX8_slackOf_68 (by decide) ?_
    exact w_X8_slackOf_76 X c6 k0 n0 h0 ih6 v1 v2 v3 v6 (0 : Int64) v4 σ hf _ _ hH hS _ (lv_sub hl [1, 2, 3, 4, 6] rfl)
def b_X8_slackOf_57 (c6 : Int32 → Int32 → Int32 → Int64 → Int32 → Sto → Option (Int64 × Sto)) (k0 n0 : Nat) (v1 : Int32) (v2 : Int32) (v3 : Int32) (v4 : Int64) (v6 : Int32) (v7 : Int64) (σ : Sto) : Option (Int64 × Sto) :=
  b_X8_slackOf_58 c6 k0 n0 v1 v2 v3 v4 v6 v7 (0 : Int32) σ
set_option maxHeartbeats 4000000 in
set_option maxRecDepth 100000 in
theorem w_X8_slackOf_57 {p : Program} {l : Launch} {e : Env} {s : State} {m : MethodId} {args : Array Value} {below : List Frame} {meth : Method} {c : Code} {G : Gd} {B : Nat} (X : Cm p s m args meth c cX8_slackOf 10 RX8 G (some .long)) (c6 : Int32 → Int32 → Int32 → Int64 → Int32 → Sto → Option (Int64 × Sto)) (k0 n0 : Nat) (h0 : (k0 < layM.2.2 ∧ layM.1 k0 = .inr (.long, n0))) {r : Int64} {σr : Sto} (ih6 : ∀ (v1 : Int32) (v2 : Int32) (v3 : Int32) (v4 : Int64) (v6 : Int32) (σ : Sto) (H : Heap) (locs : List Loc) (ls : Array Slot), c6 v1 v2 v3 v4 v6 σ = some (r, σr) → HX G layM B σ H → va_S (inW layM B) s.heap H locs → lv_has ls 10 [(0, .ref (B + k0)), (1, .int v1), (2, .int v2), (3, .int v3), (4, .long v4), (6, .int v6)] → WM p l e 1 s m args below meth c H locs G layM B (some (.long r)) σr (F0 m 6 ls [])) (v1 : Int32) (v2 : Int32) (v3 : Int32) (v4 : Int64) (v6 : Int32) (v7 : Int64) (σ : Sto) (hf : b_X8_slackOf_57 c6 k0 n0 v1 v2 v3 v4 v6 v7 σ = some (r, σr)) (H : Heap) (locs : List Loc) (hH : HX G layM B σ H) (hS : va_S (inW layM B) s.heap H locs) (ls : Array Slot) (hl : lv_has ls 10 [(0, .ref (B + k0)), (1, .int v1), (2, .int v2), (3, .int v3), (4, .long v4), (6, .int v6), (7, .long v7)]) : WM p l e 1 s m args below meth c H locs G layM B (some (.long r)) σr (F0 m 57 ls []) := by
  unfold b_X8_slackOf_57 at hf
  have hx := X.1.1
  have hb := X.1.2.1
  refine lv_iconst (v := 0) hx hb dX8_slackOf_57 (by decide) ?_
  exact w_X8_slackOf_58 X c6 k0 n0 h0 ih6 v1 v2 v3 v4 v6 v7 (0 : Int32) σ hf _ _ hH hS _ (lv_sub hl [0, 1, 2, 3, 4, 5, 6] rfl)
def b_X8_slackOf_50 (c6 : Int32 → Int32 → Int32 → Int64 → Int32 → Sto → Option (Int64 × Sto)) (k0 n0 : Nat) (v1 : Int32) (v2 : Int32) (v3 : Int32) (v4 : Int64) (v6 : Int32) (v7 : Int64) (s0 : Int32) (s1 : Int32) (σ : Sto) : Option (Int64 × Sto) :=
  if s1 = s0 then (b_X8_slackOf_58 c6 k0 n0 v1 v2 v3 v4 v6 v7 (1 : Int32) σ) else (b_X8_slackOf_57 c6 k0 n0 v1 v2 v3 v4 v6 v7 σ)
set_option maxHeartbeats 4000000 in
set_option maxRecDepth 100000 in
theorem w_X8_slackOf_50 {p : Program} {l : Launch} {e : Env} {s : State} {m : MethodId} {args : Array Value} {below : List Frame} {meth : Method} {c : Code} {G : Gd} {B : Nat} (X : Cm p s m args meth c cX8_slackOf 10 RX8 G (some .long)) (c6 : Int32 → Int32 → Int32 → Int64 → Int32 → Sto → Option (Int64 × Sto)) (k0 n0 : Nat) (h0 : (k0 < layM.2.2 ∧ layM.1 k0 = .inr (.long, n0))) {r : Int64} {σr : Sto} (ih6 : ∀ (v1 : Int32) (v2 : Int32) (v3 : Int32) (v4 : Int64) (v6 : Int32) (σ : Sto) (H : Heap) (locs : List Loc) (ls : Array Slot), c6 v1 v2 v3 v4 v6 σ = some (r, σr) → HX G layM B σ H → va_S (inW layM B) s.heap H locs → lv_has ls 10 [(0, .ref (B + k0)), (1, .int v1), (2, .int v2), (3, .int v3), (4, .long v4), (6, .int v6)] → WM p l e 1 s m args below meth c H locs G layM B (some (.long r)) σr (F0 m 6 ls [])) (v1 : Int32) (v2 : Int32) (v3 : Int32) (v4 : Int64) (v6 : Int32) (v7 : Int64) (s0 : Int32) (s1 : Int32) (σ : Sto) (hf : b_X8_slackOf_50 c6 k0 n0 v1 v2 v3 v4 v6 v7 s0 s1 σ = some (r, σr)) (H : Heap) (locs : List Loc) (hH : HX G layM B σ H) (hS : va_S (inW layM B) s.heap H locs) (ls : Array Slot) (hl : lv_has ls 10 [(0, .ref (B + k0)), (1, .int v1), (2, .int v2), (3, .int v3), (4, .long v4), (6, .int v6), (7, .long v7)]) : WM p l e 1 s m args below meth c H locs G layM B (some (.long r)) σr (F0 m 50 ls [.int s0, .int s1]) := by
  unfold b_X8_slackOf_50 at hf
  have hx := X.1.1
  have hb := X.1.2.1
  refine lv_icmp_ne (tgt := 57) hx hb dX8_slackOf_50 (by decide) (fun q615 => ?_) (fun q615 => ?_)
  · replace hf := brF hf q615
    exact w_X8_slackOf_57 X c6 k0 n0 h0 ih6 v1 v2 v3 v4 v6 v7 σ hf _ _ hH hS _ (lv_sub hl [0, 1, 2, 3, 4, 5, 6] rfl)
  · replace hf := brT hf q615
    refine lv_iconst (v := 1) hx hb dX8_slackOf_53 (by decide) ?_
    refine lv_goto (tgt := 58) hx hb dX8_slackOf_54 (by decide) ?_
    exact w_X8_slackOf_58 X c6 k0 n0 h0 ih6 v1 v2 v3 v4 v6 v7 (1 : Int32) σ hf _ _ hH hS _ (lv_sub hl [0, 1, 2, 3, 4, 5, 6] rfl)
def b_X8_slackOf_6 (c6 : Int32 → Int32 → Int32 → Int64 → Int32 → Sto → Option (Int64 × Sto)) (k0 n0 : Nat) (v1 : Int32) (v2 : Int32) (v3 : Int32) (v4 : Int64) (v6 : Int32) (σ : Sto) : Option (Int64 × Sto) :=
  if (8 : Int32) ≤ v6 then (if ((v1 + (1 : Int32)) < 0 ∨ n0 ≤ (v1 + (1 : Int32)).toNatClampNeg) then none else some ((v4 - (σ.2 k0 (v1 + (1 : Int32)).toNatClampNeg)), σ)) else (if (((v1 + (2 : Int32)) + v6) < 0 ∨ n0 ≤ ((v1 + (2 : Int32)) + v6).toNatClampNeg) then none else nmS (σ.2 k0 ((v1 + (2 : Int32)) + v6).toNatClampNeg) fun y204 => bd2 (f_X8_has v2 v6 σ) fun r206 σ205 => if r206 = 0 then (b_X8_slackOf_57 c6 k0 n0 v1 v2 v3 v4 v6 y204 σ205) else (bd2 (f_X8_has v3 v6 σ205) fun r513 σ512 => if (0 : Int64) ≤ y204 then (b_X8_slackOf_50 c6 k0 n0 v1 v2 v3 v4 v6 y204 (0 : Int32) r513 σ512) else (b_X8_slackOf_50 c6 k0 n0 v1 v2 v3 v4 v6 y204 (1 : Int32) r513 σ512)))
set_option maxHeartbeats 4000000 in
set_option maxRecDepth 100000 in
theorem w_X8_slackOf_6 {p : Program} {l : Launch} {e : Env} {s : State} {m : MethodId} {args : Array Value} {below : List Frame} {meth : Method} {c : Code} {G : Gd} {B : Nat} (X : Cm p s m args meth c cX8_slackOf 10 RX8 G (some .long)) (c6 : Int32 → Int32 → Int32 → Int64 → Int32 → Sto → Option (Int64 × Sto)) (k0 n0 : Nat) (h0 : (k0 < layM.2.2 ∧ layM.1 k0 = .inr (.long, n0))) {r : Int64} {σr : Sto} (ih6 : ∀ (v1 : Int32) (v2 : Int32) (v3 : Int32) (v4 : Int64) (v6 : Int32) (σ : Sto) (H : Heap) (locs : List Loc) (ls : Array Slot), c6 v1 v2 v3 v4 v6 σ = some (r, σr) → HX G layM B σ H → va_S (inW layM B) s.heap H locs → lv_has ls 10 [(0, .ref (B + k0)), (1, .int v1), (2, .int v2), (3, .int v3), (4, .long v4), (6, .int v6)] → WM p l e 1 s m args below meth c H locs G layM B (some (.long r)) σr (F0 m 6 ls [])) (v1 : Int32) (v2 : Int32) (v3 : Int32) (v4 : Int64) (v6 : Int32) (σ : Sto) (hf : b_X8_slackOf_6 c6 k0 n0 v1 v2 v3 v4 v6 σ = some (r, σr)) (H : Heap) (locs : List Loc) (hH : HX G layM B σ H) (hS : va_S (inW layM B) s.heap H locs) (ls : Array Slot) (hl : lv_has ls 10 [(0, .ref (B + k0)), (1, .int v1), (2, .int v2), (3, .int v3), (4, .long v4), (6, .int v6)]) : WM p l e 1 s m args below meth c H locs G layM B (some (.long r)) σr (F0 m 6 ls []) := by
  unfold b_X8_slackOf_6 at hf
  have hx := X.1.1
  have hb := X.1.2.1
  refine lv_iload hx hb dX8_slackOf_6 (lv_at hl 5 rfl) ?_
  refine lv_bipush (v := 8) hx hb dX8_slackOf_8 (by decide) ?_
  refine lv_icmp_ge (tgt := 85) hx hb dX8_slackOf_10 (by decide) (fun q201 => ?_) (fun q201 => ?_)
  · replace hf := brT hf q201
    refine lv_lload hx hb dX8_slackOf_85 (lv_at hl 4 rfl) ?_
    refine lv_aload_n hx hb dX8_slackOf_87 rfl (lv_at hl 0 rfl) ?_
    refine lv_iload_n hx hb dX8_slackOf_88 rfl (lv_at hl 1 rfl) ?_
    refine lv_iconst (v := 1) hx hb dX8_slackOf_89 (by decide) ?_
    refine lv_iadd hx hb dX8_slackOf_90 ?_
    obtain ⟨q202, hf⟩ := chk hf
    refine g_lald (j := (v1 + (1 : Int32)).toNatClampNeg) X.1 hH h0 q202 rfl dX8_slackOf_91 ?_
    refine lv_lsub hx hb dX8_slackOf_92 ?_
    obtain ⟨rfl, rfl⟩ := rt2 hf
    exact g_lret X hH hS dX8_slackOf_93
  · replace hf := brF hf q201
    refine lv_aload_n hx hb dX8_slackOf_13 rfl (lv_at hl 0 rfl) ?_
    refine lv_iload_n hx hb dX8_slackOf_14 rfl (lv_at hl 1 rfl) ?_
    refine lv_iconst (v := 2) hx hb dX8_slackOf_15 (by decide) ?_
    refine lv_iadd hx hb dX8_slackOf_16 ?_
    refine lv_iload hx hb dX8_slackOf_17 (lv_at hl 5 rfl) ?_
    refine lv_iadd hx hb dX8_slackOf_19 ?_
    obtain ⟨q203, hf⟩ := chk hf
    refine g_lald (j := ((v1 + (2 : Int32)) + v6).toNatClampNeg) X.1 hH h0 q203 rfl dX8_slackOf_20 ?_
    refine lv_topl (fun y204 ey204 => ?_)
    replace hf := nmU hf ey204
    refine lv_lstore (lv' := [(7, .long y204), (0, .ref (B + k0)), (1, .int v1), (2, .int v2), (3, .int v3), (4, .long v4), (6, .int v6)]) hx hb dX8_slackOf_21 hl (by decide) rfl (fun ls hl => ?_)
    refine lv_iload_n hx hb dX8_slackOf_23 rfl (lv_at hl 3 rfl) ?_
    refine lv_iload hx hb dX8_slackOf_24 (lv_at hl 6 rfl) ?_
    obtain ⟨r206, σ205, eσ205, hf⟩ := bnd2 hf
    refine g_cSi (As := [.int v2, .int v6]) X.1 hH hS (c_X8_has l G B v2 v6 σ σ205 r206 eσ205) kw_RX8_133 (by decide) rfl hl (Nat.le_of_ble_eq_true rfl) rfl dX8_slackOf_26 (fun H locs hH hS => ?_)
    refine lv_if_eq (tgt := 57) hx hb dX8_slackOf_29 (by decide) (fun q207 => ?_) (fun q207 => ?_)
    · replace hf := brT hf q207
      exact w_X8_slackOf_57 X c6 k0 n0 h0 ih6 v1 v2 v3 v4 v6 y204 σ205 hf _ _ hH hS _ (lv_sub hl [1, 2, 3, 4, 5, 6, 0] rfl)
    · replace hf := brF hf q207
      refine lv_iload_n hx hb dX8_slackOf_32 rfl (lv_at hl 4 rfl) ?_
      refine lv_iload hx hb dX8_slackOf_33 (lv_at hl 6 rfl) ?_
      obtain ⟨r513, σ512, eσ512, hf⟩ := bnd2 hf
      refine g_cSi (As := [.int v3, .int v6]) X.1 hH hS (c_X8_has l G B v3 v6 σ205 σ512 r513 eσ512) kw_RX8_133 (by decide) rfl hl (Nat.le_of_ble_eq_true rfl) rfl dX8_slackOf_35 (fun H locs hH hS => ?_)
      refine lv_lload hx hb dX8_slackOf_38 (lv_at hl 0 rfl) ?_
      refine lv_lconst (v := 0) hx hb dX8_slackOf_40 (by decide) ?_
      refine g_lge (tgt := 49) X.1 dX8_slackOf_41 dX8_slackOf_42 (by decide) (fun q514 => ?_) (fun q514 => ?_)
      · replace hf := brT hf q514
        refine lv_iconst (v := 0) hx hb dX8_slackOf_49 (by decide) ?_
        exact w_X8_slackOf_50 X c6 k0 n0 h0 ih6 v1 v2 v3 v4 v6 y204 (0 : Int32) r513 σ512 hf _ _ hH hS _ (lv_sub hl [1, 2, 3, 4, 5, 6, 0] rfl)
      · replace hf := brF hf q514
        refine lv_iconst (v := 1) hx hb dX8_slackOf_45 (by decide) ?_
        refine lv_goto (tgt := 50) hx hb dX8_slackOf_46 (by decide) ?_
        exact w_X8_slackOf_50 X c6 k0 n0 h0 ih6 v1 v2 v3 v4 v6 y204 (1 : Int32) r513 σ512 hf _ _ hH hS _ (lv_sub hl [1, 2, 3, 4, 5, 6, 0] rfl)
def l_X8_slackOf_6 (k0 n0 : Nat) : Nat → Int32 → Int32 → Int32 → Int64 → Int32 → Sto → Option (Int64 × Sto)
  | 0, _, _, _, _, _, _ => none
  | n + 1, v1, v2, v3, v4, v6, σ => b_X8_slackOf_6 (l_X8_slackOf_6 k0 n0 n) k0 n0 v1 v2 v3 v4 v6 σ
set_option maxHeartbeats 4000000 in
set_option maxRecDepth 100000 in
theorem wl_X8_slackOf_6 {p : Program} {l : Launch} {e : Env} {s : State} {m : MethodId} {args : Array Value} {below : List Frame} {meth : Method} {c : Code} {G : Gd} {B : Nat} (X : Cm p s m args meth c cX8_slackOf 10 RX8 G (some .long)) (k0 n0 : Nat) (h0 : (k0 < layM.2.2 ∧ layM.1 k0 = .inr (.long, n0))) {r : Int64} {σr : Sto} (n : Nat) : ∀ (v1 : Int32) (v2 : Int32) (v3 : Int32) (v4 : Int64) (v6 : Int32) (σ : Sto) (H : Heap) (locs : List Loc) (ls : Array Slot), l_X8_slackOf_6 k0 n0 n v1 v2 v3 v4 v6 σ = some (r, σr) → HX G layM B σ H → va_S (inW layM B) s.heap H locs → lv_has ls 10 [(0, .ref (B + k0)), (1, .int v1), (2, .int v2), (3, .int v3), (4, .long v4), (6, .int v6)] → WM p l e 1 s m args below meth c H locs G layM B (some (.long r)) σr (F0 m 6 ls []) := by
  induction n with
  | zero =>
    intro _ _ _ _ _ σ H locs ls hf
    cases hf
  | succ n ih =>
    intro v1 v2 v3 v4 v6 σ H locs ls hf hH hS hl
    exact w_X8_slackOf_6 X (l_X8_slackOf_6 k0 n0 n) k0 n0 h0 ih v1 v2 v3 v4 v6 σ hf H locs hH hS ls hl
def f_X8_slackOf (k0 n0 : Nat) (x1 : Int32) (x2 : Int32) (x3 : Int32) (σ : Sto) : Option (Int64 × Sto) :=
  l_X8_slackOf_6 k0 n0 400 x1 x2 x3 (0 : Int64) (0 : Int32) σ
set_option maxHeartbeats 4000000 in
set_option maxRecDepth 100000 in
theorem w_X8_slackOf {p : Program} {l : Launch} {e : Env} {s : State} {m : MethodId} {args : Array Value} {below : List Frame} {meth : Method} {c : Code} {G : Gd} {B : Nat} (X : Cm p s m args meth c cX8_slackOf 10 RX8 G (some .long)) (k0 n0 : Nat) (h0 : (k0 < layM.2.2 ∧ layM.1 k0 = .inr (.long, n0))) {r : Int64} {σr : Sto} (x1 : Int32) (x2 : Int32) (x3 : Int32) (σ : Sto) (hf : f_X8_slackOf k0 n0 x1 x2 x3 σ = some (r, σr)) (H : Heap) (locs : List Loc) (hH : HX G layM B σ H) (hS : va_S (inW layM B) s.heap H locs) (ls : Array Slot) (hl : lv_has ls 10 [(0, .ref (B + k0)), (1, .int x1), (2, .int x2), (3, .int x3)]) : WM p l e 1 s m args below meth c H locs G layM B (some (.long r)) σr (F0 m 0 ls []) := by
  unfold f_X8_slackOf at hf
  have hx := X.1.1
  have hb := X.1.2.1
  refine lv_lconst (v := 0) hx hb dX8_slackOf_0 (by decide) ?_
  refine lv_lstore (lv' := [(4, .long (0 : Int64)), (0, .ref (B + k0)), (1, .int x1), (2, .int x2), (3, .int x3)]) hx hb dX8_slackOf_1 hl (by decide) rfl (fun ls hl => ?_)
  refine lv_iconst (v := 0) hx hb dX8_slackOf_3 (by decide) ?_
  refine lv_istore (lv' := [(6, .int (0 : Int32)), (4, .long (0 : Int64)), (0, .ref (B + k0)), (1, .int x1), (2, .int x2), (3, .int x3)]) hx hb dX8_slackOf_4 hl (by decide) rfl (fun ls hl => ?_)
  exact wl_X8_slackOf_6 X k0 n0 h0 400 x1 x2 x3 (0 : Int64) (0 : Int32) σ _ _ _ hf hH hS (lv_sub hl [2, 3, 4, 5, 1, 0] rfl)
theorem c_X8_slackOf (l : Launch) (G : Gd) (B : Nat) (k0 n0 : Nat) (h0 : (k0 < layM.2.2 ∧ layM.1 k0 = .inr (.long, n0))) (x1 : Int32) (x2 : Int32) (x3 : Int32) (σ σr : Sto) (r : Int64) (hf : f_X8_slackOf k0 n0 x1 x2 x3 σ = some (r, σr)) : Ct l G layM B yX8_slackOf cX8_slackOf 10 (some .long) 1 [.ref (B + k0), .int x1, .int x2, .int x3] (some (.long r)) σ σr :=
  Ct.ofW (by decide) (Nat.le_of_ble_eq_true rfl) (fun _ _ _ _ _ _ _ X hH hS ls hl => w_X8_slackOf X k0 n0 h0 x1 x2 x3 σ hf _ _ hH hS ls (show lv_has ls 10 [(0, .ref (B + k0)), (1, .int x1), (2, .int x2), (3, .int x3)] from hl))
-- SlackProofsModel.isHolding(II)Z  (D 2)
def b_X8_isHolding_28 (s0 : Int32) (σ : Sto) : Option (Int32 × Sto) :=
  if ¬ (s0 = 0 ∨ s0 = 1) then none else some (s0, σ)
set_option maxHeartbeats 4000000 in
set_option maxRecDepth 100000 in
theorem w_X8_isHolding_28 {p : Program} {l : Launch} {e : Env} {s : State} {m : MethodId} {args : Array Value} {below : List Frame} {meth : Method} {c : Code} {G : Gd} {B : Nat} (X : Cm p s m args meth c cX8_isHolding 3 RX8 G (some .boolean)) {r : Int32} {σr : Sto} (s0 : Int32) (σ : Sto) (hf : b_X8_isHolding_28 s0 σ = some (r, σr)) (H : Heap) (locs : List Loc) (hH : HX G layM B σ H) (hS : va_S (inW layM B) s.heap H locs) (ls : Array Slot) (hl : lv_has ls 3 []) : WM p l e 2 s m args below meth c H locs G layM B (some (.int r)) σr (F0 m 28 ls [.int s0]) := by
  unfold b_X8_isHolding_28 at hf
  have hx := X.1.1
  have hb := X.1.2.1
  obtain ⟨q204, hf⟩ := chk hf
  obtain ⟨rfl, rfl⟩ := rt2 hf
  exact g_zret X hH hS (Decidable.not_not.mp q204) dX8_isHolding_28
def f_X8_isHolding (x1 : Int32) (x2 : Int32) (σ : Sto) : Option (Int32 × Sto) :=
  bd2 (f_X8_slackOf 6 312 ((12 : Int32) + ((10 : Int32) * x1)) (255 : Int32) x2 σ) fun r102 σ101 => if r102 < (0 : Int64) then (b_X8_isHolding_28 (0 : Int32) σ101) else (b_X8_isHolding_28 (1 : Int32) σ101)
set_option maxHeartbeats 4000000 in
set_option maxRecDepth 100000 in
theorem w_X8_isHolding {p : Program} {l : Launch} {e : Env} {s : State} {m : MethodId} {args : Array Value} {below : List Frame} {meth : Method} {c : Code} {G : Gd} {B : Nat} (X : Cm p s m args meth c cX8_isHolding 3 RX8 G (some .boolean)) {r : Int32} {σr : Sto} (x1 : Int32) (x2 : Int32) (σ : Sto) (hf : f_X8_isHolding x1 x2 σ = some (r, σr)) (H : Heap) (locs : List Loc) (hH : HX G layM B σ H) (hS : va_S (inW layM B) s.heap H locs) (ls : Array Slot) (hl : lv_has ls 3 [(0, .ref (B + 0)), (1, .int x1), (2, .int x2)]) : WM p l e 2 s m args below meth c H locs G layM B (some (.int r)) σr (F0 m 0 ls []) := by
  unfold f_X8_isHolding at hf
  have hx := X.1.1
  have hb := X.1.2.1
  refine lv_aload_n hx hb dX8_isHolding_0 rfl (lv_at hl 0 rfl) ?_
  refine g_get (v := .ref (B + 6)) kX8 (by decide) fl_RX8_25 X.1 hH km_0 rfl dX8_isHolding_1 ?_
  refine lv_bipush (v := 12) hx hb dX8_isHolding_4 (by decide) ?_
  refine lv_bipush (v := 10) hx hb dX8_isHolding_6 (by decide) ?_
  refine lv_iload_n hx hb dX8_isHolding_8 rfl (lv_at hl 1 rfl) ?_
  refine lv_imul hx hb dX8_isHolding_9 ?_
  refine lv_iadd hx hb dX8_isHolding_10 ?_
  refine lv_sipush (v := 255) hx hb dX8_isHolding_11 (by decide) ?_
  refine lv_iload_n hx hb dX8_isHolding_14 rfl (lv_at hl 2 rfl) ?_
  obtain ⟨r102, σ101, eσ101, hf⟩ := bnd2 hf
  refine g_cSl (As := [.ref (B + 6), .int ((12 : Int32) + ((10 : Int32) * x1)), .int (255 : Int32), .int x2]) X.1 hH hS (c_X8_slackOf l G B 6 312 km_6 ((12 : Int32) + ((10 : Int32) * x1)) (255 : Int32) x2 σ σ101 r102 eσ101) kw_RX8_206 (by decide) rfl hl (Nat.le_of_ble_eq_true rfl) rfl dX8_isHolding_15 (fun H locs hH hS => ?_)
  refine lv_lconst (v := 0) hx hb dX8_isHolding_18 (by decide) ?_
  refine g_llt (tgt := 27) X.1 dX8_isHolding_19 dX8_isHolding_20 (by decide) (fun q103 => ?_) (fun q103 => ?_)
  · replace hf := brT hf q103
    refine lv_iconst (v := 0) hx hb dX8_isHolding_27 (by decide) ?_
    exact w_X8_isHolding_28 X (0 : Int32) σ101 hf _ _ hH hS _ (lv_sub hl [] rfl)
  · replace hf := brF hf q103
    refine lv_iconst (v := 1) hx hb dX8_isHolding_23 (by decide) ?_
    refine lv_goto (tgt := 28) hx hb dX8_isHolding_24 (by decide) ?_
    exact w_X8_isHolding_28 X (1 : Int32) σ101 hf _ _ hH hS _ (lv_sub hl [] rfl)
theorem c_X8_isHolding (l : Launch) (G : Gd) (B : Nat) (x1 : Int32) (x2 : Int32) (σ σr : Sto) (r : Int32) (hf : f_X8_isHolding x1 x2 σ = some (r, σr)) : Ct l G layM B yX8_isHolding cX8_isHolding 3 (some .boolean) 2 [.ref (B + 0), .int x1, .int x2] (some (.int r)) σ σr :=
  Ct.ofW (by decide) (Nat.le_of_ble_eq_true rfl) (fun _ _ _ _ _ _ _ X hH hS ls hl => w_X8_isHolding X x1 x2 σ hf _ _ hH hS ls (show lv_has ls 3 [(0, .ref (B + 0)), (1, .int x1), (2, .int x2)] from hl))
-- SlackProofsModel.areHolding(I)Z  (D 3)
def b_X8_areHolding_36 (c4 : Int32 → Int32 → Int32 → Sto → Option (Int32 × Sto)) (v1 : Int32) (v3 : Int32) (s0 : Int32) (σ : Sto) : Option (Int32 × Sto) :=
  c4 v1 s0 (v3 + (1 : Int32)) σ
set_option maxHeartbeats 4000000 in
set_option maxRecDepth 100000 in
theorem w_X8_areHolding_36 {p : Program} {l : Launch} {e : Env} {s : State} {m : MethodId} {args : Array Value} {below : List Frame} {meth : Method} {c : Code} {G : Gd} {B : Nat} (X : Cm p s m args meth c cX8_areHolding 4 RX8 G (some .boolean)) (c4 : Int32 → Int32 → Int32 → Sto → Option (Int32 × Sto)) {r : Int32} {σr : Sto} (ih4 : ∀ (v1 : Int32) (v2 : Int32) (v3 : Int32) (σ : Sto) (H : Heap) (locs : List Loc) (ls : Array Slot), c4 v1 v2 v3 σ = some (r, σr) → HX G layM B σ H → va_S (inW layM B) s.heap H locs → lv_has ls 4 [(0, .ref (B + 0)), (1, .int v1), (2, .int v2), (3, .int v3)] → WM p l e 3 s m args below meth c H locs G layM B (some (.int r)) σr (F0 m 4 ls [])) (v1 : Int32) (v3 : Int32) (s0 : Int32) (σ : Sto) (hf : b_X8_areHolding_36 c4 v1 v3 s0 σ = some (r, σr)) (H : Heap) (locs : List Loc) (hH : HX G layM B σ H) (hS : va_S (inW layM B) s.heap H locs) (ls : Array Slot) (hl : lv_has ls 4 [(0, .ref (B + 0)), (1, .int v1), (3, .int v3)]) : WM p l e 3 s m args below meth c H locs G layM B (some (.int r)) σr (F0 m 36 ls [.int s0]) := by
  unfold b_X8_areHolding_36 at hf
  have hx := X.1.1
  have hb := X.1.2.1
  refine lv_istore_n (lv' := [(2, .int s0), (0, .ref (B + 0)), (1, .int v1), (3, .int v3)]) hx hb dX8_areHolding_36 rfl hl (by decide) rfl (fun ls hl => ?_)
  refine lv_iinc (v := (v3 + (1 : Int32))) (lv' := [(3, .int (v3 + (1 : Int32))), (2, .int s0), (0, .ref (B + 0)), (1, .int v1)]) hx hb dX8_areHolding_37 hl (k := 3) rfl rfl (by decide) rfl (fun ls hl => ?_)
  refine lv_goto (tgt := 4) hx hb dX8_areHolding_40 (by decide) ?_
  exact ih4 v1 s0 (v3 + (1 : Int32)) σ _ _ _ hf hH hS (lv_sub hl [2, 3, 1, 0] rfl)
def b_X8_areHolding_35 (c4 : Int32 → Int32 → Int32 → Sto → Option (Int32 × Sto)) (v1 : Int32) (v3 : Int32) (σ : Sto) : Option (Int32 × Sto) :=
  b_X8_areHolding_36 c4 v1 v3 (0 : Int32) σ
set_option maxHeartbeats 4000000 in
set_option maxRecDepth 100000 in
theorem w_X8_areHolding_35 {p : Program} {l : Launch} {e : Env} {s : State} {m : MethodId} {args : Array Value} {below : List Frame} {meth : Method} {c : Code} {G : Gd} {B : Nat} (X : Cm p s m args meth c cX8_areHolding 4 RX8 G (some .boolean)) (c4 : Int32 → Int32 → Int32 → Sto → Option (Int32 × Sto)) {r : Int32} {σr : Sto} (ih4 : ∀ (v1 : Int32) (v2 : Int32) (v3 : Int32) (σ : Sto) (H : Heap) (locs : List Loc) (ls : Array Slot), c4 v1 v2 v3 σ = some (r, σr) → HX G layM B σ H → va_S (inW layM B) s.heap H locs → lv_has ls 4 [(0, .ref (B + 0)), (1, .int v1), (2, .int v2), (3, .int v3)] → WM p l e 3 s m args below meth c H locs G layM B (some (.int r)) σr (F0 m 4 ls [])) (v1 : Int32) (v3 : Int32) (σ : Sto) (hf : b_X8_areHolding_35 c4 v1 v3 σ = some (r, σr)) (H : Heap) (locs : List Loc) (hH : HX G layM B σ H) (hS : va_S (inW layM B) s.heap H locs) (ls : Array Slot) (hl : lv_has ls 4 [(0, .ref (B + 0)), (1, .int v1), (3, .int v3)]) : WM p l e 3 s m args below meth c H locs G layM B (some (.int r)) σr (F0 m 35 ls []) := by
  unfold b_X8_areHolding_35 at hf
  have hx := X.1.1
  have hb := X.1.2.1
  refine lv_iconst (v := 0) hx hb dX8_areHolding_35 (by decide) ?_
  exact w_X8_areHolding_36 X c4 ih4 v1 v3 (0 : Int32) σ hf _ _ hH hS _ (lv_sub hl [0, 1, 2] rfl)
def b_X8_areHolding_31 (c4 : Int32 → Int32 → Int32 → Sto → Option (Int32 × Sto)) (v1 : Int32) (v3 : Int32) (σ : Sto) : Option (Int32 × Sto) :=
  b_X8_areHolding_36 c4 v1 v3 (1 : Int32) σ
set_option maxHeartbeats 4000000 in
set_option maxRecDepth 100000 in
theorem w_X8_areHolding_31 {p : Program} {l : Launch} {e : Env} {s : State} {m : MethodId} {args : Array Value} {below : List Frame} {meth : Method} {c : Code} {G : Gd} {B : Nat} (X : Cm p s m args meth c cX8_areHolding 4 RX8 G (some .boolean)) (c4 : Int32 → Int32 → Int32 → Sto → Option (Int32 × Sto)) {r : Int32} {σr : Sto} (ih4 : ∀ (v1 : Int32) (v2 : Int32) (v3 : Int32) (σ : Sto) (H : Heap) (locs : List Loc) (ls : Array Slot), c4 v1 v2 v3 σ = some (r, σr) → HX G layM B σ H → va_S (inW layM B) s.heap H locs → lv_has ls 4 [(0, .ref (B + 0)), (1, .int v1), (2, .int v2), (3, .int v3)] → WM p l e 3 s m args below meth c H locs G layM B (some (.int r)) σr (F0 m 4 ls [])) (v1 : Int32) (v3 : Int32) (σ : Sto) (hf : b_X8_areHolding_31 c4 v1 v3 σ = some (r, σr)) (H : Heap) (locs : List Loc) (hH : HX G layM B σ H) (hS : va_S (inW layM B) s.heap H locs) (ls : Array Slot) (hl : lv_has ls 4 [(0, .ref (B + 0)), (1, .int v1), (3, .int v3)]) : WM p l e 3 s m args below meth c H locs G layM B (some (.int r)) σr (F0 m 31 ls []) := by
  unfold b_X8_areHolding_31 at hf
  have hx := X.1.1
  have hb := X.1.2.1
  refine lv_iconst (v := 1) hx hb dX8_areHolding_31 (by decide) ?_
  refine lv_goto (tgt := 36) hx hb dX8_areHolding_32 (by decide) ?_
  exact w_X8_areHolding_36 X c4 ih4 v1 v3 (1 : Int32) σ hf _ _ hH hS _ (lv_sub hl [0, 1, 2] rfl)
def b_X8_areHolding_4 (c4 : Int32 → Int32 → Int32 → Sto → Option (Int32 × Sto)) (v1 : Int32) (v2 : Int32) (v3 : Int32) (σ : Sto) : Option (Int32 × Sto) :=
  if (30 : Int32) ≤ v3 then (if ¬ (v2 = 0 ∨ v2 = 1) then none else some (v2, σ)) else (if v2 = 0 then (b_X8_areHolding_35 c4 v1 v3 σ) else (bd2 (f_X8_isLive v3 σ) fun r405 σ404 => if r405 = 0 then (b_X8_areHolding_31 c4 v1 v3 σ404) else (bd2 (f_X8_isHolding v3 v1 σ404) fun r508 σ507 => if r508 = 0 then (b_X8_areHolding_35 c4 v1 v3 σ507) else (b_X8_areHolding_31 c4 v1 v3 σ507))))
set_option maxHeartbeats 4000000 in
set_option maxRecDepth 100000 in
theorem w_X8_areHolding_4 {p : Program} {l : Launch} {e : Env} {s : State} {m : MethodId} {args : Array Value} {below : List Frame} {meth : Method} {c : Code} {G : Gd} {B : Nat} (X : Cm p s m args meth c cX8_areHolding 4 RX8 G (some .boolean)) (c4 : Int32 → Int32 → Int32 → Sto → Option (Int32 × Sto)) {r : Int32} {σr : Sto} (ih4 : ∀ (v1 : Int32) (v2 : Int32) (v3 : Int32) (σ : Sto) (H : Heap) (locs : List Loc) (ls : Array Slot), c4 v1 v2 v3 σ = some (r, σr) → HX G layM B σ H → va_S (inW layM B) s.heap H locs → lv_has ls 4 [(0, .ref (B + 0)), (1, .int v1), (2, .int v2), (3, .int v3)] → WM p l e 3 s m args below meth c H locs G layM B (some (.int r)) σr (F0 m 4 ls [])) (v1 : Int32) (v2 : Int32) (v3 : Int32) (σ : Sto) (hf : b_X8_areHolding_4 c4 v1 v2 v3 σ = some (r, σr)) (H : Heap) (locs : List Loc) (hH : HX G layM B σ H) (hS : va_S (inW layM B) s.heap H locs) (ls : Array Slot) (hl : lv_has ls 4 [(0, .ref (B + 0)), (1, .int v1), (2, .int v2), (3, .int v3)]) : WM p l e 3 s m args below meth c H locs G layM B (some (.int r)) σr (F0 m 4 ls []) := by
  unfold b_X8_areHolding_4 at hf
  have hx := X.1.1
  have hb := X.1.2.1
  refine lv_iload_n hx hb dX8_areHolding_4 rfl (lv_at hl 3 rfl) ?_
  refine lv_bipush (v := 30) hx hb dX8_areHolding_5 (by decide) ?_
  refine lv_icmp_ge (tgt := 43) hx hb dX8_areHolding_7 (by decide) (fun q201 => ?_) (fun q201 => ?_)
  · replace hf := brT hf q201
    refine lv_iload_n hx hb dX8_areHolding_43 rfl (lv_at hl 2 rfl) ?_
    obtain ⟨q202, hf⟩ := chk hf
    obtain ⟨rfl, rfl⟩ := rt2 hf
    exact g_zret X hH hS (Decidable.not_not.mp q202) dX8_areHolding_44
  · replace hf := brF hf q201
    refine lv_iload_n hx hb dX8_areHolding_10 rfl (lv_at hl 2 rfl) ?_
    refine lv_if_eq (tgt := 35) hx hb dX8_areHolding_11 (by decide) (fun q203 => ?_) (fun q203 => ?_)
    · replace hf := brT hf q203
      exact w_X8_areHolding_35 X c4 ih4 v1 v3 σ hf _ _ hH hS _ (lv_sub hl [0, 1, 3] rfl)
    · replace hf := brF hf q203
      refine lv_aload_n hx hb dX8_areHolding_14 rfl (lv_at hl 0 rfl) ?_
      refine lv_iload_n hx hb dX8_areHolding_15 rfl (lv_at hl 3 rfl) ?_
      obtain ⟨r405, σ404, eσ404, hf⟩ := bnd2 hf
      refine g_cVi (As := [.int v3]) X.1 hH hS (c_X8_isLive l G B v3 σ σ404 r405 eσ404) kw_RX8_175 kX8 km_0 (by decide) rfl hl (Nat.le_of_ble_eq_true rfl) rfl dX8_areHolding_16 (fun H locs hH hS => ?_)
      refine lv_if_eq (tgt := 31) hx hb dX8_areHolding_19 (by decide) (fun q406 => ?_) (fun q406 => ?_)
      · replace hf := brT hf q406
        exact w_X8_areHolding_31 X c4 ih4 v1 v3 σ404 hf _ _ hH hS _ (lv_sub hl [0, 1, 3] rfl)
      · replace hf := brF hf q406
        refine lv_aload_n hx hb dX8_areHolding_22 rfl (lv_at hl 0 rfl) ?_
        refine lv_iload_n hx hb dX8_areHolding_23 rfl (lv_at hl 3 rfl) ?_
        refine lv_iload_n hx hb dX8_areHolding_24 rfl (lv_at hl 1 rfl) ?_
        obtain ⟨r508, σ507, eσ507, hf⟩ := bnd2 hf
        refine g_cVi (As := [.int v3, .int v1]) X.1 hH hS (c_X8_isHolding l G B v3 v1 σ404 σ507 r508 eσ507) kw_RX8_244 kX8 km_0 (by decide) rfl hl (Nat.le_of_ble_eq_true rfl) rfl dX8_areHolding_25 (fun H locs hH hS => ?_)
        refine lv_if_eq (tgt := 35) hx hb dX8_areHolding_28 (by decide) (fun q509 => ?_) (fun q509 => ?_)
        · replace hf := brT hf q509
          exact w_X8_areHolding_35 X c4 ih4 v1 v3 σ507 hf _ _ hH hS _ (lv_sub hl [0, 1, 3] rfl)
        · replace hf := brF hf q509
          exact w_X8_areHolding_31 X c4 ih4 v1 v3 σ507 hf _ _ hH hS _ (lv_sub hl [0, 1, 3] rfl)
def l_X8_areHolding_4 : Nat → Int32 → Int32 → Int32 → Sto → Option (Int32 × Sto)
  | 0, _, _, _, _ => none
  | n + 1, v1, v2, v3, σ => b_X8_areHolding_4 (l_X8_areHolding_4 n) v1 v2 v3 σ
set_option maxHeartbeats 4000000 in
set_option maxRecDepth 100000 in
theorem wl_X8_areHolding_4 {p : Program} {l : Launch} {e : Env} {s : State} {m : MethodId} {args : Array Value} {below : List Frame} {meth : Method} {c : Code} {G : Gd} {B : Nat} (X : Cm p s m args meth c cX8_areHolding 4 RX8 G (some .boolean)) {r : Int32} {σr : Sto} (n : Nat) : ∀ (v1 : Int32) (v2 : Int32) (v3 : Int32) (σ : Sto) (H : Heap) (locs : List Loc) (ls : Array Slot), l_X8_areHolding_4 n v1 v2 v3 σ = some (r, σr) → HX G layM B σ H → va_S (inW layM B) s.heap H locs → lv_has ls 4 [(0, .ref (B + 0)), (1, .int v1), (2, .int v2), (3, .int v3)] → WM p l e 3 s m args below meth c H locs G layM B (some (.int r)) σr (F0 m 4 ls []) := by
  induction n with
  | zero =>
    intro _ _ _ σ H locs ls hf
    cases hf
  | succ n ih =>
    intro v1 v2 v3 σ H locs ls hf hH hS hl
    exact w_X8_areHolding_4 X (l_X8_areHolding_4 n) ih v1 v2 v3 σ hf H locs hH hS ls hl
def f_X8_areHolding (x1 : Int32) (σ : Sto) : Option (Int32 × Sto) :=
  l_X8_areHolding_4 400 x1 (1 : Int32) (0 : Int32) σ
set_option maxHeartbeats 4000000 in
set_option maxRecDepth 100000 in
theorem w_X8_areHolding {p : Program} {l : Launch} {e : Env} {s : State} {m : MethodId} {args : Array Value} {below : List Frame} {meth : Method} {c : Code} {G : Gd} {B : Nat} (X : Cm p s m args meth c cX8_areHolding 4 RX8 G (some .boolean)) {r : Int32} {σr : Sto} (x1 : Int32) (σ : Sto) (hf : f_X8_areHolding x1 σ = some (r, σr)) (H : Heap) (locs : List Loc) (hH : HX G layM B σ H) (hS : va_S (inW layM B) s.heap H locs) (ls : Array Slot) (hl : lv_has ls 4 [(0, .ref (B + 0)), (1, .int x1)]) : WM p l e 3 s m args below meth c H locs G layM B (some (.int r)) σr (F0 m 0 ls []) := by
  unfold f_X8_areHolding at hf
  have hx := X.1.1
  have hb := X.1.2.1
  refine lv_iconst (v := 1) hx hb dX8_areHolding_0 (by decide) ?_
  refine lv_istore_n (lv' := [(2, .int (1 : Int32)), (0, .ref (B + 0)), (1, .int x1)]) hx hb dX8_areHolding_1 rfl hl (by decide) rfl (fun ls hl => ?_)
  refine lv_iconst (v := 0) hx hb dX8_areHolding_2 (by decide) ?_
  refine lv_istore_n (lv' := [(3, .int (0 : Int32)), (2, .int (1 : Int32)), (0, .ref (B + 0)), (1, .int x1)]) hx hb dX8_areHolding_3 rfl hl (by decide) rfl (fun ls hl => ?_)
  exact wl_X8_areHolding_4 X 400 x1 (1 : Int32) (0 : Int32) σ _ _ _ hf hH hS (lv_sub hl [2, 3, 1, 0] rfl)
theorem c_X8_areHolding (l : Launch) (G : Gd) (B : Nat) (x1 : Int32) (σ σr : Sto) (r : Int32) (hf : f_X8_areHolding x1 σ = some (r, σr)) : Ct l G layM B yX8_areHolding cX8_areHolding 4 (some .boolean) 3 [.ref (B + 0), .int x1] (some (.int r)) σ σr :=
  Ct.ofW (by decide) (Nat.le_of_ble_eq_true rfl) (fun _ _ _ _ _ _ _ X hH hS ls hl => w_X8_areHolding X x1 σ hf _ _ hH hS ls (show lv_has ls 4 [(0, .ref (B + 0)), (1, .int x1)] from hl))
-- SlackProofsModel.kindIn(I)I  (D 0)
def f_X8_kindIn (x1 : Int32) (σ : Sto) : Option (Int32 × Sto) :=
  if (((12 : Int32) + ((10 : Int32) * x1)) < 0 ∨ 312 ≤ ((12 : Int32) + ((10 : Int32) * x1)).toNatClampNeg) then none else some ((σ.2 6 ((12 : Int32) + ((10 : Int32) * x1)).toNatClampNeg).toInt32, σ)
set_option maxHeartbeats 4000000 in
set_option maxRecDepth 100000 in
theorem w_X8_kindIn {p : Program} {l : Launch} {e : Env} {s : State} {m : MethodId} {args : Array Value} {below : List Frame} {meth : Method} {c : Code} {G : Gd} {B : Nat} (X : Cm p s m args meth c cX8_kindIn 2 RX8 G (some .int)) {r : Int32} {σr : Sto} (x1 : Int32) (σ : Sto) (hf : f_X8_kindIn x1 σ = some (r, σr)) (H : Heap) (locs : List Loc) (hH : HX G layM B σ H) (hS : va_S (inW layM B) s.heap H locs) (ls : Array Slot) (hl : lv_has ls 2 [(0, .ref (B + 0)), (1, .int x1)]) : WM p l e 0 s m args below meth c H locs G layM B (some (.int r)) σr (F0 m 0 ls []) := by
  unfold f_X8_kindIn at hf
  have hx := X.1.1
  have hb := X.1.2.1
  refine lv_aload_n hx hb dX8_kindIn_0 rfl (lv_at hl 0 rfl) ?_
  refine g_get (v := .ref (B + 6)) kX8 (by decide) fl_RX8_25 X.1 hH km_0 rfl dX8_kindIn_1 ?_
  refine lv_bipush (v := 12) hx hb dX8_kindIn_4 (by decide) ?_
  refine lv_bipush (v := 10) hx hb dX8_kindIn_6 (by decide) ?_
  refine lv_iload_n hx hb dX8_kindIn_8 rfl (lv_at hl 1 rfl) ?_
  refine lv_imul hx hb dX8_kindIn_9 ?_
  refine lv_iadd hx hb dX8_kindIn_10 ?_
  obtain ⟨q101, hf⟩ := chk hf
  refine g_lald (j := ((12 : Int32) + ((10 : Int32) * x1)).toNatClampNeg) X.1 hH km_6 q101 rfl dX8_kindIn_11 ?_
  refine lv_l2i hx hb dX8_kindIn_12 rfl ?_
  obtain ⟨rfl, rfl⟩ := rt2 hf
  exact g_iret X hH hS dX8_kindIn_13
theorem c_X8_kindIn (l : Launch) (G : Gd) (B : Nat) (x1 : Int32) (σ σr : Sto) (r : Int32) (hf : f_X8_kindIn x1 σ = some (r, σr)) : Ct l G layM B yX8_kindIn cX8_kindIn 2 (some .int) 0 [.ref (B + 0), .int x1] (some (.int r)) σ σr :=
  Ct.ofW (by decide) (Nat.le_of_ble_eq_true rfl) (fun _ _ _ _ _ _ _ X hH hS ls hl => w_X8_kindIn X x1 σ hf _ _ hH hS ls (show lv_has ls 2 [(0, .ref (B + 0)), (1, .int x1)] from hl))
-- SlackProofsModel.well(I)I  (D 0)
def f_X8_well (x1 : Int32) (σ : Sto) : Option (Int32 × Sto) :=
  nmS (pI σ 0 4 (0 : Int32)) fun σ101 => some (x1, σ101)
set_option maxHeartbeats 4000000 in
set_option maxRecDepth 100000 in
theorem w_X8_well {p : Program} {l : Launch} {e : Env} {s : State} {m : MethodId} {args : Array Value} {below : List Frame} {meth : Method} {c : Code} {G : Gd} {B : Nat} (X : Cm p s m args meth c cX8_well 2 RX8 G (some .int)) {r : Int32} {σr : Sto} (x1 : Int32) (σ : Sto) (hf : f_X8_well x1 σ = some (r, σr)) (H : Heap) (locs : List Loc) (hH : HX G layM B σ H) (hS : va_S (inW layM B) s.heap H locs) (ls : Array Slot) (hl : lv_has ls 2 [(0, .ref (B + 0)), (1, .int x1)]) : WM p l e 0 s m args below meth c H locs G layM B (some (.int r)) σr (F0 m 0 ls []) := by
  unfold f_X8_well at hf
  have hx := X.1.1
  have hb := X.1.2.1
  refine lv_aload_n hx hb dX8_well_0 rfl (lv_at hl 0 rfl) ?_
  refine lv_iconst (v := 0) hx hb dX8_well_1 (by decide) ?_
  refine g_putI kX8 (by decide) fl_RX8_63 rfl rfl X.1 hH hS km_0 dX8_well_2 (fun H locs hH hS => ?_)
  obtain ⟨σ101, eσ101, hH⟩ := nmX hH
  replace hf := nmU hf eσ101
  refine lv_iload_n hx hb dX8_well_5 rfl (lv_at hl 1 rfl) ?_
  obtain ⟨rfl, rfl⟩ := rt2 hf
  exact g_iret X hH hS dX8_well_6
theorem c_X8_well (l : Launch) (G : Gd) (B : Nat) (x1 : Int32) (σ σr : Sto) (r : Int32) (hf : f_X8_well x1 σ = some (r, σr)) : Ct l G layM B yX8_well cX8_well 2 (some .int) 0 [.ref (B + 0), .int x1] (some (.int r)) σ σr :=
  Ct.ofW (by decide) (Nat.le_of_ble_eq_true rfl) (fun _ _ _ _ _ _ _ X hH hS ls hl => w_X8_well X x1 σ hf _ _ hH hS ls (show lv_has ls 2 [(0, .ref (B + 0)), (1, .int x1)] from hl))
-- SlackProofsModel.found(I)I  (D 0)
def f_X8_found (x1 : Int32) (σ : Sto) : Option (Int32 × Sto) :=
  nmS (pI σ 0 4 x1) fun σ101 => some (((-1000010 : Int32) - x1), σ101)
set_option maxHeartbeats 4000000 in
set_option maxRecDepth 100000 in
theorem w_X8_found {p : Program} {l : Launch} {e : Env} {s : State} {m : MethodId} {args : Array Value} {below : List Frame} {meth : Method} {c : Code} {G : Gd} {B : Nat} (X : Cm p s m args meth c cX8_found 2 RX8 G (some .int)) {r : Int32} {σr : Sto} (x1 : Int32) (σ : Sto) (hf : f_X8_found x1 σ = some (r, σr)) (H : Heap) (locs : List Loc) (hH : HX G layM B σ H) (hS : va_S (inW layM B) s.heap H locs) (ls : Array Slot) (hl : lv_has ls 2 [(0, .ref (B + 0)), (1, .int x1)]) : WM p l e 0 s m args below meth c H locs G layM B (some (.int r)) σr (F0 m 0 ls []) := by
  unfold f_X8_found at hf
  have hx := X.1.1
  have hb := X.1.2.1
  refine lv_aload_n hx hb dX8_found_0 rfl (lv_at hl 0 rfl) ?_
  refine lv_iload_n hx hb dX8_found_1 rfl (lv_at hl 1 rfl) ?_
  refine g_putI kX8 (by decide) fl_RX8_63 rfl rfl X.1 hH hS km_0 dX8_found_2 (fun H locs hH hS => ?_)
  obtain ⟨σ101, eσ101, hH⟩ := nmX hH
  replace hf := nmU hf eσ101
  refine lv_ldc (v := -1000010) hx hb X.1.2.2.2.1 (X.1.2.2.2.2.1 _ kc_RX8_67) dX8_found_5 ?_
  refine lv_iload_n hx hb dX8_found_7 rfl (lv_at hl 1 rfl) ?_
  refine lv_isub hx hb dX8_found_8 ?_
  obtain ⟨rfl, rfl⟩ := rt2 hf
  exact g_iret X hH hS dX8_found_9
theorem c_X8_found (l : Launch) (G : Gd) (B : Nat) (x1 : Int32) (σ σr : Sto) (r : Int32) (hf : f_X8_found x1 σ = some (r, σr)) : Ct l G layM B yX8_found cX8_found 2 (some .int) 0 [.ref (B + 0), .int x1] (some (.int r)) σ σr :=
  Ct.ofW (by decide) (Nat.le_of_ble_eq_true rfl) (fun _ _ _ _ _ _ _ X hH hS ls hl => w_X8_found X x1 σ hf _ _ hH hS ls (show lv_has ls 2 [(0, .ref (B + 0)), (1, .int x1)] from hl))
-- SlackProofsModel.as(II)I  (D 2)
def b_X8_as_17 (σ : Sto) : Option (Int32 × Sto) :=
  some ((-1000001 : Int32), σ)
set_option maxHeartbeats 4000000 in
set_option maxRecDepth 100000 in
theorem w_X8_as_17 {p : Program} {l : Launch} {e : Env} {s : State} {m : MethodId} {args : Array Value} {below : List Frame} {meth : Method} {c : Code} {G : Gd} {B : Nat} (X : Cm p s m args meth c cX8_as 5 RX8 G (some .int)) {r : Int32} {σr : Sto} (σ : Sto) (hf : b_X8_as_17 σ = some (r, σr)) (H : Heap) (locs : List Loc) (hH : HX G layM B σ H) (hS : va_S (inW layM B) s.heap H locs) (ls : Array Slot) (hl : lv_has ls 5 []) : WM p l e 2 s m args below meth c H locs G layM B (some (.int r)) σr (F0 m 17 ls []) := by
  unfold b_X8_as_17 at hf
  have hx := X.1.1
  have hb := X.1.2.1
  refine lv_ldc (v := -1000001) hx hb X.1.2.2.2.1 (X.1.2.2.2.2.1 _ kc_RX8_76) dX8_as_17 ?_
  obtain ⟨rfl, rfl⟩ := rt2 hf
  exact g_iret X hH hS dX8_as_19
def b_X8_as_80 (s0 : Int32) (σ : Sto) : Option (Int32 × Sto) :=
  some (s0, σ)
set_option maxHeartbeats 4000000 in
set_option maxRecDepth 100000 in
theorem w_X8_as_80 {p : Program} {l : Launch} {e : Env} {s : State} {m : MethodId} {args : Array Value} {below : List Frame} {meth : Method} {c : Code} {G : Gd} {B : Nat} (X : Cm p s m args meth c cX8_as 5 RX8 G (some .int)) {r : Int32} {σr : Sto} (s0 : Int32) (σ : Sto) (hf : b_X8_as_80 s0 σ = some (r, σr)) (H : Heap) (locs : List Loc) (hH : HX G layM B σ H) (hS : va_S (inW layM B) s.heap H locs) (ls : Array Slot) (hl : lv_has ls 5 []) : WM p l e 2 s m args below meth c H locs G layM B (some (.int r)) σr (F0 m 80 ls [.int s0]) := by
  unfold b_X8_as_80 at hf
  have hx := X.1.1
  have hb := X.1.2.1
  obtain ⟨rfl, rfl⟩ := rt2 hf
  exact g_iret X hH hS dX8_as_80
def b_X8_as_60 (v1 : Int32) (s0 : Int32) (σ : Sto) : Option (Int32 × Sto) :=
  if s0 = 0 then (bd2 (f_X8_found (3 : Int32) σ) fun r412 σ411 => b_X8_as_80 r412 σ411) else (bd2 (f_X8_well v1 σ) fun r514 σ513 => b_X8_as_80 r514 σ513)
set_option maxHeartbeats 4000000 in
set_option maxRecDepth 100000 in
theorem w_X8_as_60 {p : Program} {l : Launch} {e : Env} {s : State} {m : MethodId} {args : Array Value} {below : List Frame} {meth : Method} {c : Code} {G : Gd} {B : Nat} (X : Cm p s m args meth c cX8_as 5 RX8 G (some .int)) {r : Int32} {σr : Sto} (v1 : Int32) (s0 : Int32) (σ : Sto) (hf : b_X8_as_60 v1 s0 σ = some (r, σr)) (H : Heap) (locs : List Loc) (hH : HX G layM B σ H) (hS : va_S (inW layM B) s.heap H locs) (ls : Array Slot) (hl : lv_has ls 5 [(0, .ref (B + 0)), (1, .int v1)]) : WM p l e 2 s m args below meth c H locs G layM B (some (.int r)) σr (F0 m 60 ls [.int s0]) := by
  unfold b_X8_as_60 at hf
  have hx := X.1.1
  have hb := X.1.2.1
  refine lv_istore (lv' := [(4, .int s0), (0, .ref (B + 0)), (1, .int v1)]) hx hb dX8_as_60 hl (by decide) rfl (fun ls hl => ?_)
  refine lv_iload hx hb dX8_as_62 (lv_at hl 0 rfl) ?_
  refine lv_if_eq (tgt := 75) hx hb dX8_as_64 (by decide) (fun q410 => ?_) (fun q410 => ?_)
  · replace hf := brT hf q410
    refine lv_aload_n hx hb dX8_as_75 rfl (lv_at hl 1 rfl) ?_
    refine lv_iconst (v := 3) hx hb dX8_as_76 (by decide) ?_
    obtain ⟨r412, σ411, eσ411, hf⟩ := bnd2 hf
    refine g_cVi (As := [.int (3 : Int32)]) X.1 hH hS (c_X8_found l G B (3 : Int32) σ σ411 r412 eσ411) kw_RX8_77 kX8 km_0 (by decide) rfl hl (Nat.le_of_ble_eq_true rfl) rfl dX8_as_77 (fun H locs hH hS => ?_)
    exact w_X8_as_80 X r412 σ411 hf _ _ hH hS _ (lv_sub hl [] rfl)
  · replace hf := brF hf q410
    refine lv_aload_n hx hb dX8_as_67 rfl (lv_at hl 1 rfl) ?_
    refine lv_iload_n hx hb dX8_as_68 rfl (lv_at hl 2 rfl) ?_
    obtain ⟨r514, σ513, eσ513, hf⟩ := bnd2 hf
    refine g_cVi (As := [.int v1]) X.1 hH hS (c_X8_well l G B v1 σ σ513 r514 eσ513) kw_RX8_81 kX8 km_0 (by decide) rfl hl (Nat.le_of_ble_eq_true rfl) rfl dX8_as_69 (fun H locs hH hS => ?_)
    refine lv_goto (tgt := 80) hx hb dX8_as_72 (by decide) ?_
    exact w_X8_as_80 X r514 σ513 hf _ _ hH hS _ (lv_sub hl [] rfl)
def b_X8_as_55 (v1 : Int32) (σ : Sto) : Option (Int32 × Sto) :=
  b_X8_as_60 v1 (1 : Int32) σ
set_option maxHeartbeats 4000000 in
set_option maxRecDepth 100000 in
theorem w_X8_as_55 {p : Program} {l : Launch} {e : Env} {s : State} {m : MethodId} {args : Array Value} {below : List Frame} {meth : Method} {c : Code} {G : Gd} {B : Nat} (X : Cm p s m args meth c cX8_as 5 RX8 G (some .int)) {r : Int32} {σr : Sto} (v1 : Int32) (σ : Sto) (hf : b_X8_as_55 v1 σ = some (r, σr)) (H : Heap) (locs : List Loc) (hH : HX G layM B σ H) (hS : va_S (inW layM B) s.heap H locs) (ls : Array Slot) (hl : lv_has ls 5 [(0, .ref (B + 0)), (1, .int v1)]) : WM p l e 2 s m args below meth c H locs G layM B (some (.int r)) σr (F0 m 55 ls []) := by
  unfold b_X8_as_55 at hf
  have hx := X.1.1
  have hb := X.1.2.1
  refine lv_iconst (v := 1) hx hb dX8_as_55 (by decide) ?_
  refine lv_goto (tgt := 60) hx hb dX8_as_56 (by decide) ?_
  exact w_X8_as_60 X v1 (1 : Int32) σ hf _ _ hH hS _ (lv_sub hl [0, 1] rfl)
def b_X8_as_59 (v1 : Int32) (σ : Sto) : Option (Int32 × Sto) :=
  b_X8_as_60 v1 (0 : Int32) σ
set_option maxHeartbeats 4000000 in
set_option maxRecDepth 100000 in
theorem w_X8_as_59 {p : Program} {l : Launch} {e : Env} {s : State} {m : MethodId} {args : Array Value} {below : List Frame} {meth : Method} {c : Code} {G : Gd} {B : Nat} (X : Cm p s m args meth c cX8_as 5 RX8 G (some .int)) {r : Int32} {σr : Sto} (v1 : Int32) (σ : Sto) (hf : b_X8_as_59 v1 σ = some (r, σr)) (H : Heap) (locs : List Loc) (hH : HX G layM B σ H) (hS : va_S (inW layM B) s.heap H locs) (ls : Array Slot) (hl : lv_has ls 5 [(0, .ref (B + 0)), (1, .int v1)]) : WM p l e 2 s m args below meth c H locs G layM B (some (.int r)) σr (F0 m 59 ls []) := by
  unfold b_X8_as_59 at hf
  have hx := X.1.1
  have hb := X.1.2.1
  refine lv_iconst (v := 0) hx hb dX8_as_59 (by decide) ?_
  exact w_X8_as_60 X v1 (0 : Int32) σ hf _ _ hH hS _ (lv_sub hl [0, 1] rfl)
def b_X8_as_45 (v1 : Int32) (v2 : Int32) (v3 : Int32) (σ : Sto) : Option (Int32 × Sto) :=
  if v2 = (4 : Int32) then (if v3 = (5 : Int32) then (b_X8_as_55 v1 σ) else (b_X8_as_59 v1 σ)) else (b_X8_as_59 v1 σ)
set_option maxHeartbeats 4000000 in
set_option maxRecDepth 100000 in
theorem w_X8_as_45 {p : Program} {l : Launch} {e : Env} {s : State} {m : MethodId} {args : Array Value} {below : List Frame} {meth : Method} {c : Code} {G : Gd} {B : Nat} (X : Cm p s m args meth c cX8_as 5 RX8 G (some .int)) {r : Int32} {σr : Sto} (v1 : Int32) (v2 : Int32) (v3 : Int32) (σ : Sto) (hf : b_X8_as_45 v1 v2 v3 σ = some (r, σr)) (H : Heap) (locs : List Loc) (hH : HX G layM B σ H) (hS : va_S (inW layM B) s.heap H locs) (ls : Array Slot) (hl : lv_has ls 5 [(0, .ref (B + 0)), (1, .int v1), (2, .int v2), (3, .int v3)]) : WM p l e 2 s m args below meth c H locs G layM B (some (.int r)) σr (F0 m 45 ls []) := by
  unfold b_X8_as_45 at hf
  have hx := X.1.1
  have hb := X.1.2.1
  refine lv_iload_n hx hb dX8_as_45 rfl (lv_at hl 2 rfl) ?_
  refine lv_iconst (v := 4) hx hb dX8_as_46 (by decide) ?_
  refine lv_icmp_ne (tgt := 59) hx hb dX8_as_47 (by decide) (fun q617 => ?_) (fun q617 => ?_)
  · replace hf := brF hf q617
    exact w_X8_as_59 X v1 σ hf _ _ hH hS _ (lv_sub hl [0, 1] rfl)
  · replace hf := brT hf q617
    refine lv_iload_n hx hb dX8_as_50 rfl (lv_at hl 3 rfl) ?_
    refine lv_iconst (v := 5) hx hb dX8_as_51 (by decide) ?_
    refine lv_icmp_ne (tgt := 59) hx hb dX8_as_52 (by decide) (fun q718 => ?_) (fun q718 => ?_)
    · replace hf := brF hf q718
      exact w_X8_as_59 X v1 σ hf _ _ hH hS _ (lv_sub hl [0, 1] rfl)
    · replace hf := brT hf q718
      exact w_X8_as_55 X v1 σ hf _ _ hH hS _ (lv_sub hl [0, 1] rfl)
def f_X8_as (x1 : Int32) (x2 : Int32) (σ : Sto) : Option (Int32 × Sto) :=
  bd2 (f_X8_isLive x1 σ) fun r102 σ101 => if r102 = 0 then (b_X8_as_17 σ101) else (bd2 (f_X8_in x2 (0 : Int32) (5 : Int32) σ101) fun r205 σ204 => if r205 = 0 then (b_X8_as_17 σ204) else (bd2 (f_X8_kindIn x1 σ204) fun r208 σ207 => if x2 = 0 then (b_X8_as_55 x1 σ207) else (if x2 = r208 then (b_X8_as_55 x1 σ207) else (if x2 = (1 : Int32) then (if r208 < (4 : Int32) then (b_X8_as_55 x1 σ207) else (b_X8_as_45 x1 x2 r208 σ207)) else (b_X8_as_45 x1 x2 r208 σ207)))))
set_option maxHeartbeats 4000000 in
set_option maxRecDepth 100000 in
theorem w_X8_as {p : Program} {l : Launch} {e : Env} {s : State} {m : MethodId} {args : Array Value} {below : List Frame} {meth : Method} {c : Code} {G : Gd} {B : Nat} (X : Cm p s m args meth c cX8_as 5 RX8 G (some .int)) {r : Int32} {σr : Sto} (x1 : Int32) (x2 : Int32) (σ : Sto) (hf : f_X8_as x1 x2 σ = some (r, σr)) (H : Heap) (locs : List Loc) (hH : HX G layM B σ H) (hS : va_S (inW layM B) s.heap H locs) (ls : Array Slot) (hl : lv_has ls 5 [(0, .ref (B + 0)), (1, .int x1), (2, .int x2)]) : WM p l e 2 s m args below meth c H locs G layM B (some (.int r)) σr (F0 m 0 ls []) := by
  unfold f_X8_as at hf
  have hx := X.1.1
  have hb := X.1.2.1
  refine lv_aload_n hx hb dX8_as_0 rfl (lv_at hl 0 rfl) ?_
  refine lv_iload_n hx hb dX8_as_1 rfl (lv_at hl 1 rfl) ?_
  obtain ⟨r102, σ101, eσ101, hf⟩ := bnd2 hf
  refine g_cVi (As := [.int x1]) X.1 hH hS (c_X8_isLive l G B x1 σ σ101 r102 eσ101) kw_RX8_175 kX8 km_0 (by decide) rfl hl (Nat.le_of_ble_eq_true rfl) rfl dX8_as_2 (fun H locs hH hS => ?_)
  refine lv_if_eq (tgt := 17) hx hb dX8_as_5 (by decide) (fun q103 => ?_) (fun q103 => ?_)
  · replace hf := brT hf q103
    exact w_X8_as_17 X σ101 hf _ _ hH hS _ (lv_sub hl [] rfl)
  · replace hf := brF hf q103
    refine lv_iload_n hx hb dX8_as_8 rfl (lv_at hl 2 rfl) ?_
    refine lv_iconst (v := 0) hx hb dX8_as_9 (by decide) ?_
    refine lv_iconst (v := 5) hx hb dX8_as_10 (by decide) ?_
    obtain ⟨r205, σ204, eσ204, hf⟩ := bnd2 hf
    refine g_cSi (As := [.int x2, .int (0 : Int32), .int (5 : Int32)]) X.1 hH hS (c_X8_in l G B x2 (0 : Int32) (5 : Int32) σ101 σ204 r205 eσ204) kw_RX8_68 (by decide) rfl hl (Nat.le_of_ble_eq_true rfl) rfl dX8_as_11 (fun H locs hH hS => ?_)
    refine lv_if_ne (tgt := 20) hx hb dX8_as_14 (by decide) (fun q206 => ?_) (fun q206 => ?_)
    · replace hf := brF hf q206
      refine lv_aload_n hx hb dX8_as_20 rfl (lv_at hl 0 rfl) ?_
      refine lv_iload_n hx hb dX8_as_21 rfl (lv_at hl 1 rfl) ?_
      obtain ⟨r208, σ207, eσ207, hf⟩ := bnd2 hf
      refine g_cVi (As := [.int x1]) X.1 hH hS (c_X8_kindIn l G B x1 σ204 σ207 r208 eσ207) kw_RX8_260 kX8 km_0 (by decide) rfl hl (Nat.le_of_ble_eq_true rfl) rfl dX8_as_22 (fun H locs hH hS => ?_)
      refine lv_istore_n (lv' := [(3, .int r208), (0, .ref (B + 0)), (1, .int x1), (2, .int x2)]) hx hb dX8_as_25 rfl hl (by decide) rfl (fun ls hl => ?_)
      refine lv_iload_n hx hb dX8_as_26 rfl (lv_at hl 3 rfl) ?_
      refine lv_if_eq (tgt := 55) hx hb dX8_as_27 (by decide) (fun q209 => ?_) (fun q209 => ?_)
      · replace hf := brT hf q209
        exact w_X8_as_55 X x1 σ207 hf _ _ hH hS _ (lv_sub hl [1, 2] rfl)
      · replace hf := brF hf q209
        refine lv_iload_n hx hb dX8_as_30 rfl (lv_at hl 3 rfl) ?_
        refine lv_iload_n hx hb dX8_as_31 rfl (lv_at hl 0 rfl) ?_
        refine lv_icmp_eq (tgt := 55) hx hb dX8_as_32 (by decide) (fun q515 => ?_) (fun q515 => ?_)
        · replace hf := brT hf q515
          exact w_X8_as_55 X x1 σ207 hf _ _ hH hS _ (lv_sub hl [1, 2] rfl)
        · replace hf := brF hf q515
          refine lv_iload_n hx hb dX8_as_35 rfl (lv_at hl 3 rfl) ?_
          refine lv_iconst (v := 1) hx hb dX8_as_36 (by decide) ?_
          refine lv_icmp_ne (tgt := 45) hx hb dX8_as_37 (by decide) (fun q516 => ?_) (fun q516 => ?_)
          · replace hf := brF hf q516
            exact w_X8_as_45 X x1 x2 r208 σ207 hf _ _ hH hS _ (lv_sub hl [1, 2, 3, 0] rfl)
          · replace hf := brT hf q516
            refine lv_iload_n hx hb dX8_as_40 rfl (lv_at hl 0 rfl) ?_
            refine lv_iconst (v := 4) hx hb dX8_as_41 (by decide) ?_
            refine lv_icmp_lt (tgt := 55) hx hb dX8_as_42 (by decide) (fun q719 => ?_) (fun q719 => ?_)
            · replace hf := brT hf q719
              exact w_X8_as_55 X x1 σ207 hf _ _ hH hS _ (lv_sub hl [1, 2] rfl)
            · replace hf := brF hf q719
              exact w_X8_as_45 X x1 x2 r208 σ207 hf _ _ hH hS _ (lv_sub hl [1, 2, 3, 0] rfl)
    · replace hf := brT hf q206
      exact w_X8_as_17 X σ204 hf _ _ hH hS _ (lv_sub hl [] rfl)
theorem c_X8_as (l : Launch) (G : Gd) (B : Nat) (x1 : Int32) (x2 : Int32) (σ σr : Sto) (r : Int32) (hf : f_X8_as x1 x2 σ = some (r, σr)) : Ct l G layM B yX8_as cX8_as 5 (some .int) 2 [.ref (B + 0), .int x1, .int x2] (some (.int r)) σ σr :=
  Ct.ofW (by decide) (Nat.le_of_ble_eq_true rfl) (fun _ _ _ _ _ _ _ X hH hS ls hl => w_X8_as X x1 x2 σ hf _ _ hH hS ls (show lv_has ls 5 [(0, .ref (B + 0)), (1, .int x1), (2, .int x2)] from hl))
-- SlackProofsModel.traces(I)V  (D 0)
def b_X8_traces_29 (σ : Sto) : Option (Sto) :=
  some σ
set_option maxHeartbeats 4000000 in
set_option maxRecDepth 100000 in
theorem w_X8_traces_29 {p : Program} {l : Launch} {e : Env} {s : State} {m : MethodId} {args : Array Value} {below : List Frame} {meth : Method} {c : Code} {G : Gd} {B : Nat} (X : Cm p s m args meth c cX8_traces 2 RX8 G none) {σr : Sto} (σ : Sto) (hf : b_X8_traces_29 σ = some σr) (H : Heap) (locs : List Loc) (hH : HX G layM B σ H) (hS : va_S (inW layM B) s.heap H locs) (ls : Array Slot) (hl : lv_has ls 2 []) : WM p l e 0 s m args below meth c H locs G layM B none σr (F0 m 29 ls []) := by
  unfold b_X8_traces_29 at hf
  have hx := X.1.1
  have hb := X.1.2.1
  obtain rfl := rt1 hf
  exact g_vret X hH hS dX8_traces_29
def f_X8_traces (x1 : Int32) (σ : Sto) : Option (Sto) :=
  if (16 : Int32) ≤ (σ.1 0 27) then (b_X8_traces_29 σ) else (if ((σ.1 0 27) < 0 ∨ 16 ≤ (σ.1 0 27).toNatClampNeg) then none else nmS (pI σ 16 (σ.1 0 27).toNatClampNeg x1) fun σ203 => nmS (pI σ203 0 27 ((σ203.1 0 27) + (1 : Int32))) fun σ204 => b_X8_traces_29 σ204)
set_option maxHeartbeats 4000000 in
set_option maxRecDepth 100000 in
theorem w_X8_traces {p : Program} {l : Launch} {e : Env} {s : State} {m : MethodId} {args : Array Value} {below : List Frame} {meth : Method} {c : Code} {G : Gd} {B : Nat} (X : Cm p s m args meth c cX8_traces 2 RX8 G none) {σr : Sto} (x1 : Int32) (σ : Sto) (hf : f_X8_traces x1 σ = some σr) (H : Heap) (locs : List Loc) (hH : HX G layM B σ H) (hS : va_S (inW layM B) s.heap H locs) (ls : Array Slot) (hl : lv_has ls 2 [(0, .ref (B + 0)), (1, .int x1)]) : WM p l e 0 s m args below meth c H locs G layM B none σr (F0 m 0 ls []) := by
  unfold f_X8_traces at hf
  have hx := X.1.1
  have hb := X.1.2.1
  refine lv_aload_n hx hb dX8_traces_0 rfl (lv_at hl 0 rfl) ?_
  refine g_get (v := .int (σ.1 0 27)) kX8 (by decide) fl_RX8_263 X.1 hH km_0 rfl dX8_traces_1 ?_
  refine lv_bipush (v := 16) hx hb dX8_traces_4 (by decide) ?_
  refine lv_icmp_ge (tgt := 29) hx hb dX8_traces_6 (by decide) (fun q101 => ?_) (fun q101 => ?_)
  · replace hf := brT hf q101
    exact w_X8_traces_29 X σ hf _ _ hH hS _ (lv_sub hl [] rfl)
  · replace hf := brF hf q101
    refine lv_aload_n hx hb dX8_traces_9 rfl (lv_at hl 0 rfl) ?_
    refine g_get (v := .ref (B + 16)) kX8 (by decide) fl_RX8_57 X.1 hH km_0 rfl dX8_traces_10 ?_
    refine lv_aload_n hx hb dX8_traces_13 rfl (lv_at hl 0 rfl) ?_
    refine g_get (v := .int (σ.1 0 27)) kX8 (by decide) fl_RX8_263 X.1 hH km_0 rfl dX8_traces_14 ?_
    refine lv_iload_n hx hb dX8_traces_17 rfl (lv_at hl 1 rfl) ?_
    obtain ⟨q202, hf⟩ := chk hf
    refine g_iast (j := (σ.1 0 27).toNatClampNeg) X.1 hH hS km_16 q202 rfl dX8_traces_18 (fun H locs hH hS => ?_)
    obtain ⟨σ203, eσ203, hH⟩ := nmX hH
    replace hf := nmU hf eσ203
    refine lv_aload_n hx hb dX8_traces_19 rfl (lv_at hl 0 rfl) ?_
    refine lv_dup hx hb dX8_traces_20 rfl ?_
    refine g_get (v := .int (σ203.1 0 27)) kX8 (by decide) fl_RX8_263 X.1 hH km_0 rfl dX8_traces_21 ?_
    refine lv_iconst (v := 1) hx hb dX8_traces_24 (by decide) ?_
    refine lv_iadd hx hb dX8_traces_25 ?_
    refine g_putI kX8 (by decide) fl_RX8_263 rfl rfl X.1 hH hS km_0 dX8_traces_26 (fun H locs hH hS => ?_)
    obtain ⟨σ204, eσ204, hH⟩ := nmX hH
    replace hf := nmU hf eσ204
    exact w_X8_traces_29 X σ204 hf _ _ hH hS _ (lv_sub hl [] rfl)
theorem c_X8_traces (l : Launch) (G : Gd) (B : Nat) (x1 : Int32) (σ σr : Sto) (hf : f_X8_traces x1 σ = some σr) : Ct l G layM B yX8_traces cX8_traces 2 none 0 [.ref (B + 0), .int x1] none σ σr :=
  Ct.ofW (by decide) (Nat.le_of_ble_eq_true rfl) (fun _ _ _ _ _ _ _ X hH hS ls hl => w_X8_traces X x1 σ hf _ _ hH hS ls (show lv_has ls 2 [(0, .ref (B + 0)), (1, .int x1)] from hl))
