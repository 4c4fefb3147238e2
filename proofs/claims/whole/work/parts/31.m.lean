-- SlackProofsModel.isConflict(IZZ)Z  (D 3)
def b_X8_isConflict_136 (c3 : Int32 → Int32 → Int32 → Int32 → Sto → Option (Int32 × Sto)) (c14 : Int32 → Int32 → Int32 → Int32 → Int32 → Sto → Option (Int32 × Sto)) (v1 : Int32) (v2 : Int32) (v3 : Int32) (v5 : Int32) (s0 : Int32) (σ : Sto) : Option (Int32 × Sto) :=
  c14 v1 v2 v3 s0 (v5 + (1 : Int32)) σ
set_option maxHeartbeats 4000000 in
set_option maxRecDepth 100000 in
theorem w_X8_isConflict_136 {p : Program} {l : Launch} {e : Env} {s : State} {m : MethodId} {args : Array Value} {below : List Frame} {meth : Method} {c : Code} {G : Gd} {B : Nat} (X : Cm p s m args meth c cX8_isConflict 7 RX8 G (some .boolean)) (c3 : Int32 → Int32 → Int32 → Int32 → Sto → Option (Int32 × Sto)) (c14 : Int32 → Int32 → Int32 → Int32 → Int32 → Sto → Option (Int32 × Sto)) {r : Int32} {σr : Sto} (ih3 : ∀ (v1 : Int32) (v2 : Int32) (v3 : Int32) (v4 : Int32) (σ : Sto) (H : Heap) (locs : List Loc) (ls : Array Slot), c3 v1 v2 v3 v4 σ = some (r, σr) → HX G layM B σ H → va_S (inW layM B) s.heap H locs → lv_has ls 7 [(0, .ref (B + 0)), (1, .int v1), (2, .int v2), (3, .int v3), (4, .int v4)] → WM p l e 3 s m args below meth c H locs G layM B (some (.int r)) σr (F0 m 3 ls [])) (ih14 : ∀ (v1 : Int32) (v2 : Int32) (v3 : Int32) (v4 : Int32) (v5 : Int32) (σ : Sto) (H : Heap) (locs : List Loc) (ls : Array Slot), c14 v1 v2 v3 v4 v5 σ = some (r, σr) → HX G layM B σ H → va_S (inW layM B) s.heap H locs → lv_has ls 7 [(0, .ref (B + 0)), (1, .int v1), (2, .int v2), (3, .int v3), (4, .int v4), (5, .int v5)] → WM p l e 3 s m args below meth c H locs G layM B (some (.int r)) σr (F0 m 14 ls [])) (v1 : Int32) (v2 : Int32) (v3 : Int32) (v5 : Int32) (s0 : Int32) (σ : Sto) (hf : b_X8_isConflict_136 c3 c14 v1 v2 v3 v5 s0 σ = some (r, σr)) (H : Heap) (locs : List Loc) (hH : HX G layM B σ H) (hS : va_S (inW layM B) s.heap H locs) (ls : Array Slot) (hl : lv_has ls 7 [(0, .ref (B + 0)), (1, .int v1), (2, .int v2), (3, .int v3), (5, .int v5)]) : WM p l e 3 s m args below meth c H locs G layM B (some (.int r)) σr (F0 m 136 ls [.int s0]) := by
  unfold b_X8_isConflict_136 at hf
  have hx := X.1.1
  have hb := X.1.2.1
  refine lv_istore (lv' := [(4, .int s0), (0, .ref (B + 0)), (1, .int v1), (2, .int v2), (3, .int v3), (5, .int v5)]) hx hb dX8_isConflict_136 hl (by decide) rfl (fun ls hl => ?_)
  refine lv_iinc (v := (v5 + (1 : Int32))) (lv' := [(5, .int (v5 + (1 : Int32))), (4, .int s0), (0, .ref (B + 0)), (1, .int v1), (2, .int v2), (3, .int v3)]) hx hb dX8_isConflict_138 hl (k := 5) rfl rfl (by decide) rfl (fun ls hl => ?_)
  refine lv_goto (tgt := 14) hx hb dX8_isConflict_141 (by decide) ?_
  exact ih14 v1 v2 v3 s0 (v5 + (1 : Int32)) σ _ _ _ hf hH hS (lv_sub hl [2, 3, 4, 5, 1, 0] rfl)
def b_X8_isConflict_131 (c3 : Int32 → Int32 → Int32 → Int32 → Sto → Option (Int32 × Sto)) (c14 : Int32 → Int32 → Int32 → Int32 → Int32 → Sto → Option (Int32 × Sto)) (v1 : Int32) (v2 : Int32) (v3 : Int32) (v5 : Int32) (σ : Sto) : Option (Int32 × Sto) :=
  b_X8_isConflict_136 c3 c14 v1 v2 v3 v5 (1 : Int32) σ
set_option maxHeartbeats 4000000 in
set_option maxRecDepth 100000 in
theorem w_X8_isConflict_131 {p : Program} {l : Launch} {e : Env} {s : State} {m : MethodId} {args : Array Value} {below : List Frame} {meth : Method} {c : Code} {G : Gd} {B : Nat} (X : Cm p s m args meth c cX8_isConflict 7 RX8 G (some .boolean)) (c3 : Int32 → Int32 → Int32 → Int32 → Sto → Option (Int32 × Sto)) (c14 : Int32 → Int32 → Int32 → Int32 → Int32 → Sto → Option (Int32 × Sto)) {r : Int32} {σr : Sto} (ih3 : ∀ (v1 : Int32) (v2 : Int32) (v3 : Int32) (v4 : Int32) (σ : Sto) (H : Heap) (locs : List Loc) (ls : Array Slot), c3 v1 v2 v3 v4 σ = some (r, σr) → HX G layM B σ H → va_S (inW layM B) s.heap H locs → lv_has ls 7 [(0, .ref (B + 0)), (1, .int v1), (2, .int v2), (3, .int v3), (4, .int v4)] → WM p l e 3 s m args below meth c H locs G layM B (some (.int r)) σr (F0 m 3 ls [])) (ih14 : ∀ (v1 : Int32) (v2 : Int32) (v3 : Int32) (v4 : Int32) (v5 : Int32) (σ : Sto) (H : Heap) (locs : List Loc) (ls : Array Slot), c14 v1 v2 v3 v4 v5 σ = some (r, σr) → HX G layM B σ H → va_S (inW layM B) s.heap H locs → lv_has ls 7 [(0, .ref (B + 0)), (1, .int v1), (2, .int v2), (3, .int v3), (4, .int v4), (5, .int v5)] → WM p l e 3 s m args below meth c H locs G layM B (some (.int r)) σr (F0 m 14 ls [])) (v1 : Int32) (v2 : Int32) (v3 : Int32) (v5 : Int32) (σ : Sto) (hf : b_X8_isConflict_131 c3 c14 v1 v2 v3 v5 σ = some (r, σr)) (H : Heap) (locs : List Loc) (hH : HX G layM B σ H) (hS : va_S (inW layM B) s.heap H locs) (ls : Array Slot) (hl : lv_has ls 7 [(0, .ref (B + 0)), (1, .int v1), (2, .int v2), (3, .int v3), (5, .int v5)]) : WM p l e 3 s m args below meth c H locs G layM B (some (.int r)) σr (F0 m 131 ls []) := by
  unfold b_X8_isConflict_131 at hf
  have hx := X.1.1
  have hb := X.1.2.1
  refine lv_iconst (v := 1) hx hb dX8_isConflict_131 (by decide) ?_
  refine lv_goto (tgt := 136) hx hb dX8_isConflict_132 (by decide) ?_
  exact w_X8_isConflict_136 X c3 c14 ih3 ih14 v1 v2 v3 v5 (1 : Int32) σ hf _ _ hH hS _ (lv_sub hl [0, 1, 2, 3, 4] rfl)
def b_X8_isConflict_114 (c3 : Int32 → Int32 → Int32 → Int32 → Sto → Option (Int32 × Sto)) (c14 : Int32 → Int32 → Int32 → Int32 → Int32 → Sto → Option (Int32 × Sto)) (v1 : Int32) (v2 : Int32) (v3 : Int32) (v4 : Int32) (v5 : Int32) (v6 : Int32) (σ : Sto) : Option (Int32 × Sto) :=
  if 0 ≤ v6 then (if v4 = 0 then (if v6 ≤ 0 then (b_X8_isConflict_136 c3 c14 v1 v2 v3 v5 (0 : Int32) σ) else (b_X8_isConflict_131 c3 c14 v1 v2 v3 v5 σ)) else (b_X8_isConflict_131 c3 c14 v1 v2 v3 v5 σ)) else (some ((1 : Int32), σ))
set_option maxHeartbeats 4000000 in
set_option maxRecDepth 100000 in
theorem w_X8_isConflict_114 {p : Program} {l : Launch} {e : Env} {s : State} {m : MethodId} {args : Array Value} {below : List Frame} {meth : Method} {c : Code} {G : Gd} {B : Nat} (X : Cm p s m args meth c cX8_isConflict 7 RX8 G (some .boolean)) (c3 : Int32 → Int32 → Int32 → Int32 → Sto → Option (Int32 × Sto)) (c14 : Int32 → Int32 → Int32 → Int32 → Int32 → Sto → Option (Int32 × Sto)) {r : Int32} {σr : Sto} (ih3 : ∀ (v1 : Int32) (v2 : Int32) (v3 : Int32) (v4 : Int32) (σ : Sto) (H : Heap) (locs : List Loc) (ls : Array Slot), c3 v1 v2 v3 v4 σ = some (r, σr) → HX G layM B σ H → va_S (inW layM B) s.heap H locs → lv_has ls 7 [(0, .ref (B + 0)), (1, .int v1), (2, .int v2), (3, .int v3), (4, .int v4)] → WM p l e 3 s m args below meth c H locs G layM B (some (.int r)) σr (F0 m 3 ls [])) (ih14 : ∀ (v1 : Int32) (v2 : Int32) (v3 : Int32) (v4 : Int32) (v5 : Int32) (σ : Sto) (H : Heap) (locs : List Loc) (ls : Array Slot), c14 v1 v2 v3 v4 v5 σ = some (r, σr) → HX G layM B σ H → va_S (inW layM B) s.heap H locs → lv_has ls 7 [(0, .ref (B + 0)), (1, .int v1), (2, .int v2), (3, .int v3), (4, .int v4), (5, .int v5)] → WM p l e 3 s m args below meth c H locs G layM B (some (.int r)) σr (F0 m 14 ls [])) (v1 : Int32) (v2 : Int32) (v3 : Int32) (v4 : Int32) (v5 : Int32) (v6 : Int32) (σ : Sto) (hf : b_X8_isConflict_114 c3 c14 v1 v2 v3 v4 v5 v6 σ = some (r, σr)) (H : Heap) (locs : List Loc) (hH : HX G layM B σ H) (hS : va_S (inW layM B) s.heap H locs) (ls : Array Slot) (hl : lv_has ls 7 [(0, .ref (B + 0)), (1, .int v1), (2, .int v2), (3, .int v3), (4, .int v4), (5, .int v5), (6, .int v6)]) : WM p l e 3 s m args below meth c H locs G layM B (some (.int r)) σr (F0 m 114 ls []) := by
  unfold b_X8_isConflict_114 at hf
  have hx := X.1.1
  have hb := X.1.2.1
  refine lv_iload hx hb dX8_isConflict_114 (lv_at hl 6 rfl) ?_
  refine lv_if_ge (tgt := 121) hx hb dX8_isConflict_116 (by decide) (fun q606 => ?_) (fun q606 => ?_)
  · replace hf := brT hf q606
    refine lv_iload hx hb dX8_isConflict_121 (lv_at hl 4 rfl) ?_
    refine lv_if_ne (tgt := 131) hx hb dX8_isConflict_123 (by decide) (fun q607 => ?_) (fun q607 => ?_)
    · replace hf := brF hf q607
      exact w_X8_isConflict_131 X c3 c14 ih3 ih14 v1 v2 v3 v5 σ hf _ _ hH hS _ (lv_sub hl [0, 1, 2, 3, 5] rfl)
    · replace hf := brT hf q607
      refine lv_iload hx hb dX8_isConflict_126 (lv_at hl 6 rfl) ?_
      refine lv_if_le (tgt := 135) hx hb dX8_isConflict_128 (by decide) (fun q808 => ?_) (fun q808 => ?_)
      · replace hf := brT hf q808
        refine lv_iconst (v := 0) hx hb dX8_isConflict_135 (by decide) ?_
        exact w_X8_isConflict_136 X c3 c14 ih3 ih14 v1 v2 v3 v5 (0 : Int32) σ hf _ _ hH hS _ (lv_sub hl [0, 1, 2, 3, 5] rfl)
      · replace hf := brF hf q808
        exact w_X8_isConflict_131 X c3 c14 ih3 ih14 v1 v2 v3 v5 σ hf _ _ hH hS _ (lv_sub hl [0, 1, 2, 3, 5] rfl)
  · replace hf := brF hf q606
    refine lv_iconst (v := 1) hx hb dX8_isConflict_119 (by decide) ?_
    obtain ⟨rfl, rfl⟩ := rt2 hf
    exact g_zret X hH hS (by decide) dX8_isConflict_120
def b_X8_isConflict_92 (c3 : Int32 → Int32 → Int32 → Int32 → Sto → Option (Int32 × Sto)) (c14 : Int32 → Int32 → Int32 → Int32 → Int32 → Sto → Option (Int32 × Sto)) (v1 : Int32) (v2 : Int32) (v3 : Int32) (v4 : Int32) (v5 : Int32) (v6 : Int32) (σ : Sto) : Option (Int32 × Sto) :=
  if v5 = (31 : Int32) then (if v3 = 0 then (b_X8_isConflict_114 c3 c14 v1 v2 v3 v4 v5 v6 σ) else (bd2 (f_X8_forces 14 10 (0 : Int32) σ) fun r811 σ810 => b_X8_isConflict_114 c3 c14 v1 v2 v3 v4 v5 r811 σ810)) else (b_X8_isConflict_114 c3 c14 v1 v2 v3 v4 v5 v6 σ)
set_option maxHeartbeats 4000000 in
set_option maxRecDepth 100000 in
theorem w_X8_isConflict_92 {p : Program} {l : Launch} {e : Env} {s : State} {m : MethodId} {args : Array Value} {below : List Frame} {meth : Method} {c : Code} {G : Gd} {B : Nat} (X : Cm p s m args meth c cX8_isConflict 7 RX8 G (some .boolean)) (c3 : Int32 → Int32 → Int32 → Int32 → Sto → Option (Int32 × Sto)) (c14 : Int32 → Int32 → Int32 → Int32 → Int32 → Sto → Option (Int32 × Sto)) {r : Int32} {σr : Sto} (ih3 : ∀ (v1 : Int32) (v2 : Int32) (v3 : Int32) (v4 : Int32) (σ : Sto) (H : Heap) (locs : List Loc) (ls : Array Slot), c3 v1 v2 v3 v4 σ = some (r, σr) → HX G layM B σ H → va_S (inW layM B) s.heap H locs → lv_has ls 7 [(0, .ref (B + 0)), (1, .int v1), (2, .int v2), (3, .int v3), (4, .int v4)] → WM p l e 3 s m args below meth c H locs G layM B (some (.int r)) σr (F0 m 3 ls [])) (ih14 : ∀ (v1 : Int32) (v2 : Int32) (v3 : Int32) (v4 : Int32) (v5 : Int32) (σ : Sto) (H : Heap) (locs : List Loc) (ls : Array Slot), c14 v1 v2 v3 v4 v5 σ = some (r, σr) → HX G layM B σ H → va_S (inW layM B) s.heap H locs → lv_has ls 7 [(0, .ref (B + 0)), (1, .int v1), (2, .int v2), (3, .int v3), (4, .int v4), (5, .int v5)] → WM p l e 3 s m args below meth c H locs G layM B (some (.int r)) σr (F0 m 14 ls [])) (v1 : Int32) (v2 : Int32) (v3 : Int32) (v4 : Int32) (v5 : Int32) (v6 : Int32) (σ : Sto) (hf : b_X8_isConflict_92 c3 c14 v1 v2 v3 v4 v5 v6 σ = some (r, σr)) (H : Heap) (locs : List Loc) (hH : HX G layM B σ H) (hS : va_S (inW layM B) s.heap H locs) (ls : Array Slot) (hl : lv_has ls 7 [(0, .ref (B + 0)), (1, .int v1), (2, .int v2), (3, .int v3), (4, .int v4), (5, .int v5), (6, .int v6)]) : WM p l e 3 s m args below meth c H locs G layM B (some (.int r)) σr (F0 m 92 ls []) := by
  unfold b_X8_isConflict_92 at hf
  have hx := X.1.1
  have hb := X.1.2.1
  refine lv_iload hx hb dX8_isConflict_92 (lv_at hl 5 rfl) ?_
  refine lv_bipush (v := 31) hx hb dX8_isConflict_94 (by decide) ?_
  refine lv_icmp_ne (tgt := 114) hx hb dX8_isConflict_96 (by decide) (fun q505 => ?_) (fun q505 => ?_)
  · replace hf := brF hf q505
    exact w_X8_isConflict_114 X c3 c14 ih3 ih14 v1 v2 v3 v4 v5 v6 σ hf _ _ hH hS _ (lv_sub hl [0, 1, 2, 3, 4, 5, 6] rfl)
  · replace hf := brT hf q505
    refine lv_iload_n hx hb dX8_isConflict_99 rfl (lv_at hl 3 rfl) ?_
    refine lv_if_eq (tgt := 114) hx hb dX8_isConflict_100 (by decide) (fun q809 => ?_) (fun q809 => ?_)
    · replace hf := brT hf q809
      exact w_X8_isConflict_114 X c3 c14 ih3 ih14 v1 v2 v3 v4 v5 v6 σ hf _ _ hH hS _ (lv_sub hl [0, 1, 2, 3, 4, 5, 6] rfl)
    · replace hf := brF hf q809
      refine lv_aload_n hx hb dX8_isConflict_103 rfl (lv_at hl 0 rfl) ?_
      refine lv_aload_n hx hb dX8_isConflict_104 rfl (lv_at hl 0 rfl) ?_
      refine g_get (v := .ref (B + 14)) kX8 (by decide) fl_RX8_51 X.1 hH km_0 rfl dX8_isConflict_105 ?_
      refine lv_iconst (v := 0) hx hb dX8_isConflict_108 (by decide) ?_
      obtain ⟨r811, σ810, eσ810, hf⟩ := bnd2 hf
      refine g_cVi (As := [.ref (B + 14), .int (0 : Int32)]) X.1 hH hS (c_X8_forces l G B 14 10 km_14 (0 : Int32) σ σ810 r811 eσ810) kw_RX8_210 kX8 km_0 (by decide) rfl hl (Nat.le_of_ble_eq_true rfl) rfl dX8_isConflict_109 (fun H locs hH hS => ?_)
      refine lv_istore (lv' := [(6, .int r811), (0, .ref (B + 0)), (1, .int v1), (2, .int v2), (3, .int v3), (4, .int v4), (5, .int v5)]) hx hb dX8_isConflict_112 hl (by decide) rfl (fun ls hl => ?_)
      exact w_X8_isConflict_114 X c3 c14 ih3 ih14 v1 v2 v3 v4 v5 r811 σ810 hf _ _ hH hS _ (lv_sub hl [1, 2, 3, 4, 5, 6, 0] rfl)
def b_X8_isConflict_67 (c3 : Int32 → Int32 → Int32 → Int32 → Sto → Option (Int32 × Sto)) (c14 : Int32 → Int32 → Int32 → Int32 → Int32 → Sto → Option (Int32 × Sto)) (v1 : Int32) (v2 : Int32) (v3 : Int32) (v4 : Int32) (v5 : Int32) (v6 : Int32) (σ : Sto) : Option (Int32 × Sto) :=
  if v5 = (30 : Int32) then (if v2 = 0 then (b_X8_isConflict_92 c3 c14 v1 v2 v3 v4 v5 v6 σ) else (bd2 (f_X8_forces 13 10 (0 : Int32) σ) fun r814 σ813 => b_X8_isConflict_114 c3 c14 v1 v2 v3 v4 v5 r814 σ813)) else (b_X8_isConflict_92 c3 c14 v1 v2 v3 v4 v5 v6 σ)
set_option maxHeartbeats 4000000 in
set_option maxRecDepth 100000 in
theorem w_X8_isConflict_67 {p : Program} {l : Launch} {e : Env} {s : State} {m : MethodId} {args : Array Value} {below : List Frame} {meth : Method} {c : Code} {G : Gd} {B : Nat} (X : Cm p s m args meth c cX8_isConflict 7 RX8 G (some .boolean)) (c3 : Int32 → Int32 → Int32 → Int32 → Sto → Option (Int32 × Sto)) (c14 : Int32 → Int32 → Int32 → Int32 → Int32 → Sto → Option (Int32 × Sto)) {r : Int32} {σr : Sto} (ih3 : ∀ (v1 : Int32) (v2 : Int32) (v3 : Int32) (v4 : Int32) (σ : Sto) (H : Heap) (locs : List Loc) (ls : Array Slot), c3 v1 v2 v3 v4 σ = some (r, σr) → HX G layM B σ H → va_S (inW layM B) s.heap H locs → lv_has ls 7 [(0, .ref (B + 0)), (1, .int v1), (2, .int v2), (3, .int v3), (4, .int v4)] → WM p l e 3 s m args below meth c H locs G layM B (some (.int r)) σr (F0 m 3 ls [])) (ih14 : ∀ (v1 : Int32) (v2 : Int32) (v3 : Int32) (v4 : Int32) (v5 : Int32) (σ : Sto) (H : Heap) (locs : List Loc) (ls : Array Slot), c14 v1 v2 v3 v4 v5 σ = some (r, σr) → HX G layM B σ H → va_S (inW layM B) s.heap H locs → lv_has ls 7 [(0, .ref (B + 0)), (1, .int v1), (2, .int v2), (3, .int v3), (4, .int v4), (5, .int v5)] → WM p l e 3 s m args below meth c H locs G layM B (some (.int r)) σr (F0 m 14 ls [])) (v1 : Int32) (v2 : Int32) (v3 : Int32) (v4 : Int32) (v5 : Int32) (v6 : Int32) (σ : Sto) (hf : b_X8_isConflict_67 c3 c14 v1 v2 v3 v4 v5 v6 σ = some (r, σr)) (H : Heap) (locs : List Loc) (hH : HX G layM B σ H) (hS : va_S (inW layM B) s.heap H locs) (ls : Array Slot) (hl : lv_has ls 7 [(0, .ref (B + 0)), (1, .int v1), (2, .int v2), (3, .int v3), (4, .int v4), (5, .int v5), (6, .int v6)]) : WM p l e 3 s m args below meth c H locs G layM B (some (.int r)) σr (F0 m 67 ls []) := by
  unfold b_X8_isConflict_67 at hf
  have hx := X.1.1
  have hb := X.1.2.1
  refine lv_iload hx hb dX8_isConflict_67 (lv_at hl 5 rfl) ?_
  refine lv_bipush (v := 30) hx hb dX8_isConflict_69 (by decide) ?_
  refine lv_icmp_ne (tgt := 92) hx hb dX8_isConflict_71 (by decide) (fun q404 => ?_) (fun q404 => ?_)
  · replace hf := brF hf q404
    exact w_X8_isConflict_92 X c3 c14 ih3 ih14 v1 v2 v3 v4 v5 v6 σ hf _ _ hH hS _ (lv_sub hl [0, 1, 2, 3, 4, 5, 6] rfl)
  · replace hf := brT hf q404
    refine lv_iload_n hx hb dX8_isConflict_74 rfl (lv_at hl 2 rfl) ?_
    refine lv_if_eq (tgt := 92) hx hb dX8_isConflict_75 (by decide) (fun q812 => ?_) (fun q812 => ?_)
    · replace hf := brT hf q812
      exact w_X8_isConflict_92 X c3 c14 ih3 ih14 v1 v2 v3 v4 v5 v6 σ hf _ _ hH hS _ (lv_sub hl [0, 1, 2, 3, 4, 5, 6] rfl)
    · replace hf := brF hf q812
      refine lv_aload_n hx hb dX8_isConflict_78 rfl (lv_at hl 0 rfl) ?_
      refine lv_aload_n hx hb dX8_isConflict_79 rfl (lv_at hl 0 rfl) ?_
      refine g_get (v := .ref (B + 13)) kX8 (by decide) fl_RX8_48 X.1 hH km_0 rfl dX8_isConflict_80 ?_
      refine lv_iconst (v := 0) hx hb dX8_isConflict_83 (by decide) ?_
      obtain ⟨r814, σ813, eσ813, hf⟩ := bnd2 hf
      refine g_cVi (As := [.ref (B + 13), .int (0 : Int32)]) X.1 hH hS (c_X8_forces l G B 13 10 km_13 (0 : Int32) σ σ813 r814 eσ813) kw_RX8_210 kX8 km_0 (by decide) rfl hl (Nat.le_of_ble_eq_true rfl) rfl dX8_isConflict_84 (fun H locs hH hS => ?_)
      refine lv_istore (lv' := [(6, .int r814), (0, .ref (B + 0)), (1, .int v1), (2, .int v2), (3, .int v3), (4, .int v4), (5, .int v5)]) hx hb dX8_isConflict_87 hl (by decide) rfl (fun ls hl => ?_)
      refine lv_goto (tgt := 114) hx hb dX8_isConflict_89 (by decide) ?_
      exact w_X8_isConflict_114 X c3 c14 ih3 ih14 v1 v2 v3 v4 v5 r814 σ813 hf _ _ hH hS _ (lv_sub hl [1, 2, 3, 4, 5, 6, 0] rfl)
def b_X8_isConflict_14 (c3 : Int32 → Int32 → Int32 → Int32 → Sto → Option (Int32 × Sto)) (c14 : Int32 → Int32 → Int32 → Int32 → Int32 → Sto → Option (Int32 × Sto)) (v1 : Int32) (v2 : Int32) (v3 : Int32) (v4 : Int32) (v5 : Int32) (σ : Sto) : Option (Int32 × Sto) :=
  if (32 : Int32) ≤ v5 then (c3 v1 v2 v3 v4 σ) else (if (30 : Int32) ≤ v5 then (b_X8_isConflict_67 c3 c14 v1 v2 v3 v4 v5 (0 : Int32) σ) else (if v5 = v1 then (b_X8_isConflict_67 c3 c14 v1 v2 v3 v4 v5 (0 : Int32) σ) else (bd2 (f_X8_isLive v5 σ) fun r817 σ816 => if r817 = 0 then (b_X8_isConflict_67 c3 c14 v1 v2 v3 v4 v5 (0 : Int32) σ816) else (bd2 (f_X8_forces 6 312 ((12 : Int32) + ((10 : Int32) * v5)) σ816) fun r820 σ819 => b_X8_isConflict_114 c3 c14 v1 v2 v3 v4 v5 r820 σ819))))
set_option maxHeartbeats 4000000 in
set_option maxRecDepth 100000 in
theorem w_X8_isConflict_14 {p : Program} {l : Launch} {e : Env} {s : State} {m : MethodId} {args : Array Value} {below : List Frame} {meth : Method} {c : Code} {G : Gd} {B : Nat} (X : Cm p s m args meth c cX8_isConflict 7 RX8 G (some .boolean)) (c3 : Int32 → Int32 → Int32 → Int32 → Sto → Option (Int32 × Sto)) (c14 : Int32 → Int32 → Int32 → Int32 → Int32 → Sto → Option (Int32 × Sto)) {r : Int32} {σr : Sto} (ih3 : ∀ (v1 : Int32) (v2 : Int32) (v3 : Int32) (v4 : Int32) (σ : Sto) (H : Heap) (locs : List Loc) (ls : Array Slot), c3 v1 v2 v3 v4 σ = some (r, σr) → HX G layM B σ H → va_S (inW layM B) s.heap H locs → lv_has ls 7 [(0, .ref (B + 0)), (1, .int v1), (2, .int v2), (3, .int v3), (4, .int v4)] → WM p l e 3 s m args below meth c H locs G layM B (some (.int r)) σr (F0 m 3 ls [])) (ih14 : ∀ (v1 : Int32) (v2 : Int32) (v3 : Int32) (v4 : Int32) (v5 : Int32) (σ : Sto) (H : Heap) (locs : List Loc) (ls : Array Slot), c14 v1 v2 v3 v4 v5 σ = some (r, σr) → HX G layM B σ H → va_S (inW layM B) s.heap H locs → lv_has ls 7 [(0, .ref (B + 0)), (1, .int v1), (2, .int v2), (3, .int v3), (4, .int v4), (5, .int v5)] → WM p l e 3 s m args below meth c H locs G layM B (some (.int r)) σr (F0 m 14 ls [])) (v1 : Int32) (v2 : Int32) (v3 : Int32) (v4 : Int32) (v5 : Int32) (σ : Sto) (hf : b_X8_isConflict_14 c3 c14 v1 v2 v3 v4 v5 σ = some (r, σr)) (H : Heap) (locs : List Loc) (hH : HX G layM B σ H) (hS : va_S (inW layM B) s.heap H locs) (ls : Array Slot) (hl : lv_has ls 7 [(0, .ref (B + 0)), (1, .int v1), (2, .int v2), (3, .int v3), (4, .int v4), (5, .int v5)]) : WM p l e 3 s m args below meth c H locs G layM B (some (.int r)) σr (F0 m 14 ls []) := by
  unfold b_X8_isConflict_14 at hf
  have hx := X.1.1
  have hb := X.1.2.1
  refine lv_iload hx hb dX8_isConflict_14 (lv_at hl 5 rfl) ?_
  refine lv_bipush (v := 32) hx hb dX8_isConflict_16 (by decide) ?_
  refine lv_icmp_ge (tgt := 144) hx hb dX8_isConflict_18 (by decide) (fun q302 => ?_) (fun q302 => ?_)
  · replace hf := brT hf q302
    refine lv_goto (tgt := 3) hx hb dX8_isConflict_144 (by decide) ?_
    exact ih3 v1 v2 v3 v4 σ _ _ _ hf hH hS (lv_sub hl [0, 1, 2, 3, 4] rfl)
  · replace hf := brF hf q302
    refine lv_iconst (v := 0) hx hb dX8_isConflict_21 (by decide) ?_
    refine lv_istore (lv' := [(6, .int (0 : Int32)), (0, .ref (B + 0)), (1, .int v1), (2, .int v2), (3, .int v3), (4, .int v4), (5, .int v5)]) hx hb dX8_isConflict_22 hl (by decide) rfl (fun ls hl => ?_)
    refine lv_iload hx hb dX8_isConflict_24 (lv_at hl 6 rfl) ?_
    refine lv_bipush (v := 30) hx hb dX8_isConflict_26 (by decide) ?_
    refine lv_icmp_ge (tgt := 67) hx hb dX8_isConflict_28 (by decide) (fun q303 => ?_) (fun q303 => ?_)
    · replace hf := brT hf q303
      exact w_X8_isConflict_67 X c3 c14 ih3 ih14 v1 v2 v3 v4 v5 (0 : Int32) σ hf _ _ hH hS _ (lv_sub hl [1, 2, 3, 4, 5, 6, 0] rfl)
    · replace hf := brF hf q303
      refine lv_iload hx hb dX8_isConflict_31 (lv_at hl 6 rfl) ?_
      refine lv_iload_n hx hb dX8_isConflict_33 rfl (lv_at hl 2 rfl) ?_
      refine lv_icmp_eq (tgt := 67) hx hb dX8_isConflict_34 (by decide) (fun q815 => ?_) (fun q815 => ?_)
      · replace hf := brT hf q815
        exact w_X8_isConflict_67 X c3 c14 ih3 ih14 v1 v2 v3 v4 v5 (0 : Int32) σ hf _ _ hH hS _ (lv_sub hl [1, 2, 3, 4, 5, 6, 0] rfl)
      · replace hf := brF hf q815
        refine lv_aload_n hx hb dX8_isConflict_37 rfl (lv_at hl 1 rfl) ?_
        refine lv_iload hx hb dX8_isConflict_38 (lv_at hl 6 rfl) ?_
        obtain ⟨r817, σ816, eσ816, hf⟩ := bnd2 hf
        refine g_cVi (As := [.int v5]) X.1 hH hS (c_X8_isLive l G B v5 σ σ816 r817 eσ816) kw_RX8_175 kX8 km_0 (by decide) rfl hl (Nat.le_of_ble_eq_true rfl) rfl dX8_isConflict_40 (fun H locs hH hS => ?_)
        refine lv_if_eq (tgt := 67) hx hb dX8_isConflict_43 (by decide) (fun q818 => ?_) (fun q818 => ?_)
        · replace hf := brT hf q818
          exact w_X8_isConflict_67 X c3 c14 ih3 ih14 v1 v2 v3 v4 v5 (0 : Int32) σ816 hf _ _ hH hS _ (lv_sub hl [1, 2, 3, 4, 5, 6, 0] rfl)
        · replace hf := brF hf q818
          refine lv_aload_n hx hb dX8_isConflict_46 rfl (lv_at hl 1 rfl) ?_
          refine lv_aload_n hx hb dX8_isConflict_47 rfl (lv_at hl 1 rfl) ?_
          refine g_get (v := .ref (B + 6)) kX8 (by decide) fl_RX8_25 X.1 hH km_0 rfl dX8_isConflict_48 ?_
          refine lv_bipush (v := 12) hx hb dX8_isConflict_51 (by decide) ?_
          refine lv_bipush (v := 10) hx hb dX8_isConflict_53 (by decide) ?_
          refine lv_iload hx hb dX8_isConflict_55 (lv_at hl 6 rfl) ?_
          refine lv_imul hx hb dX8_isConflict_57 ?_
          refine lv_iadd hx hb dX8_isConflict_58 ?_
          obtain ⟨r820, σ819, eσ819, hf⟩ := bnd2 hf
          refine g_cVi (As := [.ref (B + 6), .int ((12 : Int32) + ((10 : Int32) * v5))]) X.1 hH hS (c_X8_forces l G B 6 312 km_6 ((12 : Int32) + ((10 : Int32) * v5)) σ816 σ819 r820 eσ819) kw_RX8_210 kX8 km_0 (by decide) rfl hl (Nat.le_of_ble_eq_true rfl) rfl dX8_isConflict_59 (fun H locs hH hS => ?_)
          refine lv_istore (lv' := [(6, .int r820), (0, .ref (B + 0)), (1, .int v1), (2, .int v2), (3, .int v3), (4, .int v4), (5, .int v5)]) hx hb dX8_isConflict_62 hl (by decide) rfl (fun ls hl => ?_)
          refine lv_goto (tgt := 114) hx hb dX8_isConflict_64 (by decide) ?_
          exact w_X8_isConflict_114 X c3 c14 ih3 ih14 v1 v2 v3 v4 v5 r820 σ819 hf _ _ hH hS _ (lv_sub hl [1, 2, 3, 4, 5, 6, 0] rfl)
def l_X8_isConflict_14 (c3 : Int32 → Int32 → Int32 → Int32 → Sto → Option (Int32 × Sto)) : Nat → Int32 → Int32 → Int32 → Int32 → Int32 → Sto → Option (Int32 × Sto)
  | 0, _, _, _, _, _, _ => none
  | n + 1, v1, v2, v3, v4, v5, σ => b_X8_isConflict_14 c3 (l_X8_isConflict_14 c3 n) v1 v2 v3 v4 v5 σ
set_option maxHeartbeats 4000000 in
set_option maxRecDepth 100000 in
theorem wl_X8_isConflict_14 {p : Program} {l : Launch} {e : Env} {s : State} {m : MethodId} {args : Array Value} {below : List Frame} {meth : Method} {c : Code} {G : Gd} {B : Nat} (X : Cm p s m args meth c cX8_isConflict 7 RX8 G (some .boolean)) (c3 : Int32 → Int32 → Int32 → Int32 → Sto → Option (Int32 × Sto)) {r : Int32} {σr : Sto} (ih3 : ∀ (v1 : Int32) (v2 : Int32) (v3 : Int32) (v4 : Int32) (σ : Sto) (H : Heap) (locs : List Loc) (ls : Array Slot), c3 v1 v2 v3 v4 σ = some (r, σr) → HX G layM B σ H → va_S (inW layM B) s.heap H locs → lv_has ls 7 [(0, .ref (B + 0)), (1, .int v1), (2, .int v2), (3, .int v3), (4, .int v4)] → WM p l e 3 s m args below meth c H locs G layM B (some (.int r)) σr (F0 m 3 ls [])) (n : Nat) : ∀ (v1 : Int32) (v2 : Int32) (v3 : Int32) (v4 : Int32) (v5 : Int32) (σ : Sto) (H : Heap) (locs : List Loc) (ls : Array Slot), l_X8_isConflict_14 c3 n v1 v2 v3 v4 v5 σ = some (r, σr) → HX G layM B σ H → va_S (inW layM B) s.heap H locs → lv_has ls 7 [(0, .ref (B + 0)), (1, .int v1), (2, .int v2), (3, .int v3), (4, .int v4), (5, .int v5)] → WM p l e 3 s m args below meth c H locs G layM B (some (.int r)) σr (F0 m 14 ls []) := by
  induction n with
  | zero =>
    intro _ _ _ _ _ σ H locs ls hf
    cases hf
  | succ n ih =>
    intro v1 v2 v3 v4 v5 σ H locs ls hf hH hS hl
    exact w_X8_isConflict_14 X c3 (l_X8_isConflict_14 c3 n) ih3 ih v1 v2 v3 v4 v5 σ hf H locs hH hS ls hl
def b_X8_isConflict_3 (c3 : Int32 → Int32 → Int32 → Int32 → Sto → Option (Int32 × Sto)) (v1 : Int32) (v2 : Int32) (v3 : Int32) (v4 : Int32) (σ : Sto) : Option (Int32 × Sto) :=
  if v4 = 0 then (some ((0 : Int32), σ)) else (l_X8_isConflict_14 c3 400 v1 v2 v3 (0 : Int32) (0 : Int32) σ)
set_option maxHeartbeats 4000000 in
set_option maxRecDepth 100000 in
theorem w_X8_isConflict_3 {p : Program} {l : Launch} {e : Env} {s : State} {m : MethodId} {args : Array Value} {below : List Frame} {meth : Method} {c : Code} {G : Gd} {B : Nat} (X : Cm p s m args meth c cX8_isConflict 7 RX8 G (some .boolean)) (c3 : Int32 → Int32 → Int32 → Int32 → Sto → Option (Int32 × Sto)) {r : Int32} {σr : Sto} (ih3 : ∀ (v1 : Int32) (v2 : Int32) (v3 : Int32) (v4 : Int32) (σ : Sto) (H : Heap) (locs : List Loc) (ls : Array Slot), c3 v1 v2 v3 v4 σ = some (r, σr) → HX G layM B σ H → va_S (inW layM B) s.heap H locs → lv_has ls 7 [(0, .ref (B + 0)), (1, .int v1), (2, .int v2), (3, .int v3), (4, .int v4)] → WM p l e 3 s m args below meth c H locs G layM B (some (.int r)) σr (F0 m 3 ls [])) (v1 : Int32) (v2 : Int32) (v3 : Int32) (v4 : Int32) (σ : Sto) (hf : b_X8_isConflict_3 c3 v1 v2 v3 v4 σ = some (r, σr)) (H : Heap) (locs : List Loc) (hH : HX G layM B σ H) (hS : va_S (inW layM B) s.heap H locs) (ls : Array Slot) (hl : lv_has ls 7 [(0, .ref (B + 0)), (1, .int v1), (2, .int v2), (3, .int v3), (4, .int v4)]) : WM p l e 3 s m args below meth c H locs G layM B (some (.int r)) σr (F0 m 3 ls []) := by
  unfold b_X8_isConflict_3 at hf
  have hx := X.1.1
  have hb := X.1.2.1
  refine lv_iload hx hb dX8_isConflict_3 (lv_at hl 4 rfl) ?_
  refine lv_if_eq (tgt := 147) hx hb dX8_isConflict_5 (by decide) (fun q201 => ?_) (fun q201 => ?_)
  · replace hf := brT hf q201
    refine lv_iconst (v := 0) hx hb dX8_isConflict_147 (by decide) ?_
    obtain ⟨rfl, rfl⟩ := rt2 hf
    exact g_zret X hH hS (by decide) dX8_isConflict_148
  · replace hf := brF hf q201
    refine lv_iconst (v := 0) hx hb dX8_isConflict_8 (by decide) ?_
    refine lv_istore (lv' := [(4, .int (0 : Int32)), (0, .ref (B + 0)), (1, .int v1), (2, .int v2), (3, .int v3)]) hx hb dX8_isConflict_9 hl (by decide) rfl (fun ls hl => ?_)
    refine lv_iconst (v := 0) hx hb dX8_isConflict_11 (by decide) ?_
    refine lv_istore (lv' := [(5, .int (0 : Int32)), (4, .int (0 : Int32)), (0, .ref (B + 0)), (1, .int v1), (2, .int v2), (3, .int v3)]) hx hb dX8_isConflict_12 hl (by decide) rfl (fun ls hl => ?_)
    exact wl_X8_isConflict_14 X c3 ih3 400 v1 v2 v3 (0 : Int32) (0 : Int32) σ _ _ _ hf hH hS (lv_sub hl [2, 3, 4, 5, 1, 0] rfl)
def l_X8_isConflict_3 : Nat → Int32 → Int32 → Int32 → Int32 → Sto → Option (Int32 × Sto)
  | 0, _, _, _, _, _ => none
  | n + 1, v1, v2, v3, v4, σ => b_X8_isConflict_3 (l_X8_isConflict_3 n) v1 v2 v3 v4 σ
set_option maxHeartbeats 4000000 in
set_option maxRecDepth 100000 in
theorem wl_X8_isConflict_3 {p : Program} {l : Launch} {e : Env} {s : State} {m : MethodId} {args : Array Value} {below : List Frame} {meth : Method} {c : Code} {G : Gd} {B : Nat} (X : Cm p s m args meth c cX8_isConflict 7 RX8 G (some .boolean)) {r : Int32} {σr : Sto} (n : Nat) : ∀ (v1 : Int32) (v2 : Int32) (v3 : Int32) (v4 : Int32) (σ : Sto) (H : Heap) (locs : List Loc) (ls : Array Slot), l_X8_isConflict_3 n v1 v2 v3 v4 σ = some (r, σr) → HX G layM B σ H → va_S (inW layM B) s.heap H locs → lv_has ls 7 [(0, .ref (B + 0)), (1, .int v1), (2, .int v2), (3, .int v3), (4, .int v4)] → WM p l e 3 s m args below meth c H locs G layM B (some (.int r)) σr (F0 m 3 ls []) := by
  induction n with
  | zero =>
    intro _ _ _ _ σ H locs ls hf
    cases hf
  | succ n ih =>
    intro v1 v2 v3 v4 σ H locs ls hf hH hS hl
    exact w_X8_isConflict_3 X (l_X8_isConflict_3 n) ih v1 v2 v3 v4 σ hf H locs hH hS ls hl
def f_X8_isConflict (x1 : Int32) (x2 : Int32) (x3 : Int32) (σ : Sto) : Option (Int32 × Sto) :=
  l_X8_isConflict_3 400 x1 x2 x3 (1 : Int32) σ
set_option maxHeartbeats 4000000 in
set_option maxRecDepth 100000 in
theorem w_X8_isConflict {p : Program} {l : Launch} {e : Env} {s : State} {m : MethodId} {args : Array Value} {below : List Frame} {meth : Method} {c : Code} {G : Gd} {B : Nat} (X : Cm p s m args meth c cX8_isConflict 7 RX8 G (some .boolean)) {r : Int32} {σr : Sto} (x1 : Int32) (x2 : Int32) (x3 : Int32) (σ : Sto) (hf : f_X8_isConflict x1 x2 x3 σ = some (r, σr)) (H : Heap) (locs : List Loc) (hH : HX G layM B σ H) (hS : va_S (inW layM B) s.heap H locs) (ls : Array Slot) (hl : lv_has ls 7 [(0, .ref (B + 0)), (1, .int x1), (2, .int x2), (3, .int x3)]) : WM p l e 3 s m args below meth c H locs G layM B (some (.int r)) σr (F0 m 0 ls []) := by
  unfold f_X8_isConflict at hf
  have hx := X.1.1
  have hb := X.1.2.1
  refine lv_iconst (v := 1) hx hb dX8_isConflict_0 (by decide) ?_
  refine lv_istore (lv' := [(4, .int (1 : Int32)), (0, .ref (B + 0)), (1, .int x1), (2, .int x2), (3, .int x3)]) hx hb dX8_isConflict_1 hl (by decide) rfl (fun ls hl => ?_)
  exact wl_X8_isConflict_3 X 400 x1 x2 x3 (1 : Int32) σ _ _ _ hf hH hS (lv_sub hl [1, 2, 3, 4, 0] rfl)
theorem c_X8_isConflict (l : Launch) (G : Gd) (B : Nat) (x1 : Int32) (x2 : Int32) (x3 : Int32) (σ σr : Sto) (r : Int32) (hf : f_X8_isConflict x1 x2 x3 σ = some (r, σr)) : Ct l G layM B yX8_isConflict cX8_isConflict 7 (some .boolean) 3 [.ref (B + 0), .int x1, .int x2, .int x3] (some (.int r)) σ σr :=
  Ct.ofW (by decide) (Nat.le_of_ble_eq_true rfl) (fun _ _ _ _ _ _ _ X hH hS ls hl => w_X8_isConflict X x1 x2 x3 σ hf _ _ hH hS ls (show lv_has ls 7 [(0, .ref (B + 0)), (1, .int x1), (2, .int x2), (3, .int x3)] from hl))
-- SlackProofsModel.isFollowing([JIIZ)Z  (D 4)
def f_X8_isFollowing (k0 n0 : Nat) (x2 : Int32) (x3 : Int32) (x4 : Int32) (σ : Sto) : Option (Int32 × Sto) :=
  if ((x2 + (1 : Int32)) < 0 ∨ n0 ≤ (x2 + (1 : Int32)).toNatClampNeg) then none else if (σ.2 k0 (x2 + (1 : Int32)).toNatClampNeg) = (0 : Int64) then (some ((1 : Int32), σ)) else (bd1 (f_X8_turns k0 n0 x2 14 10 σ) fun σ103 => nmS (pI σ103 0 24 (0 : Int32)) fun σ105 => nmS (pI σ105 0 25 (0 : Int32)) fun σ106 => bd2 (f_X8_isConflict x3 x4 (1 : Int32) σ106) fun r108 σ107 => if ¬ (r108 = 0 ∨ r108 = 1) then none else some (r108, σ107))
set_option maxHeartbeats 4000000 in
set_option maxRecDepth 100000 in
theorem w_X8_isFollowing {p : Program} {l : Launch} {e : Env} {s : State} {m : MethodId} {args : Array Value} {below : List Frame} {meth : Method} {c : Code} {G : Gd} {B : Nat} (X : Cm p s m args meth c cX8_isFollowing 5 RX8 G (some .boolean)) (k0 n0 : Nat) (h0 : (k0 < layM.2.2 ∧ layM.1 k0 = .inr (.long, n0))) {r : Int32} {σr : Sto} (x2 : Int32) (x3 : Int32) (x4 : Int32) (σ : Sto) (hf : f_X8_isFollowing k0 n0 x2 x3 x4 σ = some (r, σr)) (H : Heap) (locs : List Loc) (hH : HX G layM B σ H) (hS : va_S (inW layM B) s.heap H locs) (ls : Array Slot) (hl : lv_has ls 5 [(0, .ref (B + 0)), (1, .ref (B + k0)), (2, .int x2), (3, .int x3), (4, .int x4)]) : WM p l e 4 s m args below meth c H locs G layM B (some (.int r)) σr (F0 m 0 ls []) := by
  unfold f_X8_isFollowing at hf
  have hx := X.1.1
  have hb := X.1.2.1
  refine lv_aload_n hx hb dX8_isFollowing_0 rfl (lv_at hl 1 rfl) ?_
  refine lv_iload_n hx hb dX8_isFollowing_1 rfl (lv_at hl 2 rfl) ?_
  refine lv_iconst (v := 1) hx hb dX8_isFollowing_2 (by decide) ?_
  refine lv_iadd hx hb dX8_isFollowing_3 ?_
  obtain ⟨q101, hf⟩ := chk hf
  refine g_lald (j := (x2 + (1 : Int32)).toNatClampNeg) X.1 hH h0 q101 rfl dX8_isFollowing_4 ?_
  refine lv_lconst (v := 0) hx hb dX8_isFollowing_5 (by decide) ?_
  refine g_lne (tgt := 12) X.1 dX8_isFollowing_6 dX8_isFollowing_7 (by decide) (fun q102 => ?_) (fun q102 => ?_)
  · replace hf := brF hf q102
    refine lv_aload_n hx hb dX8_isFollowing_12 rfl (lv_at hl 1 rfl) ?_
    refine lv_iload_n hx hb dX8_isFollowing_13 rfl (lv_at hl 2 rfl) ?_
    refine lv_aload_n hx hb dX8_isFollowing_14 rfl (lv_at hl 0 rfl) ?_
    refine g_get (v := .ref (B + 14)) kX8 (by decide) fl_RX8_51 X.1 hH km_0 rfl dX8_isFollowing_15 ?_
    obtain ⟨σ103, eσ103, hf⟩ := bnd1 hf
    refine g_cSv (As := [.ref (B + k0), .int x2, .ref (B + 14)]) X.1 hH hS (c_X8_turns l G B k0 n0 h0 x2 14 10 km_14 σ σ103 eσ103) kw_RX8_214 (by decide) rfl hl (Nat.le_of_ble_eq_true rfl) rfl dX8_isFollowing_18 (fun H locs hH hS => ?_)
    refine lv_aload_n hx hb dX8_isFollowing_21 rfl (lv_at hl 0 rfl) ?_
    refine lv_iconst (v := 0) hx hb dX8_isFollowing_22 (by decide) ?_
    refine g_putI kX8 (by decide) fl_RX8_200 rfl rfl X.1 hH hS km_0 dX8_isFollowing_23 (fun H locs hH hS => ?_)
    obtain ⟨σ105, eσ105, hH⟩ := nmX hH
    replace hf := nmU hf eσ105
    refine lv_aload_n hx hb dX8_isFollowing_26 rfl (lv_at hl 0 rfl) ?_
    refine lv_iconst (v := 0) hx hb dX8_isFollowing_27 (by decide) ?_
    refine g_putI kX8 (by decide) fl_RX8_203 rfl rfl X.1 hH hS km_0 dX8_isFollowing_28 (fun H locs hH hS => ?_)
    obtain ⟨σ106, eσ106, hH⟩ := nmX hH
    replace hf := nmU hf eσ106
    refine lv_aload_n hx hb dX8_isFollowing_31 rfl (lv_at hl 0 rfl) ?_
    refine lv_iload_n hx hb dX8_isFollowing_32 rfl (lv_at hl 3 rfl) ?_
    refine lv_iload hx hb dX8_isFollowing_33 (lv_at hl 4 rfl) ?_
    refine lv_iconst (v := 1) hx hb dX8_isFollowing_35 (by decide) ?_
    obtain ⟨r108, σ107, eσ107, hf⟩ := bnd2 hf
    refine g_cVi (As := [.int x3, .int x4, .int (1 : Int32)]) X.1 hH hS (c_X8_isConflict l G B x3 x4 (1 : Int32) σ106 σ107 r108 eσ107) kw_RX8_218 kX8 km_0 (by decide) rfl hl (Nat.le_of_ble_eq_true rfl) rfl dX8_isFollowing_36 (fun H locs hH hS => ?_)
    obtain ⟨q109, hf⟩ := chk hf
    obtain ⟨rfl, rfl⟩ := rt2 hf
    exact g_zret X hH hS (Decidable.not_not.mp q109) dX8_isFollowing_39
  · replace hf := brT hf q102
    refine lv_iconst (v := 1) hx hb dX8_isFollowing_10 (by decide) ?_
    obtain ⟨rfl, rfl⟩ := rt2 hf
    exact g_zret X hH hS (by decide) dX8_isFollowing_11
theorem c_X8_isFollowing (l : Launch) (G : Gd) (B : Nat) (k0 n0 : Nat) (h0 : (k0 < layM.2.2 ∧ layM.1 k0 = .inr (.long, n0))) (x2 : Int32) (x3 : Int32) (x4 : Int32) (σ σr : Sto) (r : Int32) (hf : f_X8_isFollowing k0 n0 x2 x3 x4 σ = some (r, σr)) : Ct l G layM B yX8_isFollowing cX8_isFollowing 5 (some .boolean) 4 [.ref (B + 0), .ref (B + k0), .int x2, .int x3, .int x4] (some (.int r)) σ σr :=
  Ct.ofW (by decide) (Nat.le_of_ble_eq_true rfl) (fun _ _ _ _ _ _ _ X hH hS ls hl => w_X8_isFollowing X k0 n0 h0 x2 x3 x4 σ hf _ _ hH hS ls (show lv_has ls 5 [(0, .ref (B + 0)), (1, .ref (B + k0)), (2, .int x2), (3, .int x3), (4, .int x4)] from hl))
-- SlackProofsModel.claim()I  (D 6)
def b_X8_claim_104 (s0 : Int32) (σ : Sto) : Option (Int32 × Sto) :=
  bd2 (f_X8_well s0 σ) fun r325 σ324 => some (r325, σ324)
set_option maxHeartbeats 4000000 in
set_option maxRecDepth 100000 in
theorem w_X8_claim_104 {p : Program} {l : Launch} {e : Env} {s : State} {m : MethodId} {args : Array Value} {below : List Frame} {meth : Method} {c : Code} {G : Gd} {B : Nat} (X : Cm p s m args meth c cX8_claim 1 RX8 G (some .int)) {r : Int32} {σr : Sto} (s0 : Int32) (σ : Sto) (hf : b_X8_claim_104 s0 σ = some (r, σr)) (H : Heap) (locs : List Loc) (hH : HX G layM B σ H) (hS : va_S (inW layM B) s.heap H locs) (ls : Array Slot) (hl : lv_has ls 1 []) : WM p l e 6 s m args below meth c H locs G layM B (some (.int r)) σr (F0 m 104 ls [.int s0, .ref (B + 0)]) := by
  unfold b_X8_claim_104 at hf
  have hx := X.1.1
  have hb := X.1.2.1
  obtain ⟨r325, σ324, eσ324, hf⟩ := bnd2 hf
  refine g_cVi (As := [.int s0]) X.1 hH hS (c_X8_well l G B s0 σ σ324 r325 eσ324) kw_RX8_81 kX8 km_0 (by decide) rfl hl (Nat.le_of_ble_eq_true rfl) rfl dX8_claim_104 (fun H locs hH hS => ?_)
  obtain ⟨rfl, rfl⟩ := rt2 hf
  exact g_iret X hH hS dX8_claim_107
def b_X8_claim_31 (s0 : Int32) (σ : Sto) : Option (Int32 × Sto) :=
  bd1 (f_X8_must s0 σ) fun σ209 => nmS (pI σ209 0 6 (0 : Int32)) fun σ211 => bd2 (f_X8_isWell σ211) fun r213 σ212 => if r213 = 0 then (some (((-1000100 : Int32) - (σ212.1 0 8)), σ212)) else (bd2 (f_X8_isFull σ212) fun r216 σ215 => if r216 = 0 then (bd2 (f_X8_isOver σ215) fun r219 σ218 => if r219 = 0 then (bd2 (f_X8_isFollowing 11 10 (0 : Int32) (-1000000 : Int32) (0 : Int32) σ218) fun r222 σ221 => if r222 = 0 then (b_X8_claim_104 (-1000000 : Int32) σ221) else (bd2 (f_X8_comes (5 : Int32) σ221) fun r327 σ326 => b_X8_claim_104 r327 σ326)) else (bd2 (f_X8_found (6 : Int32) σ218) fun r329 σ328 => some (r329, σ328))) else (some ((-1000003 : Int32), σ215)))
set_option maxHeartbeats 4000000 in
set_option maxRecDepth 100000 in
theorem w_X8_claim_31 {p : Program} {l : Launch} {e : Env} {s : State} {m : MethodId} {args : Array Value} {below : List Frame} {meth : Method} {c : Code} {G : Gd} {B : Nat} (X : Cm p s m args meth c cX8_claim 1 RX8 G (some .int)) {r : Int32} {σr : Sto} (s0 : Int32) (σ : Sto) (hf : b_X8_claim_31 s0 σ = some (r, σr)) (H : Heap) (locs : List Loc) (hH : HX G layM B σ H) (hS : va_S (inW layM B) s.heap H locs) (ls : Array Slot) (hl : lv_has ls 1 [(0, .ref (B + 0))]) : WM p l e 6 s m args below meth c H locs G layM B (some (.int r)) σr (F0 m 31 ls [.int s0, .ref (B + 0)]) := by
  unfold b_X8_claim_31 at hf
  have hx := X.1.1
  have hb := X.1.2.1
  obtain ⟨σ209, eσ209, hf⟩ := bnd1 hf
  refine g_cVv (As := [.int s0]) X.1 hH hS (c_X8_must l G B s0 σ σ209 eσ209) kw_RX8_158 kX8 km_0 (by decide) rfl hl (Nat.le_of_ble_eq_true rfl) rfl dX8_claim_31 (fun H locs hH hS => ?_)
  refine lv_aload_n hx hb dX8_claim_34 rfl (lv_at hl 0 rfl) ?_
  refine lv_iconst (v := 0) hx hb dX8_claim_35 (by decide) ?_
  refine g_putI kX8 (by decide) fl_RX8_94 rfl rfl X.1 hH hS km_0 dX8_claim_36 (fun H locs hH hS => ?_)
  obtain ⟨σ211, eσ211, hH⟩ := nmX hH
  replace hf := nmU hf eσ211
  refine lv_aload_n hx hb dX8_claim_39 rfl (lv_at hl 0 rfl) ?_
  obtain ⟨r213, σ212, eσ212, hf⟩ := bnd2 hf
  refine g_cVi (As := []) X.1 hH hS (c_X8_isWell l G B σ211 σ212 r213 eσ212) kw_RX8_116 kX8 km_0 (by decide) rfl hl (Nat.le_of_ble_eq_true rfl) rfl dX8_claim_40 (fun H locs hH hS => ?_)
  refine lv_if_ne (tgt := 54) hx hb dX8_claim_43 (by decide) (fun q214 => ?_) (fun q214 => ?_)
  · replace hf := brF hf q214
    refine lv_aload_n hx hb dX8_claim_54 rfl (lv_at hl 0 rfl) ?_
    obtain ⟨r216, σ215, eσ215, hf⟩ := bnd2 hf
    refine g_cVi (As := []) X.1 hH hS (c_X8_isFull l G B σ212 σ215 r216 eσ215) kw_RX8_178 kX8 km_0 (by decide) rfl hl (Nat.le_of_ble_eq_true rfl) rfl dX8_claim_55 (fun H locs hH hS => ?_)
    refine lv_if_eq (tgt := 64) hx hb dX8_claim_58 (by decide) (fun q217 => ?_) (fun q217 => ?_)
    · replace hf := brT hf q217
      refine lv_aload_n hx hb dX8_claim_64 rfl (lv_at hl 0 rfl) ?_
      obtain ⟨r219, σ218, eσ218, hf⟩ := bnd2 hf
      refine g_cVi (As := []) X.1 hH hS (c_X8_isOver l G B σ215 σ218 r219 eσ218) kw_RX8_222 kX8 km_0 (by decide) rfl hl (Nat.le_of_ble_eq_true rfl) rfl dX8_claim_65 (fun H locs hH hS => ?_)
      refine lv_if_eq (tgt := 78) hx hb dX8_claim_68 (by decide) (fun q220 => ?_) (fun q220 => ?_)
      · replace hf := brT hf q220
        refine lv_aload_n hx hb dX8_claim_78 rfl (lv_at hl 0 rfl) ?_
        refine lv_aload_n hx hb dX8_claim_79 rfl (lv_at hl 0 rfl) ?_
        refine lv_aload_n hx hb dX8_claim_80 rfl (lv_at hl 0 rfl) ?_
        refine g_get (v := .ref (B + 11)) kX8 (by decide) fl_RX8_42 X.1 hH km_0 rfl dX8_claim_81 ?_
        refine lv_iconst (v := 0) hx hb dX8_claim_84 (by decide) ?_
        refine lv_ldc (v := -1000000) hx hb X.1.2.2.2.1 (X.1.2.2.2.2.1 _ kc_RX8_60) dX8_claim_85 ?_
        refine lv_iconst (v := 0) hx hb dX8_claim_87 (by decide) ?_
        obtain ⟨r222, σ221, eσ221, hf⟩ := bnd2 hf
        refine g_cVi (As := [.ref (B + 11), .int (0 : Int32), .int (-1000000 : Int32), .int (0 : Int32)]) X.1 hH hS (c_X8_isFollowing l G B 11 10 km_11 (0 : Int32) (-1000000 : Int32) (0 : Int32) σ218 σ221 r222 eσ221) kw_RX8_225 kX8 km_0 (by decide) rfl hl (Nat.le_of_ble_eq_true rfl) rfl dX8_claim_88 (fun H locs hH hS => ?_)
        refine lv_if_eq (tgt := 102) hx hb dX8_claim_91 (by decide) (fun q223 => ?_) (fun q223 => ?_)
        · replace hf := brT hf q223
          refine lv_ldc (v := -1000000) hx hb X.1.2.2.2.1 (X.1.2.2.2.2.1 _ kc_RX8_60) dX8_claim_102 ?_
          exact w_X8_claim_104 X (-1000000 : Int32) σ221 hf _ _ hH hS _ (lv_sub hl [] rfl)
        · replace hf := brF hf q223
          refine lv_aload_n hx hb dX8_claim_94 rfl (lv_at hl 0 rfl) ?_
          refine lv_iconst (v := 5) hx hb dX8_claim_95 (by decide) ?_
          obtain ⟨r327, σ326, eσ326, hf⟩ := bnd2 hf
          refine g_cVi (As := [.int (5 : Int32)]) X.1 hH hS (c_X8_comes l G B (5 : Int32) σ221 σ326 r327 eσ326) kw_RX8_191 kX8 km_0 (by decide) rfl hl (Nat.le_of_ble_eq_true rfl) rfl dX8_claim_96 (fun H locs hH hS => ?_)
          refine lv_goto (tgt := 104) hx hb dX8_claim_99 (by decide) ?_
          exact w_X8_claim_104 X r327 σ326 hf _ _ hH hS _ (lv_sub hl [] rfl)
      · replace hf := brF hf q220
        refine lv_aload_n hx hb dX8_claim_71 rfl (lv_at hl 0 rfl) ?_
        refine lv_bipush (v := 6) hx hb dX8_claim_72 (by decide) ?_
        obtain ⟨r329, σ328, eσ328, hf⟩ := bnd2 hf
        refine g_cVi (As := [.int (6 : Int32)]) X.1 hH hS (c_X8_found l G B (6 : Int32) σ218 σ328 r329 eσ328) kw_RX8_77 kX8 km_0 (by decide) rfl hl (Nat.le_of_ble_eq_true rfl) rfl dX8_claim_74 (fun H locs hH hS => ?_)
        obtain ⟨rfl, rfl⟩ := rt2 hf
        exact g_iret X hH hS dX8_claim_77
    · replace hf := brF hf q217
      refine lv_ldc (v := -1000003) hx hb X.1.2.2.2.1 (X.1.2.2.2.2.1 _ kc_RX8_97) dX8_claim_61 ?_
      obtain ⟨rfl, rfl⟩ := rt2 hf
      exact g_iret X hH hS dX8_claim_63
  · replace hf := brT hf q214
    refine lv_ldc (v := -1000100) hx hb X.1.2.2.2.1 (X.1.2.2.2.2.1 _ kc_RX8_162) dX8_claim_46 ?_
    refine lv_aload_n hx hb dX8_claim_48 rfl (lv_at hl 0 rfl) ?_
    refine g_get (v := .int (σ212.1 0 8)) kX8 (by decide) fl_RX8_113 X.1 hH km_0 rfl dX8_claim_49 ?_
    refine lv_isub hx hb dX8_claim_52 ?_
    obtain ⟨rfl, rfl⟩ := rt2 hf
    exact g_iret X hH hS dX8_claim_53
def f_X8_claim (σ : Sto) : Option (Int32 × Sto) :=
  bd2 (f_X8_isFormula σ) fun r102 σ101 => if r102 = 0 then (some ((-1000002 : Int32), σ101)) else (bd1 (f_X8_begins σ101) fun σ104 => bd1 (f_X8_readsClause σ104) fun σ106 => if (σ106.1 0 11) = 0 then (b_X8_claim_31 (1 : Int32) σ106) else (b_X8_claim_31 (0 : Int32) σ106))
set_option maxHeartbeats 4000000 in
set_option maxRecDepth 100000 in
theorem w_X8_claim {p : Program} {l : Launch} {e : Env} {s : State} {m : MethodId} {args : Array Value} {below : List Frame} {meth : Method} {c : Code} {G : Gd} {B : Nat} (X : Cm p s m args meth c cX8_claim 1 RX8 G (some .int)) {r : Int32} {σr : Sto} (σ : Sto) (hf : f_X8_claim σ = some (r, σr)) (H : Heap) (locs : List Loc) (hH : HX G layM B σ H) (hS : va_S (inW layM B) s.heap H locs) (ls : Array Slot) (hl : lv_has ls 1 [(0, .ref (B + 0))]) : WM p l e 6 s m args below meth c H locs G layM B (some (.int r)) σr (F0 m 0 ls []) := by
  unfold f_X8_claim at hf
  have hx := X.1.1
  have hb := X.1.2.1
  refine lv_aload_n hx hb dX8_claim_0 rfl (lv_at hl 0 rfl) ?_
  obtain ⟨r102, σ101, eσ101, hf⟩ := bnd2 hf
  refine g_cVi (As := []) X.1 hH hS (c_X8_isFormula l G B σ σ101 r102 eσ101) kw_RX8_171 kX8 km_0 (by decide) rfl hl (Nat.le_of_ble_eq_true rfl) rfl dX8_claim_1 (fun H locs hH hS => ?_)
  refine lv_if_ne (tgt := 10) hx hb dX8_claim_4 (by decide) (fun q103 => ?_) (fun q103 => ?_)
  · replace hf := brF hf q103
    refine lv_aload_n hx hb dX8_claim_10 rfl (lv_at hl 0 rfl) ?_
    obtain ⟨σ104, eσ104, hf⟩ := bnd1 hf
    refine g_cVv (As := []) X.1 hH hS (c_X8_begins l G B σ101 σ104 eσ104) kw_RX8_146 kX8 km_0 (by decide) rfl hl (Nat.le_of_ble_eq_true rfl) rfl dX8_claim_11 (fun H locs hH hS => ?_)
    refine lv_aload_n hx hb dX8_claim_14 rfl (lv_at hl 0 rfl) ?_
    obtain ⟨σ106, eσ106, hf⟩ := bnd1 hf
    refine g_cVv (As := []) X.1 hH hS (c_X8_readsClause l G B σ104 σ106 eσ106) kw_RX8_151 kX8 km_0 (by decide) rfl hl (Nat.le_of_ble_eq_true rfl) rfl dX8_claim_15 (fun H locs hH hS => ?_)
    refine lv_aload_n hx hb dX8_claim_18 rfl (lv_at hl 0 rfl) ?_
    refine lv_aload_n hx hb dX8_claim_19 rfl (lv_at hl 0 rfl) ?_
    refine g_get (v := .int (σ106.1 0 11)) kX8 (by decide) fl_RX8_110 X.1 hH km_0 rfl dX8_claim_20 ?_
    refine lv_if_ne (tgt := 30) hx hb dX8_claim_23 (by decide) (fun q108 => ?_) (fun q108 => ?_)
    · replace hf := brF hf q108
      refine lv_iconst (v := 0) hx hb dX8_claim_30 (by decide) ?_
      exact w_X8_claim_31 X (0 : Int32) σ106 hf _ _ hH hS _ (lv_sub hl [0] rfl)
    · replace hf := brT hf q108
      refine lv_iconst (v := 1) hx hb dX8_claim_26 (by decide) ?_
      refine lv_goto (tgt := 31) hx hb dX8_claim_27 (by decide) ?_
      exact w_X8_claim_31 X (1 : Int32) σ106 hf _ _ hH hS _ (lv_sub hl [0] rfl)
  · replace hf := brT hf q103
    refine lv_ldc (v := -1000002) hx hb X.1.2.2.2.1 (X.1.2.2.2.2.1 _ kc_RX8_174) dX8_claim_7 ?_
    obtain ⟨rfl, rfl⟩ := rt2 hf
    exact g_iret X hH hS dX8_claim_9
theorem c_X8_claim (l : Launch) (G : Gd) (B : Nat) (σ σr : Sto) (r : Int32) (hf : f_X8_claim σ = some (r, σr)) : Ct l G layM B yX8_claim cX8_claim 1 (some .int) 6 [.ref (B + 0)] (some (.int r)) σ σr :=
  Ct.ofW (by decide) (Nat.le_of_ble_eq_true rfl) (fun _ _ _ _ _ _ _ X hH hS ls hl => w_X8_claim X σ hf _ _ hH hS ls (show lv_has ls 1 [(0, .ref (B + 0))] from hl))
-- SlackProofsModel.coefficient(II)J  (D 2)
def b_X8_coefficient_40 (s0 : Int64) (σ : Sto) : Option (Int64 × Sto) :=
  some (s0, σ)
set_option maxHeartbeats 4000000 in
set_option maxRecDepth 100000 in
theorem w_X8_coefficient_40 {p : Program} {l : Launch} {e : Env} {s : State} {m : MethodId} {args : Array Value} {below : List Frame} {meth : Method} {c : Code} {G : Gd} {B : Nat} (X : Cm p s m args meth c cX8_coefficient 3 RX8 G (some .long)) {r : Int64} {σr : Sto} (s0 : Int64) (σ : Sto) (hf : b_X8_coefficient_40 s0 σ = some (r, σr)) (H : Heap) (locs : List Loc) (hH : HX G layM B σ H) (hS : va_S (inW layM B) s.heap H locs) (ls : Array Slot) (hl : lv_has ls 3 []) : WM p l e 2 s m args below meth c H locs G layM B (some (.long r)) σr (F0 m 40 ls [.long s0]) := by
  unfold b_X8_coefficient_40 at hf
  have hx := X.1.1
  have hb := X.1.2.1
  obtain ⟨rfl, rfl⟩ := rt2 hf
  exact g_lret X hH hS dX8_coefficient_40
def b_X8_coefficient_37 (σ : Sto) : Option (Int64 × Sto) :=
  b_X8_coefficient_40 (-1000001 : Int64) σ
set_option maxHeartbeats 4000000 in
set_option maxRecDepth 100000 in
theorem w_X8_coefficient_37 {p : Program} {l : Launch} {e : Env} {s : State} {m : MethodId} {args : Array Value} {below : List Frame} {meth : Method} {c : Code} {G : Gd} {B : Nat} (X : Cm p s m args meth c cX8_coefficient 3 RX8 G (some .long)) {r : Int64} {σr : Sto} (σ : Sto) (hf : b_X8_coefficient_37 σ = some (r, σr)) (H : Heap) (locs : List Loc) (hH : HX G layM B σ H) (hS : va_S (inW layM B) s.heap H locs) (ls : Array Slot) (hl : lv_has ls 3 []) : WM p l e 2 s m args below meth c H locs G layM B (some (.long r)) σr (F0 m 37 ls []) := by
  unfold b_X8_coefficient_37 at hf
  have hx := X.1.1
  have hb := X.1.2.1
  refine lv_ldc2 (v := -1000001) hx hb X.1.2.2.2.1 (X.1.2.2.2.2.1 _ kc_RX8_258) dX8_coefficient_37 ?_
  exact w_X8_coefficient_40 X (-1000001 : Int64) σ hf _ _ hH hS _ (lv_sub hl [] rfl)
def f_X8_coefficient (x1 : Int32) (x2 : Int32) (σ : Sto) : Option (Int64 × Sto) :=
  bd2 (f_X8_isLive x1 σ) fun r102 σ101 => if r102 = 0 then (b_X8_coefficient_37 σ101) else (bd2 (f_X8_in x2 (0 : Int32) (7 : Int32) σ101) fun r305 σ304 => if r305 = 0 then (b_X8_coefficient_37 σ304) else (if (((((12 : Int32) + ((10 : Int32) * x1)) + (2 : Int32)) + x2) < 0 ∨ 312 ≤ ((((12 : Int32) + ((10 : Int32) * x1)) + (2 : Int32)) + x2).toNatClampNeg) then none else b_X8_coefficient_40 (σ304.2 6 ((((12 : Int32) + ((10 : Int32) * x1)) + (2 : Int32)) + x2).toNatClampNeg) σ304))
set_option maxHeartbeats 4000000 in
set_option maxRecDepth 100000 in
theorem w_X8_coefficient {p : Program} {l : Launch} {e : Env} {s : State} {m : MethodId} {args : Array Value} {below : List Frame} {meth : Method} {c : Code} {G : Gd} {B : Nat} (X : Cm p s m args meth c cX8_coefficient 3 RX8 G (some .long)) {r : Int64} {σr : Sto} (x1 : Int32) (x2 : Int32) (σ : Sto) (hf : f_X8_coefficient x1 x2 σ = some (r, σr)) (H : Heap) (locs : List Loc) (hH : HX G layM B σ H) (hS : va_S (inW layM B) s.heap H locs) (ls : Array Slot) (hl : lv_has ls 3 [(0, .ref (B + 0)), (1, .int x1), (2, .int x2)]) : WM p l e 2 s m args below meth c H locs G layM B (some (.long r)) σr (F0 m 0 ls []) := by
  unfold f_X8_coefficient at hf
  have hx := X.1.1
  have hb := X.1.2.1
  refine lv_aload_n hx hb dX8_coefficient_0 rfl (lv_at hl 0 rfl) ?_
  refine lv_iload_n hx hb dX8_coefficient_1 rfl (lv_at hl 1 rfl) ?_
  obtain ⟨r102, σ101, eσ101, hf⟩ := bnd2 hf
  refine g_cVi (As := [.int x1]) X.1 hH hS (c_X8_isLive l G B x1 σ σ101 r102 eσ101) kw_RX8_175 kX8 km_0 (by decide) rfl hl (Nat.le_of_ble_eq_true rfl) rfl dX8_coefficient_2 (fun H locs hH hS => ?_)
  refine lv_if_eq (tgt := 37) hx hb dX8_coefficient_5 (by decide) (fun q103 => ?_) (fun q103 => ?_)
  · replace hf := brT hf q103
    exact w_X8_coefficient_37 X σ101 hf _ _ hH hS _ (lv_sub hl [] rfl)
  · replace hf := brF hf q103
    refine lv_iload_n hx hb dX8_coefficient_8 rfl (lv_at hl 2 rfl) ?_
    refine lv_iconst (v := 0) hx hb dX8_coefficient_9 (by decide) ?_
    refine lv_bipush (v := 7) hx hb dX8_coefficient_10 (by decide) ?_
    obtain ⟨r305, σ304, eσ304, hf⟩ := bnd2 hf
    refine g_cSi (As := [.int x2, .int (0 : Int32), .int (7 : Int32)]) X.1 hH hS (c_X8_in l G B x2 (0 : Int32) (7 : Int32) σ101 σ304 r305 eσ304) kw_RX8_68 (by decide) rfl hl (Nat.le_of_ble_eq_true rfl) rfl dX8_coefficient_12 (fun H locs hH hS => ?_)
    refine lv_if_eq (tgt := 37) hx hb dX8_coefficient_15 (by decide) (fun q306 => ?_) (fun q306 => ?_)
    · replace hf := brT hf q306
      exact w_X8_coefficient_37 X σ304 hf _ _ hH hS _ (lv_sub hl [] rfl)
    · replace hf := brF hf q306
      refine lv_aload_n hx hb dX8_coefficient_18 rfl (lv_at hl 0 rfl) ?_
      refine g_get (v := .ref (B + 6)) kX8 (by decide) fl_RX8_25 X.1 hH km_0 rfl dX8_coefficient_19 ?_
      refine lv_bipush (v := 12) hx hb dX8_coefficient_22 (by decide) ?_
      refine lv_bipush (v := 10) hx hb dX8_coefficient_24 (by decide) ?_
      refine lv_iload_n hx hb dX8_coefficient_26 rfl (lv_at hl 1 rfl) ?_
      refine lv_imul hx hb dX8_coefficient_27 ?_
      refine lv_iadd hx hb dX8_coefficient_28 ?_
      refine lv_iconst (v := 2) hx hb dX8_coefficient_29 (by decide) ?_
      refine lv_iadd hx hb dX8_coefficient_30 ?_
      refine lv_iload_n hx hb dX8_coefficient_31 rfl (lv_at hl 2 rfl) ?_
      refine lv_iadd hx hb dX8_coefficient_32 ?_
      obtain ⟨q307, hf⟩ := chk hf
      refine g_lald (j := ((((12 : Int32) + ((10 : Int32) * x1)) + (2 : Int32)) + x2).toNatClampNeg) X.1 hH km_6 q307 rfl dX8_coefficient_33 ?_
      refine lv_goto (tgt := 40) hx hb dX8_coefficient_34 (by decide) ?_
      exact w_X8_coefficient_40 X (σ304.2 6 ((((12 : Int32) + ((10 : Int32) * x1)) + (2 : Int32)) + x2).toNatClampNeg) σ304 hf _ _ hH hS _ (lv_sub hl [] rfl)
theorem c_X8_coefficient (l : Launch) (G : Gd) (B : Nat) (x1 : Int32) (x2 : Int32) (σ σr : Sto) (r : Int64) (hf : f_X8_coefficient x1 x2 σ = some (r, σr)) : Ct l G layM B yX8_coefficient cX8_coefficient 3 (some .long) 2 [.ref (B + 0), .int x1, .int x2] (some (.long r)) σ σr :=
  Ct.ofW (by decide) (Nat.le_of_ble_eq_true rfl) (fun _ _ _ _ _ _ _ X hH hS ls hl => w_X8_coefficient X x1 x2 σ hf _ _ hH hS ls (show lv_has ls 3 [(0, .ref (B + 0)), (1, .int x1), (2, .int x2)] from hl))
-- SlackProofsModel.isRow(I)Z  (D 1)
def f_X8_isRow (x0 : Int32) (σ : Sto) : Option (Int32 × Sto) :=
  bd2 (f_X8_in x0 (0 : Int32) (7 : Int32) σ) fun r102 σ101 => if ¬ (r102 = 0 ∨ r102 = 1) then none else some (r102, σ101)
set_option maxHeartbeats 4000000 in
set_option maxRecDepth 100000 in
theorem w_X8_isRow {p : Program} {l : Launch} {e : Env} {s : State} {m : MethodId} {args : Array Value} {below : List Frame} {meth : Method} {c : Code} {G : Gd} {B : Nat} (X : Cm p s m args meth c cX8_isRow 1 RX8 G (some .boolean)) {r : Int32} {σr : Sto} (x0 : Int32) (σ : Sto) (hf : f_X8_isRow x0 σ = some (r, σr)) (H : Heap) (locs : List Loc) (hH : HX G layM B σ H) (hS : va_S (inW layM B) s.heap H locs) (ls : Array Slot) (hl : lv_has ls 1 [(0, .int x0)]) : WM p l e 1 s m args below meth c H locs G layM B (some (.int r)) σr (F0 m 0 ls []) := by
  unfold f_X8_isRow at hf
  have hx := X.1.1
  have hb := X.1.2.1
  refine lv_iload_n hx hb dX8_isRow_0 rfl (lv_at hl 0 rfl) ?_
  refine lv_iconst (v := 0) hx hb dX8_isRow_1 (by decide) ?_
  refine lv_bipush (v := 7) hx hb dX8_isRow_2 (by decide) ?_
  obtain ⟨r102, σ101, eσ101, hf⟩ := bnd2 hf
  refine g_cSi (As := [.int x0, .int (0 : Int32), .int (7 : Int32)]) X.1 hH hS (c_X8_in l G B x0 (0 : Int32) (7 : Int32) σ σ101 r102 eσ101) kw_RX8_68 (by decide) rfl hl (Nat.le_of_ble_eq_true rfl) rfl dX8_isRow_4 (fun H locs hH hS => ?_)
  obtain ⟨q103, hf⟩ := chk hf
  obtain ⟨rfl, rfl⟩ := rt2 hf
  exact g_zret X hH hS (Decidable.not_not.mp q103) dX8_isRow_7
theorem c_X8_isRow (l : Launch) (G : Gd) (B : Nat) (x0 : Int32) (σ σr : Sto) (r : Int32) (hf : f_X8_isRow x0 σ = some (r, σr)) : Ct l G layM B yX8_isRow cX8_isRow 1 (some .boolean) 1 [.int x0] (some (.int r)) σ σr :=
  Ct.ofW (by decide) (Nat.le_of_ble_eq_true rfl) (fun _ _ _ _ _ _ _ X hH hS ls hl => w_X8_isRow X x0 σ hf _ _ hH hS ls (show lv_has ls 1 [(0, .int x0)] from hl))
-- SlackProofsModel.isMissing(I)Z  (D 0)
def b_X8_isMissing_16 (s0 : Int32) (σ : Sto) : Option (Int32 × Sto) :=
  if ¬ (s0 = 0 ∨ s0 = 1) then none else some (s0, σ)
set_option maxHeartbeats 4000000 in
set_option maxRecDepth 100000 in
theorem w_X8_isMissing_16 {p : Program} {l : Launch} {e : Env} {s : State} {m : MethodId} {args : Array Value} {below : List Frame} {meth : Method} {c : Code} {G : Gd} {B : Nat} (X : Cm p s m args meth c cX8_isMissing 2 RX8 G (some .boolean)) {r : Int32} {σr : Sto} (s0 : Int32) (σ : Sto) (hf : b_X8_isMissing_16 s0 σ = some (r, σr)) (H : Heap) (locs : List Loc) (hH : HX G layM B σ H) (hS : va_S (inW layM B) s.heap H locs) (ls : Array Slot) (hl : lv_has ls 2 []) : WM p l e 0 s m args below meth c H locs G layM B (some (.int r)) σr (F0 m 16 ls [.int s0]) := by
  unfold b_X8_isMissing_16 at hf
  have hx := X.1.1
  have hb := X.1.2.1
  obtain ⟨q203, hf⟩ := chk hf
  obtain ⟨rfl, rfl⟩ := rt2 hf
  exact g_zret X hH hS (Decidable.not_not.mp q203) dX8_isMissing_16
def f_X8_isMissing (x1 : Int32) (σ : Sto) : Option (Int32 × Sto) :=
  if (x1 < 0 ∨ 8 ≤ x1.toNatClampNeg) then none else if (σ.1 1 x1.toNatClampNeg) = (-1000000 : Int32) then (b_X8_isMissing_16 (1 : Int32) σ) else (b_X8_isMissing_16 (0 : Int32) σ)
set_option maxHeartbeats 4000000 in
set_option maxRecDepth 100000 in
theorem w_X8_isMissing {p : Program} {l : Launch} {e : Env} {s : State} {m : MethodId} {args : Array Value} {below : List Frame} {meth : Method} {c : Code} {G : Gd} {B : Nat} (X : Cm p s m args meth c cX8_isMissing 2 RX8 G (some .boolean)) {r : Int32} {σr : Sto} (x1 : Int32) (σ : Sto) (hf : f_X8_isMissing x1 σ = some (r, σr)) (H : Heap) (locs : List Loc) (hH : HX G layM B σ H) (hS : va_S (inW layM B) s.heap H locs) (ls : Array Slot) (hl : lv_has ls 2 [(0, .ref (B + 0)), (1, .int x1)]) : WM p l e 0 s m args below meth c H locs G layM B (some (.int r)) σr (F0 m 0 ls []) := by
  unfold f_X8_isMissing at hf
  have hx := X.1.1
  have hb := X.1.2.1
  refine lv_aload_n hx hb dX8_isMissing_0 rfl (lv_at hl 0 rfl) ?_
  refine g_get (v := .ref (B + 1)) kX8 (by decide) fl_RX8_7 X.1 hH km_0 rfl dX8_isMissing_1 ?_
  refine lv_iload_n hx hb dX8_isMissing_4 rfl (lv_at hl 1 rfl) ?_
  obtain ⟨q101, hf⟩ := chk hf
  refine g_iald (j := x1.toNatClampNeg) X.1 hH km_1 q101 rfl dX8_isMissing_5 ?_
  refine lv_ldc (v := -1000000) hx hb X.1.2.2.2.1 (X.1.2.2.2.2.1 _ kc_RX8_60) dX8_isMissing_6 ?_
  refine lv_icmp_ne (tgt := 15) hx hb dX8_isMissing_8 (by decide) (fun q102 => ?_) (fun q102 => ?_)
  · replace hf := brF hf q102
    refine lv_iconst (v := 0) hx hb dX8_isMissing_15 (by decide) ?_
    exact w_X8_isMissing_16 X (0 : Int32) σ hf _ _ hH hS _ (lv_sub hl [] rfl)
  · replace hf := brT hf q102
    refine lv_iconst (v := 1) hx hb dX8_isMissing_11 (by decide) ?_
    refine lv_goto (tgt := 16) hx hb dX8_isMissing_12 (by decide) ?_
    exact w_X8_isMissing_16 X (1 : Int32) σ hf _ _ hH hS _ (lv_sub hl [] rfl)
theorem c_X8_isMissing (l : Launch) (G : Gd) (B : Nat) (x1 : Int32) (σ σr : Sto) (r : Int32) (hf : f_X8_isMissing x1 σ = some (r, σr)) : Ct l G layM B yX8_isMissing cX8_isMissing 2 (some .boolean) 0 [.ref (B + 0), .int x1] (some (.int r)) σ σr :=
  Ct.ofW (by decide) (Nat.le_of_ble_eq_true rfl) (fun _ _ _ _ _ _ _ X hH hS ls hl => w_X8_isMissing X x1 σ hf _ _ hH hS ls (show lv_has ls 2 [(0, .ref (B + 0)), (1, .int x1)] from hl))
