-- SlackProofsModel.solutions(I)I  (D 4)
def b_X8_solutions_138 (s0 : Int32) (σ : Sto) : Option (Int32 × Sto) :=
  bd2 (f_X8_well s0 σ) fun r314 σ313 => some (r314, σ313)
set_option maxHeartbeats 4000000 in
set_option maxRecDepth 100000 in
theorem w_X8_solutions_138 {p : Program} {l : Launch} {e : Env} {s : State} {m : MethodId} {args : Array Value} {below : List Frame} {meth : Method} {c : Code} {G : Gd} {B : Nat} (X : Cm p s m args meth c cX8_solutions 7 RX8 G (some .int)) {r : Int32} {σr : Sto} (s0 : Int32) (σ : Sto) (hf : b_X8_solutions_138 s0 σ = some (r, σr)) (H : Heap) (locs : List Loc) (hH : HX G layM B σ H) (hS : va_S (inW layM B) s.heap H locs) (ls : Array Slot) (hl : lv_has ls 7 []) : WM p l e 4 s m args below meth c H locs G layM B (some (.int r)) σr (F0 m 138 ls [.int s0, .ref (B + 0)]) := by
  unfold b_X8_solutions_138 at hf
  have hx := X.1.1
  have hb := X.1.2.1
  obtain ⟨r314, σ313, eσ313, hf⟩ := bnd2 hf
  refine g_cVi (As := [.int s0]) X.1 hH hS (c_X8_well l G B s0 σ σ313 r314 eσ313) kw_RX8_81 kX8 km_0 (by decide) rfl hl (Nat.le_of_ble_eq_true rfl) rfl dX8_solutions_138 (fun H locs hH hS => ?_)
  obtain ⟨rfl, rfl⟩ := rt2 hf
  exact g_iret X hH hS dX8_solutions_141
def b_X8_solutions_112 (c48 : Int32 → Int32 → Int32 → Int32 → Int32 → Sto → Option (Int32 × Sto)) (v1 : Int32) (v2 : Int32) (v3 : Int32) (v4 : Int32) (v5 : Int32) (σ : Sto) : Option (Int32 × Sto) :=
  c48 v1 v2 v3 v4 (v5 + (1 : Int32)) σ
set_option maxHeartbeats 4000000 in
set_option maxRecDepth 100000 in
theorem w_X8_solutions_112 {p : Program} {l : Launch} {e : Env} {s : State} {m : MethodId} {args : Array Value} {below : List Frame} {meth : Method} {c : Code} {G : Gd} {B : Nat} (X : Cm p s m args meth c cX8_solutions 7 RX8 G (some .int)) (c48 : Int32 → Int32 → Int32 → Int32 → Int32 → Sto → Option (Int32 × Sto)) {r : Int32} {σr : Sto} (ih48 : ∀ (v1 : Int32) (v2 : Int32) (v3 : Int32) (v4 : Int32) (v5 : Int32) (σ : Sto) (H : Heap) (locs : List Loc) (ls : Array Slot), c48 v1 v2 v3 v4 v5 σ = some (r, σr) → HX G layM B σ H → va_S (inW layM B) s.heap H locs → lv_has ls 7 [(0, .ref (B + 0)), (1, .int v1), (2, .int v2), (3, .int v3), (4, .int v4), (5, .int v5)] → WM p l e 4 s m args below meth c H locs G layM B (some (.int r)) σr (F0 m 48 ls [])) (v1 : Int32) (v2 : Int32) (v3 : Int32) (v4 : Int32) (v5 : Int32) (σ : Sto) (hf : b_X8_solutions_112 c48 v1 v2 v3 v4 v5 σ = some (r, σr)) (H : Heap) (locs : List Loc) (hH : HX G layM B σ H) (hS : va_S (inW layM B) s.heap H locs) (ls : Array Slot) (hl : lv_has ls 7 [(0, .ref (B + 0)), (1, .int v1), (2, .int v2), (3, .int v3), (4, .int v4), (5, .int v5)]) : WM p l e 4 s m args below meth c H locs G layM B (some (.int r)) σr (F0 m 112 ls []) := by
  unfold b_X8_solutions_112 at hf
  have hx := X.1.1
  have hb := X.1.2.1
  refine lv_iinc (v := (v5 + (1 : Int32))) (lv' := [(5, .int (v5 + (1 : Int32))), (0, .ref (B + 0)), (1, .int v1), (2, .int v2), (3, .int v3), (4, .int v4)]) hx hb dX8_solutions_112 hl (k := 5) rfl rfl (by decide) rfl (fun ls hl => ?_)
  refine lv_goto (tgt := 48) hx hb dX8_solutions_115 (by decide) ?_
  exact ih48 v1 v2 v3 v4 (v5 + (1 : Int32)) σ _ _ _ hf hH hS (lv_sub hl [1, 2, 3, 4, 5, 0] rfl)
def b_X8_solutions_108 (c48 : Int32 → Int32 → Int32 → Int32 → Int32 → Sto → Option (Int32 × Sto)) (v1 : Int32) (v2 : Int32) (v4 : Int32) (v5 : Int32) (s0 : Int32) (σ : Sto) : Option (Int32 × Sto) :=
  b_X8_solutions_112 c48 v1 (v2 + (1 : Int32)) s0 v4 v5 σ
set_option maxHeartbeats 4000000 in
set_option maxRecDepth 100000 in
theorem w_X8_solutions_108 {p : Program} {l : Launch} {e : Env} {s : State} {m : MethodId} {args : Array Value} {below : List Frame} {meth : Method} {c : Code} {G : Gd} {B : Nat} (X : Cm p s m args meth c cX8_solutions 7 RX8 G (some .int)) (c48 : Int32 → Int32 → Int32 → Int32 → Int32 → Sto → Option (Int32 × Sto)) {r : Int32} {σr : Sto} (ih48 : ∀ (v1 : Int32) (v2 : Int32) (v3 : Int32) (v4 : Int32) (v5 : Int32) (σ : Sto) (H : Heap) (locs : List Loc) (ls : Array Slot), c48 v1 v2 v3 v4 v5 σ = some (r, σr) → HX G layM B σ H → va_S (inW layM B) s.heap H locs → lv_has ls 7 [(0, .ref (B + 0)), (1, .int v1), (2, .int v2), (3, .int v3), (4, .int v4), (5, .int v5)] → WM p l e 4 s m args below meth c H locs G layM B (some (.int r)) σr (F0 m 48 ls [])) (v1 : Int32) (v2 : Int32) (v4 : Int32) (v5 : Int32) (s0 : Int32) (σ : Sto) (hf : b_X8_solutions_108 c48 v1 v2 v4 v5 s0 σ = some (r, σr)) (H : Heap) (locs : List Loc) (hH : HX G layM B σ H) (hS : va_S (inW layM B) s.heap H locs) (ls : Array Slot) (hl : lv_has ls 7 [(0, .ref (B + 0)), (1, .int v1), (2, .int v2), (4, .int v4), (5, .int v5)]) : WM p l e 4 s m args below meth c H locs G layM B (some (.int r)) σr (F0 m 108 ls [.int s0]) := by
  unfold b_X8_solutions_108 at hf
  have hx := X.1.1
  have hb := X.1.2.1
  refine lv_istore_n (lv' := [(3, .int s0), (0, .ref (B + 0)), (1, .int v1), (2, .int v2), (4, .int v4), (5, .int v5)]) hx hb dX8_solutions_108 rfl hl (by decide) rfl (fun ls hl => ?_)
  refine lv_iinc (v := (v2 + (1 : Int32))) (lv' := [(2, .int (v2 + (1 : Int32))), (3, .int s0), (0, .ref (B + 0)), (1, .int v1), (4, .int v4), (5, .int v5)]) hx hb dX8_solutions_109 hl (k := 3) rfl rfl (by decide) rfl (fun ls hl => ?_)
  exact w_X8_solutions_112 X c48 ih48 v1 (v2 + (1 : Int32)) s0 v4 v5 σ hf _ _ hH hS _ (lv_sub hl [2, 3, 0, 1, 4, 5] rfl)
def b_X8_solutions_102 (c48 : Int32 → Int32 → Int32 → Int32 → Int32 → Sto → Option (Int32 × Sto)) (v1 : Int32) (v2 : Int32) (v4 : Int32) (v5 : Int32) (v6 : Int32) (σ : Sto) : Option (Int32 × Sto) :=
  b_X8_solutions_108 c48 v1 v2 v4 v5 v6 σ
set_option maxHeartbeats 4000000 in
set_option maxRecDepth 100000 in
theorem w_X8_solutions_102 {p : Program} {l : Launch} {e : Env} {s : State} {m : MethodId} {args : Array Value} {below : List Frame} {meth : Method} {c : Code} {G : Gd} {B : Nat} (X : Cm p s m args meth c cX8_solutions 7 RX8 G (some .int)) (c48 : Int32 → Int32 → Int32 → Int32 → Int32 → Sto → Option (Int32 × Sto)) {r : Int32} {σr : Sto} (ih48 : ∀ (v1 : Int32) (v2 : Int32) (v3 : Int32) (v4 : Int32) (v5 : Int32) (σ : Sto) (H : Heap) (locs : List Loc) (ls : Array Slot), c48 v1 v2 v3 v4 v5 σ = some (r, σr) → HX G layM B σ H → va_S (inW layM B) s.heap H locs → lv_has ls 7 [(0, .ref (B + 0)), (1, .int v1), (2, .int v2), (3, .int v3), (4, .int v4), (5, .int v5)] → WM p l e 4 s m args below meth c H locs G layM B (some (.int r)) σr (F0 m 48 ls [])) (v1 : Int32) (v2 : Int32) (v4 : Int32) (v5 : Int32) (v6 : Int32) (σ : Sto) (hf : b_X8_solutions_102 c48 v1 v2 v4 v5 v6 σ = some (r, σr)) (H : Heap) (locs : List Loc) (hH : HX G layM B σ H) (hS : va_S (inW layM B) s.heap H locs) (ls : Array Slot) (hl : lv_has ls 7 [(0, .ref (B + 0)), (1, .int v1), (2, .int v2), (4, .int v4), (5, .int v5), (6, .int v6)]) : WM p l e 4 s m args below meth c H locs G layM B (some (.int r)) σr (F0 m 102 ls []) := by
  unfold b_X8_solutions_102 at hf
  have hx := X.1.1
  have hb := X.1.2.1
  refine lv_iload hx hb dX8_solutions_102 (lv_at hl 5 rfl) ?_
  refine lv_goto (tgt := 108) hx hb dX8_solutions_104 (by decide) ?_
  exact w_X8_solutions_108 X c48 ih48 v1 v2 v4 v5 v6 σ hf _ _ hH hS _ (lv_sub hl [0, 1, 2, 3, 4] rfl)
def b_X8_solutions_90 (c48 : Int32 → Int32 → Int32 → Int32 → Int32 → Sto → Option (Int32 × Sto)) (v1 : Int32) (v2 : Int32) (v3 : Int32) (v5 : Int32) (v6 : Int32) (s0 : Int32) (σ : Sto) : Option (Int32 × Sto) :=
  if v2 = 0 then (b_X8_solutions_102 c48 v1 v2 s0 v5 v6 σ) else (if v3 ≤ v6 then (b_X8_solutions_108 c48 v1 v2 s0 v5 v3 σ) else (b_X8_solutions_102 c48 v1 v2 s0 v5 v6 σ))
set_option maxHeartbeats 4000000 in
set_option maxRecDepth 100000 in
theorem w_X8_solutions_90 {p : Program} {l : Launch} {e : Env} {s : State} {m : MethodId} {args : Array Value} {below : List Frame} {meth : Method} {c : Code} {G : Gd} {B : Nat} (X : Cm p s m args meth c cX8_solutions 7 RX8 G (some .int)) (c48 : Int32 → Int32 → Int32 → Int32 → Int32 → Sto → Option (Int32 × Sto)) {r : Int32} {σr : Sto} (ih48 : ∀ (v1 : Int32) (v2 : Int32) (v3 : Int32) (v4 : Int32) (v5 : Int32) (σ : Sto) (H : Heap) (locs : List Loc) (ls : Array Slot), c48 v1 v2 v3 v4 v5 σ = some (r, σr) → HX G layM B σ H → va_S (inW layM B) s.heap H locs → lv_has ls 7 [(0, .ref (B + 0)), (1, .int v1), (2, .int v2), (3, .int v3), (4, .int v4), (5, .int v5)] → WM p l e 4 s m args below meth c H locs G layM B (some (.int r)) σr (F0 m 48 ls [])) (v1 : Int32) (v2 : Int32) (v3 : Int32) (v5 : Int32) (v6 : Int32) (s0 : Int32) (σ : Sto) (hf : b_X8_solutions_90 c48 v1 v2 v3 v5 v6 s0 σ = some (r, σr)) (H : Heap) (locs : List Loc) (hH : HX G layM B σ H) (hS : va_S (inW layM B) s.heap H locs) (ls : Array Slot) (hl : lv_has ls 7 [(0, .ref (B + 0)), (1, .int v1), (2, .int v2), (3, .int v3), (5, .int v5), (6, .int v6)]) : WM p l e 4 s m args below meth c H locs G layM B (some (.int r)) σr (F0 m 90 ls [.int s0]) := by
  unfold b_X8_solutions_90 at hf
  have hx := X.1.1
  have hb := X.1.2.1
  refine lv_istore (lv' := [(4, .int s0), (0, .ref (B + 0)), (1, .int v1), (2, .int v2), (3, .int v3), (5, .int v5), (6, .int v6)]) hx hb dX8_solutions_90 hl (by decide) rfl (fun ls hl => ?_)
  refine lv_iload_n hx hb dX8_solutions_92 rfl (lv_at hl 3 rfl) ?_
  refine lv_if_eq (tgt := 102) hx hb dX8_solutions_93 (by decide) (fun q621 => ?_) (fun q621 => ?_)
  · replace hf := brT hf q621
    exact w_X8_solutions_102 X c48 ih48 v1 v2 s0 v5 v6 σ hf _ _ hH hS _ (lv_sub hl [1, 2, 3, 0, 5, 6] rfl)
  · replace hf := brF hf q621
    refine lv_iload hx hb dX8_solutions_96 (lv_at hl 6 rfl) ?_
    refine lv_iload_n hx hb dX8_solutions_98 rfl (lv_at hl 4 rfl) ?_
    refine lv_icmp_ge (tgt := 107) hx hb dX8_solutions_99 (by decide) (fun q822 => ?_) (fun q822 => ?_)
    · replace hf := brT hf q822
      refine lv_iload_n hx hb dX8_solutions_107 rfl (lv_at hl 4 rfl) ?_
      exact w_X8_solutions_108 X c48 ih48 v1 v2 s0 v5 v3 σ hf _ _ hH hS _ (lv_sub hl [1, 2, 3, 0, 5] rfl)
    · replace hf := brF hf q822
      exact w_X8_solutions_102 X c48 ih48 v1 v2 s0 v5 v6 σ hf _ _ hH hS _ (lv_sub hl [1, 2, 3, 0, 5, 6] rfl)
def b_X8_solutions_83 (c48 : Int32 → Int32 → Int32 → Int32 → Int32 → Sto → Option (Int32 × Sto)) (v1 : Int32) (v2 : Int32) (v3 : Int32) (v5 : Int32) (v6 : Int32) (σ : Sto) : Option (Int32 × Sto) :=
  b_X8_solutions_90 c48 v1 v2 v3 v5 v6 v5 σ
set_option maxHeartbeats 4000000 in
set_option maxRecDepth 100000 in
theorem w_X8_solutions_83 {p : Program} {l : Launch} {e : Env} {s : State} {m : MethodId} {args : Array Value} {below : List Frame} {meth : Method} {c : Code} {G : Gd} {B : Nat} (X : Cm p s m args meth c cX8_solutions 7 RX8 G (some .int)) (c48 : Int32 → Int32 → Int32 → Int32 → Int32 → Sto → Option (Int32 × Sto)) {r : Int32} {σr : Sto} (ih48 : ∀ (v1 : Int32) (v2 : Int32) (v3 : Int32) (v4 : Int32) (v5 : Int32) (σ : Sto) (H : Heap) (locs : List Loc) (ls : Array Slot), c48 v1 v2 v3 v4 v5 σ = some (r, σr) → HX G layM B σ H → va_S (inW layM B) s.heap H locs → lv_has ls 7 [(0, .ref (B + 0)), (1, .int v1), (2, .int v2), (3, .int v3), (4, .int v4), (5, .int v5)] → WM p l e 4 s m args below meth c H locs G layM B (some (.int r)) σr (F0 m 48 ls [])) (v1 : Int32) (v2 : Int32) (v3 : Int32) (v5 : Int32) (v6 : Int32) (σ : Sto) (hf : b_X8_solutions_83 c48 v1 v2 v3 v5 v6 σ = some (r, σr)) (H : Heap) (locs : List Loc) (hH : HX G layM B σ H) (hS : va_S (inW layM B) s.heap H locs) (ls : Array Slot) (hl : lv_has ls 7 [(0, .ref (B + 0)), (1, .int v1), (2, .int v2), (3, .int v3), (5, .int v5), (6, .int v6)]) : WM p l e 4 s m args below meth c H locs G layM B (some (.int r)) σr (F0 m 83 ls []) := by
  unfold b_X8_solutions_83 at hf
  have hx := X.1.1
  have hb := X.1.2.1
  refine lv_iload hx hb dX8_solutions_83 (lv_at hl 4 rfl) ?_
  refine lv_goto (tgt := 90) hx hb dX8_solutions_85 (by decide) ?_
  exact w_X8_solutions_90 X c48 ih48 v1 v2 v3 v5 v6 v5 σ hf _ _ hH hS _ (lv_sub hl [0, 1, 2, 3, 4, 5] rfl)
def b_X8_solutions_48 (c48 : Int32 → Int32 → Int32 → Int32 → Int32 → Sto → Option (Int32 × Sto)) (v1 : Int32) (v2 : Int32) (v3 : Int32) (v4 : Int32) (v5 : Int32) (σ : Sto) : Option (Int32 × Sto) :=
  if (256 : Int32) ≤ v5 then (if v1 = 0 then (b_X8_solutions_138 v2 σ) else (if v1 = (1 : Int32) then (b_X8_solutions_138 v3 σ) else (b_X8_solutions_138 v4 σ))) else (bd2 (f_X8_areHolding v5 σ) fun r316 σ315 => if r316 = 0 then (b_X8_solutions_112 c48 v1 v2 v3 v4 v5 σ315) else (bd2 (f_X8_priceOf v5 σ315) fun r419 σ418 => if v2 = 0 then (b_X8_solutions_83 c48 v1 v2 v3 v5 r419 σ418) else (if v3 ≤ r419 then (b_X8_solutions_90 c48 v1 v2 v3 v5 r419 v4 σ418) else (b_X8_solutions_83 c48 v1 v2 v3 v5 r419 σ418))))
set_option maxHeartbeats 4000000 in
set_option maxRecDepth 100000 in
theorem w_X8_solutions_48 {p : Program} {l : Launch} {e : Env} {s : State} {m : MethodId} {args : Array Value} {below : List Frame} {meth : Method} {c : Code} {G : Gd} {B : Nat} (X : Cm p s m args meth c cX8_solutions 7 RX8 G (some .int)) (c48 : Int32 → Int32 → Int32 → Int32 → Int32 → Sto → Option (Int32 × Sto)) {r : Int32} {σr : Sto} (ih48 : ∀ (v1 : Int32) (v2 : Int32) (v3 : Int32) (v4 : Int32) (v5 : Int32) (σ : Sto) (H : Heap) (locs : List Loc) (ls : Array Slot), c48 v1 v2 v3 v4 v5 σ = some (r, σr) → HX G layM B σ H → va_S (inW layM B) s.heap H locs → lv_has ls 7 [(0, .ref (B + 0)), (1, .int v1), (2, .int v2), (3, .int v3), (4, .int v4), (5, .int v5)] → WM p l e 4 s m args below meth c H locs G layM B (some (.int r)) σr (F0 m 48 ls [])) (v1 : Int32) (v2 : Int32) (v3 : Int32) (v4 : Int32) (v5 : Int32) (σ : Sto) (hf : b_X8_solutions_48 c48 v1 v2 v3 v4 v5 σ = some (r, σr)) (H : Heap) (locs : List Loc) (hH : HX G layM B σ H) (hS : va_S (inW layM B) s.heap H locs) (ls : Array Slot) (hl : lv_has ls 7 [(0, .ref (B + 0)), (1, .int v1), (2, .int v2), (3, .int v3), (4, .int v4), (5, .int v5)]) : WM p l e 4 s m args below meth c H locs G layM B (some (.int r)) σr (F0 m 48 ls []) := by
  unfold b_X8_solutions_48 at hf
  have hx := X.1.1
  have hb := X.1.2.1
  refine lv_iload hx hb dX8_solutions_48 (lv_at hl 5 rfl) ?_
  refine lv_sipush (v := 256) hx hb dX8_solutions_50 (by decide) ?_
  refine lv_icmp_ge (tgt := 118) hx hb dX8_solutions_53 (by decide) (fun q210 => ?_) (fun q210 => ?_)
  · replace hf := brT hf q210
    refine lv_aload_n hx hb dX8_solutions_118 rfl (lv_at hl 0 rfl) ?_
    refine lv_iload_n hx hb dX8_solutions_119 rfl (lv_at hl 1 rfl) ?_
    refine lv_if_ne (tgt := 127) hx hb dX8_solutions_120 (by decide) (fun q211 => ?_) (fun q211 => ?_)
    · replace hf := brF hf q211
      refine lv_iload_n hx hb dX8_solutions_127 rfl (lv_at hl 1 rfl) ?_
      refine lv_iconst (v := 1) hx hb dX8_solutions_128 (by decide) ?_
      refine lv_icmp_ne (tgt := 136) hx hb dX8_solutions_129 (by decide) (fun q212 => ?_) (fun q212 => ?_)
      · replace hf := brF hf q212
        refine lv_iload hx hb dX8_solutions_136 (lv_at hl 4 rfl) ?_
        exact w_X8_solutions_138 X v4 σ hf _ _ hH hS _ (lv_sub hl [] rfl)
      · replace hf := brT hf q212
        refine lv_iload_n hx hb dX8_solutions_132 rfl (lv_at hl 3 rfl) ?_
        refine lv_goto (tgt := 138) hx hb dX8_solutions_133 (by decide) ?_
        exact w_X8_solutions_138 X v3 σ hf _ _ hH hS _ (lv_sub hl [] rfl)
    · replace hf := brT hf q211
      refine lv_iload_n hx hb dX8_solutions_123 rfl (lv_at hl 2 rfl) ?_
      refine lv_goto (tgt := 138) hx hb dX8_solutions_124 (by decide) ?_
      exact w_X8_solutions_138 X v2 σ hf _ _ hH hS _ (lv_sub hl [] rfl)
  · replace hf := brF hf q210
    refine lv_aload_n hx hb dX8_solutions_56 rfl (lv_at hl 0 rfl) ?_
    refine lv_iload hx hb dX8_solutions_57 (lv_at hl 5 rfl) ?_
    obtain ⟨r316, σ315, eσ315, hf⟩ := bnd2 hf
    refine g_cVi (As := [.int v5]) X.1 hH hS (c_X8_areHolding l G B v5 σ σ315 r316 eσ315) kw_RX8_247 kX8 km_0 (by decide) rfl hl (Nat.le_of_ble_eq_true rfl) rfl dX8_solutions_59 (fun H locs hH hS => ?_)
    refine lv_if_eq (tgt := 112) hx hb dX8_solutions_62 (by decide) (fun q317 => ?_) (fun q317 => ?_)
    · replace hf := brT hf q317
      exact w_X8_solutions_112 X c48 ih48 v1 v2 v3 v4 v5 σ315 hf _ _ hH hS _ (lv_sub hl [0, 1, 2, 3, 4, 5] rfl)
    · replace hf := brF hf q317
      refine lv_aload_n hx hb dX8_solutions_65 rfl (lv_at hl 0 rfl) ?_
      refine lv_iload hx hb dX8_solutions_66 (lv_at hl 5 rfl) ?_
      obtain ⟨r419, σ418, eσ418, hf⟩ := bnd2 hf
      refine g_cVi (As := [.int v5]) X.1 hH hS (c_X8_priceOf l G B v5 σ315 σ418 r419 eσ418) kw_RX8_250 kX8 km_0 (by decide) rfl hl (Nat.le_of_ble_eq_true rfl) rfl dX8_solutions_68 (fun H locs hH hS => ?_)
      refine lv_istore (lv' := [(6, .int r419), (0, .ref (B + 0)), (1, .int v1), (2, .int v2), (3, .int v3), (4, .int v4), (5, .int v5)]) hx hb dX8_solutions_71 hl (by decide) rfl (fun ls hl => ?_)
      refine lv_iload_n hx hb dX8_solutions_73 rfl (lv_at hl 3 rfl) ?_
      refine lv_if_eq (tgt := 83) hx hb dX8_solutions_74 (by decide) (fun q420 => ?_) (fun q420 => ?_)
      · replace hf := brT hf q420
        exact w_X8_solutions_83 X c48 ih48 v1 v2 v3 v5 r419 σ418 hf _ _ hH hS _ (lv_sub hl [1, 2, 3, 4, 6, 0] rfl)
      · replace hf := brF hf q420
        refine lv_iload hx hb dX8_solutions_77 (lv_at hl 0 rfl) ?_
        refine lv_iload_n hx hb dX8_solutions_79 rfl (lv_at hl 4 rfl) ?_
        refine lv_icmp_ge (tgt := 88) hx hb dX8_solutions_80 (by decide) (fun q823 => ?_) (fun q823 => ?_)
        · replace hf := brT hf q823
          refine lv_iload hx hb dX8_solutions_88 (lv_at hl 5 rfl) ?_
          exact w_X8_solutions_90 X c48 ih48 v1 v2 v3 v5 r419 v4 σ418 hf _ _ hH hS _ (lv_sub hl [1, 2, 3, 4, 6, 0] rfl)
        · replace hf := brF hf q823
          exact w_X8_solutions_83 X c48 ih48 v1 v2 v3 v5 r419 σ418 hf _ _ hH hS _ (lv_sub hl [1, 2, 3, 4, 6, 0] rfl)
def l_X8_solutions_48 : Nat → Int32 → Int32 → Int32 → Int32 → Int32 → Sto → Option (Int32 × Sto)
  | 0, _, _, _, _, _, _ => none
  | n + 1, v1, v2, v3, v4, v5, σ => b_X8_solutions_48 (l_X8_solutions_48 n) v1 v2 v3 v4 v5 σ
set_option maxHeartbeats 4000000 in
set_option maxRecDepth 100000 in
theorem wl_X8_solutions_48 {p : Program} {l : Launch} {e : Env} {s : State} {m : MethodId} {args : Array Value} {below : List Frame} {meth : Method} {c : Code} {G : Gd} {B : Nat} (X : Cm p s m args meth c cX8_solutions 7 RX8 G (some .int)) {r : Int32} {σr : Sto} (n : Nat) : ∀ (v1 : Int32) (v2 : Int32) (v3 : Int32) (v4 : Int32) (v5 : Int32) (σ : Sto) (H : Heap) (locs : List Loc) (ls : Array Slot), l_X8_solutions_48 n v1 v2 v3 v4 v5 σ = some (r, σr) → HX G layM B σ H → va_S (inW layM B) s.heap H locs → lv_has ls 7 [(0, .ref (B + 0)), (1, .int v1), (2, .int v2), (3, .int v3), (4, .int v4), (5, .int v5)] → WM p l e 4 s m args below meth c H locs G layM B (some (.int r)) σr (F0 m 48 ls []) := by
  induction n with
  | zero =>
    intro _ _ _ _ _ σ H locs ls hf
    cases hf
  | succ n ih =>
    intro v1 v2 v3 v4 v5 σ H locs ls hf hH hS hl
    exact w_X8_solutions_48 X (l_X8_solutions_48 n) ih v1 v2 v3 v4 v5 σ hf H locs hH hS ls hl
def f_X8_solutions (x1 : Int32) (σ : Sto) : Option (Int32 × Sto) :=
  bd2 (f_X8_isFormula σ) fun r102 σ101 => if r102 = 0 then (some ((-1000002 : Int32), σ101)) else (bd2 (f_X8_in x1 (0 : Int32) (2 : Int32) σ101) fun r105 σ104 => if r105 = 0 then (some ((-1000001 : Int32), σ104)) else (bd2 (f_X8_isOver σ104) fun r108 σ107 => if r108 = 0 then (l_X8_solutions_48 400 x1 (0 : Int32) (-1000000 : Int32) (-1000000 : Int32) (0 : Int32) σ107) else (bd2 (f_X8_found (6 : Int32) σ107) fun r825 σ824 => some (r825, σ824))))
set_option maxHeartbeats 4000000 in
set_option maxRecDepth 100000 in
theorem w_X8_solutions {p : Program} {l : Launch} {e : Env} {s : State} {m : MethodId} {args : Array Value} {below : List Frame} {meth : Method} {c : Code} {G : Gd} {B : Nat} (X : Cm p s m args meth c cX8_solutions 7 RX8 G (some .int)) {r : Int32} {σr : Sto} (x1 : Int32) (σ : Sto) (hf : f_X8_solutions x1 σ = some (r, σr)) (H : Heap) (locs : List Loc) (hH : HX G layM B σ H) (hS : va_S (inW layM B) s.heap H locs) (ls : Array Slot) (hl : lv_has ls 7 [(0, .ref (B + 0)), (1, .int x1)]) : WM p l e 4 s m args below meth c H locs G layM B (some (.int r)) σr (F0 m 0 ls []) := by
  unfold f_X8_solutions at hf
  have hx := X.1.1
  have hb := X.1.2.1
  refine lv_aload_n hx hb dX8_solutions_0 rfl (lv_at hl 0 rfl) ?_
  obtain ⟨r102, σ101, eσ101, hf⟩ := bnd2 hf
  refine g_cVi (As := []) X.1 hH hS (c_X8_isFormula l G B σ σ101 r102 eσ101) kw_RX8_171 kX8 km_0 (by decide) rfl hl (Nat.le_of_ble_eq_true rfl) rfl dX8_solutions_1 (fun H locs hH hS => ?_)
  refine lv_if_ne (tgt := 10) hx hb dX8_solutions_4 (by decide) (fun q103 => ?_) (fun q103 => ?_)
  · replace hf := brF hf q103
    refine lv_iload_n hx hb dX8_solutions_10 rfl (lv_at hl 1 rfl) ?_
    refine lv_iconst (v := 0) hx hb dX8_solutions_11 (by decide) ?_
    refine lv_iconst (v := 2) hx hb dX8_solutions_12 (by decide) ?_
    obtain ⟨r105, σ104, eσ104, hf⟩ := bnd2 hf
    refine g_cSi (As := [.int x1, .int (0 : Int32), .int (2 : Int32)]) X.1 hH hS (c_X8_in l G B x1 (0 : Int32) (2 : Int32) σ101 σ104 r105 eσ104) kw_RX8_68 (by decide) rfl hl (Nat.le_of_ble_eq_true rfl) rfl dX8_solutions_13 (fun H locs hH hS => ?_)
    refine lv_if_ne (tgt := 22) hx hb dX8_solutions_16 (by decide) (fun q106 => ?_) (fun q106 => ?_)
    · replace hf := brF hf q106
      refine lv_aload_n hx hb dX8_solutions_22 rfl (lv_at hl 0 rfl) ?_
      obtain ⟨r108, σ107, eσ107, hf⟩ := bnd2 hf
      refine g_cVi (As := []) X.1 hH hS (c_X8_isOver l G B σ104 σ107 r108 eσ107) kw_RX8_222 kX8 km_0 (by decide) rfl hl (Nat.le_of_ble_eq_true rfl) rfl dX8_solutions_23 (fun H locs hH hS => ?_)
      refine lv_if_eq (tgt := 36) hx hb dX8_solutions_26 (by decide) (fun q109 => ?_) (fun q109 => ?_)
      · replace hf := brT hf q109
        refine lv_iconst (v := 0) hx hb dX8_solutions_36 (by decide) ?_
        refine lv_istore_n (lv' := [(2, .int (0 : Int32)), (0, .ref (B + 0)), (1, .int x1)]) hx hb dX8_solutions_37 rfl hl (by decide) rfl (fun ls hl => ?_)
        refine lv_ldc (v := -1000000) hx hb X.1.2.2.2.1 (X.1.2.2.2.2.1 _ kc_RX8_60) dX8_solutions_38 ?_
        refine lv_istore_n (lv' := [(3, .int (-1000000 : Int32)), (2, .int (0 : Int32)), (0, .ref (B + 0)), (1, .int x1)]) hx hb dX8_solutions_40 rfl hl (by decide) rfl (fun ls hl => ?_)
        refine lv_ldc (v := -1000000) hx hb X.1.2.2.2.1 (X.1.2.2.2.2.1 _ kc_RX8_60) dX8_solutions_41 ?_
        refine lv_istore (lv' := [(4, .int (-1000000 : Int32)), (3, .int (-1000000 : Int32)), (2, .int (0 : Int32)), (0, .ref (B + 0)), (1, .int x1)]) hx hb dX8_solutions_43 hl (by decide) rfl (fun ls hl => ?_)
        refine lv_iconst (v := 0) hx hb dX8_solutions_45 (by decide) ?_
        refine lv_istore (lv' := [(5, .int (0 : Int32)), (4, .int (-1000000 : Int32)), (3, .int (-1000000 : Int32)), (2, .int (0 : Int32)), (0, .ref (B + 0)), (1, .int x1)]) hx hb dX8_solutions_46 hl (by decide) rfl (fun ls hl => ?_)
        exact wl_X8_solutions_48 X 400 x1 (0 : Int32) (-1000000 : Int32) (-1000000 : Int32) (0 : Int32) σ107 _ _ _ hf hH hS (lv_sub hl [4, 5, 3, 2, 1, 0] rfl)
      · replace hf := brF hf q109
        refine lv_aload_n hx hb dX8_solutions_29 rfl (lv_at hl 0 rfl) ?_
        refine lv_bipush (v := 6) hx hb dX8_solutions_30 (by decide) ?_
        obtain ⟨r825, σ824, eσ824, hf⟩ := bnd2 hf
        refine g_cVi (As := [.int (6 : Int32)]) X.1 hH hS (c_X8_found l G B (6 : Int32) σ107 σ824 r825 eσ824) kw_RX8_77 kX8 km_0 (by decide) rfl hl (Nat.le_of_ble_eq_true rfl) rfl dX8_solutions_32 (fun H locs hH hS => ?_)
        obtain ⟨rfl, rfl⟩ := rt2 hf
        exact g_iret X hH hS dX8_solutions_35
    · replace hf := brT hf q106
      refine lv_ldc (v := -1000001) hx hb X.1.2.2.2.1 (X.1.2.2.2.2.1 _ kc_RX8_76) dX8_solutions_19 ?_
      obtain ⟨rfl, rfl⟩ := rt2 hf
      exact g_iret X hH hS dX8_solutions_21
  · replace hf := brT hf q103
    refine lv_ldc (v := -1000002) hx hb X.1.2.2.2.1 (X.1.2.2.2.2.1 _ kc_RX8_174) dX8_solutions_7 ?_
    obtain ⟨rfl, rfl⟩ := rt2 hf
    exact g_iret X hH hS dX8_solutions_9
theorem c_X8_solutions (l : Launch) (G : Gd) (B : Nat) (x1 : Int32) (σ σr : Sto) (r : Int32) (hf : f_X8_solutions x1 σ = some (r, σr)) : Ct l G layM B yX8_solutions cX8_solutions 7 (some .int) 4 [.ref (B + 0), .int x1] (some (.int r)) σ σr :=
  Ct.ofW (by decide) (Nat.le_of_ble_eq_true rfl) (fun _ _ _ _ _ _ _ X hH hS ls hl => w_X8_solutions X x1 σ hf _ _ hH hS ls (show lv_has ls 7 [(0, .ref (B + 0)), (1, .int x1)] from hl))
-- SlackProofsModel.split(II)I  (D 3)
def b_X8_split_23 (σ : Sto) : Option (Int32 × Sto) :=
  some ((-1000001 : Int32), σ)
set_option maxHeartbeats 4000000 in
set_option maxRecDepth 100000 in
theorem w_X8_split_23 {p : Program} {l : Launch} {e : Env} {s : State} {m : MethodId} {args : Array Value} {below : List Frame} {meth : Method} {c : Code} {G : Gd} {B : Nat} (X : Cm p s m args meth c cX8_split 6 RX8 G (some .int)) {r : Int32} {σr : Sto} (σ : Sto) (hf : b_X8_split_23 σ = some (r, σr)) (H : Heap) (locs : List Loc) (hH : HX G layM B σ H) (hS : va_S (inW layM B) s.heap H locs) (ls : Array Slot) (hl : lv_has ls 6 []) : WM p l e 3 s m args below meth c H locs G layM B (some (.int r)) σr (F0 m 23 ls []) := by
  unfold b_X8_split_23 at hf
  have hx := X.1.1
  have hb := X.1.2.1
  refine lv_ldc (v := -1000001) hx hb X.1.2.2.2.1 (X.1.2.2.2.2.1 _ kc_RX8_76) dX8_split_23 ?_
  obtain ⟨rfl, rfl⟩ := rt2 hf
  exact g_iret X hH hS dX8_split_25
def b_X8_split_110 (c43 : Int32 → Int32 → Sto → Option (Int32 × Sto)) (v2 : Int32) (v3 : Int32) (s0 : Int64) (s1 : Int32) (σ : Sto) : Option (Int32 × Sto) :=
  if (s1 < 0 ∨ 10 ≤ s1.toNatClampNeg) then none else nmS (pL σ 11 s1.toNatClampNeg s0) fun σ529 => c43 v2 (v3 + (1 : Int32)) σ529
set_option maxHeartbeats 4000000 in
set_option maxRecDepth 100000 in
theorem w_X8_split_110 {p : Program} {l : Launch} {e : Env} {s : State} {m : MethodId} {args : Array Value} {below : List Frame} {meth : Method} {c : Code} {G : Gd} {B : Nat} (X : Cm p s m args meth c cX8_split 6 RX8 G (some .int)) (c43 : Int32 → Int32 → Sto → Option (Int32 × Sto)) {r : Int32} {σr : Sto} (ih43 : ∀ (v2 : Int32) (v3 : Int32) (σ : Sto) (H : Heap) (locs : List Loc) (ls : Array Slot), c43 v2 v3 σ = some (r, σr) → HX G layM B σ H → va_S (inW layM B) s.heap H locs → lv_has ls 6 [(0, .ref (B + 0)), (2, .int v2), (3, .int v3)] → WM p l e 3 s m args below meth c H locs G layM B (some (.int r)) σr (F0 m 43 ls [])) (v2 : Int32) (v3 : Int32) (s0 : Int64) (s1 : Int32) (σ : Sto) (hf : b_X8_split_110 c43 v2 v3 s0 s1 σ = some (r, σr)) (H : Heap) (locs : List Loc) (hH : HX G layM B σ H) (hS : va_S (inW layM B) s.heap H locs) (ls : Array Slot) (hl : lv_has ls 6 [(0, .ref (B + 0)), (2, .int v2), (3, .int v3)]) : WM p l e 3 s m args below meth c H locs G layM B (some (.int r)) σr (F0 m 110 ls [.long s0, .int s1, .ref (B + 11)]) := by
  unfold b_X8_split_110 at hf
  have hx := X.1.1
  have hb := X.1.2.1
  obtain ⟨q528, hf⟩ := chk hf
  refine g_last (j := s1.toNatClampNeg) X.1 hH hS km_11 q528 rfl dX8_split_110 (fun H locs hH hS => ?_)
  obtain ⟨σ529, eσ529, hH⟩ := nmX hH
  replace hf := nmU hf eσ529
  refine lv_iinc (v := (v3 + (1 : Int32))) (lv' := [(3, .int (v3 + (1 : Int32))), (0, .ref (B + 0)), (2, .int v2)]) hx hb dX8_split_111 hl (k := 2) rfl rfl (by decide) rfl (fun ls hl => ?_)
  refine lv_goto (tgt := 43) hx hb dX8_split_114 (by decide) ?_
  exact ih43 v2 (v3 + (1 : Int32)) σ529 _ _ _ hf hH hS (lv_sub hl [1, 2, 0] rfl)
def b_X8_split_83 (c43 : Int32 → Int32 → Sto → Option (Int32 × Sto)) (v2 : Int32) (v3 : Int32) (s0 : Int64) (s1 : Int64) (σ : Sto) : Option (Int32 × Sto) :=
  nmS (s1 + s0) fun y425 => if (v3 < 0 ∨ 10 ≤ v3.toNatClampNeg) then none else if (0 : Int64) ≤ (σ.2 11 v3.toNatClampNeg) then (b_X8_split_110 c43 v2 v3 y425 v3 σ) else (b_X8_split_110 c43 v2 v3 (-y425) v3 σ)
set_option maxHeartbeats 4000000 in
set_option maxRecDepth 100000 in
theorem w_X8_split_83 {p : Program} {l : Launch} {e : Env} {s : State} {m : MethodId} {args : Array Value} {below : List Frame} {meth : Method} {c : Code} {G : Gd} {B : Nat} (X : Cm p s m args meth c cX8_split 6 RX8 G (some .int)) (c43 : Int32 → Int32 → Sto → Option (Int32 × Sto)) {r : Int32} {σr : Sto} (ih43 : ∀ (v2 : Int32) (v3 : Int32) (σ : Sto) (H : Heap) (locs : List Loc) (ls : Array Slot), c43 v2 v3 σ = some (r, σr) → HX G layM B σ H → va_S (inW layM B) s.heap H locs → lv_has ls 6 [(0, .ref (B + 0)), (2, .int v2), (3, .int v3)] → WM p l e 3 s m args below meth c H locs G layM B (some (.int r)) σr (F0 m 43 ls [])) (v2 : Int32) (v3 : Int32) (s0 : Int64) (s1 : Int64) (σ : Sto) (hf : b_X8_split_83 c43 v2 v3 s0 s1 σ = some (r, σr)) (H : Heap) (locs : List Loc) (hH : HX G layM B σ H) (hS : va_S (inW layM B) s.heap H locs) (ls : Array Slot) (hl : lv_has ls 6 [(0, .ref (B + 0)), (2, .int v2), (3, .int v3)]) : WM p l e 3 s m args below meth c H locs G layM B (some (.int r)) σr (F0 m 83 ls [.long s0, .long s1]) := by
  unfold b_X8_split_83 at hf
  have hx := X.1.1
  have hb := X.1.2.1
  refine lv_ladd hx hb dX8_split_83 ?_
  refine lv_topl (fun y425 ey425 => ?_)
  replace hf := nmU hf ey425
  refine lv_lstore (lv' := [(4, .long y425), (0, .ref (B + 0)), (2, .int v2), (3, .int v3)]) hx hb dX8_split_84 hl (by decide) rfl (fun ls hl => ?_)
  refine lv_aload_n hx hb dX8_split_86 rfl (lv_at hl 1 rfl) ?_
  refine g_get (v := .ref (B + 11)) kX8 (by decide) fl_RX8_42 X.1 hH km_0 rfl dX8_split_87 ?_
  refine lv_iload_n hx hb dX8_split_90 rfl (lv_at hl 3 rfl) ?_
  refine lv_aload_n hx hb dX8_split_91 rfl (lv_at hl 1 rfl) ?_
  refine g_get (v := .ref (B + 11)) kX8 (by decide) fl_RX8_42 X.1 hH km_0 rfl dX8_split_92 ?_
  refine lv_iload_n hx hb dX8_split_95 rfl (lv_at hl 3 rfl) ?_
  obtain ⟨q426, hf⟩ := chk hf
  refine g_lald (j := v3.toNatClampNeg) X.1 hH km_11 q426 rfl dX8_split_96 ?_
  refine lv_lconst (v := 0) hx hb dX8_split_97 (by decide) ?_
  refine g_lge (tgt := 108) X.1 dX8_split_98 dX8_split_99 (by decide) (fun q427 => ?_) (fun q427 => ?_)
  · replace hf := brT hf q427
    refine lv_lload hx hb dX8_split_108 (lv_at hl 0 rfl) ?_
    exact w_X8_split_110 X c43 ih43 v2 v3 y425 v3 σ hf _ _ hH hS _ (lv_sub hl [1, 2, 3] rfl)
  · replace hf := brF hf q427
    refine lv_lload hx hb dX8_split_102 (lv_at hl 0 rfl) ?_
    refine lv_lneg hx hb dX8_split_104 ?_
    refine lv_goto (tgt := 110) hx hb dX8_split_105 (by decide) ?_
    exact w_X8_split_110 X c43 ih43 v2 v3 (-y425) v3 σ hf _ _ hH hS _ (lv_sub hl [1, 2, 3] rfl)
def b_X8_split_43 (c43 : Int32 → Int32 → Sto → Option (Int32 × Sto)) (v2 : Int32) (v3 : Int32) (σ : Sto) : Option (Int32 × Sto) :=
  if (10 : Int32) ≤ v3 then (bd2 (f_X8_comes (4 : Int32) σ) fun r315 σ314 => some (r315, σ314)) else (if (v3 < 0 ∨ 10 ≤ v3.toNatClampNeg) then none else bd2 (f_X8_size (σ.2 11 v3.toNatClampNeg) σ) fun r318 σ317 => if v2.toInt64 = 0 then none else if (v3 < 0 ∨ 10 ≤ v3.toNatClampNeg) then none else bd2 (f_X8_size (σ317.2 11 v3.toNatClampNeg) σ317) fun r322 σ321 => if v2.toInt64 = 0 then none else if (r322 - r322 / v2.toInt64 * v2.toInt64) ≤ (0 : Int64) then (b_X8_split_83 c43 v2 v3 (0 : Int64) (r318 / v2.toInt64) σ321) else (b_X8_split_83 c43 v2 v3 (1 : Int64) (r318 / v2.toInt64) σ321))
set_option maxHeartbeats 4000000 in
set_option maxRecDepth 100000 in
theorem w_X8_split_43 {p : Program} {l : Launch} {e : Env} {s : State} {m : MethodId} {args : Array Value} {below : List Frame} {meth : Method} {c : Code} {G : Gd} {B : Nat} (X : Cm p s m args meth c cX8_split 6 RX8 G (some .int)) (c43 : Int32 → Int32 → Sto → Option (Int32 × Sto)) {r : Int32} {σr : Sto} (ih43 : ∀ (v2 : Int32) (v3 : Int32) (σ : Sto) (H : Heap) (locs : List Loc) (ls : Array Slot), c43 v2 v3 σ = some (r, σr) → HX G layM B σ H → va_S (inW layM B) s.heap H locs → lv_has ls 6 [(0, .ref (B + 0)), (2, .int v2), (3, .int v3)] → WM p l e 3 s m args below meth c H locs G layM B (some (.int r)) σr (F0 m 43 ls [])) (v2 : Int32) (v3 : Int32) (σ : Sto) (hf : b_X8_split_43 c43 v2 v3 σ = some (r, σr)) (H : Heap) (locs : List Loc) (hH : HX G layM B σ H) (hS : va_S (inW layM B) s.heap H locs) (ls : Array Slot) (hl : lv_has ls 6 [(0, .ref (B + 0)), (2, .int v2), (3, .int v3)]) : WM p l e 3 s m args below meth c H locs G layM B (some (.int r)) σr (F0 m 43 ls []) := by
  unfold b_X8_split_43 at hf
  have hx := X.1.1
  have hb := X.1.2.1
  refine lv_iload_n hx hb dX8_split_43 rfl (lv_at hl 2 rfl) ?_
  refine lv_bipush (v := 10) hx hb dX8_split_44 (by decide) ?_
  refine lv_icmp_ge (tgt := 117) hx hb dX8_split_46 (by decide) (fun q313 => ?_) (fun q313 => ?_)
  · replace hf := brT hf q313
    refine lv_aload_n hx hb dX8_split_117 rfl (lv_at hl 0 rfl) ?_
    refine lv_iconst (v := 4) hx hb dX8_split_118 (by decide) ?_
    obtain ⟨r315, σ314, eσ314, hf⟩ := bnd2 hf
    refine g_cVi (As := [.int (4 : Int32)]) X.1 hH hS (c_X8_comes l G B (4 : Int32) σ σ314 r315 eσ314) kw_RX8_191 kX8 km_0 (by decide) rfl hl (Nat.le_of_ble_eq_true rfl) rfl dX8_split_119 (fun H locs hH hS => ?_)
    obtain ⟨rfl, rfl⟩ := rt2 hf
    exact g_iret X hH hS dX8_split_122
  · replace hf := brF hf q313
    refine lv_aload_n hx hb dX8_split_49 rfl (lv_at hl 0 rfl) ?_
    refine g_get (v := .ref (B + 11)) kX8 (by decide) fl_RX8_42 X.1 hH km_0 rfl dX8_split_50 ?_
    refine lv_iload_n hx hb dX8_split_53 rfl (lv_at hl 2 rfl) ?_
    obtain ⟨q316, hf⟩ := chk hf
    refine g_lald (j := v3.toNatClampNeg) X.1 hH km_11 q316 rfl dX8_split_54 ?_
    obtain ⟨r318, σ317, eσ317, hf⟩ := bnd2 hf
    refine g_cSl (As := [.long (σ.2 11 v3.toNatClampNeg)]) X.1 hH hS (c_X8_size l G B (σ.2 11 v3.toNatClampNeg) σ σ317 r318 eσ317) kw_RX8_187 (by decide) rfl hl (Nat.le_of_ble_eq_true rfl) rfl dX8_split_55 (fun H locs hH hS => ?_)
    refine lv_iload_n hx hb dX8_split_58 rfl (lv_at hl 1 rfl) ?_
    refine lv_i2l hx hb dX8_split_59 rfl ?_
    obtain ⟨q319, hf⟩ := chk hf
    refine lv_ldiv hx hb dX8_split_60 q319 ?_
    refine lv_aload_n hx hb dX8_split_61 rfl (lv_at hl 0 rfl) ?_
    refine g_get (v := .ref (B + 11)) kX8 (by decide) fl_RX8_42 X.1 hH km_0 rfl dX8_split_62 ?_
    refine lv_iload_n hx hb dX8_split_65 rfl (lv_at hl 2 rfl) ?_
    obtain ⟨q320, hf⟩ := chk hf
    refine g_lald (j := v3.toNatClampNeg) X.1 hH km_11 q320 rfl dX8_split_66 ?_
    obtain ⟨r322, σ321, eσ321, hf⟩ := bnd2 hf
    refine g_cSl (As := [.long (σ317.2 11 v3.toNatClampNeg)]) X.1 hH hS (c_X8_size l G B (σ317.2 11 v3.toNatClampNeg) σ317 σ321 r322 eσ321) kw_RX8_187 (by decide) rfl hl (Nat.le_of_ble_eq_true rfl) rfl dX8_split_67 (fun H locs hH hS => ?_)
    refine lv_iload_n hx hb dX8_split_70 rfl (lv_at hl 1 rfl) ?_
    refine lv_i2l hx hb dX8_split_71 rfl ?_
    obtain ⟨q323, hf⟩ := chk hf
    refine lv_lrem hx hb dX8_split_72 q323 ?_
    refine lv_lconst (v := 0) hx hb dX8_split_73 (by decide) ?_
    refine g_lle (tgt := 82) X.1 dX8_split_74 dX8_split_75 (by decide) (fun q324 => ?_) (fun q324 => ?_)
    · replace hf := brT hf q324
      refine lv_lconst (v := 0) hx hb dX8_split_82 (by decide) ?_
      exact w_X8_split_83 X c43 ih43 v2 v3 (0 : Int64) (r318 / v2.toInt64) σ321 hf _ _ hH hS _ (lv_sub hl [0, 1, 2] rfl)
    · replace hf := brF hf q324
      refine lv_lconst (v := 1) hx hb dX8_split_78 (by decide) ?_
      refine lv_goto (tgt := 83) hx hb dX8_split_79 (by decide) ?_
      exact w_X8_split_83 X c43 ih43 v2 v3 (1 : Int64) (r318 / v2.toInt64) σ321 hf _ _ hH hS _ (lv_sub hl [0, 1, 2] rfl)
def l_X8_split_43 : Nat → Int32 → Int32 → Sto → Option (Int32 × Sto)
  | 0, _, _, _ => none
  | n + 1, v2, v3, σ => b_X8_split_43 (l_X8_split_43 n) v2 v3 σ
set_option maxHeartbeats 4000000 in
set_option maxRecDepth 100000 in
theorem wl_X8_split_43 {p : Program} {l : Launch} {e : Env} {s : State} {m : MethodId} {args : Array Value} {below : List Frame} {meth : Method} {c : Code} {G : Gd} {B : Nat} (X : Cm p s m args meth c cX8_split 6 RX8 G (some .int)) {r : Int32} {σr : Sto} (n : Nat) : ∀ (v2 : Int32) (v3 : Int32) (σ : Sto) (H : Heap) (locs : List Loc) (ls : Array Slot), l_X8_split_43 n v2 v3 σ = some (r, σr) → HX G layM B σ H → va_S (inW layM B) s.heap H locs → lv_has ls 6 [(0, .ref (B + 0)), (2, .int v2), (3, .int v3)] → WM p l e 3 s m args below meth c H locs G layM B (some (.int r)) σr (F0 m 43 ls []) := by
  induction n with
  | zero =>
    intro _ _ σ H locs ls hf
    cases hf
  | succ n ih =>
    intro v2 v3 σ H locs ls hf hH hS hl
    exact w_X8_split_43 X (l_X8_split_43 n) ih v2 v3 σ hf H locs hH hS ls hl
def f_X8_split (x1 : Int32) (x2 : Int32) (σ : Sto) : Option (Int32 × Sto) :=
  bd2 (f_X8_isFormula σ) fun r102 σ101 => if r102 = 0 then (some ((-1000002 : Int32), σ101)) else (bd2 (f_X8_isLive x1 σ101) fun r105 σ104 => if r105 = 0 then (b_X8_split_23 σ104) else (if (1 : Int32) ≤ x2 then (bd2 (f_X8_isFull σ104) fun r209 σ208 => if r209 = 0 then (bd1 (f_X8_takesClause x1 σ208) fun σ211 => l_X8_split_43 400 x2 (1 : Int32) σ211) else (some ((-1000003 : Int32), σ208))) else (b_X8_split_23 σ104)))
set_option maxHeartbeats 4000000 in
set_option maxRecDepth 100000 in
theorem w_X8_split {p : Program} {l : Launch} {e : Env} {s : State} {m : MethodId} {args : Array Value} {below : List Frame} {meth : Method} {c : Code} {G : Gd} {B : Nat} (X : Cm p s m args meth c cX8_split 6 RX8 G (some .int)) {r : Int32} {σr : Sto} (x1 : Int32) (x2 : Int32) (σ : Sto) (hf : f_X8_split x1 x2 σ = some (r, σr)) (H : Heap) (locs : List Loc) (hH : HX G layM B σ H) (hS : va_S (inW layM B) s.heap H locs) (ls : Array Slot) (hl : lv_has ls 6 [(0, .ref (B + 0)), (1, .int x1), (2, .int x2)]) : WM p l e 3 s m args below meth c H locs G layM B (some (.int r)) σr (F0 m 0 ls []) := by
  unfold f_X8_split at hf
  have hx := X.1.1
  have hb := X.1.2.1
  refine lv_aload_n hx hb dX8_split_0 rfl (lv_at hl 0 rfl) ?_
  obtain ⟨r102, σ101, eσ101, hf⟩ := bnd2 hf
  refine g_cVi (As := []) X.1 hH hS (c_X8_isFormula l G B σ σ101 r102 eσ101) kw_RX8_171 kX8 km_0 (by decide) rfl hl (Nat.le_of_ble_eq_true rfl) rfl dX8_split_1 (fun H locs hH hS => ?_)
  refine lv_if_ne (tgt := 10) hx hb dX8_split_4 (by decide) (fun q103 => ?_) (fun q103 => ?_)
  · replace hf := brF hf q103
    refine lv_aload_n hx hb dX8_split_10 rfl (lv_at hl 0 rfl) ?_
    refine lv_iload_n hx hb dX8_split_11 rfl (lv_at hl 1 rfl) ?_
    obtain ⟨r105, σ104, eσ104, hf⟩ := bnd2 hf
    refine g_cVi (As := [.int x1]) X.1 hH hS (c_X8_isLive l G B x1 σ101 σ104 r105 eσ104) kw_RX8_175 kX8 km_0 (by decide) rfl hl (Nat.le_of_ble_eq_true rfl) rfl dX8_split_12 (fun H locs hH hS => ?_)
    refine lv_if_eq (tgt := 23) hx hb dX8_split_15 (by decide) (fun q106 => ?_) (fun q106 => ?_)
    · replace hf := brT hf q106
      exact w_X8_split_23 X σ104 hf _ _ hH hS _ (lv_sub hl [] rfl)
    · replace hf := brF hf q106
      refine lv_iload_n hx hb dX8_split_18 rfl (lv_at hl 2 rfl) ?_
      refine lv_iconst (v := 1) hx hb dX8_split_19 (by decide) ?_
      refine lv_icmp_ge (tgt := 26) hx hb dX8_split_20 (by decide) (fun q207 => ?_) (fun q207 => ?_)
      · replace hf := brT hf q207
        refine lv_aload_n hx hb dX8_split_26 rfl (lv_at hl 0 rfl) ?_
        obtain ⟨r209, σ208, eσ208, hf⟩ := bnd2 hf
        refine g_cVi (As := []) X.1 hH hS (c_X8_isFull l G B σ104 σ208 r209 eσ208) kw_RX8_178 kX8 km_0 (by decide) rfl hl (Nat.le_of_ble_eq_true rfl) rfl dX8_split_27 (fun H locs hH hS => ?_)
        refine lv_if_eq (tgt := 36) hx hb dX8_split_30 (by decide) (fun q210 => ?_) (fun q210 => ?_)
        · replace hf := brT hf q210
          refine lv_aload_n hx hb dX8_split_36 rfl (lv_at hl 0 rfl) ?_
          refine lv_iload_n hx hb dX8_split_37 rfl (lv_at hl 1 rfl) ?_
          obtain ⟨σ211, eσ211, hf⟩ := bnd1 hf
          refine g_cVv (As := [.int x1]) X.1 hH hS (c_X8_takesClause l G B x1 σ208 σ211 eσ211) kw_RX8_181 kX8 km_0 (by decide) rfl hl (Nat.le_of_ble_eq_true rfl) rfl dX8_split_38 (fun H locs hH hS => ?_)
          refine lv_iconst (v := 1) hx hb dX8_split_41 (by decide) ?_
          refine lv_istore_n (lv' := [(3, .int (1 : Int32)), (0, .ref (B + 0)), (1, .int x1), (2, .int x2)]) hx hb dX8_split_42 rfl hl (by decide) rfl (fun ls hl => ?_)
          exact wl_X8_split_43 X 400 x2 (1 : Int32) σ211 _ _ _ hf hH hS (lv_sub hl [1, 3, 0] rfl)
        · replace hf := brF hf q210
          refine lv_ldc (v := -1000003) hx hb X.1.2.2.2.1 (X.1.2.2.2.2.1 _ kc_RX8_97) dX8_split_33 ?_
          obtain ⟨rfl, rfl⟩ := rt2 hf
          exact g_iret X hH hS dX8_split_35
      · replace hf := brF hf q207
        exact w_X8_split_23 X σ104 hf _ _ hH hS _ (lv_sub hl [] rfl)
  · replace hf := brT hf q103
    refine lv_ldc (v := -1000002) hx hb X.1.2.2.2.1 (X.1.2.2.2.2.1 _ kc_RX8_174) dX8_split_7 ?_
    obtain ⟨rfl, rfl⟩ := rt2 hf
    exact g_iret X hH hS dX8_split_9
theorem c_X8_split (l : Launch) (G : Gd) (B : Nat) (x1 : Int32) (x2 : Int32) (σ σr : Sto) (r : Int32) (hf : f_X8_split x1 x2 σ = some (r, σr)) : Ct l G layM B yX8_split cX8_split 6 (some .int) 3 [.ref (B + 0), .int x1, .int x2] (some (.int r)) σ σr :=
  Ct.ofW (by decide) (Nat.le_of_ble_eq_true rfl) (fun _ _ _ _ _ _ _ X hH hS ls hl => w_X8_split X x1 x2 σ hf _ _ hH hS ls (show lv_has ls 6 [(0, .ref (B + 0)), (1, .int x1), (2, .int x2)] from hl))
-- SlackProofsModel.status()I  (D 0)
def f_X8_status (σ : Sto) : Option (Int32 × Sto) :=
  some ((σ.1 0 4), σ)
set_option maxHeartbeats 4000000 in
set_option maxRecDepth 100000 in
theorem w_X8_status {p : Program} {l : Launch} {e : Env} {s : State} {m : MethodId} {args : Array Value} {below : List Frame} {meth : Method} {c : Code} {G : Gd} {B : Nat} (X : Cm p s m args meth c cX8_status 1 RX8 G (some .int)) {r : Int32} {σr : Sto} (σ : Sto) (hf : f_X8_status σ = some (r, σr)) (H : Heap) (locs : List Loc) (hH : HX G layM B σ H) (hS : va_S (inW layM B) s.heap H locs) (ls : Array Slot) (hl : lv_has ls 1 [(0, .ref (B + 0))]) : WM p l e 0 s m args below meth c H locs G layM B (some (.int r)) σr (F0 m 0 ls []) := by
  unfold f_X8_status at hf
  have hx := X.1.1
  have hb := X.1.2.1
  refine lv_aload_n hx hb dX8_status_0 rfl (lv_at hl 0 rfl) ?_
  refine g_get (v := .int (σ.1 0 4)) kX8 (by decide) fl_RX8_63 X.1 hH km_0 rfl dX8_status_1 ?_
  obtain ⟨rfl, rfl⟩ := rt2 hf
  exact g_iret X hH hS dX8_status_4
theorem c_X8_status (l : Launch) (G : Gd) (B : Nat) (σ σr : Sto) (r : Int32) (hf : f_X8_status σ = some (r, σr)) : Ct l G layM B yX8_status cX8_status 1 (some .int) 0 [.ref (B + 0)] (some (.int r)) σ σr :=
  Ct.ofW (by decide) (Nat.le_of_ble_eq_true rfl) (fun _ _ _ _ _ _ _ X hH hS ls hl => w_X8_status X σ hf _ _ hH hS ls (show lv_has ls 1 [(0, .ref (B + 0))] from hl))
-- SlackProofsModel.sum(I)J  (D 2)
def f_X8_sum (x1 : Int32) (σ : Sto) : Option (Int64 × Sto) :=
  bd2 (f_X8_isLive x1 σ) fun r102 σ101 => if r102 = 0 then (some ((-1000001 : Int64), σ101)) else (bd2 (f_X8_sumOf 6 312 ((12 : Int32) + ((10 : Int32) * x1)) σ101) fun r105 σ104 => if (0 : Int64) ≤ r105 then (nmS (pI σ104 0 4 (0 : Int32)) fun σ107 => some (r105, σ107)) else (bd2 (f_X8_found (6 : Int32) σ104) fun r109 σ108 => some (r109.toInt64, σ108)))
set_option maxHeartbeats 4000000 in
set_option maxRecDepth 100000 in
theorem w_X8_sum {p : Program} {l : Launch} {e : Env} {s : State} {m : MethodId} {args : Array Value} {below : List Frame} {meth : Method} {c : Code} {G : Gd} {B : Nat} (X : Cm p s m args meth c cX8_sum 4 RX8 G (some .long)) {r : Int64} {σr : Sto} (x1 : Int32) (σ : Sto) (hf : f_X8_sum x1 σ = some (r, σr)) (H : Heap) (locs : List Loc) (hH : HX G layM B σ H) (hS : va_S (inW layM B) s.heap H locs) (ls : Array Slot) (hl : lv_has ls 4 [(0, .ref (B + 0)), (1, .int x1)]) : WM p l e 2 s m args below meth c H locs G layM B (some (.long r)) σr (F0 m 0 ls []) := by
  unfold f_X8_sum at hf
  have hx := X.1.1
  have hb := X.1.2.1
  refine lv_aload_n hx hb dX8_sum_0 rfl (lv_at hl 0 rfl) ?_
  refine lv_iload_n hx hb dX8_sum_1 rfl (lv_at hl 1 rfl) ?_
  obtain ⟨r102, σ101, eσ101, hf⟩ := bnd2 hf
  refine g_cVi (As := [.int x1]) X.1 hH hS (c_X8_isLive l G B x1 σ σ101 r102 eσ101) kw_RX8_175 kX8 km_0 (by decide) rfl hl (Nat.le_of_ble_eq_true rfl) rfl dX8_sum_2 (fun H locs hH hS => ?_)
  refine lv_if_ne (tgt := 12) hx hb dX8_sum_5 (by decide) (fun q103 => ?_) (fun q103 => ?_)
  · replace hf := brF hf q103
    refine lv_aload_n hx hb dX8_sum_12 rfl (lv_at hl 0 rfl) ?_
    refine g_get (v := .ref (B + 6)) kX8 (by decide) fl_RX8_25 X.1 hH km_0 rfl dX8_sum_13 ?_
    refine lv_bipush (v := 12) hx hb dX8_sum_16 (by decide) ?_
    refine lv_bipush (v := 10) hx hb dX8_sum_18 (by decide) ?_
    refine lv_iload_n hx hb dX8_sum_20 rfl (lv_at hl 1 rfl) ?_
    refine lv_imul hx hb dX8_sum_21 ?_
    refine lv_iadd hx hb dX8_sum_22 ?_
    obtain ⟨r105, σ104, eσ104, hf⟩ := bnd2 hf
    refine g_cSl (As := [.ref (B + 6), .int ((12 : Int32) + ((10 : Int32) * x1))]) X.1 hH hS (c_X8_sumOf l G B 6 312 km_6 ((12 : Int32) + ((10 : Int32) * x1)) σ101 σ104 r105 eσ104) kw_RX8_196 (by decide) rfl hl (Nat.le_of_ble_eq_true rfl) rfl dX8_sum_23 (fun H locs hH hS => ?_)
    refine lv_lstore_n (lv' := [(2, .long r105), (0, .ref (B + 0)), (1, .int x1)]) hx hb dX8_sum_26 rfl hl (by decide) rfl (fun ls hl => ?_)
    refine lv_lload_n hx hb dX8_sum_27 rfl (lv_at hl 0 rfl) ?_
    refine lv_lconst (v := 0) hx hb dX8_sum_28 (by decide) ?_
    refine g_lge (tgt := 41) X.1 dX8_sum_29 dX8_sum_30 (by decide) (fun q106 => ?_) (fun q106 => ?_)
    · replace hf := brT hf q106
      refine lv_aload_n hx hb dX8_sum_41 rfl (lv_at hl 1 rfl) ?_
      refine lv_iconst (v := 0) hx hb dX8_sum_42 (by decide) ?_
      refine g_putI kX8 (by decide) fl_RX8_63 rfl rfl X.1 hH hS km_0 dX8_sum_43 (fun H locs hH hS => ?_)
      obtain ⟨σ107, eσ107, hH⟩ := nmX hH
      replace hf := nmU hf eσ107
      refine lv_lload_n hx hb dX8_sum_46 rfl (lv_at hl 0 rfl) ?_
      obtain ⟨rfl, rfl⟩ := rt2 hf
      exact g_lret X hH hS dX8_sum_47
    · replace hf := brF hf q106
      refine lv_aload_n hx hb dX8_sum_33 rfl (lv_at hl 1 rfl) ?_
      refine lv_bipush (v := 6) hx hb dX8_sum_34 (by decide) ?_
      obtain ⟨r109, σ108, eσ108, hf⟩ := bnd2 hf
      refine g_cVi (As := [.int (6 : Int32)]) X.1 hH hS (c_X8_found l G B (6 : Int32) σ104 σ108 r109 eσ108) kw_RX8_77 kX8 km_0 (by decide) rfl hl (Nat.le_of_ble_eq_true rfl) rfl dX8_sum_36 (fun H locs hH hS => ?_)
      refine lv_i2l hx hb dX8_sum_39 rfl ?_
      obtain ⟨rfl, rfl⟩ := rt2 hf
      exact g_lret X hH hS dX8_sum_40
  · replace hf := brT hf q103
    refine lv_ldc2 (v := -1000001) hx hb X.1.2.2.2.1 (X.1.2.2.2.2.1 _ kc_RX8_258) dX8_sum_8 ?_
    obtain ⟨rfl, rfl⟩ := rt2 hf
    exact g_lret X hH hS dX8_sum_11
theorem c_X8_sum (l : Launch) (G : Gd) (B : Nat) (x1 : Int32) (σ σr : Sto) (r : Int64) (hf : f_X8_sum x1 σ = some (r, σr)) : Ct l G layM B yX8_sum cX8_sum 4 (some .long) 2 [.ref (B + 0), .int x1] (some (.long r)) σ σr :=
  Ct.ofW (by decide) (Nat.le_of_ble_eq_true rfl) (fun _ _ _ _ _ _ _ X hH hS ls hl => w_X8_sum X x1 σ hf _ _ hH hS ls (show lv_has ls 4 [(0, .ref (B + 0)), (1, .int x1)] from hl))
-- SlackProofsModel.times(II)I  (D 3)
def b_X8_times_23 (σ : Sto) : Option (Int32 × Sto) :=
  some ((-1000001 : Int32), σ)
set_option maxHeartbeats 4000000 in
set_option maxRecDepth 100000 in
theorem w_X8_times_23 {p : Program} {l : Launch} {e : Env} {s : State} {m : MethodId} {args : Array Value} {below : List Frame} {meth : Method} {c : Code} {G : Gd} {B : Nat} (X : Cm p s m args meth c cX8_times 4 RX8 G (some .int)) {r : Int32} {σr : Sto} (σ : Sto) (hf : b_X8_times_23 σ = some (r, σr)) (H : Heap) (locs : List Loc) (hH : HX G layM B σ H) (hS : va_S (inW layM B) s.heap H locs) (ls : Array Slot) (hl : lv_has ls 4 []) : WM p l e 3 s m args below meth c H locs G layM B (some (.int r)) σr (F0 m 23 ls []) := by
  unfold b_X8_times_23 at hf
  have hx := X.1.1
  have hb := X.1.2.1
  refine lv_ldc (v := -1000001) hx hb X.1.2.2.2.1 (X.1.2.2.2.2.1 _ kc_RX8_76) dX8_times_23 ?_
  obtain ⟨rfl, rfl⟩ := rt2 hf
  exact g_iret X hH hS dX8_times_25
def b_X8_times_43 (c43 : Int32 → Int32 → Sto → Option (Int32 × Sto)) (v2 : Int32) (v3 : Int32) (σ : Sto) : Option (Int32 × Sto) :=
  if (10 : Int32) ≤ v3 then (bd2 (f_X8_comes (4 : Int32) σ) fun r315 σ314 => bd2 (f_X8_well r315 σ314) fun r317 σ316 => some (r317, σ316)) else (if (v3 < 0 ∨ 10 ≤ v3.toNatClampNeg) then none else bd2 (f_X8_size (σ.2 11 v3.toNatClampNeg) σ) fun r320 σ319 => if v2.toInt64 = 0 then none else if r320 ≤ ((9223372036854775807 : Int64) / v2.toInt64) then (if (v3 < 0 ∨ 10 ≤ v3.toNatClampNeg) then none else if (v3 < 0 ∨ 10 ≤ v3.toNatClampNeg) then none else nmS (pL σ319 11 v3.toNatClampNeg ((σ319.2 11 v3.toNatClampNeg) * v2.toInt64)) fun σ325 => c43 v2 (v3 + (1 : Int32)) σ325) else (bd2 (f_X8_found (6 : Int32) σ319) fun r327 σ326 => some (r327, σ326)))
set_option maxHeartbeats 4000000 in
set_option maxRecDepth 100000 in
theorem w_X8_times_43 {p : Program} {l : Launch} {e : Env} {s : State} {m : MethodId} {args : Array Value} {below : List Frame} {meth : Method} {c : Code} {G : Gd} {B : Nat} (X : Cm p s m args meth c cX8_times 4 RX8 G (some .int)) (c43 : Int32 → Int32 → Sto → Option (Int32 × Sto)) {r : Int32} {σr : Sto} (ih43 : ∀ (v2 : Int32) (v3 : Int32) (σ : Sto) (H : Heap) (locs : List Loc) (ls : Array Slot), c43 v2 v3 σ = some (r, σr) → HX G layM B σ H → va_S (inW layM B) s.heap H locs → lv_has ls 4 [(0, .ref (B + 0)), (2, .int v2), (3, .int v3)] → WM p l e 3 s m args below meth c H locs G layM B (some (.int r)) σr (F0 m 43 ls [])) (v2 : Int32) (v3 : Int32) (σ : Sto) (hf : b_X8_times_43 c43 v2 v3 σ = some (r, σr)) (H : Heap) (locs : List Loc) (hH : HX G layM B σ H) (hS : va_S (inW layM B) s.heap H locs) (ls : Array Slot) (hl : lv_has ls 4 [(0, .ref (B + 0)), (2, .int v2), (3, .int v3)]) : WM p l e 3 s m args below meth c H locs G layM B (some (.int r)) σr (F0 m 43 ls []) := by
  unfold b_X8_times_43 at hf
  have hx := X.1.1
  have hb := X.1.2.1
  refine lv_iload_n hx hb dX8_times_43 rfl (lv_at hl 2 rfl) ?_
  refine lv_bipush (v := 10) hx hb dX8_times_44 (by decide) ?_
  refine lv_icmp_ge (tgt := 92) hx hb dX8_times_46 (by decide) (fun q313 => ?_) (fun q313 => ?_)
  · replace hf := brT hf q313
    refine lv_aload_n hx hb dX8_times_92 rfl (lv_at hl 0 rfl) ?_
    refine lv_aload_n hx hb dX8_times_93 rfl (lv_at hl 0 rfl) ?_
    refine lv_iconst (v := 4) hx hb dX8_times_94 (by decide) ?_
    obtain ⟨r315, σ314, eσ314, hf⟩ := bnd2 hf
    refine g_cVi (As := [.int (4 : Int32)]) X.1 hH hS (c_X8_comes l G B (4 : Int32) σ σ314 r315 eσ314) kw_RX8_191 kX8 km_0 (by decide) rfl hl (Nat.le_of_ble_eq_true rfl) rfl dX8_times_95 (fun H locs hH hS => ?_)
    obtain ⟨r317, σ316, eσ316, hf⟩ := bnd2 hf
    refine g_cVi (As := [.int r315]) X.1 hH hS (c_X8_well l G B r315 σ314 σ316 r317 eσ316) kw_RX8_81 kX8 km_0 (by decide) rfl hl (Nat.le_of_ble_eq_true rfl) rfl dX8_times_98 (fun H locs hH hS => ?_)
    obtain ⟨rfl, rfl⟩ := rt2 hf
    exact g_iret X hH hS dX8_times_101
  · replace hf := brF hf q313
    refine lv_aload_n hx hb dX8_times_49 rfl (lv_at hl 0 rfl) ?_
    refine g_get (v := .ref (B + 11)) kX8 (by decide) fl_RX8_42 X.1 hH km_0 rfl dX8_times_50 ?_
    refine lv_iload_n hx hb dX8_times_53 rfl (lv_at hl 2 rfl) ?_
    obtain ⟨q318, hf⟩ := chk hf
    refine g_lald (j := v3.toNatClampNeg) X.1 hH km_11 q318 rfl dX8_times_54 ?_
    obtain ⟨r320, σ319, eσ319, hf⟩ := bnd2 hf
    refine g_cSl (As := [.long (σ.2 11 v3.toNatClampNeg)]) X.1 hH hS (c_X8_size l G B (σ.2 11 v3.toNatClampNeg) σ σ319 r320 eσ319) kw_RX8_187 (by decide) rfl hl (Nat.le_of_ble_eq_true rfl) rfl dX8_times_55 (fun H locs hH hS => ?_)
    refine lv_ldc2 (v := 9223372036854775807) hx hb X.1.2.2.2.1 (X.1.2.2.2.2.1 _ kc_RX8_185) dX8_times_58 ?_
    refine lv_iload_n hx hb dX8_times_61 rfl (lv_at hl 1 rfl) ?_
    refine lv_i2l hx hb dX8_times_62 rfl ?_
    obtain ⟨q321, hf⟩ := chk hf
    refine lv_ldiv hx hb dX8_times_63 q321 ?_
    refine g_lle (tgt := 75) X.1 dX8_times_64 dX8_times_65 (by decide) (fun q322 => ?_) (fun q322 => ?_)
    · replace hf := brT hf q322
      refine lv_aload_n hx hb dX8_times_75 rfl (lv_at hl 0 rfl) ?_
      refine g_get (v := .ref (B + 11)) kX8 (by decide) fl_RX8_42 X.1 hH km_0 rfl dX8_times_76 ?_
      refine lv_iload_n hx hb dX8_times_79 rfl (lv_at hl 2 rfl) ?_
      refine lv_dup2_11 hx hb dX8_times_80 rfl rfl ?_
      obtain ⟨q323, hf⟩ := chk hf
      refine g_lald (j := v3.toNatClampNeg) X.1 hH km_11 q323 rfl dX8_times_81 ?_
      refine lv_iload_n hx hb dX8_times_82 rfl (lv_at hl 1 rfl) ?_
      refine lv_i2l hx hb dX8_times_83 rfl ?_
      refine lv_lmul hx hb dX8_times_84 ?_
      obtain ⟨q324, hf⟩ := chk hf
      refine g_last (j := v3.toNatClampNeg) X.1 hH hS km_11 q324 rfl dX8_times_85 (fun H locs hH hS => ?_)
      obtain ⟨σ325, eσ325, hH⟩ := nmX hH
      replace hf := nmU hf eσ325
      refine lv_iinc (v := (v3 + (1 : Int32))) (lv' := [(3, .int (v3 + (1 : Int32))), (0, .ref (B + 0)), (2, .int v2)]) hx hb dX8_times_86 hl (k := 2) rfl rfl (by decide) rfl (fun ls hl => ?_)
      refine lv_goto (tgt := 43) hx hb dX8_times_89 (by decide) ?_
      exact ih43 v2 (v3 + (1 : Int32)) σ325 _ _ _ hf hH hS (lv_sub hl [1, 2, 0] rfl)
    · replace hf := brF hf q322
      refine lv_aload_n hx hb dX8_times_68 rfl (lv_at hl 0 rfl) ?_
      refine lv_bipush (v := 6) hx hb dX8_times_69 (by decide) ?_
      obtain ⟨r327, σ326, eσ326, hf⟩ := bnd2 hf
      refine g_cVi (As := [.int (6 : Int32)]) X.1 hH hS (c_X8_found l G B (6 : Int32) σ319 σ326 r327 eσ326) kw_RX8_77 kX8 km_0 (by decide) rfl hl (Nat.le_of_ble_eq_true rfl) rfl dX8_times_71 (fun H locs hH hS => ?_)
      obtain ⟨rfl, rfl⟩ := rt2 hf
      exact g_iret X hH hS dX8_times_74
def l_X8_times_43 : Nat → Int32 → Int32 → Sto → Option (Int32 × Sto)
  | 0, _, _, _ => none
  | n + 1, v2, v3, σ => b_X8_times_43 (l_X8_times_43 n) v2 v3 σ
set_option maxHeartbeats 4000000 in
set_option maxRecDepth 100000 in
theorem wl_X8_times_43 {p : Program} {l : Launch} {e : Env} {s : State} {m : MethodId} {args : Array Value} {below : List Frame} {meth : Method} {c : Code} {G : Gd} {B : Nat} (X : Cm p s m args meth c cX8_times 4 RX8 G (some .int)) {r : Int32} {σr : Sto} (n : Nat) : ∀ (v2 : Int32) (v3 : Int32) (σ : Sto) (H : Heap) (locs : List Loc) (ls : Array Slot), l_X8_times_43 n v2 v3 σ = some (r, σr) → HX G layM B σ H → va_S (inW layM B) s.heap H locs → lv_has ls 4 [(0, .ref (B + 0)), (2, .int v2), (3, .int v3)] → WM p l e 3 s m args below meth c H locs G layM B (some (.int r)) σr (F0 m 43 ls []) := by
  induction n with
  | zero =>
    intro _ _ σ H locs ls hf
    cases hf
  | succ n ih =>
    intro v2 v3 σ H locs ls hf hH hS hl
    exact w_X8_times_43 X (l_X8_times_43 n) ih v2 v3 σ hf H locs hH hS ls hl
def f_X8_times (x1 : Int32) (x2 : Int32) (σ : Sto) : Option (Int32 × Sto) :=
  bd2 (f_X8_isFormula σ) fun r102 σ101 => if r102 = 0 then (some ((-1000002 : Int32), σ101)) else (bd2 (f_X8_isLive x1 σ101) fun r105 σ104 => if r105 = 0 then (b_X8_times_23 σ104) else (if (1 : Int32) ≤ x2 then (bd2 (f_X8_isFull σ104) fun r209 σ208 => if r209 = 0 then (bd1 (f_X8_takesClause x1 σ208) fun σ211 => l_X8_times_43 400 x2 (1 : Int32) σ211) else (some ((-1000003 : Int32), σ208))) else (b_X8_times_23 σ104)))
set_option maxHeartbeats 4000000 in
set_option maxRecDepth 100000 in
theorem w_X8_times {p : Program} {l : Launch} {e : Env} {s : State} {m : MethodId} {args : Array Value} {below : List Frame} {meth : Method} {c : Code} {G : Gd} {B : Nat} (X : Cm p s m args meth c cX8_times 4 RX8 G (some .int)) {r : Int32} {σr : Sto} (x1 : Int32) (x2 : Int32) (σ : Sto) (hf : f_X8_times x1 x2 σ = some (r, σr)) (H : Heap) (locs : List Loc) (hH : HX G layM B σ H) (hS : va_S (inW layM B) s.heap H locs) (ls : Array Slot) (hl : lv_has ls 4 [(0, .ref (B + 0)), (1, .int x1), (2, .int x2)]) : WM p l e 3 s m args below meth c H locs G layM B (some (.int r)) σr (F0 m 0 ls []) := by
  unfold f_X8_times at hf
  have hx := X.1.1
  have hb := X.1.2.1
  refine lv_aload_n hx hb dX8_times_0 rfl (lv_at hl 0 rfl) ?_
  obtain ⟨r102, σ101, eσ101, hf⟩ := bnd2 hf
  refine g_cVi (As := []) X.1 hH hS (c_X8_isFormula l G B σ σ101 r102 eσ101) kw_RX8_171 kX8 km_0 (by decide) rfl hl (Nat.le_of_ble_eq_true rfl) rfl dX8_times_1 (fun H locs hH hS => ?_)
  refine lv_if_ne (tgt := 10) hx hb dX8_times_4 (by decide) (fun q103 => ?_) (fun q103 => ?_)
  · replace hf := brF hf q103
    refine lv_aload_n hx hb dX8_times_10 rfl (lv_at hl 0 rfl) ?_
    refine lv_iload_n hx hb dX8_times_11 rfl (lv_at hl 1 rfl) ?_
    obtain ⟨r105, σ104, eσ104, hf⟩ := bnd2 hf
    refine g_cVi (As := [.int x1]) X.1 hH hS (c_X8_isLive l G B x1 σ101 σ104 r105 eσ104) kw_RX8_175 kX8 km_0 (by decide) rfl hl (Nat.le_of_ble_eq_true rfl) rfl dX8_times_12 (fun H locs hH hS => ?_)
    refine lv_if_eq (tgt := 23) hx hb dX8_times_15 (by decide) (fun q106 => ?_) (fun q106 => ?_)
    · replace hf := brT hf q106
      exact w_X8_times_23 X σ104 hf _ _ hH hS _ (lv_sub hl [] rfl)
    · replace hf := brF hf q106
      refine lv_iload_n hx hb dX8_times_18 rfl (lv_at hl 2 rfl) ?_
      refine lv_iconst (v := 1) hx hb dX8_times_19 (by decide) ?_
      refine lv_icmp_ge (tgt := 26) hx hb dX8_times_20 (by decide) (fun q207 => ?_) (fun q207 => ?_)
      · replace hf := brT hf q207
        refine lv_aload_n hx hb dX8_times_26 rfl (lv_at hl 0 rfl) ?_
        obtain ⟨r209, σ208, eσ208, hf⟩ := bnd2 hf
        refine g_cVi (As := []) X.1 hH hS (c_X8_isFull l G B σ104 σ208 r209 eσ208) kw_RX8_178 kX8 km_0 (by decide) rfl hl (Nat.le_of_ble_eq_true rfl) rfl dX8_times_27 (fun H locs hH hS => ?_)
        refine lv_if_eq (tgt := 36) hx hb dX8_times_30 (by decide) (fun q210 => ?_) (fun q210 => ?_)
        · replace hf := brT hf q210
          refine lv_aload_n hx hb dX8_times_36 rfl (lv_at hl 0 rfl) ?_
          refine lv_iload_n hx hb dX8_times_37 rfl (lv_at hl 1 rfl) ?_
          obtain ⟨σ211, eσ211, hf⟩ := bnd1 hf
          refine g_cVv (As := [.int x1]) X.1 hH hS (c_X8_takesClause l G B x1 σ208 σ211 eσ211) kw_RX8_181 kX8 km_0 (by decide) rfl hl (Nat.le_of_ble_eq_true rfl) rfl dX8_times_38 (fun H locs hH hS => ?_)
          refine lv_iconst (v := 1) hx hb dX8_times_41 (by decide) ?_
          refine lv_istore_n (lv' := [(3, .int (1 : Int32)), (0, .ref (B + 0)), (1, .int x1), (2, .int x2)]) hx hb dX8_times_42 rfl hl (by decide) rfl (fun ls hl => ?_)
          exact wl_X8_times_43 X 400 x2 (1 : Int32) σ211 _ _ _ hf hH hS (lv_sub hl [1, 3, 0] rfl)
        · replace hf := brF hf q210
          refine lv_ldc (v := -1000003) hx hb X.1.2.2.2.1 (X.1.2.2.2.2.1 _ kc_RX8_97) dX8_times_33 ?_
          obtain ⟨rfl, rfl⟩ := rt2 hf
          exact g_iret X hH hS dX8_times_35
      · replace hf := brF hf q207
        exact w_X8_times_23 X σ104 hf _ _ hH hS _ (lv_sub hl [] rfl)
  · replace hf := brT hf q103
    refine lv_ldc (v := -1000002) hx hb X.1.2.2.2.1 (X.1.2.2.2.2.1 _ kc_RX8_174) dX8_times_7 ?_
    obtain ⟨rfl, rfl⟩ := rt2 hf
    exact g_iret X hH hS dX8_times_9
theorem c_X8_times (l : Launch) (G : Gd) (B : Nat) (x1 : Int32) (x2 : Int32) (σ σr : Sto) (r : Int32) (hf : f_X8_times x1 x2 σ = some (r, σr)) : Ct l G layM B yX8_times cX8_times 4 (some .int) 3 [.ref (B + 0), .int x1, .int x2] (some (.int r)) σ σr :=
  Ct.ofW (by decide) (Nat.le_of_ble_eq_true rfl) (fun _ _ _ _ _ _ _ X hH hS ls hl => w_X8_times X x1 x2 σ hf _ _ hH hS ls (show lv_has ls 4 [(0, .ref (B + 0)), (1, .int x1), (2, .int x2)] from hl))
