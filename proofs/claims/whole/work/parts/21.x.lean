-- SlackProofs.isRow(I)Z  (D 0)
def b_X7_isRow_15 (s0 : Int32) (σ : Sto) : Option (Int32 × Sto) :=
  if ¬ (s0 = 0 ∨ s0 = 1) then none else some (s0, σ)
set_option maxHeartbeats 4000000 in
set_option maxRecDepth 100000 in
theorem w_X7_isRow_15 {p : Program} {l : Launch} {e : Env} {s : State} {m : MethodId} {args : Array Value} {below : List Frame} {meth : Method} {c : Code} {G : Gd} {B : Nat} (X : Cm p s m args meth c cX7_isRow 1 RX7 G (some .boolean)) {r : Int32} {σr : Sto} (s0 : Int32) (σ : Sto) (hf : b_X7_isRow_15 s0 σ = some (r, σr)) (H : Heap) (locs : List Loc) (hH : HX G layX B σ H) (hS : va_S (inW layX B) s.heap H locs) (ls : Array Slot) (hl : lv_has ls 1 []) : WM p l e 0 s m args below meth c H locs G layX B (some (.int r)) σr (F0 m 15 ls [.int s0]) := by
  unfold b_X7_isRow_15 at hf
  have hx := X.1.1
  have hb := X.1.2.1
  obtain ⟨q302, hf⟩ := chk hf
  obtain ⟨rfl, rfl⟩ := rt2 hf
  exact g_zret X hH hS (Decidable.not_not.mp q302) dX7_isRow_15
def b_X7_isRow_14 (σ : Sto) : Option (Int32 × Sto) :=
  b_X7_isRow_15 (0 : Int32) σ
set_option maxHeartbeats 4000000 in
set_option maxRecDepth 100000 in
theorem w_X7_isRow_14 {p : Program} {l : Launch} {e : Env} {s : State} {m : MethodId} {args : Array Value} {below : List Frame} {meth : Method} {c : Code} {G : Gd} {B : Nat} (X : Cm p s m args meth c cX7_isRow 1 RX7 G (some .boolean)) {r : Int32} {σr : Sto} (σ : Sto) (hf : b_X7_isRow_14 σ = some (r, σr)) (H : Heap) (locs : List Loc) (hH : HX G layX B σ H) (hS : va_S (inW layX B) s.heap H locs) (ls : Array Slot) (hl : lv_has ls 1 []) : WM p l e 0 s m args below meth c H locs G layX B (some (.int r)) σr (F0 m 14 ls []) := by
  unfold b_X7_isRow_14 at hf
  have hx := X.1.1
  have hb := X.1.2.1
  refine lv_iconst (v := 0) hx hb dX7_isRow_14 (by decide) ?_
  exact w_X7_isRow_15 X (0 : Int32) σ hf _ _ hH hS _ (lv_sub hl [] rfl)
def f_X7_isRow (x0 : Int32) (σ : Sto) : Option (Int32 × Sto) :=
  if x0 < 0 then (b_X7_isRow_14 σ) else (if (8 : Int32) ≤ x0 then (b_X7_isRow_14 σ) else (b_X7_isRow_15 (1 : Int32) σ))
set_option maxHeartbeats 4000000 in
set_option maxRecDepth 100000 in
theorem w_X7_isRow {p : Program} {l : Launch} {e : Env} {s : State} {m : MethodId} {args : Array Value} {below : List Frame} {meth : Method} {c : Code} {G : Gd} {B : Nat} (X : Cm p s m args meth c cX7_isRow 1 RX7 G (some .boolean)) {r : Int32} {σr : Sto} (x0 : Int32) (σ : Sto) (hf : f_X7_isRow x0 σ = some (r, σr)) (H : Heap) (locs : List Loc) (hH : HX G layX B σ H) (hS : va_S (inW layX B) s.heap H locs) (ls : Array Slot) (hl : lv_has ls 1 [(0, .int x0)]) : WM p l e 0 s m args below meth c H locs G layX B (some (.int r)) σr (F0 m 0 ls []) := by
  unfold f_X7_isRow at hf
  have hx := X.1.1
  have hb := X.1.2.1
  refine lv_iload_n hx hb dX7_isRow_0 rfl (lv_at hl 0 rfl) ?_
  refine lv_if_lt (tgt := 14) hx hb dX7_isRow_1 (by decide) (fun q101 => ?_) (fun q101 => ?_)
  · replace hf := brT hf q101
    exact w_X7_isRow_14 X σ hf _ _ hH hS _ (lv_sub hl [] rfl)
  · replace hf := brF hf q101
    refine lv_iload_n hx hb dX7_isRow_4 rfl (lv_at hl 0 rfl) ?_
    refine lv_bipush (v := 8) hx hb dX7_isRow_5 (by decide) ?_
    refine lv_icmp_ge (tgt := 14) hx hb dX7_isRow_7 (by decide) (fun q303 => ?_) (fun q303 => ?_)
    · replace hf := brT hf q303
      exact w_X7_isRow_14 X σ hf _ _ hH hS _ (lv_sub hl [] rfl)
    · replace hf := brF hf q303
      refine lv_iconst (v := 1) hx hb dX7_isRow_10 (by decide) ?_
      refine lv_goto (tgt := 15) hx hb dX7_isRow_11 (by decide) ?_
      exact w_X7_isRow_15 X (1 : Int32) σ hf _ _ hH hS _ (lv_sub hl [] rfl)
theorem c_X7_isRow (l : Launch) (G : Gd) (B : Nat) (x0 : Int32) (σ σr : Sto) (r : Int32) (hf : f_X7_isRow x0 σ = some (r, σr)) : Ct l G layX B yX7_isRow cX7_isRow 1 (some .boolean) 0 [.int x0] (some (.int r)) σ σr :=
  Ct.ofW (by decide) (Nat.le_of_ble_eq_true rfl) (fun _ _ _ _ _ _ _ X hH hS ls hl => w_X7_isRow X x0 σ hf _ _ hH hS ls (show lv_has ls 1 [(0, .int x0)] from hl))
-- SlackProofs.copy(IIIII)I  (D 2)
def b_X7_copy_14 (σ : Sto) : Option (Int32 × Sto) :=
  some ((-1000001 : Int32), σ)
set_option maxHeartbeats 4000000 in
set_option maxRecDepth 100000 in
theorem w_X7_copy_14 {p : Program} {l : Launch} {e : Env} {s : State} {m : MethodId} {args : Array Value} {below : List Frame} {meth : Method} {c : Code} {G : Gd} {B : Nat} (X : Cm p s m args meth c cX7_copy 6 RX7 G (some .int)) {r : Int32} {σr : Sto} (σ : Sto) (hf : b_X7_copy_14 σ = some (r, σr)) (H : Heap) (locs : List Loc) (hH : HX G layX B σ H) (hS : va_S (inW layX B) s.heap H locs) (ls : Array Slot) (hl : lv_has ls 6 []) : WM p l e 2 s m args below meth c H locs G layX B (some (.int r)) σr (F0 m 14 ls []) := by
  unfold b_X7_copy_14 at hf
  have hx := X.1.1
  have hb := X.1.2.1
  refine lv_ldc (v := -1000001) hx hb X.1.2.2.2.1 (X.1.2.2.2.2.1 _ kc_RX7_65) dX7_copy_14 ?_
  obtain ⟨rfl, rfl⟩ := rt2 hf
  exact g_iret X hH hS dX7_copy_16
def b_X7_copy_39 (σ : Sto) : Option (Int32 × Sto) :=
  bd2 (f_X7_found (1 : Int32) σ) fun r311 σ310 => some (r311, σ310)
set_option maxHeartbeats 4000000 in
set_option maxRecDepth 100000 in
theorem w_X7_copy_39 {p : Program} {l : Launch} {e : Env} {s : State} {m : MethodId} {args : Array Value} {below : List Frame} {meth : Method} {c : Code} {G : Gd} {B : Nat} (X : Cm p s m args meth c cX7_copy 6 RX7 G (some .int)) {r : Int32} {σr : Sto} (σ : Sto) (hf : b_X7_copy_39 σ = some (r, σr)) (H : Heap) (locs : List Loc) (hH : HX G layX B σ H) (hS : va_S (inW layX B) s.heap H locs) (ls : Array Slot) (hl : lv_has ls 6 [(0, .ref (B + 0))]) : WM p l e 2 s m args below meth c H locs G layX B (some (.int r)) σr (F0 m 39 ls []) := by
  unfold b_X7_copy_39 at hf
  have hx := X.1.1
  have hb := X.1.2.1
  refine lv_aload_n hx hb dX7_copy_39 rfl (lv_at hl 0 rfl) ?_
  refine lv_iconst (v := 1) hx hb dX7_copy_40 (by decide) ?_
  obtain ⟨r311, σ310, eσ310, hf⟩ := bnd2 hf
  refine g_cVi (As := [.int (1 : Int32)]) X.1 hH hS (c_X7_found l G B (1 : Int32) σ σ310 r311 eσ310) kw_RX7_66 kX7 kx_0 (by decide) rfl hl (Nat.le_of_ble_eq_true rfl) rfl dX7_copy_41 (fun H locs hH hS => ?_)
  obtain ⟨rfl, rfl⟩ := rt2 hf
  exact g_iret X hH hS dX7_copy_44
def b_X7_copy_101 (σ : Sto) : Option (Int32 × Sto) :=
  bd2 (f_X7_found (2 : Int32) σ) fun r422 σ421 => some (r422, σ421)
set_option maxHeartbeats 4000000 in
set_option maxRecDepth 100000 in
theorem w_X7_copy_101 {p : Program} {l : Launch} {e : Env} {s : State} {m : MethodId} {args : Array Value} {below : List Frame} {meth : Method} {c : Code} {G : Gd} {B : Nat} (X : Cm p s m args meth c cX7_copy 6 RX7 G (some .int)) {r : Int32} {σr : Sto} (σ : Sto) (hf : b_X7_copy_101 σ = some (r, σr)) (H : Heap) (locs : List Loc) (hH : HX G layX B σ H) (hS : va_S (inW layX B) s.heap H locs) (ls : Array Slot) (hl : lv_has ls 6 [(0, .ref (B + 0))]) : WM p l e 2 s m args below meth c H locs G layX B (some (.int r)) σr (F0 m 101 ls []) := by
  unfold b_X7_copy_101 at hf
  have hx := X.1.1
  have hb := X.1.2.1
  refine lv_aload_n hx hb dX7_copy_101 rfl (lv_at hl 0 rfl) ?_
  refine lv_iconst (v := 2) hx hb dX7_copy_102 (by decide) ?_
  obtain ⟨r422, σ421, eσ421, hf⟩ := bnd2 hf
  refine g_cVi (As := [.int (2 : Int32)]) X.1 hH hS (c_X7_found l G B (2 : Int32) σ σ421 r422 eσ421) kw_RX7_66 kX7 kx_0 (by decide) rfl hl (Nat.le_of_ble_eq_true rfl) rfl dX7_copy_103 (fun H locs hH hS => ?_)
  obtain ⟨rfl, rfl⟩ := rt2 hf
  exact g_iret X hH hS dX7_copy_106
def f_X7_copy (x1 : Int32) (x2 : Int32) (x3 : Int32) (x4 : Int32) (x5 : Int32) (σ : Sto) : Option (Int32 × Sto) :=
  bd2 (f_X7_isRow x1 σ) fun r102 σ101 => if r102 = 0 then (b_X7_copy_14 σ101) else (bd2 (f_X7_isRow x3 σ101) fun r205 σ204 => if r205 = 0 then (b_X7_copy_14 σ204) else (bd2 (f_X6_isMissing x1 σ204) fun r208 σ207 => if r208 = 0 then (bd2 (f_X6_isMissing x3 σ207) fun r313 σ312 => if r313 = 0 then (if (x1 < 0 ∨ 8 ≤ x1.toNatClampNeg) then none else if (x3 < 0 ∨ 8 ≤ x3.toNatClampNeg) then none else if (σ312.1 11 x1.toNatClampNeg) = (σ312.1 11 x3.toNatClampNeg) then (bd2 (f_X6_hasPlaces x1 x2 x5 σ312) fun r319 σ318 => if r319 = 0 then (b_X7_copy_101 σ318) else (bd2 (f_X6_hasPlaces x3 x4 x5 σ318) fun r424 σ423 => if r424 = 0 then (b_X7_copy_101 σ423) else (if (x1 < 0 ∨ 8 ≤ x1.toNatClampNeg) then none else if (x3 < 0 ∨ 8 ≤ x3.toNatClampNeg) then none else if (x2 < 0 ∨ x4 < 0 ∨ x5 < 0 ∨ 40 < x2.toNatClampNeg + x5.toNatClampNeg ∨ 40 < x4.toNatClampNeg + x5.toNatClampNeg) then none else nmS (cpI σ423 (3 + x1.toNatClampNeg) x2.toNatClampNeg (3 + x3.toNatClampNeg) x4.toNatClampNeg x5.toNatClampNeg) fun σ429 => bd2 (f_X7_well x5 σ429) fun r431 σ430 => some (r431, σ430)))) else (bd2 (f_X7_found (5 : Int32) σ312) fun r433 σ432 => some (r433, σ432))) else (b_X7_copy_39 σ312)) else (b_X7_copy_39 σ207)))
set_option maxHeartbeats 4000000 in
set_option maxRecDepth 100000 in
theorem w_X7_copy {p : Program} {l : Launch} {e : Env} {s : State} {m : MethodId} {args : Array Value} {below : List Frame} {meth : Method} {c : Code} {G : Gd} {B : Nat} (X : Cm p s m args meth c cX7_copy 6 RX7 G (some .int)) {r : Int32} {σr : Sto} (x1 : Int32) (x2 : Int32) (x3 : Int32) (x4 : Int32) (x5 : Int32) (σ : Sto) (hf : f_X7_copy x1 x2 x3 x4 x5 σ = some (r, σr)) (H : Heap) (locs : List Loc) (hH : HX G layX B σ H) (hS : va_S (inW layX B) s.heap H locs) (ls : Array Slot) (hl : lv_has ls 6 [(0, .ref (B + 0)), (1, .int x1), (2, .int x2), (3, .int x3), (4, .int x4), (5, .int x5)]) : WM p l e 2 s m args below meth c H locs G layX B (some (.int r)) σr (F0 m 0 ls []) := by
  unfold f_X7_copy at hf
  have hx := X.1.1
  have hb := X.1.2.1
  refine lv_iload_n hx hb dX7_copy_0 rfl (lv_at hl 1 rfl) ?_
  obtain ⟨r102, σ101, eσ101, hf⟩ := bnd2 hf
  refine g_cSi (As := [.int x1]) X.1 hH hS (c_X7_isRow l G B x1 σ σ101 r102 eσ101) kw_RX7_61 (by decide) rfl hl (Nat.le_of_ble_eq_true rfl) rfl dX7_copy_1 (fun H locs hH hS => ?_)
  refine lv_if_eq (tgt := 14) hx hb dX7_copy_4 (by decide) (fun q103 => ?_) (fun q103 => ?_)
  · replace hf := brT hf q103
    exact w_X7_copy_14 X σ101 hf _ _ hH hS _ (lv_sub hl [] rfl)
  · replace hf := brF hf q103
    refine lv_iload_n hx hb dX7_copy_7 rfl (lv_at hl 3 rfl) ?_
    obtain ⟨r205, σ204, eσ204, hf⟩ := bnd2 hf
    refine g_cSi (As := [.int x3]) X.1 hH hS (c_X7_isRow l G B x3 σ101 σ204 r205 eσ204) kw_RX7_61 (by decide) rfl hl (Nat.le_of_ble_eq_true rfl) rfl dX7_copy_8 (fun H locs hH hS => ?_)
    refine lv_if_ne (tgt := 17) hx hb dX7_copy_11 (by decide) (fun q206 => ?_) (fun q206 => ?_)
    · replace hf := brF hf q206
      refine lv_aload_n hx hb dX7_copy_17 rfl (lv_at hl 0 rfl) ?_
      refine g_get (v := .ref (B + 1)) kX7 (by decide) fl_RX7_10 X.1 hH kx_0 rfl dX7_copy_18 ?_
      refine lv_iload_n hx hb dX7_copy_21 rfl (lv_at hl 1 rfl) ?_
      obtain ⟨r208, σ207, eσ207, hf⟩ := bnd2 hf
      refine g_cVi (As := [.int x1]) X.1 hH hS (c_X6_isMissing l G B x1 σ204 σ207 r208 eσ207) kw_RX7_77 kX6 kx_1 (by decide) rfl hl (Nat.le_of_ble_eq_true rfl) rfl dX7_copy_22 (fun H locs hH hS => ?_)
      refine lv_if_ne (tgt := 39) hx hb dX7_copy_25 (by decide) (fun q209 => ?_) (fun q209 => ?_)
      · replace hf := brF hf q209
        exact w_X7_copy_39 X σ207 hf _ _ hH hS _ (lv_sub hl [0] rfl)
      · replace hf := brT hf q209
        refine lv_aload_n hx hb dX7_copy_28 rfl (lv_at hl 0 rfl) ?_
        refine g_get (v := .ref (B + 1)) kX7 (by decide) fl_RX7_10 X.1 hH kx_0 rfl dX7_copy_29 ?_
        refine lv_iload_n hx hb dX7_copy_32 rfl (lv_at hl 3 rfl) ?_
        obtain ⟨r313, σ312, eσ312, hf⟩ := bnd2 hf
        refine g_cVi (As := [.int x3]) X.1 hH hS (c_X6_isMissing l G B x3 σ207 σ312 r313 eσ312) kw_RX7_77 kX6 kx_1 (by decide) rfl hl (Nat.le_of_ble_eq_true rfl) rfl dX7_copy_33 (fun H locs hH hS => ?_)
        refine lv_if_eq (tgt := 45) hx hb dX7_copy_36 (by decide) (fun q314 => ?_) (fun q314 => ?_)
        · replace hf := brT hf q314
          refine lv_aload_n hx hb dX7_copy_45 rfl (lv_at hl 0 rfl) ?_
          refine g_get (v := .ref (B + 1)) kX7 (by decide) fl_RX7_10 X.1 hH kx_0 rfl dX7_copy_46 ?_
          refine g_get (v := .ref (B + 11)) kX6 (by decide) fl_RX7_88 X.1 hH kx_1 rfl dX7_copy_49 ?_
          refine lv_iload_n hx hb dX7_copy_52 rfl (lv_at hl 1 rfl) ?_
          obtain ⟨q315, hf⟩ := chk hf
          refine g_iald (j := x1.toNatClampNeg) X.1 hH kx_11 q315 rfl dX7_copy_53 ?_
          refine lv_aload_n hx hb dX7_copy_54 rfl (lv_at hl 0 rfl) ?_
          refine g_get (v := .ref (B + 1)) kX7 (by decide) fl_RX7_10 X.1 hH kx_0 rfl dX7_copy_55 ?_
          refine g_get (v := .ref (B + 11)) kX6 (by decide) fl_RX7_88 X.1 hH kx_1 rfl dX7_copy_58 ?_
          refine lv_iload_n hx hb dX7_copy_61 rfl (lv_at hl 3 rfl) ?_
          obtain ⟨q316, hf⟩ := chk hf
          refine g_iald (j := x3.toNatClampNeg) X.1 hH kx_11 q316 rfl dX7_copy_62 ?_
          refine lv_icmp_eq (tgt := 72) hx hb dX7_copy_63 (by decide) (fun q317 => ?_) (fun q317 => ?_)
          · replace hf := brT hf q317
            refine lv_aload_n hx hb dX7_copy_72 rfl (lv_at hl 0 rfl) ?_
            refine g_get (v := .ref (B + 1)) kX7 (by decide) fl_RX7_10 X.1 hH kx_0 rfl dX7_copy_73 ?_
            refine lv_iload_n hx hb dX7_copy_76 rfl (lv_at hl 1 rfl) ?_
            refine lv_iload_n hx hb dX7_copy_77 rfl (lv_at hl 2 rfl) ?_
            refine lv_iload hx hb dX7_copy_78 (lv_at hl 5 rfl) ?_
            obtain ⟨r319, σ318, eσ318, hf⟩ := bnd2 hf
            refine g_cVi (As := [.int x1, .int x2, .int x5]) X.1 hH hS (c_X6_hasPlaces l G B x1 x2 x5 σ312 σ318 r319 eσ318) kw_RX7_91 kX6 kx_1 (by decide) rfl hl (Nat.le_of_ble_eq_true rfl) rfl dX7_copy_80 (fun H locs hH hS => ?_)
            refine lv_if_eq (tgt := 101) hx hb dX7_copy_83 (by decide) (fun q320 => ?_) (fun q320 => ?_)
            · replace hf := brT hf q320
              exact w_X7_copy_101 X σ318 hf _ _ hH hS _ (lv_sub hl [0] rfl)
            · replace hf := brF hf q320
              refine lv_aload_n hx hb dX7_copy_86 rfl (lv_at hl 0 rfl) ?_
              refine g_get (v := .ref (B + 1)) kX7 (by decide) fl_RX7_10 X.1 hH kx_0 rfl dX7_copy_87 ?_
              refine lv_iload_n hx hb dX7_copy_90 rfl (lv_at hl 3 rfl) ?_
              refine lv_iload hx hb dX7_copy_91 (lv_at hl 4 rfl) ?_
              refine lv_iload hx hb dX7_copy_93 (lv_at hl 5 rfl) ?_
              obtain ⟨r424, σ423, eσ423, hf⟩ := bnd2 hf
              refine g_cVi (As := [.int x3, .int x4, .int x5]) X.1 hH hS (c_X6_hasPlaces l G B x3 x4 x5 σ318 σ423 r424 eσ423) kw_RX7_91 kX6 kx_1 (by decide) rfl hl (Nat.le_of_ble_eq_true rfl) rfl dX7_copy_95 (fun H locs hH hS => ?_)
              refine lv_if_ne (tgt := 107) hx hb dX7_copy_98 (by decide) (fun q425 => ?_) (fun q425 => ?_)
              · replace hf := brF hf q425
                refine lv_aload_n hx hb dX7_copy_107 rfl (lv_at hl 0 rfl) ?_
                refine g_get (v := .ref (B + 1)) kX7 (by decide) fl_RX7_10 X.1 hH kx_0 rfl dX7_copy_108 ?_
                refine g_get (v := .ref (B + 2)) kX6 (by decide) fl_RX7_95 X.1 hH kx_1 rfl dX7_copy_111 ?_
                refine lv_iload_n hx hb dX7_copy_114 rfl (lv_at hl 1 rfl) ?_
                obtain ⟨q426, hf⟩ := chk hf
                refine g_aald (b := (3 + x1.toNatClampNeg)) X.1 hH kx_2 (by decide) q426 rfl dX7_copy_115 ?_
                refine lv_iload_n hx hb dX7_copy_116 rfl (lv_at hl 2 rfl) ?_
                refine lv_aload_n hx hb dX7_copy_117 rfl (lv_at hl 0 rfl) ?_
                refine g_get (v := .ref (B + 1)) kX7 (by decide) fl_RX7_10 X.1 hH kx_0 rfl dX7_copy_118 ?_
                refine g_get (v := .ref (B + 2)) kX6 (by decide) fl_RX7_95 X.1 hH kx_1 rfl dX7_copy_121 ?_
                refine lv_iload_n hx hb dX7_copy_124 rfl (lv_at hl 3 rfl) ?_
                obtain ⟨q427, hf⟩ := chk hf
                refine g_aald (b := (3 + x3.toNatClampNeg)) X.1 hH kx_2 (by decide) q427 rfl dX7_copy_125 ?_
                refine lv_iload hx hb dX7_copy_126 (lv_at hl 4 rfl) ?_
                refine lv_iload hx hb dX7_copy_128 (lv_at hl 5 rfl) ?_
                obtain ⟨q428, hf⟩ := chk hf
                refine g_cpI X.1 cp_RX7_99 hH hS (kRow q426) (kRow q427) q428 hl (by decide) (Nat.le_of_ble_eq_true rfl) dX7_copy_130 (fun H locs hH hS => ?_)
                obtain ⟨σ429, eσ429, hH⟩ := nmX hH
                replace hf := nmU hf eσ429
                refine lv_aload_n hx hb dX7_copy_133 rfl (lv_at hl 0 rfl) ?_
                refine lv_iload hx hb dX7_copy_134 (lv_at hl 5 rfl) ?_
                obtain ⟨r431, σ430, eσ430, hf⟩ := bnd2 hf
                refine g_cVi (As := [.int x5]) X.1 hH hS (c_X7_well l G B x5 σ429 σ430 r431 eσ430) kw_RX7_74 kX7 kx_0 (by decide) rfl hl (Nat.le_of_ble_eq_true rfl) rfl dX7_copy_136 (fun H locs hH hS => ?_)
                obtain ⟨rfl, rfl⟩ := rt2 hf
                exact g_iret X hH hS dX7_copy_139
              · replace hf := brT hf q425
                exact w_X7_copy_101 X σ423 hf _ _ hH hS _ (lv_sub hl [0] rfl)
          · replace hf := brF hf q317
            refine lv_aload_n hx hb dX7_copy_66 rfl (lv_at hl 0 rfl) ?_
            refine lv_iconst (v := 5) hx hb dX7_copy_67 (by decide) ?_
            obtain ⟨r433, σ432, eσ432, hf⟩ := bnd2 hf
            refine g_cVi (As := [.int (5 : Int32)]) X.1 hH hS (c_X7_found l G B (5 : Int32) σ312 σ432 r433 eσ432) kw_RX7_66 kX7 kx_0 (by decide) rfl hl (Nat.le_of_ble_eq_true rfl) rfl dX7_copy_68 (fun H locs hH hS => ?_)
            obtain ⟨rfl, rfl⟩ := rt2 hf
            exact g_iret X hH hS dX7_copy_71
        · replace hf := brF hf q314
          exact w_X7_copy_39 X σ312 hf _ _ hH hS _ (lv_sub hl [0] rfl)
    · replace hf := brT hf q206
      exact w_X7_copy_14 X σ204 hf _ _ hH hS _ (lv_sub hl [] rfl)
theorem c_X7_copy (l : Launch) (G : Gd) (B : Nat) (x1 : Int32) (x2 : Int32) (x3 : Int32) (x4 : Int32) (x5 : Int32) (σ σr : Sto) (r : Int32) (hf : f_X7_copy x1 x2 x3 x4 x5 σ = some (r, σr)) : Ct l G layX B yX7_copy cX7_copy 6 (some .int) 2 [.ref (B + 0), .int x1, .int x2, .int x3, .int x4, .int x5] (some (.int r)) σ σr :=
  Ct.ofW (by decide) (Nat.le_of_ble_eq_true rfl) (fun _ _ _ _ _ _ _ X hH hS ls hl => w_X7_copy X x1 x2 x3 x4 x5 σ hf _ _ hH hS ls (show lv_has ls 6 [(0, .ref (B + 0)), (1, .int x1), (2, .int x2), (3, .int x3), (4, .int x4), (5, .int x5)] from hl))
-- SlackProofs.count(I)I  (D 2)
def f_X7_count (x1 : Int32) (σ : Sto) : Option (Int32 × Sto) :=
  if x1 = 0 then (bd2 (f_X6_countAll σ) fun r103 σ102 => some (r103, σ102)) else (if x1 = 1 then (bd2 (f_J6_bitCount_0f7a4 (σ.1 33 4) σ) fun r106 σ105 => some (r106, σ105)) else (if x1 = 2 then (some ((σ.1 33 3), σ)) else (if x1 = 3 then (some ((σ.1 33 4), σ)) else (if x1 = 4 then (some ((σ.1 33 5), σ)) else (if x1 = 5 then (bd2 (f_X2_allPrices 33 σ) fun r112 σ111 => some (r112, σ111)) else (if x1 = 6 then (some ((σ.1 223 4), σ)) else (if x1 = 7 then (some ((σ.1 13 3), σ)) else (some ((-1000001 : Int32), σ)))))))))
set_option maxHeartbeats 4000000 in
set_option maxRecDepth 100000 in
theorem w_X7_count {p : Program} {l : Launch} {e : Env} {s : State} {m : MethodId} {args : Array Value} {below : List Frame} {meth : Method} {c : Code} {G : Gd} {B : Nat} (X : Cm p s m args meth c cX7_count 2 RX7 G (some .int)) {r : Int32} {σr : Sto} (x1 : Int32) (σ : Sto) (hf : f_X7_count x1 σ = some (r, σr)) (H : Heap) (locs : List Loc) (hH : HX G layX B σ H) (hS : va_S (inW layX B) s.heap H locs) (ls : Array Slot) (hl : lv_has ls 2 [(0, .ref (B + 0)), (1, .int x1)]) : WM p l e 2 s m args below meth c H locs G layX B (some (.int r)) σr (F0 m 0 ls []) := by
  unfold f_X7_count at hf
  have hx := X.1.1
  have hb := X.1.2.1
  refine lv_iload_n hx hb dX7_count_0 rfl (lv_at hl 1 rfl) ?_
  by_cases q101 : x1 = 0
  · replace hf := brT hf q101
    refine lv_tableIn (tgt := 48) (off := 47) hx hb dX7_count_1 (by rw [q101]; decide) (by rw [q101]; decide) (by rw [q101]; decide) (by decide) ?_
    refine lv_aload_n hx hb dX7_count_48 rfl (lv_at hl 0 rfl) ?_
    refine g_get (v := .ref (B + 1)) kX7 (by decide) fl_RX7_10 X.1 hH kx_0 rfl dX7_count_49 ?_
    obtain ⟨r103, σ102, eσ102, hf⟩ := bnd2 hf
    refine g_cVi (As := []) X.1 hH hS (c_X6_countAll l G B σ σ102 r103 eσ102) kw_RX7_313 kX6 kx_1 (by decide) rfl hl (Nat.le_of_ble_eq_true rfl) rfl dX7_count_52 (fun H locs hH hS => ?_)
    obtain ⟨rfl, rfl⟩ := rt2 hf
    exact g_iret X hH hS dX7_count_55
  replace hf := brF hf q101
  by_cases q104 : x1 = 1
  · replace hf := brT hf q104
    refine lv_tableIn (tgt := 56) (off := 55) hx hb dX7_count_1 (by rw [q104]; decide) (by rw [q104]; decide) (by rw [q104]; decide) (by decide) ?_
    refine lv_aload_n hx hb dX7_count_56 rfl (lv_at hl 0 rfl) ?_
    refine g_get (v := .ref (B + 33)) kX7 (by decide) fl_RX7_26 X.1 hH kx_0 rfl dX7_count_57 ?_
    refine g_get (v := .int (σ.1 33 4)) kX2 (by decide) fl_RX7_249 X.1 hH kx_33 rfl dX7_count_60 ?_
    obtain ⟨r106, σ105, eσ105, hf⟩ := bnd2 hf
    refine g_cSi (As := [.int (σ.1 33 4)]) X.1 hH hS (c_J6_bitCount_0f7a4 l G B (σ.1 33 4) σ σ105 r106 eσ105) kw_RX7_252 (by decide) rfl hl (Nat.le_of_ble_eq_true rfl) rfl dX7_count_63 (fun H locs hH hS => ?_)
    obtain ⟨rfl, rfl⟩ := rt2 hf
    exact g_iret X hH hS dX7_count_66
  replace hf := brF hf q104
  by_cases q107 : x1 = 2
  · replace hf := brT hf q107
    refine lv_tableIn (tgt := 67) (off := 66) hx hb dX7_count_1 (by rw [q107]; decide) (by rw [q107]; decide) (by rw [q107]; decide) (by decide) ?_
    refine lv_aload_n hx hb dX7_count_67 rfl (lv_at hl 0 rfl) ?_
    refine g_get (v := .ref (B + 33)) kX7 (by decide) fl_RX7_26 X.1 hH kx_0 rfl dX7_count_68 ?_
    refine g_get (v := .int (σ.1 33 3)) kX2 (by decide) fl_RX7_316 X.1 hH kx_33 rfl dX7_count_71 ?_
    obtain ⟨rfl, rfl⟩ := rt2 hf
    exact g_iret X hH hS dX7_count_74
  replace hf := brF hf q107
  by_cases q108 : x1 = 3
  · replace hf := brT hf q108
    refine lv_tableIn (tgt := 75) (off := 74) hx hb dX7_count_1 (by rw [q108]; decide) (by rw [q108]; decide) (by rw [q108]; decide) (by decide) ?_
    refine lv_aload_n hx hb dX7_count_75 rfl (lv_at hl 0 rfl) ?_
    refine g_get (v := .ref (B + 33)) kX7 (by decide) fl_RX7_26 X.1 hH kx_0 rfl dX7_count_76 ?_
    refine g_get (v := .int (σ.1 33 4)) kX2 (by decide) fl_RX7_249 X.1 hH kx_33 rfl dX7_count_79 ?_
    obtain ⟨rfl, rfl⟩ := rt2 hf
    exact g_iret X hH hS dX7_count_82
  replace hf := brF hf q108
  by_cases q109 : x1 = 4
  · replace hf := brT hf q109
    refine lv_tableIn (tgt := 83) (off := 82) hx hb dX7_count_1 (by rw [q109]; decide) (by rw [q109]; decide) (by rw [q109]; decide) (by decide) ?_
    refine lv_aload_n hx hb dX7_count_83 rfl (lv_at hl 0 rfl) ?_
    refine g_get (v := .ref (B + 33)) kX7 (by decide) fl_RX7_26 X.1 hH kx_0 rfl dX7_count_84 ?_
    refine g_get (v := .int (σ.1 33 5)) kX2 (by decide) fl_RX7_231 X.1 hH kx_33 rfl dX7_count_87 ?_
    obtain ⟨rfl, rfl⟩ := rt2 hf
    exact g_iret X hH hS dX7_count_90
  replace hf := brF hf q109
  by_cases q110 : x1 = 5
  · replace hf := brT hf q110
    refine lv_tableIn (tgt := 91) (off := 90) hx hb dX7_count_1 (by rw [q110]; decide) (by rw [q110]; decide) (by rw [q110]; decide) (by decide) ?_
    refine lv_aload_n hx hb dX7_count_91 rfl (lv_at hl 0 rfl) ?_
    refine g_get (v := .ref (B + 33)) kX7 (by decide) fl_RX7_26 X.1 hH kx_0 rfl dX7_count_92 ?_
    obtain ⟨r112, σ111, eσ111, hf⟩ := bnd2 hf
    refine g_cVi (As := []) X.1 hH hS (c_X2_allPrices l G B 33 kx_33 σ σ111 r112 eσ111) kw_RX7_211 kX2 kx_33 (by decide) rfl hl (Nat.le_of_ble_eq_true rfl) rfl dX7_count_95 (fun H locs hH hS => ?_)
    obtain ⟨rfl, rfl⟩ := rt2 hf
    exact g_iret X hH hS dX7_count_98
  replace hf := brF hf q110
  by_cases q113 : x1 = 6
  · replace hf := brT hf q113
    refine lv_tableIn (tgt := 99) (off := 98) hx hb dX7_count_1 (by rw [q113]; decide) (by rw [q113]; decide) (by rw [q113]; decide) (by decide) ?_
    refine lv_aload_n hx hb dX7_count_99 rfl (lv_at hl 0 rfl) ?_
    refine g_get (v := .ref (B + 223)) kX7 (by decide) fl_RX7_37 X.1 hH kx_0 rfl dX7_count_100 ?_
    refine g_get (v := .int (σ.1 223 4)) kX0 (by decide) fl_RX7_257 X.1 hH kx_223 rfl dX7_count_103 ?_
    obtain ⟨rfl, rfl⟩ := rt2 hf
    exact g_iret X hH hS dX7_count_106
  replace hf := brF hf q113
  by_cases q114 : x1 = 7
  · replace hf := brT hf q114
    refine lv_tableIn (tgt := 107) (off := 106) hx hb dX7_count_1 (by rw [q114]; decide) (by rw [q114]; decide) (by rw [q114]; decide) (by decide) ?_
    refine lv_aload_n hx hb dX7_count_107 rfl (lv_at hl 0 rfl) ?_
    refine g_get (v := .ref (B + 13)) kX7 (by decide) fl_RX7_19 X.1 hH kx_0 rfl dX7_count_108 ?_
    refine g_get (v := .int (σ.1 13 3)) kX5 (by decide) fl_RX7_108 X.1 hH kx_13 rfl dX7_count_111 ?_
    obtain ⟨rfl, rfl⟩ := rt2 hf
    exact g_iret X hH hS dX7_count_114
  replace hf := brF hf q114
  refine lv_tableOut (tgt := 115) hx hb dX7_count_1 (by have hq101 := lv_neT q101 (a := 0) (by decide); have hq104 := lv_neT q104 (a := 1) (by decide); have hq107 := lv_neT q107 (a := 2) (by decide); have hq108 := lv_neT q108 (a := 3) (by decide); have hq109 := lv_neT q109 (a := 4) (by decide); have hq110 := lv_neT q110 (a := 5) (by decide); have hq113 := lv_neT q113 (a := 6) (by decide); have hq114 := lv_neT q114 (a := 7) (by decide); omega) (by decide) ?_
  refine lv_ldc (v := -1000001) hx hb X.1.2.2.2.1 (X.1.2.2.2.2.1 _ kc_RX7_65) dX7_count_115 ?_
  obtain ⟨rfl, rfl⟩ := rt2 hf
  exact g_iret X hH hS dX7_count_117
theorem c_X7_count (l : Launch) (G : Gd) (B : Nat) (x1 : Int32) (σ σr : Sto) (r : Int32) (hf : f_X7_count x1 σ = some (r, σr)) : Ct l G layX B yX7_count cX7_count 2 (some .int) 2 [.ref (B + 0), .int x1] (some (.int r)) σ σr :=
  Ct.ofW (by decide) (Nat.le_of_ble_eq_true rfl) (fun _ _ _ _ _ _ _ X hH hS ls hl => w_X7_count X x1 σ hf _ _ hH hS ls (show lv_has ls 2 [(0, .ref (B + 0)), (1, .int x1)] from hl))
-- SlackProofs.degree(I)J  (D 2)
def b_X7_degree_29 (s0 : Int64) (σ : Sto) : Option (Int64 × Sto) :=
  some (s0, σ)
set_option maxHeartbeats 4000000 in
set_option maxRecDepth 100000 in
theorem w_X7_degree_29 {p : Program} {l : Launch} {e : Env} {s : State} {m : MethodId} {args : Array Value} {below : List Frame} {meth : Method} {c : Code} {G : Gd} {B : Nat} (X : Cm p s m args meth c cX7_degree 2 RX7 G (some .long)) {r : Int64} {σr : Sto} (s0 : Int64) (σ : Sto) (hf : b_X7_degree_29 s0 σ = some (r, σr)) (H : Heap) (locs : List Loc) (hH : HX G layX B σ H) (hS : va_S (inW layX B) s.heap H locs) (ls : Array Slot) (hl : lv_has ls 2 []) : WM p l e 2 s m args below meth c H locs G layX B (some (.long r)) σr (F0 m 29 ls [.long s0]) := by
  unfold b_X7_degree_29 at hf
  have hx := X.1.1
  have hb := X.1.2.1
  obtain ⟨rfl, rfl⟩ := rt2 hf
  exact g_lret X hH hS dX7_degree_29
def f_X7_degree (x1 : Int32) (σ : Sto) : Option (Int64 × Sto) :=
  bd2 (f_X2_has 33 x1 σ) fun r102 σ101 => if r102 = 0 then (b_X7_degree_29 (-1000001 : Int64) σ101) else (if (x1 < 0 ∨ 30 ≤ x1.toNatClampNeg) then none else b_X7_degree_29 (σ101.2 (36 + 2 * x1.toNatClampNeg) 2) σ101)
set_option maxHeartbeats 4000000 in
set_option maxRecDepth 100000 in
theorem w_X7_degree {p : Program} {l : Launch} {e : Env} {s : State} {m : MethodId} {args : Array Value} {below : List Frame} {meth : Method} {c : Code} {G : Gd} {B : Nat} (X : Cm p s m args meth c cX7_degree 2 RX7 G (some .long)) {r : Int64} {σr : Sto} (x1 : Int32) (σ : Sto) (hf : f_X7_degree x1 σ = some (r, σr)) (H : Heap) (locs : List Loc) (hH : HX G layX B σ H) (hS : va_S (inW layX B) s.heap H locs) (ls : Array Slot) (hl : lv_has ls 2 [(0, .ref (B + 0)), (1, .int x1)]) : WM p l e 2 s m args below meth c H locs G layX B (some (.long r)) σr (F0 m 0 ls []) := by
  unfold f_X7_degree at hf
  have hx := X.1.1
  have hb := X.1.2.1
  refine lv_aload_n hx hb dX7_degree_0 rfl (lv_at hl 0 rfl) ?_
  refine g_get (v := .ref (B + 33)) kX7 (by decide) fl_RX7_26 X.1 hH kx_0 rfl dX7_degree_1 ?_
  refine lv_iload_n hx hb dX7_degree_4 rfl (lv_at hl 1 rfl) ?_
  obtain ⟨r102, σ101, eσ101, hf⟩ := bnd2 hf
  refine g_cVi (As := [.int x1]) X.1 hH hS (c_X2_has l G B 33 kx_33 x1 σ σ101 r102 eσ101) kw_RX7_156 kX2 kx_33 (by decide) rfl hl (Nat.le_of_ble_eq_true rfl) rfl dX7_degree_5 (fun H locs hH hS => ?_)
  refine lv_if_eq (tgt := 26) hx hb dX7_degree_8 (by decide) (fun q103 => ?_) (fun q103 => ?_)
  · replace hf := brT hf q103
    refine lv_ldc2 (v := -1000001) hx hb X.1.2.2.2.1 (X.1.2.2.2.2.1 _ kc_RX7_268) dX7_degree_26 ?_
    exact w_X7_degree_29 X (-1000001 : Int64) σ101 hf _ _ hH hS _ (lv_sub hl [] rfl)
  · replace hf := brF hf q103
    refine lv_aload_n hx hb dX7_degree_11 rfl (lv_at hl 0 rfl) ?_
    refine g_get (v := .ref (B + 33)) kX7 (by decide) fl_RX7_26 X.1 hH kx_0 rfl dX7_degree_12 ?_
    refine g_get (v := .ref (B + 34)) kX2 (by decide) fl_RX7_163 X.1 hH kx_33 rfl dX7_degree_15 ?_
    refine lv_iload_n hx hb dX7_degree_18 rfl (lv_at hl 1 rfl) ?_
    obtain ⟨q204, hf⟩ := chk hf
    refine g_aald (b := (36 + 2 * x1.toNatClampNeg)) X.1 hH kx_34 (by decide) q204 rfl dX7_degree_19 ?_
    refine g_get (v := .long (σ101.2 (36 + 2 * x1.toNatClampNeg) 2)) kX3 (by decide) fl_RX7_264 X.1 hH (kB33 q204) rfl dX7_degree_20 ?_
    refine lv_goto (tgt := 29) hx hb dX7_degree_23 (by decide) ?_
    exact w_X7_degree_29 X (σ101.2 (36 + 2 * x1.toNatClampNeg) 2) σ101 hf _ _ hH hS _ (lv_sub hl [] rfl)
theorem c_X7_degree (l : Launch) (G : Gd) (B : Nat) (x1 : Int32) (σ σr : Sto) (r : Int64) (hf : f_X7_degree x1 σ = some (r, σr)) : Ct l G layX B yX7_degree cX7_degree 2 (some .long) 2 [.ref (B + 0), .int x1] (some (.long r)) σ σr :=
  Ct.ofW (by decide) (Nat.le_of_ble_eq_true rfl) (fun _ _ _ _ _ _ _ X hH hS ls hl => w_X7_degree X x1 σ hf _ _ hH hS ls (show lv_has ls 2 [(0, .ref (B + 0)), (1, .int x1)] from hl))
-- SlackProofs.drop(I)I  (D 1)
def f_X7_drop (x1 : Int32) (σ : Sto) : Option (Int32 × Sto) :=
  bd2 (f_X7_isRow x1 σ) fun r102 σ101 => if r102 = 0 then (some ((-1000001 : Int32), σ101)) else (bd2 (f_X6_isMissing x1 σ101) fun r105 σ104 => if r105 = 0 then (bd2 (f_X6_lose x1 σ104) fun r108 σ107 => bd2 (f_X7_well r108 σ107) fun r110 σ109 => some (r110, σ109)) else (bd2 (f_X7_found (1 : Int32) σ104) fun r112 σ111 => some (r112, σ111)))
set_option maxHeartbeats 4000000 in
set_option maxRecDepth 100000 in
theorem w_X7_drop {p : Program} {l : Launch} {e : Env} {s : State} {m : MethodId} {args : Array Value} {below : List Frame} {meth : Method} {c : Code} {G : Gd} {B : Nat} (X : Cm p s m args meth c cX7_drop 2 RX7 G (some .int)) {r : Int32} {σr : Sto} (x1 : Int32) (σ : Sto) (hf : f_X7_drop x1 σ = some (r, σr)) (H : Heap) (locs : List Loc) (hH : HX G layX B σ H) (hS : va_S (inW layX B) s.heap H locs) (ls : Array Slot) (hl : lv_has ls 2 [(0, .ref (B + 0)), (1, .int x1)]) : WM p l e 1 s m args below meth c H locs G layX B (some (.int r)) σr (F0 m 0 ls []) := by
  unfold f_X7_drop at hf
  have hx := X.1.1
  have hb := X.1.2.1
  refine lv_iload_n hx hb dX7_drop_0 rfl (lv_at hl 1 rfl) ?_
  obtain ⟨r102, σ101, eσ101, hf⟩ := bnd2 hf
  refine g_cSi (As := [.int x1]) X.1 hH hS (c_X7_isRow l G B x1 σ σ101 r102 eσ101) kw_RX7_61 (by decide) rfl hl (Nat.le_of_ble_eq_true rfl) rfl dX7_drop_1 (fun H locs hH hS => ?_)
  refine lv_if_ne (tgt := 10) hx hb dX7_drop_4 (by decide) (fun q103 => ?_) (fun q103 => ?_)
  · replace hf := brF hf q103
    refine lv_aload_n hx hb dX7_drop_10 rfl (lv_at hl 0 rfl) ?_
    refine g_get (v := .ref (B + 1)) kX7 (by decide) fl_RX7_10 X.1 hH kx_0 rfl dX7_drop_11 ?_
    refine lv_iload_n hx hb dX7_drop_14 rfl (lv_at hl 1 rfl) ?_
    obtain ⟨r105, σ104, eσ104, hf⟩ := bnd2 hf
    refine g_cVi (As := [.int x1]) X.1 hH hS (c_X6_isMissing l G B x1 σ101 σ104 r105 eσ104) kw_RX7_77 kX6 kx_1 (by decide) rfl hl (Nat.le_of_ble_eq_true rfl) rfl dX7_drop_15 (fun H locs hH hS => ?_)
    refine lv_if_eq (tgt := 27) hx hb dX7_drop_18 (by decide) (fun q106 => ?_) (fun q106 => ?_)
    · replace hf := brT hf q106
      refine lv_aload_n hx hb dX7_drop_27 rfl (lv_at hl 0 rfl) ?_
      refine lv_aload_n hx hb dX7_drop_28 rfl (lv_at hl 0 rfl) ?_
      refine g_get (v := .ref (B + 1)) kX7 (by decide) fl_RX7_10 X.1 hH kx_0 rfl dX7_drop_29 ?_
      refine lv_iload_n hx hb dX7_drop_32 rfl (lv_at hl 1 rfl) ?_
      obtain ⟨r108, σ107, eσ107, hf⟩ := bnd2 hf
      refine g_cVi (As := [.int x1]) X.1 hH hS (c_X6_lose l G B x1 σ104 σ107 r108 eσ107) kw_RX7_105 kX6 kx_1 (by decide) rfl hl (Nat.le_of_ble_eq_true rfl) rfl dX7_drop_33 (fun H locs hH hS => ?_)
      obtain ⟨r110, σ109, eσ109, hf⟩ := bnd2 hf
      refine g_cVi (As := [.int r108]) X.1 hH hS (c_X7_well l G B r108 σ107 σ109 r110 eσ109) kw_RX7_74 kX7 kx_0 (by decide) rfl hl (Nat.le_of_ble_eq_true rfl) rfl dX7_drop_36 (fun H locs hH hS => ?_)
      obtain ⟨rfl, rfl⟩ := rt2 hf
      exact g_iret X hH hS dX7_drop_39
    · replace hf := brF hf q106
      refine lv_aload_n hx hb dX7_drop_21 rfl (lv_at hl 0 rfl) ?_
      refine lv_iconst (v := 1) hx hb dX7_drop_22 (by decide) ?_
      obtain ⟨r112, σ111, eσ111, hf⟩ := bnd2 hf
      refine g_cVi (As := [.int (1 : Int32)]) X.1 hH hS (c_X7_found l G B (1 : Int32) σ104 σ111 r112 eσ111) kw_RX7_66 kX7 kx_0 (by decide) rfl hl (Nat.le_of_ble_eq_true rfl) rfl dX7_drop_23 (fun H locs hH hS => ?_)
      obtain ⟨rfl, rfl⟩ := rt2 hf
      exact g_iret X hH hS dX7_drop_26
  · replace hf := brT hf q103
    refine lv_ldc (v := -1000001) hx hb X.1.2.2.2.1 (X.1.2.2.2.2.1 _ kc_RX7_65) dX7_drop_7 ?_
    obtain ⟨rfl, rfl⟩ := rt2 hf
    exact g_iret X hH hS dX7_drop_9
theorem c_X7_drop (l : Launch) (G : Gd) (B : Nat) (x1 : Int32) (σ σr : Sto) (r : Int32) (hf : f_X7_drop x1 σ = some (r, σr)) : Ct l G layX B yX7_drop cX7_drop 2 (some .int) 1 [.ref (B + 0), .int x1] (some (.int r)) σ σr :=
  Ct.ofW (by decide) (Nat.le_of_ble_eq_true rfl) (fun _ _ _ _ _ _ _ X hH hS ls hl => w_X7_drop X x1 σ hf _ _ hH hS ls (show lv_has ls 2 [(0, .ref (B + 0)), (1, .int x1)] from hl))
-- SlackProofs.fault()I  (D 0)
def f_X7_fault (σ : Sto) : Option (Int32 × Sto) :=
  some ((σ.1 13 7), σ)
set_option maxHeartbeats 4000000 in
set_option maxRecDepth 100000 in
theorem w_X7_fault {p : Program} {l : Launch} {e : Env} {s : State} {m : MethodId} {args : Array Value} {below : List Frame} {meth : Method} {c : Code} {G : Gd} {B : Nat} (X : Cm p s m args meth c cX7_fault 1 RX7 G (some .int)) {r : Int32} {σr : Sto} (σ : Sto) (hf : f_X7_fault σ = some (r, σr)) (H : Heap) (locs : List Loc) (hH : HX G layX B σ H) (hS : va_S (inW layX B) s.heap H locs) (ls : Array Slot) (hl : lv_has ls 1 [(0, .ref (B + 0))]) : WM p l e 0 s m args below meth c H locs G layX B (some (.int r)) σr (F0 m 0 ls []) := by
  unfold f_X7_fault at hf
  have hx := X.1.1
  have hb := X.1.2.1
  refine lv_aload_n hx hb dX7_fault_0 rfl (lv_at hl 0 rfl) ?_
  refine g_get (v := .ref (B + 13)) kX7 (by decide) fl_RX7_19 X.1 hH kx_0 rfl dX7_fault_1 ?_
  refine g_get (v := .int (σ.1 13 7)) kX5 (by decide) fl_RX7_153 X.1 hH kx_13 rfl dX7_fault_4 ?_
  obtain ⟨rfl, rfl⟩ := rt2 hf
  exact g_iret X hH hS dX7_fault_7
theorem c_X7_fault (l : Launch) (G : Gd) (B : Nat) (σ σr : Sto) (r : Int32) (hf : f_X7_fault σ = some (r, σr)) : Ct l G layX B yX7_fault cX7_fault 1 (some .int) 0 [.ref (B + 0)] (some (.int r)) σ σr :=
  Ct.ofW (by decide) (Nat.le_of_ble_eq_true rfl) (fun _ _ _ _ _ _ _ X hH hS ls hl => w_X7_fault X σ hf _ _ hH hS ls (show lv_has ls 1 [(0, .ref (B + 0))] from hl))
-- SlackProofs.feed(I)I  (D 1)
def b_X7_feed_11 (σ : Sto) : Option (Int32 × Sto) :=
  some ((-1000001 : Int32), σ)
set_option maxHeartbeats 4000000 in
set_option maxRecDepth 100000 in
theorem w_X7_feed_11 {p : Program} {l : Launch} {e : Env} {s : State} {m : MethodId} {args : Array Value} {below : List Frame} {meth : Method} {c : Code} {G : Gd} {B : Nat} (X : Cm p s m args meth c cX7_feed 2 RX7 G (some .int)) {r : Int32} {σr : Sto} (σ : Sto) (hf : b_X7_feed_11 σ = some (r, σr)) (H : Heap) (locs : List Loc) (hH : HX G layX B σ H) (hS : va_S (inW layX B) s.heap H locs) (ls : Array Slot) (hl : lv_has ls 2 []) : WM p l e 1 s m args below meth c H locs G layX B (some (.int r)) σr (F0 m 11 ls []) := by
  unfold b_X7_feed_11 at hf
  have hx := X.1.1
  have hb := X.1.2.1
  refine lv_ldc (v := -1000001) hx hb X.1.2.2.2.1 (X.1.2.2.2.2.1 _ kc_RX7_65) dX7_feed_11 ?_
  obtain ⟨rfl, rfl⟩ := rt2 hf
  exact g_iret X hH hS dX7_feed_13
def f_X7_feed (x1 : Int32) (σ : Sto) : Option (Int32 × Sto) :=
  if x1 < 0 then (b_X7_feed_11 σ) else (if x1 ≤ (255 : Int32) then (if (σ.1 13 3) < (200 : Int32) then (bd2 (f_X5_take x1 σ) fun r205 σ204 => some (r205, σ204)) else (some ((-1000003 : Int32), σ))) else (b_X7_feed_11 σ))
set_option maxHeartbeats 4000000 in
set_option maxRecDepth 100000 in
theorem w_X7_feed {p : Program} {l : Launch} {e : Env} {s : State} {m : MethodId} {args : Array Value} {below : List Frame} {meth : Method} {c : Code} {G : Gd} {B : Nat} (X : Cm p s m args meth c cX7_feed 2 RX7 G (some .int)) {r : Int32} {σr : Sto} (x1 : Int32) (σ : Sto) (hf : f_X7_feed x1 σ = some (r, σr)) (H : Heap) (locs : List Loc) (hH : HX G layX B σ H) (hS : va_S (inW layX B) s.heap H locs) (ls : Array Slot) (hl : lv_has ls 2 [(0, .ref (B + 0)), (1, .int x1)]) : WM p l e 1 s m args below meth c H locs G layX B (some (.int r)) σr (F0 m 0 ls []) := by
  unfold f_X7_feed at hf
  have hx := X.1.1
  have hb := X.1.2.1
  refine lv_iload_n hx hb dX7_feed_0 rfl (lv_at hl 1 rfl) ?_
  refine lv_if_lt (tgt := 11) hx hb dX7_feed_1 (by decide) (fun q101 => ?_) (fun q101 => ?_)
  · replace hf := brT hf q101
    exact w_X7_feed_11 X σ hf _ _ hH hS _ (lv_sub hl [] rfl)
  · replace hf := brF hf q101
    refine lv_iload_n hx hb dX7_feed_4 rfl (lv_at hl 1 rfl) ?_
    refine lv_sipush (v := 255) hx hb dX7_feed_5 (by decide) ?_
    refine lv_icmp_le (tgt := 14) hx hb dX7_feed_8 (by decide) (fun q202 => ?_) (fun q202 => ?_)
    · replace hf := brT hf q202
      refine lv_aload_n hx hb dX7_feed_14 rfl (lv_at hl 0 rfl) ?_
      refine g_get (v := .ref (B + 13)) kX7 (by decide) fl_RX7_19 X.1 hH kx_0 rfl dX7_feed_15 ?_
      refine g_get (v := .int (σ.1 13 3)) kX5 (by decide) fl_RX7_108 X.1 hH kx_13 rfl dX7_feed_18 ?_
      refine lv_sipush (v := 200) hx hb dX7_feed_21 (by decide) ?_
      refine lv_icmp_lt (tgt := 30) hx hb dX7_feed_24 (by decide) (fun q203 => ?_) (fun q203 => ?_)
      · replace hf := brT hf q203
        refine lv_aload_n hx hb dX7_feed_30 rfl (lv_at hl 0 rfl) ?_
        refine g_get (v := .ref (B + 13)) kX7 (by decide) fl_RX7_19 X.1 hH kx_0 rfl dX7_feed_31 ?_
        refine lv_iload_n hx hb dX7_feed_34 rfl (lv_at hl 1 rfl) ?_
        obtain ⟨r205, σ204, eσ204, hf⟩ := bnd2 hf
        refine g_cVi (As := [.int x1]) X.1 hH hS (c_X5_take l G B x1 σ σ204 r205 eσ204) kw_RX7_112 kX5 kx_13 (by decide) rfl hl (Nat.le_of_ble_eq_true rfl) rfl dX7_feed_35 (fun H locs hH hS => ?_)
        obtain ⟨rfl, rfl⟩ := rt2 hf
        exact g_iret X hH hS dX7_feed_38
      · replace hf := brF hf q203
        refine lv_ldc (v := -1000003) hx hb X.1.2.2.2.1 (X.1.2.2.2.2.1 _ kc_RX7_111) dX7_feed_27 ?_
        obtain ⟨rfl, rfl⟩ := rt2 hf
        exact g_iret X hH hS dX7_feed_29
    · replace hf := brF hf q202
      exact w_X7_feed_11 X σ hf _ _ hH hS _ (lv_sub hl [] rfl)
theorem c_X7_feed (l : Launch) (G : Gd) (B : Nat) (x1 : Int32) (σ σr : Sto) (r : Int32) (hf : f_X7_feed x1 σ = some (r, σr)) : Ct l G layX B yX7_feed cX7_feed 2 (some .int) 1 [.ref (B + 0), .int x1] (some (.int r)) σ σr :=
  Ct.ofW (by decide) (Nat.le_of_ble_eq_true rfl) (fun _ _ _ _ _ _ _ X hH hS ls hl => w_X7_feed X x1 σ hf _ _ hH hS ls (show lv_has ls 2 [(0, .ref (B + 0)), (1, .int x1)] from hl))
-- SlackProofs.follows(I)I  (D 6)
def b_X7_follows_48 (s0 : Int32) (σ : Sto) : Option (Int32 × Sto) :=
  bd2 (f_X7_well s0 σ) fun r211 σ210 => some (r211, σ210)
set_option maxHeartbeats 4000000 in
set_option maxRecDepth 100000 in
theorem w_X7_follows_48 {p : Program} {l : Launch} {e : Env} {s : State} {m : MethodId} {args : Array Value} {below : List Frame} {meth : Method} {c : Code} {G : Gd} {B : Nat} (X : Cm p s m args meth c cX7_follows 2 RX7 G (some .int)) {r : Int32} {σr : Sto} (s0 : Int32) (σ : Sto) (hf : b_X7_follows_48 s0 σ = some (r, σr)) (H : Heap) (locs : List Loc) (hH : HX G layX B σ H) (hS : va_S (inW layX B) s.heap H locs) (ls : Array Slot) (hl : lv_has ls 2 []) : WM p l e 6 s m args below meth c H locs G layX B (some (.int r)) σr (F0 m 48 ls [.int s0, .ref (B + 0)]) := by
  unfold b_X7_follows_48 at hf
  have hx := X.1.1
  have hb := X.1.2.1
  obtain ⟨r211, σ210, eσ210, hf⟩ := bnd2 hf
  refine g_cVi (As := [.int s0]) X.1 hH hS (c_X7_well l G B s0 σ σ210 r211 eσ210) kw_RX7_74 kX7 kx_0 (by decide) rfl hl (Nat.le_of_ble_eq_true rfl) rfl dX7_follows_48 (fun H locs hH hS => ?_)
  obtain ⟨rfl, rfl⟩ := rt2 hf
  exact g_iret X hH hS dX7_follows_51
def f_X7_follows (x1 : Int32) (σ : Sto) : Option (Int32 × Sto) :=
  bd2 (f_X2_has 33 x1 σ) fun r102 σ101 => if r102 = 0 then (some ((-1000001 : Int32), σ101)) else (bd2 (f_X2_isBeyond 33 σ101) fun r105 σ104 => if r105 = 0 then (bd2 (f_X4_followsFromOthers x1 σ104) fun r108 σ107 => if r108 = 0 then (b_X7_follows_48 (0 : Int32) σ107) else (b_X7_follows_48 (1 : Int32) σ107)) else (bd2 (f_X7_found (6 : Int32) σ104) fun r213 σ212 => some (r213, σ212)))
set_option maxHeartbeats 4000000 in
set_option maxRecDepth 100000 in
theorem w_X7_follows {p : Program} {l : Launch} {e : Env} {s : State} {m : MethodId} {args : Array Value} {below : List Frame} {meth : Method} {c : Code} {G : Gd} {B : Nat} (X : Cm p s m args meth c cX7_follows 2 RX7 G (some .int)) {r : Int32} {σr : Sto} (x1 : Int32) (σ : Sto) (hf : f_X7_follows x1 σ = some (r, σr)) (H : Heap) (locs : List Loc) (hH : HX G layX B σ H) (hS : va_S (inW layX B) s.heap H locs) (ls : Array Slot) (hl : lv_has ls 2 [(0, .ref (B + 0)), (1, .int x1)]) : WM p l e 6 s m args below meth c H locs G layX B (some (.int r)) σr (F0 m 0 ls []) := by
  unfold f_X7_follows at hf
  have hx := X.1.1
  have hb := X.1.2.1
  refine lv_aload_n hx hb dX7_follows_0 rfl (lv_at hl 0 rfl) ?_
  refine g_get (v := .ref (B + 33)) kX7 (by decide) fl_RX7_26 X.1 hH kx_0 rfl dX7_follows_1 ?_
  refine lv_iload_n hx hb dX7_follows_4 rfl (lv_at hl 1 rfl) ?_
  obtain ⟨r102, σ101, eσ101, hf⟩ := bnd2 hf
  refine g_cVi (As := [.int x1]) X.1 hH hS (c_X2_has l G B 33 kx_33 x1 σ σ101 r102 eσ101) kw_RX7_156 kX2 kx_33 (by decide) rfl hl (Nat.le_of_ble_eq_true rfl) rfl dX7_follows_5 (fun H locs hH hS => ?_)
  refine lv_if_ne (tgt := 14) hx hb dX7_follows_8 (by decide) (fun q103 => ?_) (fun q103 => ?_)
  · replace hf := brF hf q103
    refine lv_aload_n hx hb dX7_follows_14 rfl (lv_at hl 0 rfl) ?_
    refine g_get (v := .ref (B + 33)) kX7 (by decide) fl_RX7_26 X.1 hH kx_0 rfl dX7_follows_15 ?_
    obtain ⟨r105, σ104, eσ104, hf⟩ := bnd2 hf
    refine g_cVi (As := []) X.1 hH hS (c_X2_isBeyond l G B 33 kx_33 σ101 σ104 r105 eσ104) kw_RX7_218 kX2 kx_33 (by decide) rfl hl (Nat.le_of_ble_eq_true rfl) rfl dX7_follows_18 (fun H locs hH hS => ?_)
    refine lv_if_eq (tgt := 31) hx hb dX7_follows_21 (by decide) (fun q106 => ?_) (fun q106 => ?_)
    · replace hf := brT hf q106
      refine lv_aload_n hx hb dX7_follows_31 rfl (lv_at hl 0 rfl) ?_
      refine lv_aload_n hx hb dX7_follows_32 rfl (lv_at hl 0 rfl) ?_
      refine g_get (v := .ref (B + 227)) kX7 (by decide) fl_RX7_46 X.1 hH kx_0 rfl dX7_follows_33 ?_
      refine lv_iload_n hx hb dX7_follows_36 rfl (lv_at hl 1 rfl) ?_
      obtain ⟨r108, σ107, eσ107, hf⟩ := bnd2 hf
      refine g_cVi (As := [.int x1]) X.1 hH hS (c_X4_followsFromOthers l G B x1 σ104 σ107 r108 eσ107) kw_RX7_246 kX4 kx_227 (by decide) rfl hl (Nat.le_of_ble_eq_true rfl) rfl dX7_follows_37 (fun H locs hH hS => ?_)
      refine lv_if_eq (tgt := 47) hx hb dX7_follows_40 (by decide) (fun q109 => ?_) (fun q109 => ?_)
      · replace hf := brT hf q109
        refine lv_iconst (v := 0) hx hb dX7_follows_47 (by decide) ?_
        exact w_X7_follows_48 X (0 : Int32) σ107 hf _ _ hH hS _ (lv_sub hl [] rfl)
      · replace hf := brF hf q109
        refine lv_iconst (v := 1) hx hb dX7_follows_43 (by decide) ?_
        refine lv_goto (tgt := 48) hx hb dX7_follows_44 (by decide) ?_
        exact w_X7_follows_48 X (1 : Int32) σ107 hf _ _ hH hS _ (lv_sub hl [] rfl)
    · replace hf := brF hf q106
      refine lv_aload_n hx hb dX7_follows_24 rfl (lv_at hl 0 rfl) ?_
      refine lv_bipush (v := 6) hx hb dX7_follows_25 (by decide) ?_
      obtain ⟨r213, σ212, eσ212, hf⟩ := bnd2 hf
      refine g_cVi (As := [.int (6 : Int32)]) X.1 hH hS (c_X7_found l G B (6 : Int32) σ104 σ212 r213 eσ212) kw_RX7_66 kX7 kx_0 (by decide) rfl hl (Nat.le_of_ble_eq_true rfl) rfl dX7_follows_27 (fun H locs hH hS => ?_)
      obtain ⟨rfl, rfl⟩ := rt2 hf
      exact g_iret X hH hS dX7_follows_30
  · replace hf := brT hf q103
    refine lv_ldc (v := -1000001) hx hb X.1.2.2.2.1 (X.1.2.2.2.2.1 _ kc_RX7_65) dX7_follows_11 ?_
    obtain ⟨rfl, rfl⟩ := rt2 hf
    exact g_iret X hH hS dX7_follows_13
theorem c_X7_follows (l : Launch) (G : Gd) (B : Nat) (x1 : Int32) (σ σr : Sto) (r : Int32) (hf : f_X7_follows x1 σ = some (r, σr)) : Ct l G layX B yX7_follows cX7_follows 2 (some .int) 6 [.ref (B + 0), .int x1] (some (.int r)) σ σr :=
  Ct.ofW (by decide) (Nat.le_of_ble_eq_true rfl) (fun _ _ _ _ _ _ _ X hH hS ls hl => w_X7_follows X x1 σ hf _ _ hH hS ls (show lv_has ls 2 [(0, .ref (B + 0)), (1, .int x1)] from hl))
-- SlackProofs.isSet(I)Z  (D 0)
def b_X7_isSet_16 (s0 : Int32) (σ : Sto) : Option (Int32 × Sto) :=
  if ¬ (s0 = 0 ∨ s0 = 1) then none else some (s0, σ)
set_option maxHeartbeats 4000000 in
set_option maxRecDepth 100000 in
theorem w_X7_isSet_16 {p : Program} {l : Launch} {e : Env} {s : State} {m : MethodId} {args : Array Value} {below : List Frame} {meth : Method} {c : Code} {G : Gd} {B : Nat} (X : Cm p s m args meth c cX7_isSet 1 RX7 G (some .boolean)) {r : Int32} {σr : Sto} (s0 : Int32) (σ : Sto) (hf : b_X7_isSet_16 s0 σ = some (r, σr)) (H : Heap) (locs : List Loc) (hH : HX G layX B σ H) (hS : va_S (inW layX B) s.heap H locs) (ls : Array Slot) (hl : lv_has ls 1 []) : WM p l e 0 s m args below meth c H locs G layX B (some (.int r)) σr (F0 m 16 ls [.int s0]) := by
  unfold b_X7_isSet_16 at hf
  have hx := X.1.1
  have hb := X.1.2.1
  obtain ⟨q302, hf⟩ := chk hf
  obtain ⟨rfl, rfl⟩ := rt2 hf
  exact g_zret X hH hS (Decidable.not_not.mp q302) dX7_isSet_16
def b_X7_isSet_15 (σ : Sto) : Option (Int32 × Sto) :=
  b_X7_isSet_16 (0 : Int32) σ
set_option maxHeartbeats 4000000 in
set_option maxRecDepth 100000 in
theorem w_X7_isSet_15 {p : Program} {l : Launch} {e : Env} {s : State} {m : MethodId} {args : Array Value} {below : List Frame} {meth : Method} {c : Code} {G : Gd} {B : Nat} (X : Cm p s m args meth c cX7_isSet 1 RX7 G (some .boolean)) {r : Int32} {σr : Sto} (σ : Sto) (hf : b_X7_isSet_15 σ = some (r, σr)) (H : Heap) (locs : List Loc) (hH : HX G layX B σ H) (hS : va_S (inW layX B) s.heap H locs) (ls : Array Slot) (hl : lv_has ls 1 []) : WM p l e 0 s m args below meth c H locs G layX B (some (.int r)) σr (F0 m 15 ls []) := by
  unfold b_X7_isSet_15 at hf
  have hx := X.1.1
  have hb := X.1.2.1
  refine lv_iconst (v := 0) hx hb dX7_isSet_15 (by decide) ?_
  exact w_X7_isSet_16 X (0 : Int32) σ hf _ _ hH hS _ (lv_sub hl [] rfl)
def f_X7_isSet (x0 : Int32) (σ : Sto) : Option (Int32 × Sto) :=
  if x0 < 0 then (b_X7_isSet_15 σ) else (if (255 : Int32) < x0 then (b_X7_isSet_15 σ) else (b_X7_isSet_16 (1 : Int32) σ))
set_option maxHeartbeats 4000000 in
set_option maxRecDepth 100000 in
theorem w_X7_isSet {p : Program} {l : Launch} {e : Env} {s : State} {m : MethodId} {args : Array Value} {below : List Frame} {meth : Method} {c : Code} {G : Gd} {B : Nat} (X : Cm p s m args meth c cX7_isSet 1 RX7 G (some .boolean)) {r : Int32} {σr : Sto} (x0 : Int32) (σ : Sto) (hf : f_X7_isSet x0 σ = some (r, σr)) (H : Heap) (locs : List Loc) (hH : HX G layX B σ H) (hS : va_S (inW layX B) s.heap H locs) (ls : Array Slot) (hl : lv_has ls 1 [(0, .int x0)]) : WM p l e 0 s m args below meth c H locs G layX B (some (.int r)) σr (F0 m 0 ls []) := by
  unfold f_X7_isSet at hf
  have hx := X.1.1
  have hb := X.1.2.1
  refine lv_iload_n hx hb dX7_isSet_0 rfl (lv_at hl 0 rfl) ?_
  refine lv_if_lt (tgt := 15) hx hb dX7_isSet_1 (by decide) (fun q101 => ?_) (fun q101 => ?_)
  · replace hf := brT hf q101
    exact w_X7_isSet_15 X σ hf _ _ hH hS _ (lv_sub hl [] rfl)
  · replace hf := brF hf q101
    refine lv_iload_n hx hb dX7_isSet_4 rfl (lv_at hl 0 rfl) ?_
    refine lv_sipush (v := 255) hx hb dX7_isSet_5 (by decide) ?_
    refine lv_icmp_gt (tgt := 15) hx hb dX7_isSet_8 (by decide) (fun q303 => ?_) (fun q303 => ?_)
    · replace hf := brT hf q303
      exact w_X7_isSet_15 X σ hf _ _ hH hS _ (lv_sub hl [] rfl)
    · replace hf := brF hf q303
      refine lv_iconst (v := 1) hx hb dX7_isSet_11 (by decide) ?_
      refine lv_goto (tgt := 16) hx hb dX7_isSet_12 (by decide) ?_
      exact w_X7_isSet_16 X (1 : Int32) σ hf _ _ hH hS _ (lv_sub hl [] rfl)
theorem c_X7_isSet (l : Launch) (G : Gd) (B : Nat) (x0 : Int32) (σ σr : Sto) (r : Int32) (hf : f_X7_isSet x0 σ = some (r, σr)) : Ct l G layX B yX7_isSet cX7_isSet 1 (some .boolean) 0 [.int x0] (some (.int r)) σ σr :=
  Ct.ofW (by decide) (Nat.le_of_ble_eq_true rfl) (fun _ _ _ _ _ _ _ X hH hS ls hl => w_X7_isSet X x0 σ hf _ _ hH hS ls (show lv_has ls 1 [(0, .int x0)] from hl))
