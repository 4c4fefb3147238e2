-- SlackProofsModel.saturate(I)I  (D 3)
def b_X8_saturate_104 (c38 : Int32 → Sto → Option (Int32 × Sto)) (v2 : Int32) (s0 : Int64) (s1 : Int32) (σ : Sto) : Option (Int32 × Sto) :=
  if (s1 < 0 ∨ 10 ≤ s1.toNatClampNeg) then none else nmS (pL σ 11 s1.toNatClampNeg s0) fun σ425 => c38 (v2 + (1 : Int32)) σ425
set_option maxHeartbeats 4000000 in
set_option maxRecDepth 100000 in
theorem w_X8_saturate_104 {p : Program} {l : Launch} {e : Env} {s : State} {m : MethodId} {args : Array Value} {below : List Frame} {meth : Method} {c : Code} {G : Gd} {B : Nat} (X : Cm p s m args meth c cX8_saturate 5 RX8 G (some .int)) (c38 : Int32 → Sto → Option (Int32 × Sto)) {r : Int32} {σr : Sto} (ih38 : ∀ (v2 : Int32) (σ : Sto) (H : Heap) (locs : List Loc) (ls : Array Slot), c38 v2 σ = some (r, σr) → HX G layM B σ H → va_S (inW layM B) s.heap H locs → lv_has ls 5 [(0, .ref (B + 0)), (2, .int v2)] → WM p l e 3 s m args below meth c H locs G layM B (some (.int r)) σr (F0 m 38 ls [])) (v2 : Int32) (s0 : Int64) (s1 : Int32) (σ : Sto) (hf : b_X8_saturate_104 c38 v2 s0 s1 σ = some (r, σr)) (H : Heap) (locs : List Loc) (hH : HX G layM B σ H) (hS : va_S (inW layM B) s.heap H locs) (ls : Array Slot) (hl : lv_has ls 5 [(0, .ref (B + 0)), (2, .int v2)]) : WM p l e 3 s m args below meth c H locs G layM B (some (.int r)) σr (F0 m 104 ls [.long s0, .int s1, .ref (B + 11)]) := by
  unfold b_X8_saturate_104 at hf
  have hx := X.1.1
  have hb := X.1.2.1
  obtain ⟨q424, hf⟩ := chk hf
  refine g_last (j := s1.toNatClampNeg) X.1 hH hS km_11 q424 rfl dX8_saturate_104 (fun H locs hH hS => ?_)
  obtain ⟨σ425, eσ425, hH⟩ := nmX hH
  replace hf := nmU hf eσ425
  refine lv_iinc (v := (v2 + (1 : Int32))) (lv' := [(2, .int (v2 + (1 : Int32))), (0, .ref (B + 0))]) hx hb dX8_saturate_105 hl (k := 1) rfl rfl (by decide) rfl (fun ls hl => ?_)
  refine lv_goto (tgt := 38) hx hb dX8_saturate_108 (by decide) ?_
  exact ih38 (v2 + (1 : Int32)) σ425 _ _ _ hf hH hS (lv_sub hl [1, 0] rfl)
def b_X8_saturate_81 (c38 : Int32 → Sto → Option (Int32 × Sto)) (v2 : Int32) (s0 : Int64) (σ : Sto) : Option (Int32 × Sto) :=
  if (v2 < 0 ∨ 10 ≤ v2.toNatClampNeg) then none else if (0 : Int64) ≤ (σ.2 11 v2.toNatClampNeg) then (b_X8_saturate_104 c38 v2 s0 v2 σ) else (b_X8_saturate_104 c38 v2 (-s0) v2 σ)
set_option maxHeartbeats 4000000 in
set_option maxRecDepth 100000 in
theorem w_X8_saturate_81 {p : Program} {l : Launch} {e : Env} {s : State} {m : MethodId} {args : Array Value} {below : List Frame} {meth : Method} {c : Code} {G : Gd} {B : Nat} (X : Cm p s m args meth c cX8_saturate 5 RX8 G (some .int)) (c38 : Int32 → Sto → Option (Int32 × Sto)) {r : Int32} {σr : Sto} (ih38 : ∀ (v2 : Int32) (σ : Sto) (H : Heap) (locs : List Loc) (ls : Array Slot), c38 v2 σ = some (r, σr) → HX G layM B σ H → va_S (inW layM B) s.heap H locs → lv_has ls 5 [(0, .ref (B + 0)), (2, .int v2)] → WM p l e 3 s m args below meth c H locs G layM B (some (.int r)) σr (F0 m 38 ls [])) (v2 : Int32) (s0 : Int64) (σ : Sto) (hf : b_X8_saturate_81 c38 v2 s0 σ = some (r, σr)) (H : Heap) (locs : List Loc) (hH : HX G layM B σ H) (hS : va_S (inW layM B) s.heap H locs) (ls : Array Slot) (hl : lv_has ls 5 [(0, .ref (B + 0)), (2, .int v2)]) : WM p l e 3 s m args below meth c H locs G layM B (some (.int r)) σr (F0 m 81 ls [.long s0]) := by
  unfold b_X8_saturate_81 at hf
  have hx := X.1.1
  have hb := X.1.2.1
  refine lv_lstore_n (lv' := [(3, .long s0), (0, .ref (B + 0)), (2, .int v2)]) hx hb dX8_saturate_81 rfl hl (by decide) rfl (fun ls hl => ?_)
  refine lv_aload_n hx hb dX8_saturate_82 rfl (lv_at hl 1 rfl) ?_
  refine g_get (v := .ref (B + 11)) kX8 (by decide) fl_RX8_42 X.1 hH km_0 rfl dX8_saturate_83 ?_
  refine lv_iload_n hx hb dX8_saturate_86 rfl (lv_at hl 2 rfl) ?_
  refine lv_aload_n hx hb dX8_saturate_87 rfl (lv_at hl 1 rfl) ?_
  refine g_get (v := .ref (B + 11)) kX8 (by decide) fl_RX8_42 X.1 hH km_0 rfl dX8_saturate_88 ?_
  refine lv_iload_n hx hb dX8_saturate_91 rfl (lv_at hl 2 rfl) ?_
  obtain ⟨q322, hf⟩ := chk hf
  refine g_lald (j := v2.toNatClampNeg) X.1 hH km_11 q322 rfl dX8_saturate_92 ?_
  refine lv_lconst (v := 0) hx hb dX8_saturate_93 (by decide) ?_
  refine g_lge (tgt := 103) X.1 dX8_saturate_94 dX8_saturate_95 (by decide) (fun q323 => ?_) (fun q323 => ?_)
  · replace hf := brT hf q323
    refine lv_lload_n hx hb dX8_saturate_103 rfl (lv_at hl 0 rfl) ?_
    exact w_X8_saturate_104 X c38 ih38 v2 s0 v2 σ hf _ _ hH hS _ (lv_sub hl [1, 2] rfl)
  · replace hf := brF hf q323
    refine lv_lload_n hx hb dX8_saturate_98 rfl (lv_at hl 0 rfl) ?_
    refine lv_lneg hx hb dX8_saturate_99 ?_
    refine lv_goto (tgt := 104) hx hb dX8_saturate_100 (by decide) ?_
    exact w_X8_saturate_104 X c38 ih38 v2 (-s0) v2 σ hf _ _ hH hS _ (lv_sub hl [1, 2] rfl)
def b_X8_saturate_38 (c38 : Int32 → Sto → Option (Int32 × Sto)) (v2 : Int32) (σ : Sto) : Option (Int32 × Sto) :=
  if (10 : Int32) ≤ v2 then (bd2 (f_X8_comes (4 : Int32) σ) fun r214 σ213 => some (r214, σ213)) else (if (v2 < 0 ∨ 10 ≤ v2.toNatClampNeg) then none else bd2 (f_X8_size (σ.2 11 v2.toNatClampNeg) σ) fun r217 σ216 => if r217 ≤ (σ216.2 11 1) then (if (v2 < 0 ∨ 10 ≤ v2.toNatClampNeg) then none else bd2 (f_X8_size (σ216.2 11 v2.toNatClampNeg) σ216) fun r221 σ220 => b_X8_saturate_81 c38 v2 r221 σ220) else (b_X8_saturate_81 c38 v2 (σ216.2 11 1) σ216))
set_option maxHeartbeats 4000000 in
set_option maxRecDepth 100000 in
theorem w_X8_saturate_38 {p : Program} {l : Launch} {e : Env} {s : State} {m : MethodId} {args : Array Value} {below : List Frame} {meth : Method} {c : Code} {G : Gd} {B : Nat} (X : Cm p s m args meth c cX8_saturate 5 RX8 G (some .int)) (c38 : Int32 → Sto → Option (Int32 × Sto)) {r : Int32} {σr : Sto} (ih38 : ∀ (v2 : Int32) (σ : Sto) (H : Heap) (locs : List Loc) (ls : Array Slot), c38 v2 σ = some (r, σr) → HX G layM B σ H → va_S (inW layM B) s.heap H locs → lv_has ls 5 [(0, .ref (B + 0)), (2, .int v2)] → WM p l e 3 s m args below meth c H locs G layM B (some (.int r)) σr (F0 m 38 ls [])) (v2 : Int32) (σ : Sto) (hf : b_X8_saturate_38 c38 v2 σ = some (r, σr)) (H : Heap) (locs : List Loc) (hH : HX G layM B σ H) (hS : va_S (inW layM B) s.heap H locs) (ls : Array Slot) (hl : lv_has ls 5 [(0, .ref (B + 0)), (2, .int v2)]) : WM p l e 3 s m args below meth c H locs G layM B (some (.int r)) σr (F0 m 38 ls []) := by
  unfold b_X8_saturate_38 at hf
  have hx := X.1.1
  have hb := X.1.2.1
  refine lv_iload_n hx hb dX8_saturate_38 rfl (lv_at hl 1 rfl) ?_
  refine lv_bipush (v := 10) hx hb dX8_saturate_39 (by decide) ?_
  refine lv_icmp_ge (tgt := 111) hx hb dX8_saturate_41 (by decide) (fun q212 => ?_) (fun q212 => ?_)
  · replace hf := brT hf q212
    refine lv_aload_n hx hb dX8_saturate_111 rfl (lv_at hl 0 rfl) ?_
    refine lv_iconst (v := 4) hx hb dX8_saturate_112 (by decide) ?_
    obtain ⟨r214, σ213, eσ213, hf⟩ := bnd2 hf
    refine g_cVi (As := [.int (4 : Int32)]) X.1 hH hS (c_X8_comes l G B (4 : Int32) σ σ213 r214 eσ213) kw_RX8_191 kX8 km_0 (by decide) rfl hl (Nat.le_of_ble_eq_true rfl) rfl dX8_saturate_113 (fun H locs hH hS => ?_)
    obtain ⟨rfl, rfl⟩ := rt2 hf
    exact g_iret X hH hS dX8_saturate_116
  · replace hf := brF hf q212
    refine lv_aload_n hx hb dX8_saturate_44 rfl (lv_at hl 0 rfl) ?_
    refine g_get (v := .ref (B + 11)) kX8 (by decide) fl_RX8_42 X.1 hH km_0 rfl dX8_saturate_45 ?_
    refine lv_iload_n hx hb dX8_saturate_48 rfl (lv_at hl 1 rfl) ?_
    obtain ⟨q215, hf⟩ := chk hf
    refine g_lald (j := v2.toNatClampNeg) X.1 hH km_11 q215 rfl dX8_saturate_49 ?_
    obtain ⟨r217, σ216, eσ216, hf⟩ := bnd2 hf
    refine g_cSl (As := [.long (σ.2 11 v2.toNatClampNeg)]) X.1 hH hS (c_X8_size l G B (σ.2 11 v2.toNatClampNeg) σ σ216 r217 eσ216) kw_RX8_187 (by decide) rfl hl (Nat.le_of_ble_eq_true rfl) rfl dX8_saturate_50 (fun H locs hH hS => ?_)
    refine lv_aload_n hx hb dX8_saturate_53 rfl (lv_at hl 0 rfl) ?_
    refine g_get (v := .ref (B + 11)) kX8 (by decide) fl_RX8_42 X.1 hH km_0 rfl dX8_saturate_54 ?_
    refine lv_iconst (v := 1) hx hb dX8_saturate_57 (by decide) ?_
    refine g_lald (j := 1) X.1 hH km_11 (by decide) rfl dX8_saturate_58 ?_
    refine g_lle (tgt := 72) X.1 dX8_saturate_59 dX8_saturate_60 (by decide) (fun q218 => ?_) (fun q218 => ?_)
    · replace hf := brT hf q218
      refine lv_aload_n hx hb dX8_saturate_72 rfl (lv_at hl 0 rfl) ?_
      refine g_get (v := .ref (B + 11)) kX8 (by decide) fl_RX8_42 X.1 hH km_0 rfl dX8_saturate_73 ?_
      refine lv_iload_n hx hb dX8_saturate_76 rfl (lv_at hl 1 rfl) ?_
      obtain ⟨q219, hf⟩ := chk hf
      refine g_lald (j := v2.toNatClampNeg) X.1 hH km_11 q219 rfl dX8_saturate_77 ?_
      obtain ⟨r221, σ220, eσ220, hf⟩ := bnd2 hf
      refine g_cSl (As := [.long (σ216.2 11 v2.toNatClampNeg)]) X.1 hH hS (c_X8_size l G B (σ216.2 11 v2.toNatClampNeg) σ216 σ220 r221 eσ220) kw_RX8_187 (by decide) rfl hl (Nat.le_of_ble_eq_true rfl) rfl dX8_saturate_78 (fun H locs hH hS => ?_)
      exact w_X8_saturate_81 X c38 ih38 v2 r221 σ220 hf _ _ hH hS _ (lv_sub hl [0, 1] rfl)
    · replace hf := brF hf q218
      refine lv_aload_n hx hb dX8_saturate_63 rfl (lv_at hl 0 rfl) ?_
      refine g_get (v := .ref (B + 11)) kX8 (by decide) fl_RX8_42 X.1 hH km_0 rfl dX8_saturate_64 ?_
      refine lv_iconst (v := 1) hx hb dX8_saturate_67 (by decide) ?_
      refine g_lald (j := 1) X.1 hH km_11 (by decide) rfl dX8_saturate_68 ?_
      refine lv_goto (tgt := 81) hx hb dX8_saturate_69 (by decide) ?_
      exact w_X8_saturate_81 X c38 ih38 v2 (σ216.2 11 1) σ216 hf _ _ hH hS _ (lv_sub hl [0, 1] rfl)
def l_X8_saturate_38 : Nat → Int32 → Sto → Option (Int32 × Sto)
  | 0, _, _ => none
  | n + 1, v2, σ => b_X8_saturate_38 (l_X8_saturate_38 n) v2 σ
set_option maxHeartbeats 4000000 in
set_option maxRecDepth 100000 in
theorem wl_X8_saturate_38 {p : Program} {l : Launch} {e : Env} {s : State} {m : MethodId} {args : Array Value} {below : List Frame} {meth : Method} {c : Code} {G : Gd} {B : Nat} (X : Cm p s m args meth c cX8_saturate 5 RX8 G (some .int)) {r : Int32} {σr : Sto} (n : Nat) : ∀ (v2 : Int32) (σ : Sto) (H : Heap) (locs : List Loc) (ls : Array Slot), l_X8_saturate_38 n v2 σ = some (r, σr) → HX G layM B σ H → va_S (inW layM B) s.heap H locs → lv_has ls 5 [(0, .ref (B + 0)), (2, .int v2)] → WM p l e 3 s m args below meth c H locs G layM B (some (.int r)) σr (F0 m 38 ls []) := by
  induction n with
  | zero =>
    intro _ σ H locs ls hf
    cases hf
  | succ n ih =>
    intro v2 σ H locs ls hf hH hS hl
    exact w_X8_saturate_38 X (l_X8_saturate_38 n) ih v2 σ hf H locs hH hS ls hl
def f_X8_saturate (x1 : Int32) (σ : Sto) : Option (Int32 × Sto) :=
  bd2 (f_X8_isFormula σ) fun r102 σ101 => if r102 = 0 then (some ((-1000002 : Int32), σ101)) else (bd2 (f_X8_isLive x1 σ101) fun r105 σ104 => if r105 = 0 then (some ((-1000001 : Int32), σ104)) else (bd2 (f_X8_isFull σ104) fun r108 σ107 => if r108 = 0 then (bd1 (f_X8_takesClause x1 σ107) fun σ110 => l_X8_saturate_38 400 (2 : Int32) σ110) else (some ((-1000003 : Int32), σ107))))
set_option maxHeartbeats 4000000 in
set_option maxRecDepth 100000 in
theorem w_X8_saturate {p : Program} {l : Launch} {e : Env} {s : State} {m : MethodId} {args : Array Value} {below : List Frame} {meth : Method} {c : Code} {G : Gd} {B : Nat} (X : Cm p s m args meth c cX8_saturate 5 RX8 G (some .int)) {r : Int32} {σr : Sto} (x1 : Int32) (σ : Sto) (hf : f_X8_saturate x1 σ = some (r, σr)) (H : Heap) (locs : List Loc) (hH : HX G layM B σ H) (hS : va_S (inW layM B) s.heap H locs) (ls : Array Slot) (hl : lv_has ls 5 [(0, .ref (B + 0)), (1, .int x1)]) : WM p l e 3 s m args below meth c H locs G layM B (some (.int r)) σr (F0 m 0 ls []) := by
  unfold f_X8_saturate at hf
  have hx := X.1.1
  have hb := X.1.2.1
  refine lv_aload_n hx hb dX8_saturate_0 rfl (lv_at hl 0 rfl) ?_
  obtain ⟨r102, σ101, eσ101, hf⟩ := bnd2 hf
  refine g_cVi (As := []) X.1 hH hS (c_X8_isFormula l G B σ σ101 r102 eσ101) kw_RX8_171 kX8 km_0 (by decide) rfl hl (Nat.le_of_ble_eq_true rfl) rfl dX8_saturate_1 (fun H locs hH hS => ?_)
  refine lv_if_ne (tgt := 10) hx hb dX8_saturate_4 (by decide) (fun q103 => ?_) (fun q103 => ?_)
  · replace hf := brF hf q103
    refine lv_aload_n hx hb dX8_saturate_10 rfl (lv_at hl 0 rfl) ?_
    refine lv_iload_n hx hb dX8_saturate_11 rfl (lv_at hl 1 rfl) ?_
    obtain ⟨r105, σ104, eσ104, hf⟩ := bnd2 hf
    refine g_cVi (As := [.int x1]) X.1 hH hS (c_X8_isLive l G B x1 σ101 σ104 r105 eσ104) kw_RX8_175 kX8 km_0 (by decide) rfl hl (Nat.le_of_ble_eq_true rfl) rfl dX8_saturate_12 (fun H locs hH hS => ?_)
    refine lv_if_ne (tgt := 21) hx hb dX8_saturate_15 (by decide) (fun q106 => ?_) (fun q106 => ?_)
    · replace hf := brF hf q106
      refine lv_aload_n hx hb dX8_saturate_21 rfl (lv_at hl 0 rfl) ?_
      obtain ⟨r108, σ107, eσ107, hf⟩ := bnd2 hf
      refine g_cVi (As := []) X.1 hH hS (c_X8_isFull l G B σ104 σ107 r108 eσ107) kw_RX8_178 kX8 km_0 (by decide) rfl hl (Nat.le_of_ble_eq_true rfl) rfl dX8_saturate_22 (fun H locs hH hS => ?_)
      refine lv_if_eq (tgt := 31) hx hb dX8_saturate_25 (by decide) (fun q109 => ?_) (fun q109 => ?_)
      · replace hf := brT hf q109
        refine lv_aload_n hx hb dX8_saturate_31 rfl (lv_at hl 0 rfl) ?_
        refine lv_iload_n hx hb dX8_saturate_32 rfl (lv_at hl 1 rfl) ?_
        obtain ⟨σ110, eσ110, hf⟩ := bnd1 hf
        refine g_cVv (As := [.int x1]) X.1 hH hS (c_X8_takesClause l G B x1 σ107 σ110 eσ110) kw_RX8_181 kX8 km_0 (by decide) rfl hl (Nat.le_of_ble_eq_true rfl) rfl dX8_saturate_33 (fun H locs hH hS => ?_)
        refine lv_iconst (v := 2) hx hb dX8_saturate_36 (by decide) ?_
        refine lv_istore_n (lv' := [(2, .int (2 : Int32)), (0, .ref (B + 0)), (1, .int x1)]) hx hb dX8_saturate_37 rfl hl (by decide) rfl (fun ls hl => ?_)
        exact wl_X8_saturate_38 X 400 (2 : Int32) σ110 _ _ _ hf hH hS (lv_sub hl [1, 0] rfl)
      · replace hf := brF hf q109
        refine lv_ldc (v := -1000003) hx hb X.1.2.2.2.1 (X.1.2.2.2.2.1 _ kc_RX8_97) dX8_saturate_28 ?_
        obtain ⟨rfl, rfl⟩ := rt2 hf
        exact g_iret X hH hS dX8_saturate_30
    · replace hf := brT hf q106
      refine lv_ldc (v := -1000001) hx hb X.1.2.2.2.1 (X.1.2.2.2.2.1 _ kc_RX8_76) dX8_saturate_18 ?_
      obtain ⟨rfl, rfl⟩ := rt2 hf
      exact g_iret X hH hS dX8_saturate_20
  · replace hf := brT hf q103
    refine lv_ldc (v := -1000002) hx hb X.1.2.2.2.1 (X.1.2.2.2.2.1 _ kc_RX8_174) dX8_saturate_7 ?_
    obtain ⟨rfl, rfl⟩ := rt2 hf
    exact g_iret X hH hS dX8_saturate_9
theorem c_X8_saturate (l : Launch) (G : Gd) (B : Nat) (x1 : Int32) (σ σr : Sto) (r : Int32) (hf : f_X8_saturate x1 σ = some (r, σr)) : Ct l G layM B yX8_saturate cX8_saturate 5 (some .int) 3 [.ref (B + 0), .int x1] (some (.int r)) σ σr :=
  Ct.ofW (by decide) (Nat.le_of_ble_eq_true rfl) (fun _ _ _ _ _ _ _ X hH hS ls hl => w_X8_saturate X x1 σ hf _ _ hH hS ls (show lv_has ls 5 [(0, .ref (B + 0)), (1, .int x1)] from hl))
-- SlackProofsModel.set(III)I  (D 2)
def f_X8_set (x1 : Int32) (x2 : Int32) (x3 : Int32) (σ : Sto) : Option (Int32 × Sto) :=
  bd2 (f_X8_isRow x1 σ) fun r102 σ101 => if r102 = 0 then (some ((-1000001 : Int32), σ101)) else (bd2 (f_X8_isMissing x1 σ101) fun r105 σ104 => if r105 = 0 then (if (x1 < 0 ∨ 8 ≤ x1.toNatClampNeg) then none else bd2 (f_X8_in x2 (0 : Int32) ((σ104.1 2 x1.toNatClampNeg) - (1 : Int32)) σ104) fun r109 σ108 => if r109 = 0 then (bd2 (f_X8_found (2 : Int32) σ108) fun r120 σ119 => some (r120, σ119)) else (if (x1 < 0 ∨ 8 ≤ x1.toNatClampNeg) then none else bd2 (f_X8_lowest (σ108.1 1 x1.toNatClampNeg) x3 σ108) fun r113 σ112 => if ((((40 : Int32) * x1) + x2) < 0 ∨ 320 ≤ (((40 : Int32) * x1) + x2).toNatClampNeg) then none else nmS (pI σ112 3 (((40 : Int32) * x1) + x2).toNatClampNeg r113) fun σ115 => if ((((40 : Int32) * x1) + x2) < 0 ∨ 320 ≤ (((40 : Int32) * x1) + x2).toNatClampNeg) then none else bd2 (f_X8_well (σ115.1 3 (((40 : Int32) * x1) + x2).toNatClampNeg) σ115) fun r118 σ117 => some (r118, σ117))) else (bd2 (f_X8_found (1 : Int32) σ104) fun r122 σ121 => some (r122, σ121)))
set_option maxHeartbeats 4000000 in
set_option maxRecDepth 100000 in
theorem w_X8_set {p : Program} {l : Launch} {e : Env} {s : State} {m : MethodId} {args : Array Value} {below : List Frame} {meth : Method} {c : Code} {G : Gd} {B : Nat} (X : Cm p s m args meth c cX8_set 4 RX8 G (some .int)) {r : Int32} {σr : Sto} (x1 : Int32) (x2 : Int32) (x3 : Int32) (σ : Sto) (hf : f_X8_set x1 x2 x3 σ = some (r, σr)) (H : Heap) (locs : List Loc) (hH : HX G layM B σ H) (hS : va_S (inW layM B) s.heap H locs) (ls : Array Slot) (hl : lv_has ls 4 [(0, .ref (B + 0)), (1, .int x1), (2, .int x2), (3, .int x3)]) : WM p l e 2 s m args below meth c H locs G layM B (some (.int r)) σr (F0 m 0 ls []) := by
  unfold f_X8_set at hf
  have hx := X.1.1
  have hb := X.1.2.1
  refine lv_iload_n hx hb dX8_set_0 rfl (lv_at hl 1 rfl) ?_
  obtain ⟨r102, σ101, eσ101, hf⟩ := bnd2 hf
  refine g_cSi (As := [.int x1]) X.1 hH hS (c_X8_isRow l G B x1 σ σ101 r102 eσ101) kw_RX8_72 (by decide) rfl hl (Nat.le_of_ble_eq_true rfl) rfl dX8_set_1 (fun H locs hH hS => ?_)
  refine lv_if_ne (tgt := 10) hx hb dX8_set_4 (by decide) (fun q103 => ?_) (fun q103 => ?_)
  · replace hf := brF hf q103
    refine lv_aload_n hx hb dX8_set_10 rfl (lv_at hl 0 rfl) ?_
    refine lv_iload_n hx hb dX8_set_11 rfl (lv_at hl 1 rfl) ?_
    obtain ⟨r105, σ104, eσ104, hf⟩ := bnd2 hf
    refine g_cVi (As := [.int x1]) X.1 hH hS (c_X8_isMissing l G B x1 σ101 σ104 r105 eσ104) kw_RX8_84 kX8 km_0 (by decide) rfl hl (Nat.le_of_ble_eq_true rfl) rfl dX8_set_12 (fun H locs hH hS => ?_)
    refine lv_if_eq (tgt := 24) hx hb dX8_set_15 (by decide) (fun q106 => ?_) (fun q106 => ?_)
    · replace hf := brT hf q106
      refine lv_iload_n hx hb dX8_set_24 rfl (lv_at hl 2 rfl) ?_
      refine lv_iconst (v := 0) hx hb dX8_set_25 (by decide) ?_
      refine lv_aload_n hx hb dX8_set_26 rfl (lv_at hl 0 rfl) ?_
      refine g_get (v := .ref (B + 2)) kX8 (by decide) fl_RX8_13 X.1 hH km_0 rfl dX8_set_27 ?_
      refine lv_iload_n hx hb dX8_set_30 rfl (lv_at hl 1 rfl) ?_
      obtain ⟨q107, hf⟩ := chk hf
      refine g_iald (j := x1.toNatClampNeg) X.1 hH km_2 q107 rfl dX8_set_31 ?_
      refine lv_iconst (v := 1) hx hb dX8_set_32 (by decide) ?_
      refine lv_isub hx hb dX8_set_33 ?_
      obtain ⟨r109, σ108, eσ108, hf⟩ := bnd2 hf
      refine g_cSi (As := [.int x2, .int (0 : Int32), .int ((σ104.1 2 x1.toNatClampNeg) - (1 : Int32))]) X.1 hH hS (c_X8_in l G B x2 (0 : Int32) ((σ104.1 2 x1.toNatClampNeg) - (1 : Int32)) σ104 σ108 r109 eσ108) kw_RX8_68 (by decide) rfl hl (Nat.le_of_ble_eq_true rfl) rfl dX8_set_34 (fun H locs hH hS => ?_)
      refine lv_if_ne (tgt := 46) hx hb dX8_set_37 (by decide) (fun q110 => ?_) (fun q110 => ?_)
      · replace hf := brF hf q110
        refine lv_aload_n hx hb dX8_set_46 rfl (lv_at hl 0 rfl) ?_
        refine g_get (v := .ref (B + 3)) kX8 (by decide) fl_RX8_16 X.1 hH km_0 rfl dX8_set_47 ?_
        refine lv_bipush (v := 40) hx hb dX8_set_50 (by decide) ?_
        refine lv_iload_n hx hb dX8_set_52 rfl (lv_at hl 1 rfl) ?_
        refine lv_imul hx hb dX8_set_53 ?_
        refine lv_iload_n hx hb dX8_set_54 rfl (lv_at hl 2 rfl) ?_
        refine lv_iadd hx hb dX8_set_55 ?_
        refine lv_aload_n hx hb dX8_set_56 rfl (lv_at hl 0 rfl) ?_
        refine g_get (v := .ref (B + 1)) kX8 (by decide) fl_RX8_7 X.1 hH km_0 rfl dX8_set_57 ?_
        refine lv_iload_n hx hb dX8_set_60 rfl (lv_at hl 1 rfl) ?_
        obtain ⟨q111, hf⟩ := chk hf
        refine g_iald (j := x1.toNatClampNeg) X.1 hH km_1 q111 rfl dX8_set_61 ?_
        refine lv_iload_n hx hb dX8_set_62 rfl (lv_at hl 3 rfl) ?_
        obtain ⟨r113, σ112, eσ112, hf⟩ := bnd2 hf
        refine g_cSi (As := [.int (σ108.1 1 x1.toNatClampNeg), .int x3]) X.1 hH hS (c_X8_lowest l G B (σ108.1 1 x1.toNatClampNeg) x3 σ108 σ112 r113 eσ112) kw_RX8_87 (by decide) rfl hl (Nat.le_of_ble_eq_true rfl) rfl dX8_set_63 (fun H locs hH hS => ?_)
        obtain ⟨q114, hf⟩ := chk hf
        refine g_iast (j := (((40 : Int32) * x1) + x2).toNatClampNeg) X.1 hH hS km_3 q114 rfl dX8_set_66 (fun H locs hH hS => ?_)
        obtain ⟨σ115, eσ115, hH⟩ := nmX hH
        replace hf := nmU hf eσ115
        refine lv_aload_n hx hb dX8_set_67 rfl (lv_at hl 0 rfl) ?_
        refine lv_aload_n hx hb dX8_set_68 rfl (lv_at hl 0 rfl) ?_
        refine g_get (v := .ref (B + 3)) kX8 (by decide) fl_RX8_16 X.1 hH km_0 rfl dX8_set_69 ?_
        refine lv_bipush (v := 40) hx hb dX8_set_72 (by decide) ?_
        refine lv_iload_n hx hb dX8_set_74 rfl (lv_at hl 1 rfl) ?_
        refine lv_imul hx hb dX8_set_75 ?_
        refine lv_iload_n hx hb dX8_set_76 rfl (lv_at hl 2 rfl) ?_
        refine lv_iadd hx hb dX8_set_77 ?_
        obtain ⟨q116, hf⟩ := chk hf
        refine g_iald (j := (((40 : Int32) * x1) + x2).toNatClampNeg) X.1 hH km_3 q116 rfl dX8_set_78 ?_
        obtain ⟨r118, σ117, eσ117, hf⟩ := bnd2 hf
        refine g_cVi (As := [.int (σ115.1 3 (((40 : Int32) * x1) + x2).toNatClampNeg)]) X.1 hH hS (c_X8_well l G B (σ115.1 3 (((40 : Int32) * x1) + x2).toNatClampNeg) σ115 σ117 r118 eσ117) kw_RX8_81 kX8 km_0 (by decide) rfl hl (Nat.le_of_ble_eq_true rfl) rfl dX8_set_79 (fun H locs hH hS => ?_)
        obtain ⟨rfl, rfl⟩ := rt2 hf
        exact g_iret X hH hS dX8_set_82
      · replace hf := brT hf q110
        refine lv_aload_n hx hb dX8_set_40 rfl (lv_at hl 0 rfl) ?_
        refine lv_iconst (v := 2) hx hb dX8_set_41 (by decide) ?_
        obtain ⟨r120, σ119, eσ119, hf⟩ := bnd2 hf
        refine g_cVi (As := [.int (2 : Int32)]) X.1 hH hS (c_X8_found l G B (2 : Int32) σ108 σ119 r120 eσ119) kw_RX8_77 kX8 km_0 (by decide) rfl hl (Nat.le_of_ble_eq_true rfl) rfl dX8_set_42 (fun H locs hH hS => ?_)
        obtain ⟨rfl, rfl⟩ := rt2 hf
        exact g_iret X hH hS dX8_set_45
    · replace hf := brF hf q106
      refine lv_aload_n hx hb dX8_set_18 rfl (lv_at hl 0 rfl) ?_
      refine lv_iconst (v := 1) hx hb dX8_set_19 (by decide) ?_
      obtain ⟨r122, σ121, eσ121, hf⟩ := bnd2 hf
      refine g_cVi (As := [.int (1 : Int32)]) X.1 hH hS (c_X8_found l G B (1 : Int32) σ104 σ121 r122 eσ121) kw_RX8_77 kX8 km_0 (by decide) rfl hl (Nat.le_of_ble_eq_true rfl) rfl dX8_set_20 (fun H locs hH hS => ?_)
      obtain ⟨rfl, rfl⟩ := rt2 hf
      exact g_iret X hH hS dX8_set_23
  · replace hf := brT hf q103
    refine lv_ldc (v := -1000001) hx hb X.1.2.2.2.1 (X.1.2.2.2.2.1 _ kc_RX8_76) dX8_set_7 ?_
    obtain ⟨rfl, rfl⟩ := rt2 hf
    exact g_iret X hH hS dX8_set_9
theorem c_X8_set (l : Launch) (G : Gd) (B : Nat) (x1 : Int32) (x2 : Int32) (x3 : Int32) (σ σr : Sto) (r : Int32) (hf : f_X8_set x1 x2 x3 σ = some (r, σr)) : Ct l G layM B yX8_set cX8_set 4 (some .int) 2 [.ref (B + 0), .int x1, .int x2, .int x3] (some (.int r)) σ σr :=
  Ct.ofW (by decide) (Nat.le_of_ble_eq_true rfl) (fun _ _ _ _ _ _ _ X hH hS ls hl => w_X8_set X x1 x2 x3 σ hf _ _ hH hS ls (show lv_has ls 4 [(0, .ref (B + 0)), (1, .int x1), (2, .int x2), (3, .int x3)] from hl))
-- SlackProofsModel.slack(III)J  (D 2)
def b_X8_slack_30 (σ : Sto) : Option (Int64 × Sto) :=
  some ((-1000001 : Int64), σ)
set_option maxHeartbeats 4000000 in
set_option maxRecDepth 100000 in
theorem w_X8_slack_30 {p : Program} {l : Launch} {e : Env} {s : State} {m : MethodId} {args : Array Value} {below : List Frame} {meth : Method} {c : Code} {G : Gd} {B : Nat} (X : Cm p s m args meth c cX8_slack 4 RX8 G (some .long)) {r : Int64} {σr : Sto} (σ : Sto) (hf : b_X8_slack_30 σ = some (r, σr)) (H : Heap) (locs : List Loc) (hH : HX G layM B σ H) (hS : va_S (inW layM B) s.heap H locs) (ls : Array Slot) (hl : lv_has ls 4 []) : WM p l e 2 s m args below meth c H locs G layM B (some (.long r)) σr (F0 m 30 ls []) := by
  unfold b_X8_slack_30 at hf
  have hx := X.1.1
  have hb := X.1.2.1
  refine lv_ldc2 (v := -1000001) hx hb X.1.2.2.2.1 (X.1.2.2.2.2.1 _ kc_RX8_258) dX8_slack_30 ?_
  obtain ⟨rfl, rfl⟩ := rt2 hf
  exact g_lret X hH hS dX8_slack_33
def f_X8_slack (x1 : Int32) (x2 : Int32) (x3 : Int32) (σ : Sto) : Option (Int64 × Sto) :=
  bd2 (f_X8_isLive x1 σ) fun r102 σ101 => if r102 = 0 then (b_X8_slack_30 σ101) else (bd2 (f_X8_in x2 (0 : Int32) (255 : Int32) σ101) fun r205 σ204 => if r205 = 0 then (b_X8_slack_30 σ204) else (bd2 (f_X8_in x3 (0 : Int32) (255 : Int32) σ204) fun r208 σ207 => if r208 = 0 then (b_X8_slack_30 σ207) else (bd2 (f_X8_sumOf 6 312 ((12 : Int32) + ((10 : Int32) * x1)) σ207) fun r211 σ210 => if (0 : Int64) ≤ r211 then (nmS (pI σ210 0 4 (0 : Int32)) fun σ213 => bd2 (f_X8_slackOf 6 312 ((12 : Int32) + ((10 : Int32) * x1)) x2 x3 σ213) fun r215 σ214 => some (r215, σ214)) else (bd2 (f_X8_found (6 : Int32) σ210) fun r217 σ216 => some (r217.toInt64, σ216)))))
set_option maxHeartbeats 4000000 in
set_option maxRecDepth 100000 in
theorem w_X8_slack {p : Program} {l : Launch} {e : Env} {s : State} {m : MethodId} {args : Array Value} {below : List Frame} {meth : Method} {c : Code} {G : Gd} {B : Nat} (X : Cm p s m args meth c cX8_slack 4 RX8 G (some .long)) {r : Int64} {σr : Sto} (x1 : Int32) (x2 : Int32) (x3 : Int32) (σ : Sto) (hf : f_X8_slack x1 x2 x3 σ = some (r, σr)) (H : Heap) (locs : List Loc) (hH : HX G layM B σ H) (hS : va_S (inW layM B) s.heap H locs) (ls : Array Slot) (hl : lv_has ls 4 [(0, .ref (B + 0)), (1, .int x1), (2, .int x2), (3, .int x3)]) : WM p l e 2 s m args below meth c H locs G layM B (some (.long r)) σr (F0 m 0 ls []) := by
  unfold f_X8_slack at hf
  have hx := X.1.1
  have hb := X.1.2.1
  refine lv_aload_n hx hb dX8_slack_0 rfl (lv_at hl 0 rfl) ?_
  refine lv_iload_n hx hb dX8_slack_1 rfl (lv_at hl 1 rfl) ?_
  obtain ⟨r102, σ101, eσ101, hf⟩ := bnd2 hf
  refine g_cVi (As := [.int x1]) X.1 hH hS (c_X8_isLive l G B x1 σ σ101 r102 eσ101) kw_RX8_175 kX8 km_0 (by decide) rfl hl (Nat.le_of_ble_eq_true rfl) rfl dX8_slack_2 (fun H locs hH hS => ?_)
  refine lv_if_eq (tgt := 30) hx hb dX8_slack_5 (by decide) (fun q103 => ?_) (fun q103 => ?_)
  · replace hf := brT hf q103
    exact w_X8_slack_30 X σ101 hf _ _ hH hS _ (lv_sub hl [] rfl)
  · replace hf := brF hf q103
    refine lv_iload_n hx hb dX8_slack_8 rfl (lv_at hl 2 rfl) ?_
    refine lv_iconst (v := 0) hx hb dX8_slack_9 (by decide) ?_
    refine lv_sipush (v := 255) hx hb dX8_slack_10 (by decide) ?_
    obtain ⟨r205, σ204, eσ204, hf⟩ := bnd2 hf
    refine g_cSi (As := [.int x2, .int (0 : Int32), .int (255 : Int32)]) X.1 hH hS (c_X8_in l G B x2 (0 : Int32) (255 : Int32) σ101 σ204 r205 eσ204) kw_RX8_68 (by decide) rfl hl (Nat.le_of_ble_eq_true rfl) rfl dX8_slack_13 (fun H locs hH hS => ?_)
    refine lv_if_eq (tgt := 30) hx hb dX8_slack_16 (by decide) (fun q206 => ?_) (fun q206 => ?_)
    · replace hf := brT hf q206
      exact w_X8_slack_30 X σ204 hf _ _ hH hS _ (lv_sub hl [] rfl)
    · replace hf := brF hf q206
      refine lv_iload_n hx hb dX8_slack_19 rfl (lv_at hl 3 rfl) ?_
      refine lv_iconst (v := 0) hx hb dX8_slack_20 (by decide) ?_
      refine lv_sipush (v := 255) hx hb dX8_slack_21 (by decide) ?_
      obtain ⟨r208, σ207, eσ207, hf⟩ := bnd2 hf
      refine g_cSi (As := [.int x3, .int (0 : Int32), .int (255 : Int32)]) X.1 hH hS (c_X8_in l G B x3 (0 : Int32) (255 : Int32) σ204 σ207 r208 eσ207) kw_RX8_68 (by decide) rfl hl (Nat.le_of_ble_eq_true rfl) rfl dX8_slack_24 (fun H locs hH hS => ?_)
      refine lv_if_ne (tgt := 34) hx hb dX8_slack_27 (by decide) (fun q209 => ?_) (fun q209 => ?_)
      · replace hf := brF hf q209
        refine lv_aload_n hx hb dX8_slack_34 rfl (lv_at hl 0 rfl) ?_
        refine g_get (v := .ref (B + 6)) kX8 (by decide) fl_RX8_25 X.1 hH km_0 rfl dX8_slack_35 ?_
        refine lv_bipush (v := 12) hx hb dX8_slack_38 (by decide) ?_
        refine lv_bipush (v := 10) hx hb dX8_slack_40 (by decide) ?_
        refine lv_iload_n hx hb dX8_slack_42 rfl (lv_at hl 1 rfl) ?_
        refine lv_imul hx hb dX8_slack_43 ?_
        refine lv_iadd hx hb dX8_slack_44 ?_
        obtain ⟨r211, σ210, eσ210, hf⟩ := bnd2 hf
        refine g_cSl (As := [.ref (B + 6), .int ((12 : Int32) + ((10 : Int32) * x1))]) X.1 hH hS (c_X8_sumOf l G B 6 312 km_6 ((12 : Int32) + ((10 : Int32) * x1)) σ207 σ210 r211 eσ210) kw_RX8_196 (by decide) rfl hl (Nat.le_of_ble_eq_true rfl) rfl dX8_slack_45 (fun H locs hH hS => ?_)
        refine lv_lconst (v := 0) hx hb dX8_slack_48 (by decide) ?_
        refine g_lge (tgt := 61) X.1 dX8_slack_49 dX8_slack_50 (by decide) (fun q212 => ?_) (fun q212 => ?_)
        · replace hf := brT hf q212
          refine lv_aload_n hx hb dX8_slack_61 rfl (lv_at hl 0 rfl) ?_
          refine lv_iconst (v := 0) hx hb dX8_slack_62 (by decide) ?_
          refine g_putI kX8 (by decide) fl_RX8_63 rfl rfl X.1 hH hS km_0 dX8_slack_63 (fun H locs hH hS => ?_)
          obtain ⟨σ213, eσ213, hH⟩ := nmX hH
          replace hf := nmU hf eσ213
          refine lv_aload_n hx hb dX8_slack_66 rfl (lv_at hl 0 rfl) ?_
          refine g_get (v := .ref (B + 6)) kX8 (by decide) fl_RX8_25 X.1 hH km_0 rfl dX8_slack_67 ?_
          refine lv_bipush (v := 12) hx hb dX8_slack_70 (by decide) ?_
          refine lv_bipush (v := 10) hx hb dX8_slack_72 (by decide) ?_
          refine lv_iload_n hx hb dX8_slack_74 rfl (lv_at hl 1 rfl) ?_
          refine lv_imul hx hb dX8_slack_75 ?_
          refine lv_iadd hx hb dX8_slack_76 ?_
          refine lv_iload_n hx hb dX8_slack_77 rfl (lv_at hl 2 rfl) ?_
          refine lv_iload_n hx hb dX8_slack_78 rfl (lv_at hl 3 rfl) ?_
          obtain ⟨r215, σ214, eσ214, hf⟩ := bnd2 hf
          refine g_cSl (As := [.ref (B + 6), .int ((12 : Int32) + ((10 : Int32) * x1)), .int x2, .int x3]) X.1 hH hS (c_X8_slackOf l G B 6 312 km_6 ((12 : Int32) + ((10 : Int32) * x1)) x2 x3 σ213 σ214 r215 eσ214) kw_RX8_206 (by decide) rfl hl (Nat.le_of_ble_eq_true rfl) rfl dX8_slack_79 (fun H locs hH hS => ?_)
          obtain ⟨rfl, rfl⟩ := rt2 hf
          exact g_lret X hH hS dX8_slack_82
        · replace hf := brF hf q212
          refine lv_aload_n hx hb dX8_slack_53 rfl (lv_at hl 0 rfl) ?_
          refine lv_bipush (v := 6) hx hb dX8_slack_54 (by decide) ?_
          obtain ⟨r217, σ216, eσ216, hf⟩ := bnd2 hf
          refine g_cVi (As := [.int (6 : Int32)]) X.1 hH hS (c_X8_found l G B (6 : Int32) σ210 σ216 r217 eσ216) kw_RX8_77 kX8 km_0 (by decide) rfl hl (Nat.le_of_ble_eq_true rfl) rfl dX8_slack_56 (fun H locs hH hS => ?_)
          refine lv_i2l hx hb dX8_slack_59 rfl ?_
          obtain ⟨rfl, rfl⟩ := rt2 hf
          exact g_lret X hH hS dX8_slack_60
      · replace hf := brT hf q209
        exact w_X8_slack_30 X σ207 hf _ _ hH hS _ (lv_sub hl [] rfl)
theorem c_X8_slack (l : Launch) (G : Gd) (B : Nat) (x1 : Int32) (x2 : Int32) (x3 : Int32) (σ σr : Sto) (r : Int64) (hf : f_X8_slack x1 x2 x3 σ = some (r, σr)) : Ct l G layM B yX8_slack cX8_slack 4 (some .long) 2 [.ref (B + 0), .int x1, .int x2, .int x3] (some (.long r)) σ σr :=
  Ct.ofW (by decide) (Nat.le_of_ble_eq_true rfl) (fun _ _ _ _ _ _ _ X hH hS ls hl => w_X8_slack X x1 x2 x3 σ hf _ _ hH hS ls (show lv_has ls 4 [(0, .ref (B + 0)), (1, .int x1), (2, .int x2), (3, .int x3)] from hl))
-- SlackProofsModel.solution(I)I  (D 4)
def b_X8_solution_153 (v3 : Int32) (σ : Sto) : Option (Int32 × Sto) :=
  nmS (pL σ 6 8 v3.toInt64) fun σ422 => bd2 (f_X8_well v3 σ422) fun r424 σ423 => some (r424, σ423)
set_option maxHeartbeats 4000000 in
set_option maxRecDepth 100000 in
theorem w_X8_solution_153 {p : Program} {l : Launch} {e : Env} {s : State} {m : MethodId} {args : Array Value} {below : List Frame} {meth : Method} {c : Code} {G : Gd} {B : Nat} (X : Cm p s m args meth c cX8_solution 5 RX8 G (some .int)) {r : Int32} {σr : Sto} (v3 : Int32) (σ : Sto) (hf : b_X8_solution_153 v3 σ = some (r, σr)) (H : Heap) (locs : List Loc) (hH : HX G layM B σ H) (hS : va_S (inW layM B) s.heap H locs) (ls : Array Slot) (hl : lv_has ls 5 [(0, .ref (B + 0)), (3, .int v3)]) : WM p l e 4 s m args below meth c H locs G layM B (some (.int r)) σr (F0 m 153 ls []) := by
  unfold b_X8_solution_153 at hf
  have hx := X.1.1
  have hb := X.1.2.1
  refine lv_aload_n hx hb dX8_solution_153 rfl (lv_at hl 0 rfl) ?_
  refine g_get (v := .ref (B + 6)) kX8 (by decide) fl_RX8_25 X.1 hH km_0 rfl dX8_solution_154 ?_
  refine lv_bipush (v := 8) hx hb dX8_solution_157 (by decide) ?_
  refine lv_iload_n hx hb dX8_solution_159 rfl (lv_at hl 1 rfl) ?_
  refine lv_i2l hx hb dX8_solution_160 rfl ?_
  refine g_last (j := 8) X.1 hH hS km_6 (by decide) rfl dX8_solution_161 (fun H locs hH hS => ?_)
  obtain ⟨σ422, eσ422, hH⟩ := nmX hH
  replace hf := nmU hf eσ422
  refine lv_aload_n hx hb dX8_solution_162 rfl (lv_at hl 0 rfl) ?_
  refine lv_iload_n hx hb dX8_solution_163 rfl (lv_at hl 1 rfl) ?_
  obtain ⟨r424, σ423, eσ423, hf⟩ := bnd2 hf
  refine g_cVi (As := [.int v3]) X.1 hH hS (c_X8_well l G B v3 σ422 σ423 r424 eσ423) kw_RX8_81 kX8 km_0 (by decide) rfl hl (Nat.le_of_ble_eq_true rfl) rfl dX8_solution_164 (fun H locs hH hS => ?_)
  obtain ⟨rfl, rfl⟩ := rt2 hf
  exact g_iret X hH hS dX8_solution_167
def b_X8_solution_110 (c110 : Int32 → Int32 → Sto → Option (Int32 × Sto)) (v3 : Int32) (v4 : Int32) (σ : Sto) : Option (Int32 × Sto) :=
  if (8 : Int32) ≤ v4 then (bd2 (f_X8_comes (3 : Int32) σ) fun r530 σ529 => b_X8_solution_153 v3 σ529) else (if (v4 < 0 ∨ 312 ≤ v4.toNatClampNeg) then none else if (((2 : Int32) + v4) < 0 ∨ 10 ≤ ((2 : Int32) + v4).toNatClampNeg) then none else nmS (pL σ 11 ((2 : Int32) + v4).toNatClampNeg (-(σ.2 6 v4.toNatClampNeg))) fun σ533 => c110 v3 (v4 + (1 : Int32)) σ533)
set_option maxHeartbeats 4000000 in
set_option maxRecDepth 100000 in
theorem w_X8_solution_110 {p : Program} {l : Launch} {e : Env} {s : State} {m : MethodId} {args : Array Value} {below : List Frame} {meth : Method} {c : Code} {G : Gd} {B : Nat} (X : Cm p s m args meth c cX8_solution 5 RX8 G (some .int)) (c110 : Int32 → Int32 → Sto → Option (Int32 × Sto)) {r : Int32} {σr : Sto} (ih110 : ∀ (v3 : Int32) (v4 : Int32) (σ : Sto) (H : Heap) (locs : List Loc) (ls : Array Slot), c110 v3 v4 σ = some (r, σr) → HX G layM B σ H → va_S (inW layM B) s.heap H locs → lv_has ls 5 [(0, .ref (B + 0)), (3, .int v3), (4, .int v4)] → WM p l e 4 s m args below meth c H locs G layM B (some (.int r)) σr (F0 m 110 ls [])) (v3 : Int32) (v4 : Int32) (σ : Sto) (hf : b_X8_solution_110 c110 v3 v4 σ = some (r, σr)) (H : Heap) (locs : List Loc) (hH : HX G layM B σ H) (hS : va_S (inW layM B) s.heap H locs) (ls : Array Slot) (hl : lv_has ls 5 [(0, .ref (B + 0)), (3, .int v3), (4, .int v4)]) : WM p l e 4 s m args below meth c H locs G layM B (some (.int r)) σr (F0 m 110 ls []) := by
  unfold b_X8_solution_110 at hf
  have hx := X.1.1
  have hb := X.1.2.1
  refine lv_iload hx hb dX8_solution_110 (lv_at hl 2 rfl) ?_
  refine lv_bipush (v := 8) hx hb dX8_solution_112 (by decide) ?_
  refine lv_icmp_ge (tgt := 140) hx hb dX8_solution_114 (by decide) (fun q528 => ?_) (fun q528 => ?_)
  · replace hf := brT hf q528
    refine lv_aload_n hx hb dX8_solution_140 rfl (lv_at hl 0 rfl) ?_
    refine lv_iconst (v := 3) hx hb dX8_solution_141 (by decide) ?_
    obtain ⟨r530, σ529, eσ529, hf⟩ := bnd2 hf
    refine g_cVi (As := [.int (3 : Int32)]) X.1 hH hS (c_X8_comes l G B (3 : Int32) σ σ529 r530 eσ529) kw_RX8_191 kX8 km_0 (by decide) rfl hl (Nat.le_of_ble_eq_true rfl) rfl dX8_solution_142 (fun H locs hH hS => ?_)
    refine lv_pop hx hb dX8_solution_145 rfl ?_
    refine lv_goto (tgt := 153) hx hb dX8_solution_146 (by decide) ?_
    exact w_X8_solution_153 X v3 σ529 hf _ _ hH hS _ (lv_sub hl [0, 1] rfl)
  · replace hf := brF hf q528
    refine lv_aload_n hx hb dX8_solution_117 rfl (lv_at hl 0 rfl) ?_
    refine g_get (v := .ref (B + 11)) kX8 (by decide) fl_RX8_42 X.1 hH km_0 rfl dX8_solution_118 ?_
    refine lv_iconst (v := 2) hx hb dX8_solution_121 (by decide) ?_
    refine lv_iload hx hb dX8_solution_122 (lv_at hl 2 rfl) ?_
    refine lv_iadd hx hb dX8_solution_124 ?_
    refine lv_aload_n hx hb dX8_solution_125 rfl (lv_at hl 0 rfl) ?_
    refine g_get (v := .ref (B + 6)) kX8 (by decide) fl_RX8_25 X.1 hH km_0 rfl dX8_solution_126 ?_
    refine lv_iload hx hb dX8_solution_129 (lv_at hl 2 rfl) ?_
    obtain ⟨q531, hf⟩ := chk hf
    refine g_lald (j := v4.toNatClampNeg) X.1 hH km_6 q531 rfl dX8_solution_131 ?_
    refine lv_lneg hx hb dX8_solution_132 ?_
    obtain ⟨q532, hf⟩ := chk hf
    refine g_last (j := ((2 : Int32) + v4).toNatClampNeg) X.1 hH hS km_11 q532 rfl dX8_solution_133 (fun H locs hH hS => ?_)
    obtain ⟨σ533, eσ533, hH⟩ := nmX hH
    replace hf := nmU hf eσ533
    refine lv_iinc (v := (v4 + (1 : Int32))) (lv' := [(4, .int (v4 + (1 : Int32))), (0, .ref (B + 0)), (3, .int v3)]) hx hb dX8_solution_134 hl (k := 2) rfl rfl (by decide) rfl (fun ls hl => ?_)
    refine lv_goto (tgt := 110) hx hb dX8_solution_137 (by decide) ?_
    exact ih110 v3 (v4 + (1 : Int32)) σ533 _ _ _ hf hH hS (lv_sub hl [1, 2, 0] rfl)
def l_X8_solution_110 : Nat → Int32 → Int32 → Sto → Option (Int32 × Sto)
  | 0, _, _, _ => none
  | n + 1, v3, v4, σ => b_X8_solution_110 (l_X8_solution_110 n) v3 v4 σ
set_option maxHeartbeats 4000000 in
set_option maxRecDepth 100000 in
theorem wl_X8_solution_110 {p : Program} {l : Launch} {e : Env} {s : State} {m : MethodId} {args : Array Value} {below : List Frame} {meth : Method} {c : Code} {G : Gd} {B : Nat} (X : Cm p s m args meth c cX8_solution 5 RX8 G (some .int)) {r : Int32} {σr : Sto} (n : Nat) : ∀ (v3 : Int32) (v4 : Int32) (σ : Sto) (H : Heap) (locs : List Loc) (ls : Array Slot), l_X8_solution_110 n v3 v4 σ = some (r, σr) → HX G layM B σ H → va_S (inW layM B) s.heap H locs → lv_has ls 5 [(0, .ref (B + 0)), (3, .int v3), (4, .int v4)] → WM p l e 4 s m args below meth c H locs G layM B (some (.int r)) σr (F0 m 110 ls []) := by
  induction n with
  | zero =>
    intro _ _ σ H locs ls hf
    cases hf
  | succ n ih =>
    intro v3 v4 σ H locs ls hf hH hS hl
    exact w_X8_solution_110 X (l_X8_solution_110 n) ih v3 v4 σ hf H locs hH hS ls hl
def b_X8_solution_53 (v1 : Int32) (v2 : Int32) (σ : Sto) : Option (Int32 × Sto) :=
  bd2 (f_X8_isOver σ) fun r312 σ311 => if r312 = 0 then (bd2 (f_X8_areHolding v1 σ311) fun r315 σ314 => if r315 = 0 then (bd2 (f_X8_well (-1000000 : Int32) σ314) fun r535 σ534 => some (r535, σ534)) else (bd2 (f_X8_priceOf v1 σ314) fun r318 σ317 => if v2 = 0 then (bd1 (f_X8_notes σ317) fun σ320 => b_X8_solution_153 r318 σ320) else (bd2 (f_X8_allPrices σ317) fun r426 σ425 => nmS (pL σ425 11 1 ((r426 - r318.toInt64) + (1 : Int64))) fun σ427 => l_X8_solution_110 400 r318 (0 : Int32) σ427))) else (bd2 (f_X8_found (6 : Int32) σ311) fun r537 σ536 => some (r537, σ536))
set_option maxHeartbeats 4000000 in
set_option maxRecDepth 100000 in
theorem w_X8_solution_53 {p : Program} {l : Launch} {e : Env} {s : State} {m : MethodId} {args : Array Value} {below : List Frame} {meth : Method} {c : Code} {G : Gd} {B : Nat} (X : Cm p s m args meth c cX8_solution 5 RX8 G (some .int)) {r : Int32} {σr : Sto} (v1 : Int32) (v2 : Int32) (σ : Sto) (hf : b_X8_solution_53 v1 v2 σ = some (r, σr)) (H : Heap) (locs : List Loc) (hH : HX G layM B σ H) (hS : va_S (inW layM B) s.heap H locs) (ls : Array Slot) (hl : lv_has ls 5 [(0, .ref (B + 0)), (1, .int v1), (2, .int v2)]) : WM p l e 4 s m args below meth c H locs G layM B (some (.int r)) σr (F0 m 53 ls []) := by
  unfold b_X8_solution_53 at hf
  have hx := X.1.1
  have hb := X.1.2.1
  refine lv_aload_n hx hb dX8_solution_53 rfl (lv_at hl 0 rfl) ?_
  obtain ⟨r312, σ311, eσ311, hf⟩ := bnd2 hf
  refine g_cVi (As := []) X.1 hH hS (c_X8_isOver l G B σ σ311 r312 eσ311) kw_RX8_222 kX8 km_0 (by decide) rfl hl (Nat.le_of_ble_eq_true rfl) rfl dX8_solution_54 (fun H locs hH hS => ?_)
  refine lv_if_eq (tgt := 67) hx hb dX8_solution_57 (by decide) (fun q313 => ?_) (fun q313 => ?_)
  · replace hf := brT hf q313
    refine lv_aload_n hx hb dX8_solution_67 rfl (lv_at hl 0 rfl) ?_
    refine lv_iload_n hx hb dX8_solution_68 rfl (lv_at hl 1 rfl) ?_
    obtain ⟨r315, σ314, eσ314, hf⟩ := bnd2 hf
    refine g_cVi (As := [.int v1]) X.1 hH hS (c_X8_areHolding l G B v1 σ311 σ314 r315 eσ314) kw_RX8_247 kX8 km_0 (by decide) rfl hl (Nat.le_of_ble_eq_true rfl) rfl dX8_solution_69 (fun H locs hH hS => ?_)
    refine lv_if_ne (tgt := 82) hx hb dX8_solution_72 (by decide) (fun q316 => ?_) (fun q316 => ?_)
    · replace hf := brF hf q316
      refine lv_aload_n hx hb dX8_solution_82 rfl (lv_at hl 0 rfl) ?_
      refine lv_iload_n hx hb dX8_solution_83 rfl (lv_at hl 1 rfl) ?_
      obtain ⟨r318, σ317, eσ317, hf⟩ := bnd2 hf
      refine g_cVi (As := [.int v1]) X.1 hH hS (c_X8_priceOf l G B v1 σ314 σ317 r318 eσ317) kw_RX8_250 kX8 km_0 (by decide) rfl hl (Nat.le_of_ble_eq_true rfl) rfl dX8_solution_84 (fun H locs hH hS => ?_)
      refine lv_istore_n (lv' := [(3, .int r318), (0, .ref (B + 0)), (1, .int v1), (2, .int v2)]) hx hb dX8_solution_87 rfl hl (by decide) rfl (fun ls hl => ?_)
      refine lv_iload_n hx hb dX8_solution_88 rfl (lv_at hl 3 rfl) ?_
      refine lv_if_eq (tgt := 149) hx hb dX8_solution_89 (by decide) (fun q319 => ?_) (fun q319 => ?_)
      · replace hf := brT hf q319
        refine lv_aload_n hx hb dX8_solution_149 rfl (lv_at hl 1 rfl) ?_
        obtain ⟨σ320, eσ320, hf⟩ := bnd1 hf
        refine g_cVv (As := []) X.1 hH hS (c_X8_notes l G B σ317 σ320 eσ320) kw_RX8_168 kX8 km_0 (by decide) rfl hl (Nat.le_of_ble_eq_true rfl) rfl dX8_solution_150 (fun H locs hH hS => ?_)
        exact w_X8_solution_153 X r318 σ320 hf _ _ hH hS _ (lv_sub hl [1, 0] rfl)
      · replace hf := brF hf q319
        refine lv_aload_n hx hb dX8_solution_92 rfl (lv_at hl 1 rfl) ?_
        refine g_get (v := .ref (B + 11)) kX8 (by decide) fl_RX8_42 X.1 hH km_0 rfl dX8_solution_93 ?_
        refine lv_iconst (v := 1) hx hb dX8_solution_96 (by decide) ?_
        refine lv_aload_n hx hb dX8_solution_97 rfl (lv_at hl 1 rfl) ?_
        obtain ⟨r426, σ425, eσ425, hf⟩ := bnd2 hf
        refine g_cVl (As := []) X.1 hH hS (c_X8_allPrices l G B σ317 σ425 r426 eσ425) kw_RX8_237 kX8 km_0 (by decide) rfl hl (Nat.le_of_ble_eq_true rfl) rfl dX8_solution_98 (fun H locs hH hS => ?_)
        refine lv_iload_n hx hb dX8_solution_101 rfl (lv_at hl 0 rfl) ?_
        refine lv_i2l hx hb dX8_solution_102 rfl ?_
        refine lv_lsub hx hb dX8_solution_103 ?_
        refine lv_lconst (v := 1) hx hb dX8_solution_104 (by decide) ?_
        refine lv_ladd hx hb dX8_solution_105 ?_
        refine g_last (j := 1) X.1 hH hS km_11 (by decide) rfl dX8_solution_106 (fun H locs hH hS => ?_)
        obtain ⟨σ427, eσ427, hH⟩ := nmX hH
        replace hf := nmU hf eσ427
        refine lv_iconst (v := 0) hx hb dX8_solution_107 (by decide) ?_
        refine lv_istore (lv' := [(4, .int (0 : Int32)), (3, .int r318), (0, .ref (B + 0)), (1, .int v1), (2, .int v2)]) hx hb dX8_solution_108 hl (by decide) rfl (fun ls hl => ?_)
        exact wl_X8_solution_110 X 400 r318 (0 : Int32) σ427 _ _ _ hf hH hS (lv_sub hl [2, 1, 0] rfl)
    · replace hf := brT hf q316
      refine lv_aload_n hx hb dX8_solution_75 rfl (lv_at hl 0 rfl) ?_
      refine lv_ldc (v := -1000000) hx hb X.1.2.2.2.1 (X.1.2.2.2.2.1 _ kc_RX8_60) dX8_solution_76 ?_
      obtain ⟨r535, σ534, eσ534, hf⟩ := bnd2 hf
      refine g_cVi (As := [.int (-1000000 : Int32)]) X.1 hH hS (c_X8_well l G B (-1000000 : Int32) σ314 σ534 r535 eσ534) kw_RX8_81 kX8 km_0 (by decide) rfl hl (Nat.le_of_ble_eq_true rfl) rfl dX8_solution_78 (fun H locs hH hS => ?_)
      obtain ⟨rfl, rfl⟩ := rt2 hf
      exact g_iret X hH hS dX8_solution_81
  · replace hf := brF hf q313
    refine lv_aload_n hx hb dX8_solution_60 rfl (lv_at hl 0 rfl) ?_
    refine lv_bipush (v := 6) hx hb dX8_solution_61 (by decide) ?_
    obtain ⟨r537, σ536, eσ536, hf⟩ := bnd2 hf
    refine g_cVi (As := [.int (6 : Int32)]) X.1 hH hS (c_X8_found l G B (6 : Int32) σ311 σ536 r537 eσ536) kw_RX8_77 kX8 km_0 (by decide) rfl hl (Nat.le_of_ble_eq_true rfl) rfl dX8_solution_63 (fun H locs hH hS => ?_)
    obtain ⟨rfl, rfl⟩ := rt2 hf
    exact g_iret X hH hS dX8_solution_66
def b_X8_solution_38 (v1 : Int32) (s0 : Int32) (σ : Sto) : Option (Int32 × Sto) :=
  if s0 = 0 then (b_X8_solution_53 v1 s0 σ) else (bd2 (f_X8_isFull σ) fun r539 σ538 => if r539 = 0 then (b_X8_solution_53 v1 s0 σ538) else (some ((-1000003 : Int32), σ538)))
set_option maxHeartbeats 4000000 in
set_option maxRecDepth 100000 in
theorem w_X8_solution_38 {p : Program} {l : Launch} {e : Env} {s : State} {m : MethodId} {args : Array Value} {below : List Frame} {meth : Method} {c : Code} {G : Gd} {B : Nat} (X : Cm p s m args meth c cX8_solution 5 RX8 G (some .int)) {r : Int32} {σr : Sto} (v1 : Int32) (s0 : Int32) (σ : Sto) (hf : b_X8_solution_38 v1 s0 σ = some (r, σr)) (H : Heap) (locs : List Loc) (hH : HX G layM B σ H) (hS : va_S (inW layM B) s.heap H locs) (ls : Array Slot) (hl : lv_has ls 5 [(0, .ref (B + 0)), (1, .int v1)]) : WM p l e 4 s m args below meth c H locs G layM B (some (.int r)) σr (F0 m 38 ls [.int s0]) := by
  unfold b_X8_solution_38 at hf
  have hx := X.1.1
  have hb := X.1.2.1
  refine lv_istore_n (lv' := [(2, .int s0), (0, .ref (B + 0)), (1, .int v1)]) hx hb dX8_solution_38 rfl hl (by decide) rfl (fun ls hl => ?_)
  refine lv_iload_n hx hb dX8_solution_39 rfl (lv_at hl 0 rfl) ?_
  refine lv_if_eq (tgt := 53) hx hb dX8_solution_40 (by decide) (fun q210 => ?_) (fun q210 => ?_)
  · replace hf := brT hf q210
    exact w_X8_solution_53 X v1 s0 σ hf _ _ hH hS _ (lv_sub hl [1, 2, 0] rfl)
  · replace hf := brF hf q210
    refine lv_aload_n hx hb dX8_solution_43 rfl (lv_at hl 1 rfl) ?_
    obtain ⟨r539, σ538, eσ538, hf⟩ := bnd2 hf
    refine g_cVi (As := []) X.1 hH hS (c_X8_isFull l G B σ σ538 r539 eσ538) kw_RX8_178 kX8 km_0 (by decide) rfl hl (Nat.le_of_ble_eq_true rfl) rfl dX8_solution_44 (fun H locs hH hS => ?_)
    refine lv_if_eq (tgt := 53) hx hb dX8_solution_47 (by decide) (fun q540 => ?_) (fun q540 => ?_)
    · replace hf := brT hf q540
      exact w_X8_solution_53 X v1 s0 σ538 hf _ _ hH hS _ (lv_sub hl [1, 2, 0] rfl)
    · replace hf := brF hf q540
      refine lv_ldc (v := -1000003) hx hb X.1.2.2.2.1 (X.1.2.2.2.2.1 _ kc_RX8_97) dX8_solution_50 ?_
      obtain ⟨rfl, rfl⟩ := rt2 hf
      exact g_iret X hH hS dX8_solution_52
def f_X8_solution (x1 : Int32) (σ : Sto) : Option (Int32 × Sto) :=
  bd2 (f_X8_isFormula σ) fun r102 σ101 => if r102 = 0 then (some ((-1000002 : Int32), σ101)) else (bd2 (f_X8_in x1 (0 : Int32) (255 : Int32) σ101) fun r105 σ104 => if r105 = 0 then (some ((-1000001 : Int32), σ104)) else (bd2 (f_X8_allPrices σ104) fun r108 σ107 => if r108 ≤ (0 : Int64) then (b_X8_solution_38 x1 (0 : Int32) σ107) else (b_X8_solution_38 x1 (1 : Int32) σ107)))
set_option maxHeartbeats 4000000 in
set_option maxRecDepth 100000 in
theorem w_X8_solution {p : Program} {l : Launch} {e : Env} {s : State} {m : MethodId} {args : Array Value} {below : List Frame} {meth : Method} {c : Code} {G : Gd} {B : Nat} (X : Cm p s m args meth c cX8_solution 5 RX8 G (some .int)) {r : Int32} {σr : Sto} (x1 : Int32) (σ : Sto) (hf : f_X8_solution x1 σ = some (r, σr)) (H : Heap) (locs : List Loc) (hH : HX G layM B σ H) (hS : va_S (inW layM B) s.heap H locs) (ls : Array Slot) (hl : lv_has ls 5 [(0, .ref (B + 0)), (1, .int x1)]) : WM p l e 4 s m args below meth c H locs G layM B (some (.int r)) σr (F0 m 0 ls []) := by
  unfold f_X8_solution at hf
  have hx := X.1.1
  have hb := X.1.2.1
  refine lv_aload_n hx hb dX8_solution_0 rfl (lv_at hl 0 rfl) ?_
  obtain ⟨r102, σ101, eσ101, hf⟩ := bnd2 hf
  refine g_cVi (As := []) X.1 hH hS (c_X8_isFormula l G B σ σ101 r102 eσ101) kw_RX8_171 kX8 km_0 (by decide) rfl hl (Nat.le_of_ble_eq_true rfl) rfl dX8_solution_1 (fun H locs hH hS => ?_)
  refine lv_if_ne (tgt := 10) hx hb dX8_solution_4 (by decide) (fun q103 => ?_) (fun q103 => ?_)
  · replace hf := brF hf q103
    refine lv_iload_n hx hb dX8_solution_10 rfl (lv_at hl 1 rfl) ?_
    refine lv_iconst (v := 0) hx hb dX8_solution_11 (by decide) ?_
    refine lv_sipush (v := 255) hx hb dX8_solution_12 (by decide) ?_
    obtain ⟨r105, σ104, eσ104, hf⟩ := bnd2 hf
    refine g_cSi (As := [.int x1, .int (0 : Int32), .int (255 : Int32)]) X.1 hH hS (c_X8_in l G B x1 (0 : Int32) (255 : Int32) σ101 σ104 r105 eσ104) kw_RX8_68 (by decide) rfl hl (Nat.le_of_ble_eq_true rfl) rfl dX8_solution_15 (fun H locs hH hS => ?_)
    refine lv_if_ne (tgt := 24) hx hb dX8_solution_18 (by decide) (fun q106 => ?_) (fun q106 => ?_)
    · replace hf := brF hf q106
      refine lv_aload_n hx hb dX8_solution_24 rfl (lv_at hl 0 rfl) ?_
      obtain ⟨r108, σ107, eσ107, hf⟩ := bnd2 hf
      refine g_cVl (As := []) X.1 hH hS (c_X8_allPrices l G B σ104 σ107 r108 eσ107) kw_RX8_237 kX8 km_0 (by decide) rfl hl (Nat.le_of_ble_eq_true rfl) rfl dX8_solution_25 (fun H locs hH hS => ?_)
      refine lv_lconst (v := 0) hx hb dX8_solution_28 (by decide) ?_
      refine g_lle (tgt := 37) X.1 dX8_solution_29 dX8_solution_30 (by decide) (fun q109 => ?_) (fun q109 => ?_)
      · replace hf := brT hf q109
        refine lv_iconst (v := 0) hx hb dX8_solution_37 (by decide) ?_
        exact w_X8_solution_38 X x1 (0 : Int32) σ107 hf _ _ hH hS _ (lv_sub hl [0, 1] rfl)
      · replace hf := brF hf q109
        refine lv_iconst (v := 1) hx hb dX8_solution_33 (by decide) ?_
        refine lv_goto (tgt := 38) hx hb dX8_solution_34 (by decide) ?_
        exact w_X8_solution_38 X x1 (1 : Int32) σ107 hf _ _ hH hS _ (lv_sub hl [0, 1] rfl)
    · replace hf := brT hf q106
      refine lv_ldc (v := -1000001) hx hb X.1.2.2.2.1 (X.1.2.2.2.2.1 _ kc_RX8_76) dX8_solution_21 ?_
      obtain ⟨rfl, rfl⟩ := rt2 hf
      exact g_iret X hH hS dX8_solution_23
  · replace hf := brT hf q103
    refine lv_ldc (v := -1000002) hx hb X.1.2.2.2.1 (X.1.2.2.2.2.1 _ kc_RX8_174) dX8_solution_7 ?_
    obtain ⟨rfl, rfl⟩ := rt2 hf
    exact g_iret X hH hS dX8_solution_9
theorem c_X8_solution (l : Launch) (G : Gd) (B : Nat) (x1 : Int32) (σ σr : Sto) (r : Int32) (hf : f_X8_solution x1 σ = some (r, σr)) : Ct l G layM B yX8_solution cX8_solution 5 (some .int) 4 [.ref (B + 0), .int x1] (some (.int r)) σ σr :=
  Ct.ofW (by decide) (Nat.le_of_ble_eq_true rfl) (fun _ _ _ _ _ _ _ X hH hS ls hl => w_X8_solution X x1 σ hf _ _ hH hS ls (show lv_has ls 5 [(0, .ref (B + 0)), (1, .int x1)] from hl))
