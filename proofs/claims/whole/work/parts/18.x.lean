-- SlackProofs$Reader.readsClause(LSlackProofs$Clause;)Z  (D 3)
def b_X5_readsClause_118 (k0 : Nat) (σ : Sto) : Option (Int32 × Sto) :=
  some ((0 : Int32), σ)
set_option maxHeartbeats 4000000 in
set_option maxRecDepth 100000 in
theorem w_X5_readsClause_118 {p : Program} {l : Launch} {e : Env} {s : State} {m : MethodId} {args : Array Value} {below : List Frame} {meth : Method} {c : Code} {G : Gd} {B : Nat} (X : Cm p s m args meth c cX5_readsClause 6 RX5 G (some .boolean)) (k0 : Nat) (h0 : (k0 < layX.2.2 ∧ layX.1 k0 = .inl 3)) {r : Int32} {σr : Sto} (σ : Sto) (hf : b_X5_readsClause_118 k0 σ = some (r, σr)) (H : Heap) (locs : List Loc) (hH : HX G layX B σ H) (hS : va_S (inW layX B) s.heap H locs) (ls : Array Slot) (hl : lv_has ls 6 []) : WM p l e 3 s m args below meth c H locs G layX B (some (.int r)) σr (F0 m 118 ls []) := by
  unfold b_X5_readsClause_118 at hf
  have hx := X.1.1
  have hb := X.1.2.1
  refine lv_iconst (v := 0) hx hb dX5_readsClause_118 (by decide) ?_
  obtain ⟨rfl, rfl⟩ := rt2 hf
  exact g_zret X hH hS (by decide) dX5_readsClause_119
def b_X5_readsClause_147 (c8 : Int32 → Int32 → Sto → Option (Int32 × Sto)) (k0 : Nat) (v2 : Int32) (v3 : Int32) (s0 : Int64) (s1 : Int32) (s2 : Nat) (σ : Sto) : Option (Int32 × Sto) :=
  if (s1 < 0 ∨ 8 ≤ s1.toNatClampNeg) then none else nmS (pL σ s2 s1.toNatClampNeg s0) fun σ525 => c8 v2 (v3 + (1 : Int32)) σ525
set_option maxHeartbeats 4000000 in
set_option maxRecDepth 100000 in
theorem w_X5_readsClause_147 {p : Program} {l : Launch} {e : Env} {s : State} {m : MethodId} {args : Array Value} {below : List Frame} {meth : Method} {c : Code} {G : Gd} {B : Nat} (X : Cm p s m args meth c cX5_readsClause 6 RX5 G (some .boolean)) (c8 : Int32 → Int32 → Sto → Option (Int32 × Sto)) (k0 : Nat) (h0 : (k0 < layX.2.2 ∧ layX.1 k0 = .inl 3)) {r : Int32} {σr : Sto} (ih8 : ∀ (v2 : Int32) (v3 : Int32) (σ : Sto) (H : Heap) (locs : List Loc) (ls : Array Slot), c8 v2 v3 σ = some (r, σr) → HX G layX B σ H → va_S (inW layX B) s.heap H locs → lv_has ls 6 [(0, .ref (B + 13)), (1, .ref (B + k0)), (2, .int v2), (3, .int v3)] → WM p l e 3 s m args below meth c H locs G layX B (some (.int r)) σr (F0 m 8 ls [])) (v2 : Int32) (v3 : Int32) (s0 : Int64) (s1 : Int32) (s2 : Nat) (hs2 : (s2 < layX.2.2 ∧ layX.1 s2 = .inr (.long, 8))) (σ : Sto) (hf : b_X5_readsClause_147 c8 k0 v2 v3 s0 s1 s2 σ = some (r, σr)) (H : Heap) (locs : List Loc) (hH : HX G layX B σ H) (hS : va_S (inW layX B) s.heap H locs) (ls : Array Slot) (hl : lv_has ls 6 [(0, .ref (B + 13)), (1, .ref (B + k0)), (2, .int v2), (3, .int v3)]) : WM p l e 3 s m args below meth c H locs G layX B (some (.int r)) σr (F0 m 147 ls [.long s0, .int s1, .ref (B + s2)]) := by
  unfold b_X5_readsClause_147 at hf
  have hx := X.1.1
  have hb := X.1.2.1
  obtain ⟨q524, hf⟩ := chk hf
  refine g_last (j := s1.toNatClampNeg) X.1 hH hS hs2 q524 rfl dX5_readsClause_147 (fun H locs hH hS => ?_)
  obtain ⟨σ525, eσ525, hH⟩ := nmX hH
  replace hf := nmU hf eσ525
  refine lv_iinc (v := (v3 + (1 : Int32))) (lv' := [(3, .int (v3 + (1 : Int32))), (0, .ref (B + 13)), (1, .ref (B + k0)), (2, .int v2)]) hx hb dX5_readsClause_148 hl (k := 3) rfl rfl (by decide) rfl (fun ls hl => ?_)
  refine lv_goto (tgt := 8) hx hb dX5_readsClause_151 (by decide) ?_
  exact ih8 v2 (v3 + (1 : Int32)) σ525 _ _ _ hf hH hS (lv_sub hl [1, 2, 3, 0] rfl)
def b_X5_readsClause_53 (c8 : Int32 → Int32 → Sto → Option (Int32 × Sto)) (k0 : Nat) (v2 : Int32) (v3 : Int32) (v4 : Int32) (σ : Sto) : Option (Int32 × Sto) :=
  nmS (pI σ 13 6 ((σ.1 13 6) + (1 : Int32))) fun σ308 => bd2 (f_X5_takesNumber (0 : Int32) (7 : Int32) v2 σ308) fun r310 σ309 => if r310 = 0 then (some ((0 : Int32), σ309)) else (nmS (σ309.1 13 8) fun y312 => nmS (v2 ||| ((1 : Int32) <<< (y312 &&& 31))) fun y313 => bd2 (f_X5_takes (44 : Int32) σ309) fun r315 σ314 => if r315 = 0 then (b_X5_readsClause_118 k0 σ314) else (bd2 (f_X5_takesNumber (1 : Int32) (99 : Int32) (0 : Int32) σ314) fun r418 σ417 => if r418 = 0 then (b_X5_readsClause_118 k0 σ417) else (bd2 (f_X5_takes (59 : Int32) σ417) fun r421 σ420 => if r421 = 0 then (b_X5_readsClause_118 k0 σ420) else (if v4 = (112 : Int32) then (b_X5_readsClause_147 c8 k0 y313 v3 ((σ420.1 13 8).toInt64) y312 (k0 + 1) σ420) else (b_X5_readsClause_147 c8 k0 y313 v3 ((-(σ420.1 13 8)).toInt64) y312 (k0 + 1) σ420)))))
set_option maxHeartbeats 4000000 in
set_option maxRecDepth 100000 in
theorem w_X5_readsClause_53 {p : Program} {l : Launch} {e : Env} {s : State} {m : MethodId} {args : Array Value} {below : List Frame} {meth : Method} {c : Code} {G : Gd} {B : Nat} (X : Cm p s m args meth c cX5_readsClause 6 RX5 G (some .boolean)) (c8 : Int32 → Int32 → Sto → Option (Int32 × Sto)) (k0 : Nat) (h0 : (k0 < layX.2.2 ∧ layX.1 k0 = .inl 3)) {r : Int32} {σr : Sto} (ih8 : ∀ (v2 : Int32) (v3 : Int32) (σ : Sto) (H : Heap) (locs : List Loc) (ls : Array Slot), c8 v2 v3 σ = some (r, σr) → HX G layX B σ H → va_S (inW layX B) s.heap H locs → lv_has ls 6 [(0, .ref (B + 13)), (1, .ref (B + k0)), (2, .int v2), (3, .int v3)] → WM p l e 3 s m args below meth c H locs G layX B (some (.int r)) σr (F0 m 8 ls [])) (v2 : Int32) (v3 : Int32) (v4 : Int32) (σ : Sto) (hf : b_X5_readsClause_53 c8 k0 v2 v3 v4 σ = some (r, σr)) (H : Heap) (locs : List Loc) (hH : HX G layX B σ H) (hS : va_S (inW layX B) s.heap H locs) (ls : Array Slot) (hl : lv_has ls 6 [(0, .ref (B + 13)), (1, .ref (B + k0)), (2, .int v2), (3, .int v3), (4, .int v4)]) : WM p l e 3 s m args below meth c H locs G layX B (some (.int r)) σr (F0 m 53 ls []) := by
  unfold b_X5_readsClause_53 at hf
  have hx := X.1.1
  have hb := X.1.2.1
  refine lv_aload_n hx hb dX5_readsClause_53 rfl (lv_at hl 0 rfl) ?_
  refine lv_dup hx hb dX5_readsClause_54 rfl ?_
  refine g_get (v := .int (σ.1 13 6)) kX5 (by decide) fl_RX5_34 X.1 hH kx_13 rfl dX5_readsClause_55 ?_
  refine lv_iconst (v := 1) hx hb dX5_readsClause_58 (by decide) ?_
  refine lv_iadd hx hb dX5_readsClause_59 ?_
  refine g_putI kX5 (by decide) fl_RX5_34 rfl rfl X.1 hH hS kx_13 dX5_readsClause_60 (fun H locs hH hS => ?_)
  obtain ⟨σ308, eσ308, hH⟩ := nmX hH
  replace hf := nmU hf eσ308
  refine lv_aload_n hx hb dX5_readsClause_63 rfl (lv_at hl 0 rfl) ?_
  refine lv_iconst (v := 0) hx hb dX5_readsClause_64 (by decide) ?_
  refine lv_bipush (v := 7) hx hb dX5_readsClause_65 (by decide) ?_
  refine lv_iload_n hx hb dX5_readsClause_67 rfl (lv_at hl 2 rfl) ?_
  obtain ⟨r310, σ309, eσ309, hf⟩ := bnd2 hf
  refine g_cVi (As := [.int (0 : Int32), .int (7 : Int32), .int v2]) X.1 hH hS (c_X5_takesNumber l G B (0 : Int32) (7 : Int32) v2 σ308 σ309 r310 eσ309) kw_RX5_74 kX5 kx_13 (by decide) rfl hl (Nat.le_of_ble_eq_true rfl) rfl dX5_readsClause_68 (fun H locs hH hS => ?_)
  refine lv_if_ne (tgt := 76) hx hb dX5_readsClause_71 (by decide) (fun q311 => ?_) (fun q311 => ?_)
  · replace hf := brF hf q311
    refine lv_aload_n hx hb dX5_readsClause_76 rfl (lv_at hl 0 rfl) ?_
    refine g_get (v := .int (σ309.1 13 8)) kX5 (by decide) fl_RX5_78 X.1 hH kx_13 rfl dX5_readsClause_77 ?_
    refine lv_topi (fun y312 ey312 => ?_)
    replace hf := nmU hf ey312
    refine lv_istore (lv' := [(5, .int y312), (0, .ref (B + 13)), (1, .ref (B + k0)), (2, .int v2), (3, .int v3), (4, .int v4)]) hx hb dX5_readsClause_80 hl (by decide) rfl (fun ls hl => ?_)
    refine lv_iload_n hx hb dX5_readsClause_82 rfl (lv_at hl 3 rfl) ?_
    refine lv_iconst (v := 1) hx hb dX5_readsClause_83 (by decide) ?_
    refine lv_iload hx hb dX5_readsClause_84 (lv_at hl 0 rfl) ?_
    refine lv_ishl hx hb dX5_readsClause_86 ?_
    refine lv_ior hx hb dX5_readsClause_87 ?_
    refine lv_topi (fun y313 ey313 => ?_)
    replace hf := nmU hf ey313
    refine lv_istore_n (lv' := [(2, .int y313), (5, .int y312), (0, .ref (B + 13)), (1, .ref (B + k0)), (3, .int v3), (4, .int v4)]) hx hb dX5_readsClause_88 rfl hl (by decide) rfl (fun ls hl => ?_)
    refine lv_aload_n hx hb dX5_readsClause_89 rfl (lv_at hl 2 rfl) ?_
    refine lv_bipush (v := 44) hx hb dX5_readsClause_90 (by decide) ?_
    obtain ⟨r315, σ314, eσ314, hf⟩ := bnd2 hf
    refine g_cVi (As := [.int (44 : Int32)]) X.1 hH hS (c_X5_takes l G B (44 : Int32) σ309 σ314 r315 eσ314) kw_RX5_81 kX5 kx_13 (by decide) rfl hl (Nat.le_of_ble_eq_true rfl) rfl dX5_readsClause_92 (fun H locs hH hS => ?_)
    refine lv_if_eq (tgt := 118) hx hb dX5_readsClause_95 (by decide) (fun q316 => ?_) (fun q316 => ?_)
    · replace hf := brT hf q316
      exact w_X5_readsClause_118 X k0 h0 σ314 hf _ _ hH hS _ (lv_sub hl [] rfl)
    · replace hf := brF hf q316
      refine lv_aload_n hx hb dX5_readsClause_98 rfl (lv_at hl 2 rfl) ?_
      refine lv_iconst (v := 1) hx hb dX5_readsClause_99 (by decide) ?_
      refine lv_bipush (v := 99) hx hb dX5_readsClause_100 (by decide) ?_
      refine lv_iconst (v := 0) hx hb dX5_readsClause_102 (by decide) ?_
      obtain ⟨r418, σ417, eσ417, hf⟩ := bnd2 hf
      refine g_cVi (As := [.int (1 : Int32), .int (99 : Int32), .int (0 : Int32)]) X.1 hH hS (c_X5_takesNumber l G B (1 : Int32) (99 : Int32) (0 : Int32) σ314 σ417 r418 eσ417) kw_RX5_74 kX5 kx_13 (by decide) rfl hl (Nat.le_of_ble_eq_true rfl) rfl dX5_readsClause_103 (fun H locs hH hS => ?_)
      refine lv_if_eq (tgt := 118) hx hb dX5_readsClause_106 (by decide) (fun q419 => ?_) (fun q419 => ?_)
      · replace hf := brT hf q419
        exact w_X5_readsClause_118 X k0 h0 σ417 hf _ _ hH hS _ (lv_sub hl [] rfl)
      · replace hf := brF hf q419
        refine lv_aload_n hx hb dX5_readsClause_109 rfl (lv_at hl 2 rfl) ?_
        refine lv_bipush (v := 59) hx hb dX5_readsClause_110 (by decide) ?_
        obtain ⟨r421, σ420, eσ420, hf⟩ := bnd2 hf
        refine g_cVi (As := [.int (59 : Int32)]) X.1 hH hS (c_X5_takes l G B (59 : Int32) σ417 σ420 r421 eσ420) kw_RX5_81 kX5 kx_13 (by decide) rfl hl (Nat.le_of_ble_eq_true rfl) rfl dX5_readsClause_112 (fun H locs hH hS => ?_)
        refine lv_if_ne (tgt := 120) hx hb dX5_readsClause_115 (by decide) (fun q422 => ?_) (fun q422 => ?_)
        · replace hf := brF hf q422
          refine lv_aload_n hx hb dX5_readsClause_120 rfl (lv_at hl 3 rfl) ?_
          refine g_get (v := .ref (B + (k0 + 1))) kX3 (by decide) fl_RX5_84 X.1 hH h0 (cRef h0) dX5_readsClause_121 ?_
          refine lv_iload hx hb dX5_readsClause_124 (lv_at hl 1 rfl) ?_
          refine lv_iload hx hb dX5_readsClause_126 (lv_at hl 5 rfl) ?_
          refine lv_bipush (v := 112) hx hb dX5_readsClause_128 (by decide) ?_
          refine lv_icmp_ne (tgt := 141) hx hb dX5_readsClause_130 (by decide) (fun q423 => ?_) (fun q423 => ?_)
          · replace hf := brF hf q423
            refine lv_aload_n hx hb dX5_readsClause_141 rfl (lv_at hl 2 rfl) ?_
            refine g_get (v := .int (σ420.1 13 8)) kX5 (by decide) fl_RX5_78 X.1 hH kx_13 rfl dX5_readsClause_142 ?_
            refine lv_ineg hx hb dX5_readsClause_145 ?_
            refine lv_i2l hx hb dX5_readsClause_146 rfl ?_
            exact w_X5_readsClause_147 X c8 k0 h0 ih8 y313 v3 ((-(σ420.1 13 8)).toInt64) y312 (k0 + 1) (cArr h0) σ420 hf _ _ hH hS _ (lv_sub hl [2, 3, 0, 4] rfl)
          · replace hf := brT hf q423
            refine lv_aload_n hx hb dX5_readsClause_133 rfl (lv_at hl 2 rfl) ?_
            refine g_get (v := .int (σ420.1 13 8)) kX5 (by decide) fl_RX5_78 X.1 hH kx_13 rfl dX5_readsClause_134 ?_
            refine lv_i2l hx hb dX5_readsClause_137 rfl ?_
            refine lv_goto (tgt := 147) hx hb dX5_readsClause_138 (by decide) ?_
            exact w_X5_readsClause_147 X c8 k0 h0 ih8 y313 v3 ((σ420.1 13 8).toInt64) y312 (k0 + 1) (cArr h0) σ420 hf _ _ hH hS _ (lv_sub hl [2, 3, 0, 4] rfl)
        · replace hf := brT hf q422
          exact w_X5_readsClause_118 X k0 h0 σ420 hf _ _ hH hS _ (lv_sub hl [] rfl)
  · replace hf := brT hf q311
    refine lv_iconst (v := 0) hx hb dX5_readsClause_74 (by decide) ?_
    obtain ⟨rfl, rfl⟩ := rt2 hf
    exact g_zret X hH hS (by decide) dX5_readsClause_75
def b_X5_readsClause_8 (c8 : Int32 → Int32 → Sto → Option (Int32 × Sto)) (k0 : Nat) (v2 : Int32) (v3 : Int32) (σ : Sto) : Option (Int32 × Sto) :=
  if (8 : Int32) < v3 then (some ((0 : Int32), σ)) else (bd2 (f_X5_letter σ) fun r205 σ204 => if r205 = (103 : Int32) then (bd2 (f_X5_readsDegree k0 σ204) fun r531 σ530 => if ¬ (r531 = 0 ∨ r531 = 1) then none else some (r531, σ530)) else (if r205 = (112 : Int32) then (b_X5_readsClause_53 c8 k0 v2 v3 r205 σ204) else (if r205 = (110 : Int32) then (b_X5_readsClause_53 c8 k0 v2 v3 r205 σ204) else (bd2 (f_X5_faulty (1 : Int32) σ204) fun r528 σ527 => if ¬ (r528 = 0 ∨ r528 = 1) then none else some (r528, σ527)))))
set_option maxHeartbeats 4000000 in
set_option maxRecDepth 100000 in
theorem w_X5_readsClause_8 {p : Program} {l : Launch} {e : Env} {s : State} {m : MethodId} {args : Array Value} {below : List Frame} {meth : Method} {c : Code} {G : Gd} {B : Nat} (X : Cm p s m args meth c cX5_readsClause 6 RX5 G (some .boolean)) (c8 : Int32 → Int32 → Sto → Option (Int32 × Sto)) (k0 : Nat) (h0 : (k0 < layX.2.2 ∧ layX.1 k0 = .inl 3)) {r : Int32} {σr : Sto} (ih8 : ∀ (v2 : Int32) (v3 : Int32) (σ : Sto) (H : Heap) (locs : List Loc) (ls : Array Slot), c8 v2 v3 σ = some (r, σr) → HX G layX B σ H → va_S (inW layX B) s.heap H locs → lv_has ls 6 [(0, .ref (B + 13)), (1, .ref (B + k0)), (2, .int v2), (3, .int v3)] → WM p l e 3 s m args below meth c H locs G layX B (some (.int r)) σr (F0 m 8 ls [])) (v2 : Int32) (v3 : Int32) (σ : Sto) (hf : b_X5_readsClause_8 c8 k0 v2 v3 σ = some (r, σr)) (H : Heap) (locs : List Loc) (hH : HX G layX B σ H) (hS : va_S (inW layX B) s.heap H locs) (ls : Array Slot) (hl : lv_has ls 6 [(0, .ref (B + 13)), (1, .ref (B + k0)), (2, .int v2), (3, .int v3)]) : WM p l e 3 s m args below meth c H locs G layX B (some (.int r)) σr (F0 m 8 ls []) := by
  unfold b_X5_readsClause_8 at hf
  have hx := X.1.1
  have hb := X.1.2.1
  refine lv_iload_n hx hb dX5_readsClause_8 rfl (lv_at hl 3 rfl) ?_
  refine lv_bipush (v := 8) hx hb dX5_readsClause_9 (by decide) ?_
  refine lv_icmp_gt (tgt := 154) hx hb dX5_readsClause_11 (by decide) (fun q203 => ?_) (fun q203 => ?_)
  · replace hf := brT hf q203
    refine lv_iconst (v := 0) hx hb dX5_readsClause_154 (by decide) ?_
    obtain ⟨rfl, rfl⟩ := rt2 hf
    exact g_zret X hH hS (by decide) dX5_readsClause_155
  · replace hf := brF hf q203
    refine lv_aload_n hx hb dX5_readsClause_14 rfl (lv_at hl 0 rfl) ?_
    obtain ⟨r205, σ204, eσ204, hf⟩ := bnd2 hf
    refine g_cVi (As := []) X.1 hH hS (c_X5_letter l G B σ σ204 r205 eσ204) kw_RX5_60 kX5 kx_13 (by decide) rfl hl (Nat.le_of_ble_eq_true rfl) rfl dX5_readsClause_15 (fun H locs hH hS => ?_)
    refine lv_istore (lv' := [(4, .int r205), (0, .ref (B + 13)), (1, .ref (B + k0)), (2, .int v2), (3, .int v3)]) hx hb dX5_readsClause_18 hl (by decide) rfl (fun ls hl => ?_)
    refine lv_iload hx hb dX5_readsClause_20 (lv_at hl 0 rfl) ?_
    refine lv_bipush (v := 103) hx hb dX5_readsClause_22 (by decide) ?_
    refine lv_icmp_ne (tgt := 33) hx hb dX5_readsClause_24 (by decide) (fun q206 => ?_) (fun q206 => ?_)
    · replace hf := brF hf q206
      refine lv_iload hx hb dX5_readsClause_33 (lv_at hl 0 rfl) ?_
      refine lv_bipush (v := 112) hx hb dX5_readsClause_35 (by decide) ?_
      refine lv_icmp_eq (tgt := 53) hx hb dX5_readsClause_37 (by decide) (fun q207 => ?_) (fun q207 => ?_)
      · replace hf := brT hf q207
        exact w_X5_readsClause_53 X c8 k0 h0 ih8 v2 v3 r205 σ204 hf _ _ hH hS _ (lv_sub hl [1, 2, 3, 4, 0] rfl)
      · replace hf := brF hf q207
        refine lv_iload hx hb dX5_readsClause_40 (lv_at hl 0 rfl) ?_
        refine lv_bipush (v := 110) hx hb dX5_readsClause_42 (by decide) ?_
        refine lv_icmp_eq (tgt := 53) hx hb dX5_readsClause_44 (by decide) (fun q526 => ?_) (fun q526 => ?_)
        · replace hf := brT hf q526
          exact w_X5_readsClause_53 X c8 k0 h0 ih8 v2 v3 r205 σ204 hf _ _ hH hS _ (lv_sub hl [1, 2, 3, 4, 0] rfl)
        · replace hf := brF hf q526
          refine lv_aload_n hx hb dX5_readsClause_47 rfl (lv_at hl 1 rfl) ?_
          refine lv_iconst (v := 1) hx hb dX5_readsClause_48 (by decide) ?_
          obtain ⟨r528, σ527, eσ527, hf⟩ := bnd2 hf
          refine g_cVi (As := [.int (1 : Int32)]) X.1 hH hS (c_X5_faulty l G B (1 : Int32) σ204 σ527 r528 eσ527) kw_RX5_64 kX5 kx_13 (by decide) rfl hl (Nat.le_of_ble_eq_true rfl) rfl dX5_readsClause_49 (fun H locs hH hS => ?_)
          obtain ⟨q529, hf⟩ := chk hf
          obtain ⟨rfl, rfl⟩ := rt2 hf
          exact g_zret X hH hS (Decidable.not_not.mp q529) dX5_readsClause_52
    · replace hf := brT hf q206
      refine lv_aload_n hx hb dX5_readsClause_27 rfl (lv_at hl 1 rfl) ?_
      refine lv_aload_n hx hb dX5_readsClause_28 rfl (lv_at hl 2 rfl) ?_
      obtain ⟨r531, σ530, eσ530, hf⟩ := bnd2 hf
      refine g_cVi (As := [.ref (B + k0)]) X.1 hH hS (c_X5_readsDegree l G B k0 h0 σ204 σ530 r531 eσ530) kw_RX5_71 kX5 kx_13 (by decide) rfl hl (Nat.le_of_ble_eq_true rfl) rfl dX5_readsClause_29 (fun H locs hH hS => ?_)
      obtain ⟨q532, hf⟩ := chk hf
      obtain ⟨rfl, rfl⟩ := rt2 hf
      exact g_zret X hH hS (Decidable.not_not.mp q532) dX5_readsClause_32
def l_X5_readsClause_8 (k0 : Nat) : Nat → Int32 → Int32 → Sto → Option (Int32 × Sto)
  | 0, _, _, _ => none
  | n + 1, v2, v3, σ => b_X5_readsClause_8 (l_X5_readsClause_8 k0 n) k0 v2 v3 σ
set_option maxHeartbeats 4000000 in
set_option maxRecDepth 100000 in
theorem wl_X5_readsClause_8 {p : Program} {l : Launch} {e : Env} {s : State} {m : MethodId} {args : Array Value} {below : List Frame} {meth : Method} {c : Code} {G : Gd} {B : Nat} (X : Cm p s m args meth c cX5_readsClause 6 RX5 G (some .boolean)) (k0 : Nat) (h0 : (k0 < layX.2.2 ∧ layX.1 k0 = .inl 3)) {r : Int32} {σr : Sto} (n : Nat) : ∀ (v2 : Int32) (v3 : Int32) (σ : Sto) (H : Heap) (locs : List Loc) (ls : Array Slot), l_X5_readsClause_8 k0 n v2 v3 σ = some (r, σr) → HX G layX B σ H → va_S (inW layX B) s.heap H locs → lv_has ls 6 [(0, .ref (B + 13)), (1, .ref (B + k0)), (2, .int v2), (3, .int v3)] → WM p l e 3 s m args below meth c H locs G layX B (some (.int r)) σr (F0 m 8 ls []) := by
  induction n with
  | zero =>
    intro _ _ σ H locs ls hf
    cases hf
  | succ n ih =>
    intro v2 v3 σ H locs ls hf hH hS hl
    exact w_X5_readsClause_8 X (l_X5_readsClause_8 k0 n) k0 h0 ih v2 v3 σ hf H locs hH hS ls hl
def f_X5_readsClause (k0 : Nat) (σ : Sto) : Option (Int32 × Sto) :=
  bd1 (f_X3_clear k0 σ) fun σ101 => l_X5_readsClause_8 k0 400 (0 : Int32) (0 : Int32) σ101
set_option maxHeartbeats 4000000 in
set_option maxRecDepth 100000 in
theorem w_X5_readsClause {p : Program} {l : Launch} {e : Env} {s : State} {m : MethodId} {args : Array Value} {below : List Frame} {meth : Method} {c : Code} {G : Gd} {B : Nat} (X : Cm p s m args meth c cX5_readsClause 6 RX5 G (some .boolean)) (k0 : Nat) (h0 : (k0 < layX.2.2 ∧ layX.1 k0 = .inl 3)) {r : Int32} {σr : Sto} (σ : Sto) (hf : f_X5_readsClause k0 σ = some (r, σr)) (H : Heap) (locs : List Loc) (hH : HX G layX B σ H) (hS : va_S (inW layX B) s.heap H locs) (ls : Array Slot) (hl : lv_has ls 6 [(0, .ref (B + 13)), (1, .ref (B + k0))]) : WM p l e 3 s m args below meth c H locs G layX B (some (.int r)) σr (F0 m 0 ls []) := by
  unfold f_X5_readsClause at hf
  have hx := X.1.1
  have hb := X.1.2.1
  refine lv_aload_n hx hb dX5_readsClause_0 rfl (lv_at hl 1 rfl) ?_
  obtain ⟨σ101, eσ101, hf⟩ := bnd1 hf
  refine g_cVv (As := []) X.1 hH hS (c_X3_clear l G B k0 h0 σ σ101 eσ101) kw_RX5_68 kX3 h0 (by decide) rfl hl (Nat.le_of_ble_eq_true rfl) rfl dX5_readsClause_1 (fun H locs hH hS => ?_)
  refine lv_iconst (v := 0) hx hb dX5_readsClause_4 (by decide) ?_
  refine lv_istore_n (lv' := [(2, .int (0 : Int32)), (0, .ref (B + 13)), (1, .ref (B + k0))]) hx hb dX5_readsClause_5 rfl hl (by decide) rfl (fun ls hl => ?_)
  refine lv_iconst (v := 0) hx hb dX5_readsClause_6 (by decide) ?_
  refine lv_istore_n (lv' := [(3, .int (0 : Int32)), (2, .int (0 : Int32)), (0, .ref (B + 13)), (1, .ref (B + k0))]) hx hb dX5_readsClause_7 rfl hl (by decide) rfl (fun ls hl => ?_)
  exact wl_X5_readsClause_8 X k0 h0 400 (0 : Int32) (0 : Int32) σ101 _ _ _ hf hH hS (lv_sub hl [2, 3, 1, 0] rfl)
theorem c_X5_readsClause (l : Launch) (G : Gd) (B : Nat) (k0 : Nat) (h0 : (k0 < layX.2.2 ∧ layX.1 k0 = .inl 3)) (σ σr : Sto) (r : Int32) (hf : f_X5_readsClause k0 σ = some (r, σr)) : Ct l G layX B yX5_readsClause cX5_readsClause 6 (some .boolean) 3 [.ref (B + 13), .ref (B + k0)] (some (.int r)) σ σr :=
  Ct.ofW (by decide) (Nat.le_of_ble_eq_true rfl) (fun _ _ _ _ _ _ _ X hH hS ls hl => w_X5_readsClause X k0 h0 σ hf _ _ hH hS ls (show lv_has ls 6 [(0, .ref (B + 13)), (1, .ref (B + k0))] from hl))
-- SlackProofs$Reader.readsClaim()Z  (D 4)
def b_X5_readsClaim_38 (s0 : Int32) (σ : Sto) : Option (Int32 × Sto) :=
  if ¬ (s0 = 0 ∨ s0 = 1) then none else some (s0, σ)
set_option maxHeartbeats 4000000 in
set_option maxRecDepth 100000 in
theorem w_X5_readsClaim_38 {p : Program} {l : Launch} {e : Env} {s : State} {m : MethodId} {args : Array Value} {below : List Frame} {meth : Method} {c : Code} {G : Gd} {B : Nat} (X : Cm p s m args meth c cX5_readsClaim 1 RX5 G (some .boolean)) {r : Int32} {σr : Sto} (s0 : Int32) (σ : Sto) (hf : b_X5_readsClaim_38 s0 σ = some (r, σr)) (H : Heap) (locs : List Loc) (hH : HX G layX B σ H) (hS : va_S (inW layX B) s.heap H locs) (ls : Array Slot) (hl : lv_has ls 1 []) : WM p l e 4 s m args below meth c H locs G layX B (some (.int r)) σr (F0 m 38 ls [.int s0]) := by
  unfold b_X5_readsClaim_38 at hf
  have hx := X.1.1
  have hb := X.1.2.1
  obtain ⟨q306, hf⟩ := chk hf
  obtain ⟨rfl, rfl⟩ := rt2 hf
  exact g_zret X hH hS (Decidable.not_not.mp q306) dX5_readsClaim_38
def b_X5_readsClaim_37 (σ : Sto) : Option (Int32 × Sto) :=
  b_X5_readsClaim_38 (0 : Int32) σ
set_option maxHeartbeats 4000000 in
set_option maxRecDepth 100000 in
theorem w_X5_readsClaim_37 {p : Program} {l : Launch} {e : Env} {s : State} {m : MethodId} {args : Array Value} {below : List Frame} {meth : Method} {c : Code} {G : Gd} {B : Nat} (X : Cm p s m args meth c cX5_readsClaim 1 RX5 G (some .boolean)) {r : Int32} {σr : Sto} (σ : Sto) (hf : b_X5_readsClaim_37 σ = some (r, σr)) (H : Heap) (locs : List Loc) (hH : HX G layX B σ H) (hS : va_S (inW layX B) s.heap H locs) (ls : Array Slot) (hl : lv_has ls 1 []) : WM p l e 4 s m args below meth c H locs G layX B (some (.int r)) σr (F0 m 37 ls []) := by
  unfold b_X5_readsClaim_37 at hf
  have hx := X.1.1
  have hb := X.1.2.1
  refine lv_iconst (v := 0) hx hb dX5_readsClaim_37 (by decide) ?_
  exact w_X5_readsClaim_38 X (0 : Int32) σ hf _ _ hH hS _ (lv_sub hl [] rfl)
def b_X5_readsClaim_33 (σ : Sto) : Option (Int32 × Sto) :=
  b_X5_readsClaim_38 (1 : Int32) σ
set_option maxHeartbeats 4000000 in
set_option maxRecDepth 100000 in
theorem w_X5_readsClaim_33 {p : Program} {l : Launch} {e : Env} {s : State} {m : MethodId} {args : Array Value} {below : List Frame} {meth : Method} {c : Code} {G : Gd} {B : Nat} (X : Cm p s m args meth c cX5_readsClaim 1 RX5 G (some .boolean)) {r : Int32} {σr : Sto} (σ : Sto) (hf : b_X5_readsClaim_33 σ = some (r, σr)) (H : Heap) (locs : List Loc) (hH : HX G layX B σ H) (hS : va_S (inW layX B) s.heap H locs) (ls : Array Slot) (hl : lv_has ls 1 []) : WM p l e 4 s m args below meth c H locs G layX B (some (.int r)) σr (F0 m 33 ls []) := by
  unfold b_X5_readsClaim_33 at hf
  have hx := X.1.1
  have hb := X.1.2.1
  refine lv_iconst (v := 1) hx hb dX5_readsClaim_33 (by decide) ?_
  refine lv_goto (tgt := 38) hx hb dX5_readsClaim_34 (by decide) ?_
  exact w_X5_readsClaim_38 X (1 : Int32) σ hf _ _ hH hS _ (lv_sub hl [] rfl)
def f_X5_readsClaim (σ : Sto) : Option (Int32 × Sto) :=
  bd1 (f_X5_begin σ) fun σ101 => bd2 (f_X5_readsClause (17 + 2 * 0) σ101) fun r104 σ103 => if r104 = 0 then (b_X5_readsClaim_37 σ103) else (bd2 (f_X5_letter σ103) fun r308 σ307 => if r308 = (-1 : Int32) then (b_X5_readsClaim_33 σ307) else (bd2 (f_X5_faulty (1 : Int32) σ307) fun r411 σ410 => if r411 = 0 then (b_X5_readsClaim_37 σ410) else (b_X5_readsClaim_33 σ410)))
set_option maxHeartbeats 4000000 in
set_option maxRecDepth 100000 in
theorem w_X5_readsClaim {p : Program} {l : Launch} {e : Env} {s : State} {m : MethodId} {args : Array Value} {below : List Frame} {meth : Method} {c : Code} {G : Gd} {B : Nat} (X : Cm p s m args meth c cX5_readsClaim 1 RX5 G (some .boolean)) {r : Int32} {σr : Sto} (σ : Sto) (hf : f_X5_readsClaim σ = some (r, σr)) (H : Heap) (locs : List Loc) (hH : HX G layX B σ H) (hS : va_S (inW layX B) s.heap H locs) (ls : Array Slot) (hl : lv_has ls 1 [(0, .ref (B + 13))]) : WM p l e 4 s m args below meth c H locs G layX B (some (.int r)) σr (F0 m 0 ls []) := by
  unfold f_X5_readsClaim at hf
  have hx := X.1.1
  have hb := X.1.2.1
  refine lv_aload_n hx hb dX5_readsClaim_0 rfl (lv_at hl 0 rfl) ?_
  obtain ⟨σ101, eσ101, hf⟩ := bnd1 hf
  refine g_cVv (As := []) X.1 hH hS (c_X5_begin l G B σ σ101 eσ101) kw_RX5_46 kX5 kx_13 (by decide) rfl hl (Nat.le_of_ble_eq_true rfl) rfl dX5_readsClaim_1 (fun H locs hH hS => ?_)
  refine lv_aload_n hx hb dX5_readsClaim_4 rfl (lv_at hl 0 rfl) ?_
  refine lv_aload_n hx hb dX5_readsClaim_5 rfl (lv_at hl 0 rfl) ?_
  refine g_get (v := .ref (B + 15)) kX5 (by decide) fl_RX5_17 X.1 hH kx_13 rfl dX5_readsClaim_6 ?_
  refine lv_iconst (v := 0) hx hb dX5_readsClaim_9 (by decide) ?_
  refine g_aald (b := (17 + 2 * 0)) X.1 hH kx_15 (by decide) (show ¬ ((0 : Int32) < 0 ∨ 8 ≤ 0) by decide) rfl dX5_readsClaim_10 ?_
  obtain ⟨r104, σ103, eσ103, hf⟩ := bnd2 hf
  refine g_cVi (As := [.ref (B + (17 + 2 * 0))]) X.1 hH hS (c_X5_readsClause l G B (17 + 2 * 0) (kRd (show ¬ ((0 : Int32) < 0 ∨ 8 ≤ 0) by decide)) σ101 σ103 r104 eσ103) kw_RX5_56 kX5 kx_13 (by decide) rfl hl (Nat.le_of_ble_eq_true rfl) rfl dX5_readsClaim_11 (fun H locs hH hS => ?_)
  refine lv_if_eq (tgt := 37) hx hb dX5_readsClaim_14 (by decide) (fun q105 => ?_) (fun q105 => ?_)
  · replace hf := brT hf q105
    exact w_X5_readsClaim_37 X σ103 hf _ _ hH hS _ (lv_sub hl [] rfl)
  · replace hf := brF hf q105
    refine lv_aload_n hx hb dX5_readsClaim_17 rfl (lv_at hl 0 rfl) ?_
    obtain ⟨r308, σ307, eσ307, hf⟩ := bnd2 hf
    refine g_cVi (As := []) X.1 hH hS (c_X5_letter l G B σ103 σ307 r308 eσ307) kw_RX5_60 kX5 kx_13 (by decide) rfl hl (Nat.le_of_ble_eq_true rfl) rfl dX5_readsClaim_18 (fun H locs hH hS => ?_)
    refine lv_iconst (v := -1) hx hb dX5_readsClaim_21 (by decide) ?_
    refine lv_icmp_eq (tgt := 33) hx hb dX5_readsClaim_22 (by decide) (fun q309 => ?_) (fun q309 => ?_)
    · replace hf := brT hf q309
      exact w_X5_readsClaim_33 X σ307 hf _ _ hH hS _ (lv_sub hl [] rfl)
    · replace hf := brF hf q309
      refine lv_aload_n hx hb dX5_readsClaim_25 rfl (lv_at hl 0 rfl) ?_
      refine lv_iconst (v := 1) hx hb dX5_readsClaim_26 (by decide) ?_
      obtain ⟨r411, σ410, eσ410, hf⟩ := bnd2 hf
      refine g_cVi (As := [.int (1 : Int32)]) X.1 hH hS (c_X5_faulty l G B (1 : Int32) σ307 σ410 r411 eσ410) kw_RX5_64 kX5 kx_13 (by decide) rfl hl (Nat.le_of_ble_eq_true rfl) rfl dX5_readsClaim_27 (fun H locs hH hS => ?_)
      refine lv_if_eq (tgt := 37) hx hb dX5_readsClaim_30 (by decide) (fun q412 => ?_) (fun q412 => ?_)
      · replace hf := brT hf q412
        exact w_X5_readsClaim_37 X σ410 hf _ _ hH hS _ (lv_sub hl [] rfl)
      · replace hf := brF hf q412
        exact w_X5_readsClaim_33 X σ410 hf _ _ hH hS _ (lv_sub hl [] rfl)
theorem c_X5_readsClaim (l : Launch) (G : Gd) (B : Nat) (σ σr : Sto) (r : Int32) (hf : f_X5_readsClaim σ = some (r, σr)) : Ct l G layX B yX5_readsClaim cX5_readsClaim 1 (some .boolean) 4 [.ref (B + 13)] (some (.int r)) σ σr :=
  Ct.ofW (by decide) (Nat.le_of_ble_eq_true rfl) (fun _ _ _ _ _ _ _ X hH hS ls hl => w_X5_readsClaim X σ hf _ _ hH hS ls (show lv_has ls 1 [(0, .ref (B + 13))] from hl))
-- SlackProofs$Reader.readsClauses()Z  (D 4)
def b_X5_readsClauses_73 (c2 : Int32 → Sto → Option (Int32 × Sto)) (v1 : Int32) (σ : Sto) : Option (Int32 × Sto) :=
  if ((σ.1 13 5) < 0 ∨ 8 ≤ (σ.1 13 5).toNatClampNeg) then none else bd2 (f_X5_readsClause (17 + 2 * (σ.1 13 5).toNatClampNeg) σ) fun r609 σ608 => if r609 = 0 then (some ((0 : Int32), σ608)) else (nmS (pI σ608 13 5 ((σ608.1 13 5) + (1 : Int32))) fun σ611 => c2 (v1 + (1 : Int32)) σ611)
set_option maxHeartbeats 4000000 in
set_option maxRecDepth 100000 in
theorem w_X5_readsClauses_73 {p : Program} {l : Launch} {e : Env} {s : State} {m : MethodId} {args : Array Value} {below : List Frame} {meth : Method} {c : Code} {G : Gd} {B : Nat} (X : Cm p s m args meth c cX5_readsClauses 3 RX5 G (some .boolean)) (c2 : Int32 → Sto → Option (Int32 × Sto)) {r : Int32} {σr : Sto} (ih2 : ∀ (v1 : Int32) (σ : Sto) (H : Heap) (locs : List Loc) (ls : Array Slot), c2 v1 σ = some (r, σr) → HX G layX B σ H → va_S (inW layX B) s.heap H locs → lv_has ls 3 [(0, .ref (B + 13)), (1, .int v1)] → WM p l e 4 s m args below meth c H locs G layX B (some (.int r)) σr (F0 m 2 ls [])) (v1 : Int32) (σ : Sto) (hf : b_X5_readsClauses_73 c2 v1 σ = some (r, σr)) (H : Heap) (locs : List Loc) (hH : HX G layX B σ H) (hS : va_S (inW layX B) s.heap H locs) (ls : Array Slot) (hl : lv_has ls 3 [(0, .ref (B + 13)), (1, .int v1)]) : WM p l e 4 s m args below meth c H locs G layX B (some (.int r)) σr (F0 m 73 ls []) := by
  unfold b_X5_readsClauses_73 at hf
  have hx := X.1.1
  have hb := X.1.2.1
  refine lv_aload_n hx hb dX5_readsClauses_73 rfl (lv_at hl 0 rfl) ?_
  refine lv_aload_n hx hb dX5_readsClauses_74 rfl (lv_at hl 0 rfl) ?_
  refine g_get (v := .ref (B + 15)) kX5 (by decide) fl_RX5_17 X.1 hH kx_13 rfl dX5_readsClauses_75 ?_
  refine lv_aload_n hx hb dX5_readsClauses_78 rfl (lv_at hl 0 rfl) ?_
  refine g_get (v := .int (σ.1 13 5)) kX5 (by decide) fl_RX5_37 X.1 hH kx_13 rfl dX5_readsClauses_79 ?_
  obtain ⟨q607, hf⟩ := chk hf
  refine g_aald (b := (17 + 2 * (σ.1 13 5).toNatClampNeg)) X.1 hH kx_15 (by decide) q607 rfl dX5_readsClauses_82 ?_
  obtain ⟨r609, σ608, eσ608, hf⟩ := bnd2 hf
  refine g_cVi (As := [.ref (B + (17 + 2 * (σ.1 13 5).toNatClampNeg))]) X.1 hH hS (c_X5_readsClause l G B (17 + 2 * (σ.1 13 5).toNatClampNeg) (kRd q607) σ σ608 r609 eσ608) kw_RX5_56 kX5 kx_13 (by decide) rfl hl (Nat.le_of_ble_eq_true rfl) rfl dX5_readsClauses_83 (fun H locs hH hS => ?_)
  refine lv_if_ne (tgt := 91) hx hb dX5_readsClauses_86 (by decide) (fun q610 => ?_) (fun q610 => ?_)
  · replace hf := brF hf q610
    refine lv_aload_n hx hb dX5_readsClauses_91 rfl (lv_at hl 0 rfl) ?_
    refine lv_dup hx hb dX5_readsClauses_92 rfl ?_
    refine g_get (v := .int (σ608.1 13 5)) kX5 (by decide) fl_RX5_37 X.1 hH kx_13 rfl dX5_readsClauses_93 ?_
    refine lv_iconst (v := 1) hx hb dX5_readsClauses_96 (by decide) ?_
    refine lv_iadd hx hb dX5_readsClauses_97 ?_
    refine g_putI kX5 (by decide) fl_RX5_37 rfl rfl X.1 hH hS kx_13 dX5_readsClauses_98 (fun H locs hH hS => ?_)
    obtain ⟨σ611, eσ611, hH⟩ := nmX hH
    replace hf := nmU hf eσ611
    refine lv_iinc (v := (v1 + (1 : Int32))) (lv' := [(1, .int (v1 + (1 : Int32))), (0, .ref (B + 13))]) hx hb dX5_readsClauses_101 hl (k := 1) rfl rfl (by decide) rfl (fun ls hl => ?_)
    refine lv_goto (tgt := 2) hx hb dX5_readsClauses_104 (by decide) ?_
    exact ih2 (v1 + (1 : Int32)) σ611 _ _ _ hf hH hS (lv_sub hl [1, 0] rfl)
  · replace hf := brT hf q610
    refine lv_iconst (v := 0) hx hb dX5_readsClauses_89 (by decide) ?_
    obtain ⟨rfl, rfl⟩ := rt2 hf
    exact g_zret X hH hS (by decide) dX5_readsClauses_90
def b_X5_readsClauses_54 (c2 : Int32 → Sto → Option (Int32 × Sto)) (v1 : Int32) (v2 : Int32) (σ : Sto) : Option (Int32 × Sto) :=
  if v2 = 0 then (b_X5_readsClauses_73 c2 v1 σ) else (if (σ.1 13 5) = (8 : Int32) then (bd2 (f_X5_faulty (3 : Int32) σ) fun r614 σ613 => if ¬ (r614 = 0 ∨ r614 = 1) then none else some (r614, σ613)) else (b_X5_readsClauses_73 c2 v1 σ))
set_option maxHeartbeats 4000000 in
set_option maxRecDepth 100000 in
theorem w_X5_readsClauses_54 {p : Program} {l : Launch} {e : Env} {s : State} {m : MethodId} {args : Array Value} {below : List Frame} {meth : Method} {c : Code} {G : Gd} {B : Nat} (X : Cm p s m args meth c cX5_readsClauses 3 RX5 G (some .boolean)) (c2 : Int32 → Sto → Option (Int32 × Sto)) {r : Int32} {σr : Sto} (ih2 : ∀ (v1 : Int32) (σ : Sto) (H : Heap) (locs : List Loc) (ls : Array Slot), c2 v1 σ = some (r, σr) → HX G layX B σ H → va_S (inW layX B) s.heap H locs → lv_has ls 3 [(0, .ref (B + 13)), (1, .int v1)] → WM p l e 4 s m args below meth c H locs G layX B (some (.int r)) σr (F0 m 2 ls [])) (v1 : Int32) (v2 : Int32) (σ : Sto) (hf : b_X5_readsClauses_54 c2 v1 v2 σ = some (r, σr)) (H : Heap) (locs : List Loc) (hH : HX G layX B σ H) (hS : va_S (inW layX B) s.heap H locs) (ls : Array Slot) (hl : lv_has ls 3 [(0, .ref (B + 13)), (1, .int v1), (2, .int v2)]) : WM p l e 4 s m args below meth c H locs G layX B (some (.int r)) σr (F0 m 54 ls []) := by
  unfold b_X5_readsClauses_54 at hf
  have hx := X.1.1
  have hb := X.1.2.1
  refine lv_iload_n hx hb dX5_readsClauses_54 rfl (lv_at hl 2 rfl) ?_
  refine lv_if_eq (tgt := 73) hx hb dX5_readsClauses_55 (by decide) (fun q506 => ?_) (fun q506 => ?_)
  · replace hf := brT hf q506
    exact w_X5_readsClauses_73 X c2 ih2 v1 σ hf _ _ hH hS _ (lv_sub hl [0, 1] rfl)
  · replace hf := brF hf q506
    refine lv_aload_n hx hb dX5_readsClauses_58 rfl (lv_at hl 0 rfl) ?_
    refine g_get (v := .int (σ.1 13 5)) kX5 (by decide) fl_RX5_37 X.1 hH kx_13 rfl dX5_readsClauses_59 ?_
    refine lv_bipush (v := 8) hx hb dX5_readsClauses_62 (by decide) ?_
    refine lv_icmp_ne (tgt := 73) hx hb dX5_readsClauses_64 (by decide) (fun q612 => ?_) (fun q612 => ?_)
    · replace hf := brF hf q612
      exact w_X5_readsClauses_73 X c2 ih2 v1 σ hf _ _ hH hS _ (lv_sub hl [0, 1] rfl)
    · replace hf := brT hf q612
      refine lv_aload_n hx hb dX5_readsClauses_67 rfl (lv_at hl 0 rfl) ?_
      refine lv_iconst (v := 3) hx hb dX5_readsClauses_68 (by decide) ?_
      obtain ⟨r614, σ613, eσ613, hf⟩ := bnd2 hf
      refine g_cVi (As := [.int (3 : Int32)]) X.1 hH hS (c_X5_faulty l G B (3 : Int32) σ σ613 r614 eσ613) kw_RX5_64 kX5 kx_13 (by decide) rfl hl (Nat.le_of_ble_eq_true rfl) rfl dX5_readsClauses_69 (fun H locs hH hS => ?_)
      obtain ⟨q615, hf⟩ := chk hf
      obtain ⟨rfl, rfl⟩ := rt2 hf
      exact g_zret X hH hS (Decidable.not_not.mp q615) dX5_readsClauses_72
def b_X5_readsClauses_40 (c2 : Int32 → Sto → Option (Int32 × Sto)) (v1 : Int32) (s0 : Int32) (σ : Sto) : Option (Int32 × Sto) :=
  if s0 = 0 then (if (σ.1 13 5) ≤ 0 then (b_X5_readsClauses_54 c2 v1 s0 σ) else (some ((1 : Int32), σ))) else (b_X5_readsClauses_54 c2 v1 s0 σ)
set_option maxHeartbeats 4000000 in
set_option maxRecDepth 100000 in
theorem w_X5_readsClauses_40 {p : Program} {l : Launch} {e : Env} {s : State} {m : MethodId} {args : Array Value} {below : List Frame} {meth : Method} {c : Code} {G : Gd} {B : Nat} (X : Cm p s m args meth c cX5_readsClauses 3 RX5 G (some .boolean)) (c2 : Int32 → Sto → Option (Int32 × Sto)) {r : Int32} {σr : Sto} (ih2 : ∀ (v1 : Int32) (σ : Sto) (H : Heap) (locs : List Loc) (ls : Array Slot), c2 v1 σ = some (r, σr) → HX G layX B σ H → va_S (inW layX B) s.heap H locs → lv_has ls 3 [(0, .ref (B + 13)), (1, .int v1)] → WM p l e 4 s m args below meth c H locs G layX B (some (.int r)) σr (F0 m 2 ls [])) (v1 : Int32) (s0 : Int32) (σ : Sto) (hf : b_X5_readsClauses_40 c2 v1 s0 σ = some (r, σr)) (H : Heap) (locs : List Loc) (hH : HX G layX B σ H) (hS : va_S (inW layX B) s.heap H locs) (ls : Array Slot) (hl : lv_has ls 3 [(0, .ref (B + 13)), (1, .int v1)]) : WM p l e 4 s m args below meth c H locs G layX B (some (.int r)) σr (F0 m 40 ls [.int s0]) := by
  unfold b_X5_readsClauses_40 at hf
  have hx := X.1.1
  have hb := X.1.2.1
  refine lv_istore_n (lv' := [(2, .int s0), (0, .ref (B + 13)), (1, .int v1)]) hx hb dX5_readsClauses_40 rfl hl (by decide) rfl (fun ls hl => ?_)
  refine lv_iload_n hx hb dX5_readsClauses_41 rfl (lv_at hl 0 rfl) ?_
  refine lv_if_ne (tgt := 54) hx hb dX5_readsClauses_42 (by decide) (fun q405 => ?_) (fun q405 => ?_)
  · replace hf := brF hf q405
    exact w_X5_readsClauses_54 X c2 ih2 v1 s0 σ hf _ _ hH hS _ (lv_sub hl [1, 2, 0] rfl)
  · replace hf := brT hf q405
    refine lv_aload_n hx hb dX5_readsClauses_45 rfl (lv_at hl 1 rfl) ?_
    refine g_get (v := .int (σ.1 13 5)) kX5 (by decide) fl_RX5_37 X.1 hH kx_13 rfl dX5_readsClauses_46 ?_
    refine lv_if_le (tgt := 54) hx hb dX5_readsClauses_49 (by decide) (fun q616 => ?_) (fun q616 => ?_)
    · replace hf := brT hf q616
      exact w_X5_readsClauses_54 X c2 ih2 v1 s0 σ hf _ _ hH hS _ (lv_sub hl [1, 2, 0] rfl)
    · replace hf := brF hf q616
      refine lv_iconst (v := 1) hx hb dX5_readsClauses_52 (by decide) ?_
      obtain ⟨rfl, rfl⟩ := rt2 hf
      exact g_zret X hH hS (by decide) dX5_readsClauses_53
def b_X5_readsClauses_35 (c2 : Int32 → Sto → Option (Int32 × Sto)) (v1 : Int32) (σ : Sto) : Option (Int32 × Sto) :=
  b_X5_readsClauses_40 c2 v1 (1 : Int32) σ
set_option maxHeartbeats 4000000 in
set_option maxRecDepth 100000 in
theorem w_X5_readsClauses_35 {p : Program} {l : Launch} {e : Env} {s : State} {m : MethodId} {args : Array Value} {below : List Frame} {meth : Method} {c : Code} {G : Gd} {B : Nat} (X : Cm p s m args meth c cX5_readsClauses 3 RX5 G (some .boolean)) (c2 : Int32 → Sto → Option (Int32 × Sto)) {r : Int32} {σr : Sto} (ih2 : ∀ (v1 : Int32) (σ : Sto) (H : Heap) (locs : List Loc) (ls : Array Slot), c2 v1 σ = some (r, σr) → HX G layX B σ H → va_S (inW layX B) s.heap H locs → lv_has ls 3 [(0, .ref (B + 13)), (1, .int v1)] → WM p l e 4 s m args below meth c H locs G layX B (some (.int r)) σr (F0 m 2 ls [])) (v1 : Int32) (σ : Sto) (hf : b_X5_readsClauses_35 c2 v1 σ = some (r, σr)) (H : Heap) (locs : List Loc) (hH : HX G layX B σ H) (hS : va_S (inW layX B) s.heap H locs) (ls : Array Slot) (hl : lv_has ls 3 [(0, .ref (B + 13)), (1, .int v1)]) : WM p l e 4 s m args below meth c H locs G layX B (some (.int r)) σr (F0 m 35 ls []) := by
  unfold b_X5_readsClauses_35 at hf
  have hx := X.1.1
  have hb := X.1.2.1
  refine lv_iconst (v := 1) hx hb dX5_readsClauses_35 (by decide) ?_
  refine lv_goto (tgt := 40) hx hb dX5_readsClauses_36 (by decide) ?_
  exact w_X5_readsClauses_40 X c2 ih2 v1 (1 : Int32) σ hf _ _ hH hS _ (lv_sub hl [0, 1] rfl)
def b_X5_readsClauses_2 (c2 : Int32 → Sto → Option (Int32 × Sto)) (v1 : Int32) (σ : Sto) : Option (Int32 × Sto) :=
  if (8 : Int32) < v1 then (some ((0 : Int32), σ)) else (bd2 (f_X5_letter σ) fun r203 σ202 => if r203 = (112 : Int32) then (b_X5_readsClauses_35 c2 v1 σ202) else (bd2 (f_X5_letter σ202) fun r618 σ617 => if r618 = (110 : Int32) then (b_X5_readsClauses_35 c2 v1 σ617) else (bd2 (f_X5_letter σ617) fun r621 σ620 => if r621 = (103 : Int32) then (b_X5_readsClauses_35 c2 v1 σ620) else (b_X5_readsClauses_40 c2 v1 (0 : Int32) σ620))))
set_option maxHeartbeats 4000000 in
set_option maxRecDepth 100000 in
theorem w_X5_readsClauses_2 {p : Program} {l : Launch} {e : Env} {s : State} {m : MethodId} {args : Array Value} {below : List Frame} {meth : Method} {c : Code} {G : Gd} {B : Nat} (X : Cm p s m args meth c cX5_readsClauses 3 RX5 G (some .boolean)) (c2 : Int32 → Sto → Option (Int32 × Sto)) {r : Int32} {σr : Sto} (ih2 : ∀ (v1 : Int32) (σ : Sto) (H : Heap) (locs : List Loc) (ls : Array Slot), c2 v1 σ = some (r, σr) → HX G layX B σ H → va_S (inW layX B) s.heap H locs → lv_has ls 3 [(0, .ref (B + 13)), (1, .int v1)] → WM p l e 4 s m args below meth c H locs G layX B (some (.int r)) σr (F0 m 2 ls [])) (v1 : Int32) (σ : Sto) (hf : b_X5_readsClauses_2 c2 v1 σ = some (r, σr)) (H : Heap) (locs : List Loc) (hH : HX G layX B σ H) (hS : va_S (inW layX B) s.heap H locs) (ls : Array Slot) (hl : lv_has ls 3 [(0, .ref (B + 13)), (1, .int v1)]) : WM p l e 4 s m args below meth c H locs G layX B (some (.int r)) σr (F0 m 2 ls []) := by
  unfold b_X5_readsClauses_2 at hf
  have hx := X.1.1
  have hb := X.1.2.1
  refine lv_iload_n hx hb dX5_readsClauses_2 rfl (lv_at hl 1 rfl) ?_
  refine lv_bipush (v := 8) hx hb dX5_readsClauses_3 (by decide) ?_
  refine lv_icmp_gt (tgt := 107) hx hb dX5_readsClauses_5 (by decide) (fun q201 => ?_) (fun q201 => ?_)
  · replace hf := brT hf q201
    refine lv_iconst (v := 0) hx hb dX5_readsClauses_107 (by decide) ?_
    obtain ⟨rfl, rfl⟩ := rt2 hf
    exact g_zret X hH hS (by decide) dX5_readsClauses_108
  · replace hf := brF hf q201
    refine lv_aload_n hx hb dX5_readsClauses_8 rfl (lv_at hl 0 rfl) ?_
    obtain ⟨r203, σ202, eσ202, hf⟩ := bnd2 hf
    refine g_cVi (As := []) X.1 hH hS (c_X5_letter l G B σ σ202 r203 eσ202) kw_RX5_60 kX5 kx_13 (by decide) rfl hl (Nat.le_of_ble_eq_true rfl) rfl dX5_readsClauses_9 (fun H locs hH hS => ?_)
    refine lv_bipush (v := 112) hx hb dX5_readsClauses_12 (by decide) ?_
    refine lv_icmp_eq (tgt := 35) hx hb dX5_readsClauses_14 (by decide) (fun q204 => ?_) (fun q204 => ?_)
    · replace hf := brT hf q204
      exact w_X5_readsClauses_35 X c2 ih2 v1 σ202 hf _ _ hH hS _ (lv_sub hl [0, 1] rfl)
    · replace hf := brF hf q204
      refine lv_aload_n hx hb dX5_readsClauses_17 rfl (lv_at hl 0 rfl) ?_
      obtain ⟨r618, σ617, eσ617, hf⟩ := bnd2 hf
      refine g_cVi (As := []) X.1 hH hS (c_X5_letter l G B σ202 σ617 r618 eσ617) kw_RX5_60 kX5 kx_13 (by decide) rfl hl (Nat.le_of_ble_eq_true rfl) rfl dX5_readsClauses_18 (fun H locs hH hS => ?_)
      refine lv_bipush (v := 110) hx hb dX5_readsClauses_21 (by decide) ?_
      refine lv_icmp_eq (tgt := 35) hx hb dX5_readsClauses_23 (by decide) (fun q619 => ?_) (fun q619 => ?_)
      · replace hf := brT hf q619
        exact w_X5_readsClauses_35 X c2 ih2 v1 σ617 hf _ _ hH hS _ (lv_sub hl [0, 1] rfl)
      · replace hf := brF hf q619
        refine lv_aload_n hx hb dX5_readsClauses_26 rfl (lv_at hl 0 rfl) ?_
        obtain ⟨r621, σ620, eσ620, hf⟩ := bnd2 hf
        refine g_cVi (As := []) X.1 hH hS (c_X5_letter l G B σ617 σ620 r621 eσ620) kw_RX5_60 kX5 kx_13 (by decide) rfl hl (Nat.le_of_ble_eq_true rfl) rfl dX5_readsClauses_27 (fun H locs hH hS => ?_)
        refine lv_bipush (v := 103) hx hb dX5_readsClauses_30 (by decide) ?_
        refine lv_icmp_ne (tgt := 39) hx hb dX5_readsClauses_32 (by decide) (fun q622 => ?_) (fun q622 => ?_)
        · replace hf := brF hf q622
          refine lv_iconst (v := 0) hx hb dX5_readsClauses_39 (by decide) ?_
          exact w_X5_readsClauses_40 X c2 ih2 v1 (0 : Int32) σ620 hf _ _ hH hS _ (lv_sub hl [0, 1] rfl)
        · replace hf := brT hf q622
          exact w_X5_readsClauses_35 X c2 ih2 v1 σ620 hf _ _ hH hS _ (lv_sub hl [0, 1] rfl)
def l_X5_readsClauses_2 : Nat → Int32 → Sto → Option (Int32 × Sto)
  | 0, _, _ => none
  | n + 1, v1, σ => b_X5_readsClauses_2 (l_X5_readsClauses_2 n) v1 σ
set_option maxHeartbeats 4000000 in
set_option maxRecDepth 100000 in
theorem wl_X5_readsClauses_2 {p : Program} {l : Launch} {e : Env} {s : State} {m : MethodId} {args : Array Value} {below : List Frame} {meth : Method} {c : Code} {G : Gd} {B : Nat} (X : Cm p s m args meth c cX5_readsClauses 3 RX5 G (some .boolean)) {r : Int32} {σr : Sto} (n : Nat) : ∀ (v1 : Int32) (σ : Sto) (H : Heap) (locs : List Loc) (ls : Array Slot), l_X5_readsClauses_2 n v1 σ = some (r, σr) → HX G layX B σ H → va_S (inW layX B) s.heap H locs → lv_has ls 3 [(0, .ref (B + 13)), (1, .int v1)] → WM p l e 4 s m args below meth c H locs G layX B (some (.int r)) σr (F0 m 2 ls []) := by
  induction n with
  | zero =>
    intro _ σ H locs ls hf
    cases hf
  | succ n ih =>
    intro v1 σ H locs ls hf hH hS hl
    exact w_X5_readsClauses_2 X (l_X5_readsClauses_2 n) ih v1 σ hf H locs hH hS ls hl
def f_X5_readsClauses (σ : Sto) : Option (Int32 × Sto) :=
  l_X5_readsClauses_2 400 (0 : Int32) σ
set_option maxHeartbeats 4000000 in
set_option maxRecDepth 100000 in
theorem w_X5_readsClauses {p : Program} {l : Launch} {e : Env} {s : State} {m : MethodId} {args : Array Value} {below : List Frame} {meth : Method} {c : Code} {G : Gd} {B : Nat} (X : Cm p s m args meth c cX5_readsClauses 3 RX5 G (some .boolean)) {r : Int32} {σr : Sto} (σ : Sto) (hf : f_X5_readsClauses σ = some (r, σr)) (H : Heap) (locs : List Loc) (hH : HX G layX B σ H) (hS : va_S (inW layX B) s.heap H locs) (ls : Array Slot) (hl : lv_has ls 3 [(0, .ref (B + 13))]) : WM p l e 4 s m args below meth c H locs G layX B (some (.int r)) σr (F0 m 0 ls []) := by
  unfold f_X5_readsClauses at hf
  have hx := X.1.1
  have hb := X.1.2.1
  refine lv_iconst (v := 0) hx hb dX5_readsClauses_0 (by decide) ?_
  refine lv_istore_n (lv' := [(1, .int (0 : Int32)), (0, .ref (B + 13))]) hx hb dX5_readsClauses_1 rfl hl (by decide) rfl (fun ls hl => ?_)
  exact wl_X5_readsClauses_2 X 400 (0 : Int32) σ _ _ _ hf hH hS (lv_sub hl [1, 0] rfl)
theorem c_X5_readsClauses (l : Launch) (G : Gd) (B : Nat) (σ σr : Sto) (r : Int32) (hf : f_X5_readsClauses σ = some (r, σr)) : Ct l G layX B yX5_readsClauses cX5_readsClauses 3 (some .boolean) 4 [.ref (B + 13)] (some (.int r)) σ σr :=
  Ct.ofW (by decide) (Nat.le_of_ble_eq_true rfl) (fun _ _ _ _ _ _ _ X hH hS ls hl => w_X5_readsClauses X σ hf _ _ hH hS ls (show lv_has ls 3 [(0, .ref (B + 13))] from hl))
-- SlackProofs$Reader.readsPrices()Z  (D 2)
def b_X5_readsPrices_40 (σ : Sto) : Option (Int32 × Sto) :=
  some ((0 : Int32), σ)
set_option maxHeartbeats 4000000 in
set_option maxRecDepth 100000 in
theorem w_X5_readsPrices_40 {p : Program} {l : Launch} {e : Env} {s : State} {m : MethodId} {args : Array Value} {below : List Frame} {meth : Method} {c : Code} {G : Gd} {B : Nat} (X : Cm p s m args meth c cX5_readsPrices 4 RX5 G (some .boolean)) {r : Int32} {σr : Sto} (σ : Sto) (hf : b_X5_readsPrices_40 σ = some (r, σr)) (H : Heap) (locs : List Loc) (hH : HX G layX B σ H) (hS : va_S (inW layX B) s.heap H locs) (ls : Array Slot) (hl : lv_has ls 4 []) : WM p l e 2 s m args below meth c H locs G layX B (some (.int r)) σr (F0 m 40 ls []) := by
  unfold b_X5_readsPrices_40 at hf
  have hx := X.1.1
  have hb := X.1.2.1
  refine lv_iconst (v := 0) hx hb dX5_readsPrices_40 (by decide) ?_
  obtain ⟨rfl, rfl⟩ := rt2 hf
  exact g_zret X hH hS (by decide) dX5_readsPrices_41
def b_X5_readsPrices_82 (σ : Sto) : Option (Int32 × Sto) :=
  some ((0 : Int32), σ)
set_option maxHeartbeats 4000000 in
set_option maxRecDepth 100000 in
theorem w_X5_readsPrices_82 {p : Program} {l : Launch} {e : Env} {s : State} {m : MethodId} {args : Array Value} {below : List Frame} {meth : Method} {c : Code} {G : Gd} {B : Nat} (X : Cm p s m args meth c cX5_readsPrices 4 RX5 G (some .boolean)) {r : Int32} {σr : Sto} (σ : Sto) (hf : b_X5_readsPrices_82 σ = some (r, σr)) (H : Heap) (locs : List Loc) (hH : HX G layX B σ H) (hS : va_S (inW layX B) s.heap H locs) (ls : Array Slot) (hl : lv_has ls 4 []) : WM p l e 2 s m args below meth c H locs G layX B (some (.int r)) σr (F0 m 82 ls []) := by
  unfold b_X5_readsPrices_82 at hf
  have hx := X.1.1
  have hb := X.1.2.1
  refine lv_iconst (v := 0) hx hb dX5_readsPrices_82 (by decide) ?_
  obtain ⟨rfl, rfl⟩ := rt2 hf
  exact g_zret X hH hS (by decide) dX5_readsPrices_83
def b_X5_readsPrices_4 (c4 : Int32 → Int32 → Sto → Option (Int32 × Sto)) (v1 : Int32) (v2 : Int32) (σ : Sto) : Option (Int32 × Sto) :=
  if (8 : Int32) < v2 then (some ((0 : Int32), σ)) else (bd2 (f_X5_letter σ) fun r203 σ202 => if r203 = (-1 : Int32) then (some ((1 : Int32), σ202)) else (bd2 (f_X5_takes (109 : Int32) σ202) fun r206 σ205 => if r206 = 0 then (b_X5_readsPrices_40 σ205) else (bd2 (f_X5_takesNumber (0 : Int32) (7 : Int32) v1 σ205) fun r309 σ308 => if r309 = 0 then (b_X5_readsPrices_40 σ308) else (nmS (σ308.1 13 8) fun y311 => nmS (v1 ||| ((1 : Int32) <<< (y311 &&& 31))) fun y312 => bd2 (f_X5_takes (44 : Int32) σ308) fun r314 σ313 => if r314 = 0 then (b_X5_readsPrices_82 σ313) else (bd2 (f_X5_takesNumber (1 : Int32) (9 : Int32) (0 : Int32) σ313) fun r417 σ416 => if r417 = 0 then (b_X5_readsPrices_82 σ416) else (bd2 (f_X5_takes (59 : Int32) σ416) fun r420 σ419 => if r420 = 0 then (b_X5_readsPrices_82 σ419) else (if (y311 < 0 ∨ 8 ≤ y311.toNatClampNeg) then none else nmS (pI σ419 16 y311.toNatClampNeg (σ419.1 13 8)) fun σ423 => c4 y312 (v2 + (1 : Int32)) σ423)))))))
set_option maxHeartbeats 4000000 in
set_option maxRecDepth 100000 in
theorem w_X5_readsPrices_4 {p : Program} {l : Launch} {e : Env} {s : State} {m : MethodId} {args : Array Value} {below : List Frame} {meth : Method} {c : Code} {G : Gd} {B : Nat} (X : Cm p s m args meth c cX5_readsPrices 4 RX5 G (some .boolean)) (c4 : Int32 → Int32 → Sto → Option (Int32 × Sto)) {r : Int32} {σr : Sto} (ih4 : ∀ (v1 : Int32) (v2 : Int32) (σ : Sto) (H : Heap) (locs : List Loc) (ls : Array Slot), c4 v1 v2 σ = some (r, σr) → HX G layX B σ H → va_S (inW layX B) s.heap H locs → lv_has ls 4 [(0, .ref (B + 13)), (1, .int v1), (2, .int v2)] → WM p l e 2 s m args below meth c H locs G layX B (some (.int r)) σr (F0 m 4 ls [])) (v1 : Int32) (v2 : Int32) (σ : Sto) (hf : b_X5_readsPrices_4 c4 v1 v2 σ = some (r, σr)) (H : Heap) (locs : List Loc) (hH : HX G layX B σ H) (hS : va_S (inW layX B) s.heap H locs) (ls : Array Slot) (hl : lv_has ls 4 [(0, .ref (B + 13)), (1, .int v1), (2, .int v2)]) : WM p l e 2 s m args below meth c H locs G layX B (some (.int r)) σr (F0 m 4 ls []) := by
  unfold b_X5_readsPrices_4 at hf
  have hx := X.1.1
  have hb := X.1.2.1
  refine lv_iload_n hx hb dX5_readsPrices_4 rfl (lv_at hl 2 rfl) ?_
  refine lv_bipush (v := 8) hx hb dX5_readsPrices_5 (by decide) ?_
  refine lv_icmp_gt (tgt := 100) hx hb dX5_readsPrices_7 (by decide) (fun q201 => ?_) (fun q201 => ?_)
  · replace hf := brT hf q201
    refine lv_iconst (v := 0) hx hb dX5_readsPrices_100 (by decide) ?_
    obtain ⟨rfl, rfl⟩ := rt2 hf
    exact g_zret X hH hS (by decide) dX5_readsPrices_101
  · replace hf := brF hf q201
    refine lv_aload_n hx hb dX5_readsPrices_10 rfl (lv_at hl 0 rfl) ?_
    obtain ⟨r203, σ202, eσ202, hf⟩ := bnd2 hf
    refine g_cVi (As := []) X.1 hH hS (c_X5_letter l G B σ σ202 r203 eσ202) kw_RX5_60 kX5 kx_13 (by decide) rfl hl (Nat.le_of_ble_eq_true rfl) rfl dX5_readsPrices_11 (fun H locs hH hS => ?_)
    refine lv_iconst (v := -1) hx hb dX5_readsPrices_14 (by decide) ?_
    refine lv_icmp_ne (tgt := 20) hx hb dX5_readsPrices_15 (by decide) (fun q204 => ?_) (fun q204 => ?_)
    · replace hf := brF hf q204
      refine lv_aload_n hx hb dX5_readsPrices_20 rfl (lv_at hl 0 rfl) ?_
      refine lv_bipush (v := 109) hx hb dX5_readsPrices_21 (by decide) ?_
      obtain ⟨r206, σ205, eσ205, hf⟩ := bnd2 hf
      refine g_cVi (As := [.int (109 : Int32)]) X.1 hH hS (c_X5_takes l G B (109 : Int32) σ202 σ205 r206 eσ205) kw_RX5_81 kX5 kx_13 (by decide) rfl hl (Nat.le_of_ble_eq_true rfl) rfl dX5_readsPrices_23 (fun H locs hH hS => ?_)
      refine lv_if_eq (tgt := 40) hx hb dX5_readsPrices_26 (by decide) (fun q207 => ?_) (fun q207 => ?_)
      · replace hf := brT hf q207
        exact w_X5_readsPrices_40 X σ205 hf _ _ hH hS _ (lv_sub hl [] rfl)
      · replace hf := brF hf q207
        refine lv_aload_n hx hb dX5_readsPrices_29 rfl (lv_at hl 0 rfl) ?_
        refine lv_iconst (v := 0) hx hb dX5_readsPrices_30 (by decide) ?_
        refine lv_bipush (v := 7) hx hb dX5_readsPrices_31 (by decide) ?_
        refine lv_iload_n hx hb dX5_readsPrices_33 rfl (lv_at hl 1 rfl) ?_
        obtain ⟨r309, σ308, eσ308, hf⟩ := bnd2 hf
        refine g_cVi (As := [.int (0 : Int32), .int (7 : Int32), .int v1]) X.1 hH hS (c_X5_takesNumber l G B (0 : Int32) (7 : Int32) v1 σ205 σ308 r309 eσ308) kw_RX5_74 kX5 kx_13 (by decide) rfl hl (Nat.le_of_ble_eq_true rfl) rfl dX5_readsPrices_34 (fun H locs hH hS => ?_)
        refine lv_if_ne (tgt := 42) hx hb dX5_readsPrices_37 (by decide) (fun q310 => ?_) (fun q310 => ?_)
        · replace hf := brF hf q310
          refine lv_aload_n hx hb dX5_readsPrices_42 rfl (lv_at hl 0 rfl) ?_
          refine g_get (v := .int (σ308.1 13 8)) kX5 (by decide) fl_RX5_78 X.1 hH kx_13 rfl dX5_readsPrices_43 ?_
          refine lv_topi (fun y311 ey311 => ?_)
          replace hf := nmU hf ey311
          refine lv_istore_n (lv' := [(3, .int y311), (0, .ref (B + 13)), (1, .int v1), (2, .int v2)]) hx hb dX5_readsPrices_46 rfl hl (by decide) rfl (fun ls hl => ?_)
          refine lv_iload_n hx hb dX5_readsPrices_47 rfl (lv_at hl 2 rfl) ?_
          refine lv_iconst (v := 1) hx hb dX5_readsPrices_48 (by decide) ?_
          refine lv_iload_n hx hb dX5_readsPrices_49 rfl (lv_at hl 0 rfl) ?_
          refine lv_ishl hx hb dX5_readsPrices_50 ?_
          refine lv_ior hx hb dX5_readsPrices_51 ?_
          refine lv_topi (fun y312 ey312 => ?_)
          replace hf := nmU hf ey312
          refine lv_istore_n (lv' := [(1, .int y312), (3, .int y311), (0, .ref (B + 13)), (2, .int v2)]) hx hb dX5_readsPrices_52 rfl hl (by decide) rfl (fun ls hl => ?_)
          refine lv_aload_n hx hb dX5_readsPrices_53 rfl (lv_at hl 2 rfl) ?_
          refine lv_bipush (v := 44) hx hb dX5_readsPrices_54 (by decide) ?_
          obtain ⟨r314, σ313, eσ313, hf⟩ := bnd2 hf
          refine g_cVi (As := [.int (44 : Int32)]) X.1 hH hS (c_X5_takes l G B (44 : Int32) σ308 σ313 r314 eσ313) kw_RX5_81 kX5 kx_13 (by decide) rfl hl (Nat.le_of_ble_eq_true rfl) rfl dX5_readsPrices_56 (fun H locs hH hS => ?_)
          refine lv_if_eq (tgt := 82) hx hb dX5_readsPrices_59 (by decide) (fun q315 => ?_) (fun q315 => ?_)
          · replace hf := brT hf q315
            exact w_X5_readsPrices_82 X σ313 hf _ _ hH hS _ (lv_sub hl [] rfl)
          · replace hf := brF hf q315
            refine lv_aload_n hx hb dX5_readsPrices_62 rfl (lv_at hl 2 rfl) ?_
            refine lv_iconst (v := 1) hx hb dX5_readsPrices_63 (by decide) ?_
            refine lv_bipush (v := 9) hx hb dX5_readsPrices_64 (by decide) ?_
            refine lv_iconst (v := 0) hx hb dX5_readsPrices_66 (by decide) ?_
            obtain ⟨r417, σ416, eσ416, hf⟩ := bnd2 hf
            refine g_cVi (As := [.int (1 : Int32), .int (9 : Int32), .int (0 : Int32)]) X.1 hH hS (c_X5_takesNumber l G B (1 : Int32) (9 : Int32) (0 : Int32) σ313 σ416 r417 eσ416) kw_RX5_74 kX5 kx_13 (by decide) rfl hl (Nat.le_of_ble_eq_true rfl) rfl dX5_readsPrices_67 (fun H locs hH hS => ?_)
            refine lv_if_eq (tgt := 82) hx hb dX5_readsPrices_70 (by decide) (fun q418 => ?_) (fun q418 => ?_)
            · replace hf := brT hf q418
              exact w_X5_readsPrices_82 X σ416 hf _ _ hH hS _ (lv_sub hl [] rfl)
            · replace hf := brF hf q418
              refine lv_aload_n hx hb dX5_readsPrices_73 rfl (lv_at hl 2 rfl) ?_
              refine lv_bipush (v := 59) hx hb dX5_readsPrices_74 (by decide) ?_
              obtain ⟨r420, σ419, eσ419, hf⟩ := bnd2 hf
              refine g_cVi (As := [.int (59 : Int32)]) X.1 hH hS (c_X5_takes l G B (59 : Int32) σ416 σ419 r420 eσ419) kw_RX5_81 kX5 kx_13 (by decide) rfl hl (Nat.le_of_ble_eq_true rfl) rfl dX5_readsPrices_76 (fun H locs hH hS => ?_)
              refine lv_if_ne (tgt := 84) hx hb dX5_readsPrices_79 (by decide) (fun q421 => ?_) (fun q421 => ?_)
              · replace hf := brF hf q421
                refine lv_aload_n hx hb dX5_readsPrices_84 rfl (lv_at hl 2 rfl) ?_
                refine g_get (v := .ref (B + 16)) kX5 (by decide) fl_RX5_21 X.1 hH kx_13 rfl dX5_readsPrices_85 ?_
                refine lv_iload_n hx hb dX5_readsPrices_88 rfl (lv_at hl 1 rfl) ?_
                refine lv_aload_n hx hb dX5_readsPrices_89 rfl (lv_at hl 2 rfl) ?_
                refine g_get (v := .int (σ419.1 13 8)) kX5 (by decide) fl_RX5_78 X.1 hH kx_13 rfl dX5_readsPrices_90 ?_
                obtain ⟨q422, hf⟩ := chk hf
                refine g_iast (j := y311.toNatClampNeg) X.1 hH hS kx_16 q422 rfl dX5_readsPrices_93 (fun H locs hH hS => ?_)
                obtain ⟨σ423, eσ423, hH⟩ := nmX hH
                replace hf := nmU hf eσ423
                refine lv_iinc (v := (v2 + (1 : Int32))) (lv' := [(2, .int (v2 + (1 : Int32))), (1, .int y312), (3, .int y311), (0, .ref (B + 13))]) hx hb dX5_readsPrices_94 hl (k := 3) rfl rfl (by decide) rfl (fun ls hl => ?_)
                refine lv_goto (tgt := 4) hx hb dX5_readsPrices_97 (by decide) ?_
                exact ih4 y312 (v2 + (1 : Int32)) σ423 _ _ _ hf hH hS (lv_sub hl [3, 1, 0] rfl)
              · replace hf := brT hf q421
                exact w_X5_readsPrices_82 X σ419 hf _ _ hH hS _ (lv_sub hl [] rfl)
        · replace hf := brT hf q310
          exact w_X5_readsPrices_40 X σ308 hf _ _ hH hS _ (lv_sub hl [] rfl)
    · replace hf := brT hf q204
      refine lv_iconst (v := 1) hx hb dX5_readsPrices_18 (by decide) ?_
      obtain ⟨rfl, rfl⟩ := rt2 hf
      exact g_zret X hH hS (by decide) dX5_readsPrices_19
def l_X5_readsPrices_4 : Nat → Int32 → Int32 → Sto → Option (Int32 × Sto)
  | 0, _, _, _ => none
  | n + 1, v1, v2, σ => b_X5_readsPrices_4 (l_X5_readsPrices_4 n) v1 v2 σ
set_option maxHeartbeats 4000000 in
set_option maxRecDepth 100000 in
theorem wl_X5_readsPrices_4 {p : Program} {l : Launch} {e : Env} {s : State} {m : MethodId} {args : Array Value} {below : List Frame} {meth : Method} {c : Code} {G : Gd} {B : Nat} (X : Cm p s m args meth c cX5_readsPrices 4 RX5 G (some .boolean)) {r : Int32} {σr : Sto} (n : Nat) : ∀ (v1 : Int32) (v2 : Int32) (σ : Sto) (H : Heap) (locs : List Loc) (ls : Array Slot), l_X5_readsPrices_4 n v1 v2 σ = some (r, σr) → HX G layX B σ H → va_S (inW layX B) s.heap H locs → lv_has ls 4 [(0, .ref (B + 13)), (1, .int v1), (2, .int v2)] → WM p l e 2 s m args below meth c H locs G layX B (some (.int r)) σr (F0 m 4 ls []) := by
  induction n with
  | zero =>
    intro _ _ σ H locs ls hf
    cases hf
  | succ n ih =>
    intro v1 v2 σ H locs ls hf hH hS hl
    exact w_X5_readsPrices_4 X (l_X5_readsPrices_4 n) ih v1 v2 σ hf H locs hH hS ls hl
def f_X5_readsPrices (σ : Sto) : Option (Int32 × Sto) :=
  l_X5_readsPrices_4 400 (0 : Int32) (0 : Int32) σ
set_option maxHeartbeats 4000000 in
set_option maxRecDepth 100000 in
theorem w_X5_readsPrices {p : Program} {l : Launch} {e : Env} {s : State} {m : MethodId} {args : Array Value} {below : List Frame} {meth : Method} {c : Code} {G : Gd} {B : Nat} (X : Cm p s m args meth c cX5_readsPrices 4 RX5 G (some .boolean)) {r : Int32} {σr : Sto} (σ : Sto) (hf : f_X5_readsPrices σ = some (r, σr)) (H : Heap) (locs : List Loc) (hH : HX G layX B σ H) (hS : va_S (inW layX B) s.heap H locs) (ls : Array Slot) (hl : lv_has ls 4 [(0, .ref (B + 13))]) : WM p l e 2 s m args below meth c H locs G layX B (some (.int r)) σr (F0 m 0 ls []) := by
  unfold f_X5_readsPrices at hf
  have hx := X.1.1
  have hb := X.1.2.1
  refine lv_iconst (v := 0) hx hb dX5_readsPrices_0 (by decide) ?_
  refine lv_istore_n (lv' := [(1, .int (0 : Int32)), (0, .ref (B + 13))]) hx hb dX5_readsPrices_1 rfl hl (by decide) rfl (fun ls hl => ?_)
  refine lv_iconst (v := 0) hx hb dX5_readsPrices_2 (by decide) ?_
  refine lv_istore_n (lv' := [(2, .int (0 : Int32)), (1, .int (0 : Int32)), (0, .ref (B + 13))]) hx hb dX5_readsPrices_3 rfl hl (by decide) rfl (fun ls hl => ?_)
  exact wl_X5_readsPrices_4 X 400 (0 : Int32) (0 : Int32) σ _ _ _ hf hH hS (lv_sub hl [2, 1, 0] rfl)
theorem c_X5_readsPrices (l : Launch) (G : Gd) (B : Nat) (σ σr : Sto) (r : Int32) (hf : f_X5_readsPrices σ = some (r, σr)) : Ct l G layX B yX5_readsPrices cX5_readsPrices 4 (some .boolean) 2 [.ref (B + 13)] (some (.int r)) σ σr :=
  Ct.ofW (by decide) (Nat.le_of_ble_eq_true rfl) (fun _ _ _ _ _ _ _ X hH hS ls hl => w_X5_readsPrices X σ hf _ _ hH hS ls (show lv_has ls 4 [(0, .ref (B + 13))] from hl))
