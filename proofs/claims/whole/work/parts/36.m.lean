-- SlackProofsModel.pricesPut(I)V  (D 0)
def b_X8_pricesPut_221 (s0 : Int64) (s1 : Int32) (σ : Sto) : Option (Sto) :=
  if (s1 < 0 ∨ 10 ≤ s1.toNatClampNeg) then none else nmS (pL σ 12 s1.toNatClampNeg s0) fun σ506 => some σ506
set_option maxHeartbeats 4000000 in
set_option maxRecDepth 100000 in
theorem w_X8_pricesPut_221 {p : Program} {l : Launch} {e : Env} {s : State} {m : MethodId} {args : Array Value} {below : List Frame} {meth : Method} {c : Code} {G : Gd} {B : Nat} (X : Cm p s m args meth c cX8_pricesPut 6 RX8 G none) {σr : Sto} (s0 : Int64) (s1 : Int32) (σ : Sto) (hf : b_X8_pricesPut_221 s0 s1 σ = some σr) (H : Heap) (locs : List Loc) (hH : HX G layM B σ H) (hS : va_S (inW layM B) s.heap H locs) (ls : Array Slot) (hl : lv_has ls 6 []) : WM p l e 0 s m args below meth c H locs G layM B none σr (F0 m 221 ls [.long s0, .int s1, .ref (B + 12)]) := by
  unfold b_X8_pricesPut_221 at hf
  have hx := X.1.1
  have hb := X.1.2.1
  obtain ⟨q505, hf⟩ := chk hf
  refine g_last (j := s1.toNatClampNeg) X.1 hH hS km_12 q505 rfl dX8_pricesPut_221 (fun H locs hH hS => ?_)
  obtain ⟨σ506, eσ506, hH⟩ := nmX hH
  replace hf := nmU hf eσ506
  obtain rfl := rt1 hf
  exact g_vret X hH hS dX8_pricesPut_222
def b_X8_pricesPut_197 (c149 : Int64 → Int32 → Sto → Option (Sto)) (v4 : Int32) (s0 : Int64) (s1 : Int64) (σ : Sto) : Option (Sto) :=
  nmS (s1 + s0) fun y612 => c149 y612 (v4 + (1 : Int32)) σ
set_option maxHeartbeats 4000000 in
set_option maxRecDepth 100000 in
theorem w_X8_pricesPut_197 {p : Program} {l : Launch} {e : Env} {s : State} {m : MethodId} {args : Array Value} {below : List Frame} {meth : Method} {c : Code} {G : Gd} {B : Nat} (X : Cm p s m args meth c cX8_pricesPut 6 RX8 G none) (c149 : Int64 → Int32 → Sto → Option (Sto)) {σr : Sto} (ih149 : ∀ (v2 : Int64) (v4 : Int32) (σ : Sto) (H : Heap) (locs : List Loc) (ls : Array Slot), c149 v2 v4 σ = some σr → HX G layM B σ H → va_S (inW layM B) s.heap H locs → lv_has ls 6 [(0, .ref (B + 0)), (2, .long v2), (4, .int v4)] → WM p l e 0 s m args below meth c H locs G layM B none σr (F0 m 149 ls [])) (v4 : Int32) (s0 : Int64) (s1 : Int64) (σ : Sto) (hf : b_X8_pricesPut_197 c149 v4 s0 s1 σ = some σr) (H : Heap) (locs : List Loc) (hH : HX G layM B σ H) (hS : va_S (inW layM B) s.heap H locs) (ls : Array Slot) (hl : lv_has ls 6 [(0, .ref (B + 0)), (4, .int v4)]) : WM p l e 0 s m args below meth c H locs G layM B none σr (F0 m 197 ls [.long s0, .long s1]) := by
  unfold b_X8_pricesPut_197 at hf
  have hx := X.1.1
  have hb := X.1.2.1
  refine lv_ladd hx hb dX8_pricesPut_197 ?_
  refine lv_topl (fun y612 ey612 => ?_)
  replace hf := nmU hf ey612
  refine lv_lstore_n (lv' := [(2, .long y612), (0, .ref (B + 0)), (4, .int v4)]) hx hb dX8_pricesPut_198 rfl hl (by decide) rfl (fun ls hl => ?_)
  refine lv_iinc (v := (v4 + (1 : Int32))) (lv' := [(4, .int (v4 + (1 : Int32))), (2, .long y612), (0, .ref (B + 0))]) hx hb dX8_pricesPut_199 hl (k := 2) rfl rfl (by decide) rfl (fun ls hl => ?_)
  refine lv_goto (tgt := 149) hx hb dX8_pricesPut_202 (by decide) ?_
  exact ih149 y612 (v4 + (1 : Int32)) σ _ _ _ hf hH hS (lv_sub hl [2, 1, 0] rfl)
def b_X8_pricesPut_149 (c149 : Int64 → Int32 → Sto → Option (Sto)) (v2 : Int64) (v4 : Int32) (σ : Sto) : Option (Sto) :=
  if (8 : Int32) ≤ v4 then (if (0 : Int64) ≤ v2 then (b_X8_pricesPut_221 v2 (1 : Int32) σ) else (b_X8_pricesPut_221 (0 : Int64) (1 : Int32) σ)) else (if (v4 < 0 ∨ 8 ≤ v4.toNatClampNeg) then none else if (((2 : Int32) + v4) < 0 ∨ 10 ≤ ((2 : Int32) + v4).toNatClampNeg) then none else nmS (pL σ 12 ((2 : Int32) + v4).toNatClampNeg (σ.2 15 v4.toNatClampNeg)) fun σ509 => if (v4 < 0 ∨ 8 ≤ v4.toNatClampNeg) then none else if (0 : Int64) ≤ (σ509.2 15 v4.toNatClampNeg) then (b_X8_pricesPut_197 c149 v4 (0 : Int64) v2 σ509) else (if (v4 < 0 ∨ 8 ≤ v4.toNatClampNeg) then none else b_X8_pricesPut_197 c149 v4 (-(σ509.2 15 v4.toNatClampNeg)) v2 σ509))
set_option maxHeartbeats 4000000 in
set_option maxRecDepth 100000 in
theorem w_X8_pricesPut_149 {p : Program} {l : Launch} {e : Env} {s : State} {m : MethodId} {args : Array Value} {below : List Frame} {meth : Method} {c : Code} {G : Gd} {B : Nat} (X : Cm p s m args meth c cX8_pricesPut 6 RX8 G none) (c149 : Int64 → Int32 → Sto → Option (Sto)) {σr : Sto} (ih149 : ∀ (v2 : Int64) (v4 : Int32) (σ : Sto) (H : Heap) (locs : List Loc) (ls : Array Slot), c149 v2 v4 σ = some σr → HX G layM B σ H → va_S (inW layM B) s.heap H locs → lv_has ls 6 [(0, .ref (B + 0)), (2, .long v2), (4, .int v4)] → WM p l e 0 s m args below meth c H locs G layM B none σr (F0 m 149 ls [])) (v2 : Int64) (v4 : Int32) (σ : Sto) (hf : b_X8_pricesPut_149 c149 v2 v4 σ = some σr) (H : Heap) (locs : List Loc) (hH : HX G layM B σ H) (hS : va_S (inW layM B) s.heap H locs) (ls : Array Slot) (hl : lv_has ls 6 [(0, .ref (B + 0)), (2, .long v2), (4, .int v4)]) : WM p l e 0 s m args below meth c H locs G layM B none σr (F0 m 149 ls []) := by
  unfold b_X8_pricesPut_149 at hf
  have hx := X.1.1
  have hb := X.1.2.1
  refine lv_iload hx hb dX8_pricesPut_149 (lv_at hl 2 rfl) ?_
  refine lv_bipush (v := 8) hx hb dX8_pricesPut_151 (by decide) ?_
  refine lv_icmp_ge (tgt := 205) hx hb dX8_pricesPut_153 (by decide) (fun q403 => ?_) (fun q403 => ?_)
  · replace hf := brT hf q403
    refine lv_aload_n hx hb dX8_pricesPut_205 rfl (lv_at hl 0 rfl) ?_
    refine g_get (v := .ref (B + 12)) kX8 (by decide) fl_RX8_45 X.1 hH km_0 rfl dX8_pricesPut_206 ?_
    refine lv_iconst (v := 1) hx hb dX8_pricesPut_209 (by decide) ?_
    refine lv_lload_n hx hb dX8_pricesPut_210 rfl (lv_at hl 1 rfl) ?_
    refine lv_lconst (v := 0) hx hb dX8_pricesPut_211 (by decide) ?_
    refine g_lge (tgt := 220) X.1 dX8_pricesPut_212 dX8_pricesPut_213 (by decide) (fun q404 => ?_) (fun q404 => ?_)
    · replace hf := brT hf q404
      refine lv_lload_n hx hb dX8_pricesPut_220 rfl (lv_at hl 1 rfl) ?_
      exact w_X8_pricesPut_221 X v2 (1 : Int32) σ hf _ _ hH hS _ (lv_sub hl [] rfl)
    · replace hf := brF hf q404
      refine lv_lconst (v := 0) hx hb dX8_pricesPut_216 (by decide) ?_
      refine lv_goto (tgt := 221) hx hb dX8_pricesPut_217 (by decide) ?_
      exact w_X8_pricesPut_221 X (0 : Int64) (1 : Int32) σ hf _ _ hH hS _ (lv_sub hl [] rfl)
  · replace hf := brF hf q403
    refine lv_aload_n hx hb dX8_pricesPut_156 rfl (lv_at hl 0 rfl) ?_
    refine g_get (v := .ref (B + 12)) kX8 (by decide) fl_RX8_45 X.1 hH km_0 rfl dX8_pricesPut_157 ?_
    refine lv_iconst (v := 2) hx hb dX8_pricesPut_160 (by decide) ?_
    refine lv_iload hx hb dX8_pricesPut_161 (lv_at hl 2 rfl) ?_
    refine lv_iadd hx hb dX8_pricesPut_163 ?_
    refine lv_aload_n hx hb dX8_pricesPut_164 rfl (lv_at hl 0 rfl) ?_
    refine g_get (v := .ref (B + 15)) kX8 (by decide) fl_RX8_54 X.1 hH km_0 rfl dX8_pricesPut_165 ?_
    refine lv_iload hx hb dX8_pricesPut_168 (lv_at hl 2 rfl) ?_
    obtain ⟨q507, hf⟩ := chk hf
    refine g_lald (j := v4.toNatClampNeg) X.1 hH km_15 q507 rfl dX8_pricesPut_170 ?_
    obtain ⟨q508, hf⟩ := chk hf
    refine g_last (j := ((2 : Int32) + v4).toNatClampNeg) X.1 hH hS km_12 q508 rfl dX8_pricesPut_171 (fun H locs hH hS => ?_)
    obtain ⟨σ509, eσ509, hH⟩ := nmX hH
    replace hf := nmU hf eσ509
    refine lv_lload_n hx hb dX8_pricesPut_172 rfl (lv_at hl 1 rfl) ?_
    refine lv_aload_n hx hb dX8_pricesPut_173 rfl (lv_at hl 0 rfl) ?_
    refine g_get (v := .ref (B + 15)) kX8 (by decide) fl_RX8_54 X.1 hH km_0 rfl dX8_pricesPut_174 ?_
    refine lv_iload hx hb dX8_pricesPut_177 (lv_at hl 2 rfl) ?_
    obtain ⟨q510, hf⟩ := chk hf
    refine g_lald (j := v4.toNatClampNeg) X.1 hH km_15 q510 rfl dX8_pricesPut_179 ?_
    refine lv_lconst (v := 0) hx hb dX8_pricesPut_180 (by decide) ?_
    refine g_lge (tgt := 196) X.1 dX8_pricesPut_181 dX8_pricesPut_182 (by decide) (fun q511 => ?_) (fun q511 => ?_)
    · replace hf := brT hf q511
      refine lv_lconst (v := 0) hx hb dX8_pricesPut_196 (by decide) ?_
      exact w_X8_pricesPut_197 X c149 ih149 v4 (0 : Int64) v2 σ509 hf _ _ hH hS _ (lv_sub hl [0, 2] rfl)
    · replace hf := brF hf q511
      refine lv_aload_n hx hb dX8_pricesPut_185 rfl (lv_at hl 0 rfl) ?_
      refine g_get (v := .ref (B + 15)) kX8 (by decide) fl_RX8_54 X.1 hH km_0 rfl dX8_pricesPut_186 ?_
      refine lv_iload hx hb dX8_pricesPut_189 (lv_at hl 2 rfl) ?_
      obtain ⟨q613, hf⟩ := chk hf
      refine g_lald (j := v4.toNatClampNeg) X.1 hH km_15 q613 rfl dX8_pricesPut_191 ?_
      refine lv_lneg hx hb dX8_pricesPut_192 ?_
      refine lv_goto (tgt := 197) hx hb dX8_pricesPut_193 (by decide) ?_
      exact w_X8_pricesPut_197 X c149 ih149 v4 (-(σ509.2 15 v4.toNatClampNeg)) v2 σ509 hf _ _ hH hS _ (lv_sub hl [0, 2] rfl)
def l_X8_pricesPut_149 : Nat → Int64 → Int32 → Sto → Option (Sto)
  | 0, _, _, _ => none
  | n + 1, v2, v4, σ => b_X8_pricesPut_149 (l_X8_pricesPut_149 n) v2 v4 σ
set_option maxHeartbeats 4000000 in
set_option maxRecDepth 100000 in
theorem wl_X8_pricesPut_149 {p : Program} {l : Launch} {e : Env} {s : State} {m : MethodId} {args : Array Value} {below : List Frame} {meth : Method} {c : Code} {G : Gd} {B : Nat} (X : Cm p s m args meth c cX8_pricesPut 6 RX8 G none) {σr : Sto} (n : Nat) : ∀ (v2 : Int64) (v4 : Int32) (σ : Sto) (H : Heap) (locs : List Loc) (ls : Array Slot), l_X8_pricesPut_149 n v2 v4 σ = some σr → HX G layM B σ H → va_S (inW layM B) s.heap H locs → lv_has ls 6 [(0, .ref (B + 0)), (2, .long v2), (4, .int v4)] → WM p l e 0 s m args below meth c H locs G layM B none σr (F0 m 149 ls []) := by
  induction n with
  | zero =>
    intro _ _ σ H locs ls hf
    cases hf
  | succ n ih =>
    intro v2 v4 σ H locs ls hf hH hS hl
    exact w_X8_pricesPut_149 X (l_X8_pricesPut_149 n) ih v2 v4 σ hf H locs hH hS ls hl
def b_X8_pricesPut_140 (c35 : Int32 → Int64 → Int32 → Sto → Option (Sto)) (v1 : Int32) (v2 : Int64) (v4 : Int32) (σ : Sto) : Option (Sto) :=
  c35 v1 v2 (v4 + (1 : Int32)) σ
set_option maxHeartbeats 4000000 in
set_option maxRecDepth 100000 in
theorem w_X8_pricesPut_140 {p : Program} {l : Launch} {e : Env} {s : State} {m : MethodId} {args : Array Value} {below : List Frame} {meth : Method} {c : Code} {G : Gd} {B : Nat} (X : Cm p s m args meth c cX8_pricesPut 6 RX8 G none) (c35 : Int32 → Int64 → Int32 → Sto → Option (Sto)) {σr : Sto} (ih35 : ∀ (v1 : Int32) (v2 : Int64) (v4 : Int32) (σ : Sto) (H : Heap) (locs : List Loc) (ls : Array Slot), c35 v1 v2 v4 σ = some σr → HX G layM B σ H → va_S (inW layM B) s.heap H locs → lv_has ls 6 [(0, .ref (B + 0)), (1, .int v1), (2, .long v2), (4, .int v4)] → WM p l e 0 s m args below meth c H locs G layM B none σr (F0 m 35 ls [])) (v1 : Int32) (v2 : Int64) (v4 : Int32) (σ : Sto) (hf : b_X8_pricesPut_140 c35 v1 v2 v4 σ = some σr) (H : Heap) (locs : List Loc) (hH : HX G layM B σ H) (hS : va_S (inW layM B) s.heap H locs) (ls : Array Slot) (hl : lv_has ls 6 [(0, .ref (B + 0)), (1, .int v1), (2, .long v2), (4, .int v4)]) : WM p l e 0 s m args below meth c H locs G layM B none σr (F0 m 140 ls []) := by
  unfold b_X8_pricesPut_140 at hf
  have hx := X.1.1
  have hb := X.1.2.1
  refine lv_iinc (v := (v4 + (1 : Int32))) (lv' := [(4, .int (v4 + (1 : Int32))), (0, .ref (B + 0)), (1, .int v1), (2, .long v2)]) hx hb dX8_pricesPut_140 hl (k := 3) rfl rfl (by decide) rfl (fun ls hl => ?_)
  refine lv_goto (tgt := 35) hx hb dX8_pricesPut_143 (by decide) ?_
  exact ih35 v1 v2 (v4 + (1 : Int32)) σ _ _ _ hf hH hS (lv_sub hl [1, 2, 3, 0] rfl)
def b_X8_pricesPut_35 (c35 : Int32 → Int64 → Int32 → Sto → Option (Sto)) (v1 : Int32) (v2 : Int64) (v4 : Int32) (σ : Sto) : Option (Sto) :=
  if (8 : Int32) ≤ v4 then (l_X8_pricesPut_149 400 v2 (0 : Int32) σ) else (if ((((40 : Int32) * v1) + v4) < 0 ∨ 320 ≤ (((40 : Int32) * v1) + v4).toNatClampNeg) then none else nmS (σ.1 3 (((40 : Int32) * v1) + v4).toNatClampNeg) fun y615 => if y615 = (1 : Int32) then (if (v4 < 0 ∨ 312 ≤ v4.toNatClampNeg) then none else nmS (v2 + (σ.2 6 v4.toNatClampNeg)) fun y730 => b_X8_pricesPut_140 c35 v1 y730 v4 σ) else (if y615 ≤ (9 : Int32) then (if y615 ≤ (1 : Int32) then (b_X8_pricesPut_140 c35 v1 v2 v4 σ) else (if ((y615 - (2 : Int32)) < 0 ∨ 8 ≤ (y615 - (2 : Int32)).toNatClampNeg) then none else if (v4 < 0 ∨ 312 ≤ v4.toNatClampNeg) then none else if ((y615 - (2 : Int32)) < 0 ∨ 8 ≤ (y615 - (2 : Int32)).toNatClampNeg) then none else nmS (pL σ 15 (y615 - (2 : Int32)).toNatClampNeg ((σ.2 15 (y615 - (2 : Int32)).toNatClampNeg) - (σ.2 6 v4.toNatClampNeg))) fun σ722 => b_X8_pricesPut_140 c35 v1 v2 v4 σ722)) else (if (v4 < 0 ∨ 312 ≤ v4.toNatClampNeg) then none else nmS (v2 + (σ.2 6 v4.toNatClampNeg)) fun y724 => if ((y615 - (10 : Int32)) < 0 ∨ 8 ≤ (y615 - (10 : Int32)).toNatClampNeg) then none else if (v4 < 0 ∨ 312 ≤ v4.toNatClampNeg) then none else if ((y615 - (10 : Int32)) < 0 ∨ 8 ≤ (y615 - (10 : Int32)).toNatClampNeg) then none else nmS (pL σ 15 (y615 - (10 : Int32)).toNatClampNeg ((σ.2 15 (y615 - (10 : Int32)).toNatClampNeg) + (σ.2 6 v4.toNatClampNeg))) fun σ728 => b_X8_pricesPut_140 c35 v1 y724 v4 σ728)))
set_option maxHeartbeats 4000000 in
set_option maxRecDepth 100000 in
theorem w_X8_pricesPut_35 {p : Program} {l : Launch} {e : Env} {s : State} {m : MethodId} {args : Array Value} {below : List Frame} {meth : Method} {c : Code} {G : Gd} {B : Nat} (X : Cm p s m args meth c cX8_pricesPut 6 RX8 G none) (c35 : Int32 → Int64 → Int32 → Sto → Option (Sto)) {σr : Sto} (ih35 : ∀ (v1 : Int32) (v2 : Int64) (v4 : Int32) (σ : Sto) (H : Heap) (locs : List Loc) (ls : Array Slot), c35 v1 v2 v4 σ = some σr → HX G layM B σ H → va_S (inW layM B) s.heap H locs → lv_has ls 6 [(0, .ref (B + 0)), (1, .int v1), (2, .long v2), (4, .int v4)] → WM p l e 0 s m args below meth c H locs G layM B none σr (F0 m 35 ls [])) (v1 : Int32) (v2 : Int64) (v4 : Int32) (σ : Sto) (hf : b_X8_pricesPut_35 c35 v1 v2 v4 σ = some σr) (H : Heap) (locs : List Loc) (hH : HX G layM B σ H) (hS : va_S (inW layM B) s.heap H locs) (ls : Array Slot) (hl : lv_has ls 6 [(0, .ref (B + 0)), (1, .int v1), (2, .long v2), (4, .int v4)]) : WM p l e 0 s m args below meth c H locs G layM B none σr (F0 m 35 ls []) := by
  unfold b_X8_pricesPut_35 at hf
  have hx := X.1.1
  have hb := X.1.2.1
  refine lv_iload hx hb dX8_pricesPut_35 (lv_at hl 3 rfl) ?_
  refine lv_bipush (v := 8) hx hb dX8_pricesPut_37 (by decide) ?_
  refine lv_icmp_ge (tgt := 146) hx hb dX8_pricesPut_39 (by decide) (fun q302 => ?_) (fun q302 => ?_)
  · replace hf := brT hf q302
    refine lv_iconst (v := 0) hx hb dX8_pricesPut_146 (by decide) ?_
    refine lv_istore (lv' := [(4, .int (0 : Int32)), (0, .ref (B + 0)), (1, .int v1), (2, .long v2)]) hx hb dX8_pricesPut_147 hl (by decide) rfl (fun ls hl => ?_)
    exact wl_X8_pricesPut_149 X 400 v2 (0 : Int32) σ _ _ _ hf hH hS (lv_sub hl [1, 3, 0] rfl)
  · replace hf := brF hf q302
    refine lv_aload_n hx hb dX8_pricesPut_42 rfl (lv_at hl 0 rfl) ?_
    refine g_get (v := .ref (B + 3)) kX8 (by decide) fl_RX8_16 X.1 hH km_0 rfl dX8_pricesPut_43 ?_
    refine lv_bipush (v := 40) hx hb dX8_pricesPut_46 (by decide) ?_
    refine lv_iload_n hx hb dX8_pricesPut_48 rfl (lv_at hl 1 rfl) ?_
    refine lv_imul hx hb dX8_pricesPut_49 ?_
    refine lv_iload hx hb dX8_pricesPut_50 (lv_at hl 3 rfl) ?_
    refine lv_iadd hx hb dX8_pricesPut_52 ?_
    obtain ⟨q614, hf⟩ := chk hf
    refine g_iald (j := (((40 : Int32) * v1) + v4).toNatClampNeg) X.1 hH km_3 q614 rfl dX8_pricesPut_53 ?_
    refine lv_topi (fun y615 ey615 => ?_)
    replace hf := nmU hf ey615
    refine lv_istore (lv' := [(5, .int y615), (0, .ref (B + 0)), (1, .int v1), (2, .long v2), (4, .int v4)]) hx hb dX8_pricesPut_54 hl (by decide) rfl (fun ls hl => ?_)
    refine lv_iload hx hb dX8_pricesPut_56 (lv_at hl 0 rfl) ?_
    refine lv_iconst (v := 1) hx hb dX8_pricesPut_58 (by decide) ?_
    refine lv_icmp_ne (tgt := 75) hx hb dX8_pricesPut_59 (by decide) (fun q616 => ?_) (fun q616 => ?_)
    · replace hf := brF hf q616
      refine lv_iload hx hb dX8_pricesPut_75 (lv_at hl 0 rfl) ?_
      refine lv_bipush (v := 9) hx hb dX8_pricesPut_77 (by decide) ?_
      refine lv_icmp_le (tgt := 115) hx hb dX8_pricesPut_79 (by decide) (fun q617 => ?_) (fun q617 => ?_)
      · replace hf := brT hf q617
        refine lv_iload hx hb dX8_pricesPut_115 (lv_at hl 0 rfl) ?_
        refine lv_iconst (v := 1) hx hb dX8_pricesPut_117 (by decide) ?_
        refine lv_icmp_le (tgt := 140) hx hb dX8_pricesPut_118 (by decide) (fun q618 => ?_) (fun q618 => ?_)
        · replace hf := brT hf q618
          exact w_X8_pricesPut_140 X c35 ih35 v1 v2 v4 σ hf _ _ hH hS _ (lv_sub hl [1, 2, 3, 4] rfl)
        · replace hf := brF hf q618
          refine lv_aload_n hx hb dX8_pricesPut_121 rfl (lv_at hl 1 rfl) ?_
          refine g_get (v := .ref (B + 15)) kX8 (by decide) fl_RX8_54 X.1 hH km_0 rfl dX8_pricesPut_122 ?_
          refine lv_iload hx hb dX8_pricesPut_125 (lv_at hl 0 rfl) ?_
          refine lv_iconst (v := 2) hx hb dX8_pricesPut_127 (by decide) ?_
          refine lv_isub hx hb dX8_pricesPut_128 ?_
          refine lv_dup2_11 hx hb dX8_pricesPut_129 rfl rfl ?_
          obtain ⟨q719, hf⟩ := chk hf
          refine g_lald (j := (y615 - (2 : Int32)).toNatClampNeg) X.1 hH km_15 q719 rfl dX8_pricesPut_130 ?_
          refine lv_aload_n hx hb dX8_pricesPut_131 rfl (lv_at hl 1 rfl) ?_
          refine g_get (v := .ref (B + 6)) kX8 (by decide) fl_RX8_25 X.1 hH km_0 rfl dX8_pricesPut_132 ?_
          refine lv_iload hx hb dX8_pricesPut_135 (lv_at hl 4 rfl) ?_
          obtain ⟨q720, hf⟩ := chk hf
          refine g_lald (j := v4.toNatClampNeg) X.1 hH km_6 q720 rfl dX8_pricesPut_137 ?_
          refine lv_lsub hx hb dX8_pricesPut_138 ?_
          obtain ⟨q721, hf⟩ := chk hf
          refine g_last (j := (y615 - (2 : Int32)).toNatClampNeg) X.1 hH hS km_15 q721 rfl dX8_pricesPut_139 (fun H locs hH hS => ?_)
          obtain ⟨σ722, eσ722, hH⟩ := nmX hH
          replace hf := nmU hf eσ722
          exact w_X8_pricesPut_140 X c35 ih35 v1 v2 v4 σ722 hf _ _ hH hS _ (lv_sub hl [1, 2, 3, 4] rfl)
      · replace hf := brF hf q617
        refine lv_lload_n hx hb dX8_pricesPut_82 rfl (lv_at hl 3 rfl) ?_
        refine lv_aload_n hx hb dX8_pricesPut_83 rfl (lv_at hl 1 rfl) ?_
        refine g_get (v := .ref (B + 6)) kX8 (by decide) fl_RX8_25 X.1 hH km_0 rfl dX8_pricesPut_84 ?_
        refine lv_iload hx hb dX8_pricesPut_87 (lv_at hl 4 rfl) ?_
        obtain ⟨q723, hf⟩ := chk hf
        refine g_lald (j := v4.toNatClampNeg) X.1 hH km_6 q723 rfl dX8_pricesPut_89 ?_
        refine lv_ladd hx hb dX8_pricesPut_90 ?_
        refine lv_topl (fun y724 ey724 => ?_)
        replace hf := nmU hf ey724
        refine lv_lstore_n (lv' := [(2, .long y724), (5, .int y615), (0, .ref (B + 0)), (1, .int v1), (4, .int v4)]) hx hb dX8_pricesPut_91 rfl hl (by decide) rfl (fun ls hl => ?_)
        refine lv_aload_n hx hb dX8_pricesPut_92 rfl (lv_at hl 2 rfl) ?_
        refine g_get (v := .ref (B + 15)) kX8 (by decide) fl_RX8_54 X.1 hH km_0 rfl dX8_pricesPut_93 ?_
        refine lv_iload hx hb dX8_pricesPut_96 (lv_at hl 1 rfl) ?_
        refine lv_bipush (v := 10) hx hb dX8_pricesPut_98 (by decide) ?_
        refine lv_isub hx hb dX8_pricesPut_100 ?_
        refine lv_dup2_11 hx hb dX8_pricesPut_101 rfl rfl ?_
        obtain ⟨q725, hf⟩ := chk hf
        refine g_lald (j := (y615 - (10 : Int32)).toNatClampNeg) X.1 hH km_15 q725 rfl dX8_pricesPut_102 ?_
        refine lv_aload_n hx hb dX8_pricesPut_103 rfl (lv_at hl 2 rfl) ?_
        refine g_get (v := .ref (B + 6)) kX8 (by decide) fl_RX8_25 X.1 hH km_0 rfl dX8_pricesPut_104 ?_
        refine lv_iload hx hb dX8_pricesPut_107 (lv_at hl 4 rfl) ?_
        obtain ⟨q726, hf⟩ := chk hf
        refine g_lald (j := v4.toNatClampNeg) X.1 hH km_6 q726 rfl dX8_pricesPut_109 ?_
        refine lv_ladd hx hb dX8_pricesPut_110 ?_
        obtain ⟨q727, hf⟩ := chk hf
        refine g_last (j := (y615 - (10 : Int32)).toNatClampNeg) X.1 hH hS km_15 q727 rfl dX8_pricesPut_111 (fun H locs hH hS => ?_)
        obtain ⟨σ728, eσ728, hH⟩ := nmX hH
        replace hf := nmU hf eσ728
        refine lv_goto (tgt := 140) hx hb dX8_pricesPut_112 (by decide) ?_
        exact w_X8_pricesPut_140 X c35 ih35 v1 y724 v4 σ728 hf _ _ hH hS _ (lv_sub hl [2, 3, 0, 4] rfl)
    · replace hf := brT hf q616
      refine lv_lload_n hx hb dX8_pricesPut_62 rfl (lv_at hl 3 rfl) ?_
      refine lv_aload_n hx hb dX8_pricesPut_63 rfl (lv_at hl 1 rfl) ?_
      refine g_get (v := .ref (B + 6)) kX8 (by decide) fl_RX8_25 X.1 hH km_0 rfl dX8_pricesPut_64 ?_
      refine lv_iload hx hb dX8_pricesPut_67 (lv_at hl 4 rfl) ?_
      obtain ⟨q729, hf⟩ := chk hf
      refine g_lald (j := v4.toNatClampNeg) X.1 hH km_6 q729 rfl dX8_pricesPut_69 ?_
      refine lv_ladd hx hb dX8_pricesPut_70 ?_
      refine lv_topl (fun y730 ey730 => ?_)
      replace hf := nmU hf ey730
      refine lv_lstore_n (lv' := [(2, .long y730), (5, .int y615), (0, .ref (B + 0)), (1, .int v1), (4, .int v4)]) hx hb dX8_pricesPut_71 rfl hl (by decide) rfl (fun ls hl => ?_)
      refine lv_goto (tgt := 140) hx hb dX8_pricesPut_72 (by decide) ?_
      exact w_X8_pricesPut_140 X c35 ih35 v1 y730 v4 σ hf _ _ hH hS _ (lv_sub hl [2, 3, 0, 4] rfl)
def l_X8_pricesPut_35 : Nat → Int32 → Int64 → Int32 → Sto → Option (Sto)
  | 0, _, _, _, _ => none
  | n + 1, v1, v2, v4, σ => b_X8_pricesPut_35 (l_X8_pricesPut_35 n) v1 v2 v4 σ
set_option maxHeartbeats 4000000 in
set_option maxRecDepth 100000 in
theorem wl_X8_pricesPut_35 {p : Program} {l : Launch} {e : Env} {s : State} {m : MethodId} {args : Array Value} {below : List Frame} {meth : Method} {c : Code} {G : Gd} {B : Nat} (X : Cm p s m args meth c cX8_pricesPut 6 RX8 G none) {σr : Sto} (n : Nat) : ∀ (v1 : Int32) (v2 : Int64) (v4 : Int32) (σ : Sto) (H : Heap) (locs : List Loc) (ls : Array Slot), l_X8_pricesPut_35 n v1 v2 v4 σ = some σr → HX G layM B σ H → va_S (inW layM B) s.heap H locs → lv_has ls 6 [(0, .ref (B + 0)), (1, .int v1), (2, .long v2), (4, .int v4)] → WM p l e 0 s m args below meth c H locs G layM B none σr (F0 m 35 ls []) := by
  induction n with
  | zero =>
    intro _ _ _ σ H locs ls hf
    cases hf
  | succ n ih =>
    intro v1 v2 v4 σ H locs ls hf hH hS hl
    exact w_X8_pricesPut_35 X (l_X8_pricesPut_35 n) ih v1 v2 v4 σ hf H locs hH hS ls hl
def b_X8_pricesPut_5 (c5 : Int32 → Int64 → Int32 → Sto → Option (Sto)) (v1 : Int32) (v2 : Int64) (v4 : Int32) (σ : Sto) : Option (Sto) :=
  if (8 : Int32) ≤ v4 then (l_X8_pricesPut_35 400 v1 v2 (0 : Int32) σ) else (if (v4 < 0 ∨ 312 ≤ v4.toNatClampNeg) then none else if (v4 < 0 ∨ 8 ≤ v4.toNatClampNeg) then none else nmS (pL σ 15 v4.toNatClampNeg (σ.2 6 v4.toNatClampNeg)) fun σ733 => c5 v1 v2 (v4 + (1 : Int32)) σ733)
set_option maxHeartbeats 4000000 in
set_option maxRecDepth 100000 in
theorem w_X8_pricesPut_5 {p : Program} {l : Launch} {e : Env} {s : State} {m : MethodId} {args : Array Value} {below : List Frame} {meth : Method} {c : Code} {G : Gd} {B : Nat} (X : Cm p s m args meth c cX8_pricesPut 6 RX8 G none) (c5 : Int32 → Int64 → Int32 → Sto → Option (Sto)) {σr : Sto} (ih5 : ∀ (v1 : Int32) (v2 : Int64) (v4 : Int32) (σ : Sto) (H : Heap) (locs : List Loc) (ls : Array Slot), c5 v1 v2 v4 σ = some σr → HX G layM B σ H → va_S (inW layM B) s.heap H locs → lv_has ls 6 [(0, .ref (B + 0)), (1, .int v1), (2, .long v2), (4, .int v4)] → WM p l e 0 s m args below meth c H locs G layM B none σr (F0 m 5 ls [])) (v1 : Int32) (v2 : Int64) (v4 : Int32) (σ : Sto) (hf : b_X8_pricesPut_5 c5 v1 v2 v4 σ = some σr) (H : Heap) (locs : List Loc) (hH : HX G layM B σ H) (hS : va_S (inW layM B) s.heap H locs) (ls : Array Slot) (hl : lv_has ls 6 [(0, .ref (B + 0)), (1, .int v1), (2, .long v2), (4, .int v4)]) : WM p l e 0 s m args below meth c H locs G layM B none σr (F0 m 5 ls []) := by
  unfold b_X8_pricesPut_5 at hf
  have hx := X.1.1
  have hb := X.1.2.1
  refine lv_iload hx hb dX8_pricesPut_5 (lv_at hl 3 rfl) ?_
  refine lv_bipush (v := 8) hx hb dX8_pricesPut_7 (by decide) ?_
  refine lv_icmp_ge (tgt := 32) hx hb dX8_pricesPut_9 (by decide) (fun q201 => ?_) (fun q201 => ?_)
  · replace hf := brT hf q201
    refine lv_iconst (v := 0) hx hb dX8_pricesPut_32 (by decide) ?_
    refine lv_istore (lv' := [(4, .int (0 : Int32)), (0, .ref (B + 0)), (1, .int v1), (2, .long v2)]) hx hb dX8_pricesPut_33 hl (by decide) rfl (fun ls hl => ?_)
    exact wl_X8_pricesPut_35 X 400 v1 v2 (0 : Int32) σ _ _ _ hf hH hS (lv_sub hl [1, 2, 3, 0] rfl)
  · replace hf := brF hf q201
    refine lv_aload_n hx hb dX8_pricesPut_12 rfl (lv_at hl 0 rfl) ?_
    refine g_get (v := .ref (B + 15)) kX8 (by decide) fl_RX8_54 X.1 hH km_0 rfl dX8_pricesPut_13 ?_
    refine lv_iload hx hb dX8_pricesPut_16 (lv_at hl 3 rfl) ?_
    refine lv_aload_n hx hb dX8_pricesPut_18 rfl (lv_at hl 0 rfl) ?_
    refine g_get (v := .ref (B + 6)) kX8 (by decide) fl_RX8_25 X.1 hH km_0 rfl dX8_pricesPut_19 ?_
    refine lv_iload hx hb dX8_pricesPut_22 (lv_at hl 3 rfl) ?_
    obtain ⟨q731, hf⟩ := chk hf
    refine g_lald (j := v4.toNatClampNeg) X.1 hH km_6 q731 rfl dX8_pricesPut_24 ?_
    obtain ⟨q732, hf⟩ := chk hf
    refine g_last (j := v4.toNatClampNeg) X.1 hH hS km_15 q732 rfl dX8_pricesPut_25 (fun H locs hH hS => ?_)
    obtain ⟨σ733, eσ733, hH⟩ := nmX hH
    replace hf := nmU hf eσ733
    refine lv_iinc (v := (v4 + (1 : Int32))) (lv' := [(4, .int (v4 + (1 : Int32))), (0, .ref (B + 0)), (1, .int v1), (2, .long v2)]) hx hb dX8_pricesPut_26 hl (k := 3) rfl rfl (by decide) rfl (fun ls hl => ?_)
    refine lv_goto (tgt := 5) hx hb dX8_pricesPut_29 (by decide) ?_
    exact ih5 v1 v2 (v4 + (1 : Int32)) σ733 _ _ _ hf hH hS (lv_sub hl [1, 2, 3, 0] rfl)
def l_X8_pricesPut_5 : Nat → Int32 → Int64 → Int32 → Sto → Option (Sto)
  | 0, _, _, _, _ => none
  | n + 1, v1, v2, v4, σ => b_X8_pricesPut_5 (l_X8_pricesPut_5 n) v1 v2 v4 σ
set_option maxHeartbeats 4000000 in
set_option maxRecDepth 100000 in
theorem wl_X8_pricesPut_5 {p : Program} {l : Launch} {e : Env} {s : State} {m : MethodId} {args : Array Value} {below : List Frame} {meth : Method} {c : Code} {G : Gd} {B : Nat} (X : Cm p s m args meth c cX8_pricesPut 6 RX8 G none) {σr : Sto} (n : Nat) : ∀ (v1 : Int32) (v2 : Int64) (v4 : Int32) (σ : Sto) (H : Heap) (locs : List Loc) (ls : Array Slot), l_X8_pricesPut_5 n v1 v2 v4 σ = some σr → HX G layM B σ H → va_S (inW layM B) s.heap H locs → lv_has ls 6 [(0, .ref (B + 0)), (1, .int v1), (2, .long v2), (4, .int v4)] → WM p l e 0 s m args below meth c H locs G layM B none σr (F0 m 5 ls []) := by
  induction n with
  | zero =>
    intro _ _ _ σ H locs ls hf
    cases hf
  | succ n ih =>
    intro v1 v2 v4 σ H locs ls hf hH hS hl
    exact w_X8_pricesPut_5 X (l_X8_pricesPut_5 n) ih v1 v2 v4 σ hf H locs hH hS ls hl
def f_X8_pricesPut (x1 : Int32) (σ : Sto) : Option (Sto) :=
  l_X8_pricesPut_5 400 x1 (0 : Int64) (0 : Int32) σ
set_option maxHeartbeats 4000000 in
set_option maxRecDepth 100000 in
theorem w_X8_pricesPut {p : Program} {l : Launch} {e : Env} {s : State} {m : MethodId} {args : Array Value} {below : List Frame} {meth : Method} {c : Code} {G : Gd} {B : Nat} (X : Cm p s m args meth c cX8_pricesPut 6 RX8 G none) {σr : Sto} (x1 : Int32) (σ : Sto) (hf : f_X8_pricesPut x1 σ = some σr) (H : Heap) (locs : List Loc) (hH : HX G layM B σ H) (hS : va_S (inW layM B) s.heap H locs) (ls : Array Slot) (hl : lv_has ls 6 [(0, .ref (B + 0)), (1, .int x1)]) : WM p l e 0 s m args below meth c H locs G layM B none σr (F0 m 0 ls []) := by
  unfold f_X8_pricesPut at hf
  have hx := X.1.1
  have hb := X.1.2.1
  refine lv_lconst (v := 0) hx hb dX8_pricesPut_0 (by decide) ?_
  refine lv_lstore_n (lv' := [(2, .long (0 : Int64)), (0, .ref (B + 0)), (1, .int x1)]) hx hb dX8_pricesPut_1 rfl hl (by decide) rfl (fun ls hl => ?_)
  refine lv_iconst (v := 0) hx hb dX8_pricesPut_2 (by decide) ?_
  refine lv_istore (lv' := [(4, .int (0 : Int32)), (2, .long (0 : Int64)), (0, .ref (B + 0)), (1, .int x1)]) hx hb dX8_pricesPut_3 hl (by decide) rfl (fun ls hl => ?_)
  exact wl_X8_pricesPut_5 X 400 x1 (0 : Int64) (0 : Int32) σ _ _ _ hf hH hS (lv_sub hl [2, 3, 1, 0] rfl)
theorem c_X8_pricesPut (l : Launch) (G : Gd) (B : Nat) (x1 : Int32) (σ σr : Sto) (hf : f_X8_pricesPut x1 σ = some σr) : Ct l G layM B yX8_pricesPut cX8_pricesPut 6 none 0 [.ref (B + 0), .int x1] none σ σr :=
  Ct.ofW (by decide) (Nat.le_of_ble_eq_true rfl) (fun _ _ _ _ _ _ _ X hH hS ls hl => w_X8_pricesPut X x1 σ hf _ _ hH hS ls (show lv_has ls 6 [(0, .ref (B + 0)), (1, .int x1)] from hl))
-- SlackProofsModel.puts(IIJ)V  (D 1)
def b_X8_puts_161 (σ : Sto) : Option (Sto) :=
  some σ
set_option maxHeartbeats 4000000 in
set_option maxRecDepth 100000 in
theorem w_X8_puts_161 {p : Program} {l : Launch} {e : Env} {s : State} {m : MethodId} {args : Array Value} {below : List Frame} {meth : Method} {c : Code} {G : Gd} {B : Nat} (X : Cm p s m args meth c cX8_puts 9 RX8 G none) {σr : Sto} (σ : Sto) (hf : b_X8_puts_161 σ = some σr) (H : Heap) (locs : List Loc) (hH : HX G layM B σ H) (hS : va_S (inW layM B) s.heap H locs) (ls : Array Slot) (hl : lv_has ls 9 []) : WM p l e 1 s m args below meth c H locs G layM B none σr (F0 m 161 ls []) := by
  unfold b_X8_puts_161 at hf
  have hx := X.1.1
  have hb := X.1.2.1
  obtain rfl := rt1 hf
  exact g_vret X hH hS dX8_puts_161
def b_X8_puts_159 (s0 : Int64) (s1 : Int64) (s2 : Int32) (σ : Sto) : Option (Sto) :=
  if (s2 < 0 ∨ 10 ≤ s2.toNatClampNeg) then none else nmS (pL σ 12 s2.toNatClampNeg (s1 + s0)) fun σ717 => b_X8_puts_161 σ717
set_option maxHeartbeats 4000000 in
set_option maxRecDepth 100000 in
theorem w_X8_puts_159 {p : Program} {l : Launch} {e : Env} {s : State} {m : MethodId} {args : Array Value} {below : List Frame} {meth : Method} {c : Code} {G : Gd} {B : Nat} (X : Cm p s m args meth c cX8_puts 9 RX8 G none) {σr : Sto} (s0 : Int64) (s1 : Int64) (s2 : Int32) (σ : Sto) (hf : b_X8_puts_159 s0 s1 s2 σ = some σr) (H : Heap) (locs : List Loc) (hH : HX G layM B σ H) (hS : va_S (inW layM B) s.heap H locs) (ls : Array Slot) (hl : lv_has ls 9 []) : WM p l e 1 s m args below meth c H locs G layM B none σr (F0 m 159 ls [.long s0, .long s1, .int s2, .ref (B + 12)]) := by
  unfold b_X8_puts_159 at hf
  have hx := X.1.1
  have hb := X.1.2.1
  refine lv_ladd hx hb dX8_puts_159 ?_
  obtain ⟨q716, hf⟩ := chk hf
  refine g_last (j := s2.toNatClampNeg) X.1 hH hS km_12 q716 rfl dX8_puts_160 (fun H locs hH hS => ?_)
  obtain ⟨σ717, eσ717, hH⟩ := nmX hH
  replace hf := nmU hf eσ717
  exact w_X8_puts_161 X σ717 hf _ _ hH hS _ (lv_sub hl [] rfl)
def b_X8_puts_134 (v3 : Int64) (v7 : Int32) (v8 : Int32) (s0 : Int64) (s1 : Int64) (s2 : Int32) (σ : Sto) : Option (Sto) :=
  if (s2 < 0 ∨ 8 ≤ s2.toNatClampNeg) then none else nmS (pL σ 15 s2.toNatClampNeg (s1 + s0)) fun σ611 => if (((2 : Int32) + v7) < 0 ∨ 10 ≤ ((2 : Int32) + v7).toNatClampNeg) then none else if v8 = 0 then (bd2 (f_X8_size v3 σ611) fun r615 σ614 => b_X8_puts_159 r615 (σ611.2 12 ((2 : Int32) + v7).toNatClampNeg) ((2 : Int32) + v7) σ614) else (b_X8_puts_159 (0 : Int64) (σ611.2 12 ((2 : Int32) + v7).toNatClampNeg) ((2 : Int32) + v7) σ611)
set_option maxHeartbeats 4000000 in
set_option maxRecDepth 100000 in
theorem w_X8_puts_134 {p : Program} {l : Launch} {e : Env} {s : State} {m : MethodId} {args : Array Value} {below : List Frame} {meth : Method} {c : Code} {G : Gd} {B : Nat} (X : Cm p s m args meth c cX8_puts 9 RX8 G none) {σr : Sto} (v3 : Int64) (v7 : Int32) (v8 : Int32) (s0 : Int64) (s1 : Int64) (s2 : Int32) (σ : Sto) (hf : b_X8_puts_134 v3 v7 v8 s0 s1 s2 σ = some σr) (H : Heap) (locs : List Loc) (hH : HX G layM B σ H) (hS : va_S (inW layM B) s.heap H locs) (ls : Array Slot) (hl : lv_has ls 9 [(0, .ref (B + 0)), (3, .long v3), (7, .int v7), (8, .int v8)]) : WM p l e 1 s m args below meth c H locs G layM B none σr (F0 m 134 ls [.long s0, .long s1, .int s2, .ref (B + 15)]) := by
  unfold b_X8_puts_134 at hf
  have hx := X.1.1
  have hb := X.1.2.1
  refine lv_ladd hx hb dX8_puts_134 ?_
  obtain ⟨q610, hf⟩ := chk hf
  refine g_last (j := s2.toNatClampNeg) X.1 hH hS km_15 q610 rfl dX8_puts_135 (fun H locs hH hS => ?_)
  obtain ⟨σ611, eσ611, hH⟩ := nmX hH
  replace hf := nmU hf eσ611
  refine lv_aload_n hx hb dX8_puts_136 rfl (lv_at hl 0 rfl) ?_
  refine g_get (v := .ref (B + 12)) kX8 (by decide) fl_RX8_45 X.1 hH km_0 rfl dX8_puts_137 ?_
  refine lv_iconst (v := 2) hx hb dX8_puts_140 (by decide) ?_
  refine lv_iload hx hb dX8_puts_141 (lv_at hl 2 rfl) ?_
  refine lv_iadd hx hb dX8_puts_143 ?_
  refine lv_dup2_11 hx hb dX8_puts_144 rfl rfl ?_
  obtain ⟨q612, hf⟩ := chk hf
  refine g_lald (j := ((2 : Int32) + v7).toNatClampNeg) X.1 hH km_12 q612 rfl dX8_puts_145 ?_
  refine lv_iload hx hb dX8_puts_146 (lv_at hl 3 rfl) ?_
  refine lv_if_eq (tgt := 155) hx hb dX8_puts_148 (by decide) (fun q613 => ?_) (fun q613 => ?_)
  · replace hf := brT hf q613
    refine lv_lload_n hx hb dX8_puts_155 rfl (lv_at hl 1 rfl) ?_
    obtain ⟨r615, σ614, eσ614, hf⟩ := bnd2 hf
    refine g_cSl (As := [.long v3]) X.1 hH hS (c_X8_size l G B v3 σ611 σ614 r615 eσ614) kw_RX8_187 (by decide) rfl hl (Nat.le_of_ble_eq_true rfl) rfl dX8_puts_156 (fun H locs hH hS => ?_)
    exact w_X8_puts_159 X r615 (σ611.2 12 ((2 : Int32) + v7).toNatClampNeg) ((2 : Int32) + v7) σ614 hf _ _ hH hS _ (lv_sub hl [] rfl)
  · replace hf := brF hf q613
    refine lv_lconst (v := 0) hx hb dX8_puts_151 (by decide) ?_
    refine lv_goto (tgt := 159) hx hb dX8_puts_152 (by decide) ?_
    exact w_X8_puts_159 X (0 : Int64) (σ611.2 12 ((2 : Int32) + v7).toNatClampNeg) ((2 : Int32) + v7) σ611 hf _ _ hH hS _ (lv_sub hl [] rfl)
def b_X8_puts_111 (v3 : Int64) (v7 : Int32) (s0 : Int32) (σ : Sto) : Option (Sto) :=
  if (v7 < 0 ∨ 8 ≤ v7.toNatClampNeg) then none else if s0 = 0 then (b_X8_puts_134 v3 v7 s0 (0 : Int64) (σ.2 15 v7.toNatClampNeg) v7 σ) else (bd2 (f_X8_size v3 σ) fun r819 σ818 => b_X8_puts_134 v3 v7 s0 r819 (σ.2 15 v7.toNatClampNeg) v7 σ818)
set_option maxHeartbeats 4000000 in
set_option maxRecDepth 100000 in
theorem w_X8_puts_111 {p : Program} {l : Launch} {e : Env} {s : State} {m : MethodId} {args : Array Value} {below : List Frame} {meth : Method} {c : Code} {G : Gd} {B : Nat} (X : Cm p s m args meth c cX8_puts 9 RX8 G none) {σr : Sto} (v3 : Int64) (v7 : Int32) (s0 : Int32) (σ : Sto) (hf : b_X8_puts_111 v3 v7 s0 σ = some σr) (H : Heap) (locs : List Loc) (hH : HX G layM B σ H) (hS : va_S (inW layM B) s.heap H locs) (ls : Array Slot) (hl : lv_has ls 9 [(0, .ref (B + 0)), (3, .long v3), (7, .int v7)]) : WM p l e 1 s m args below meth c H locs G layM B none σr (F0 m 111 ls [.int s0]) := by
  unfold b_X8_puts_111 at hf
  have hx := X.1.1
  have hb := X.1.2.1
  refine lv_istore (lv' := [(8, .int s0), (0, .ref (B + 0)), (3, .long v3), (7, .int v7)]) hx hb dX8_puts_111 hl (by decide) rfl (fun ls hl => ?_)
  refine lv_aload_n hx hb dX8_puts_113 rfl (lv_at hl 1 rfl) ?_
  refine g_get (v := .ref (B + 15)) kX8 (by decide) fl_RX8_54 X.1 hH km_0 rfl dX8_puts_114 ?_
  refine lv_iload hx hb dX8_puts_117 (lv_at hl 3 rfl) ?_
  refine lv_dup2_11 hx hb dX8_puts_119 rfl rfl ?_
  obtain ⟨q508, hf⟩ := chk hf
  refine g_lald (j := v7.toNatClampNeg) X.1 hH km_15 q508 rfl dX8_puts_120 ?_
  refine lv_iload hx hb dX8_puts_121 (lv_at hl 0 rfl) ?_
  refine lv_if_eq (tgt := 133) hx hb dX8_puts_123 (by decide) (fun q509 => ?_) (fun q509 => ?_)
  · replace hf := brT hf q509
    refine lv_lconst (v := 0) hx hb dX8_puts_133 (by decide) ?_
    exact w_X8_puts_134 X v3 v7 s0 (0 : Int64) (σ.2 15 v7.toNatClampNeg) v7 σ hf _ _ hH hS _ (lv_sub hl [1, 2, 3, 0] rfl)
  · replace hf := brF hf q509
    refine lv_lload_n hx hb dX8_puts_126 rfl (lv_at hl 2 rfl) ?_
    obtain ⟨r819, σ818, eσ818, hf⟩ := bnd2 hf
    refine g_cSl (As := [.long v3]) X.1 hH hS (c_X8_size l G B v3 σ σ818 r819 eσ818) kw_RX8_187 (by decide) rfl hl (Nat.le_of_ble_eq_true rfl) rfl dX8_puts_127 (fun H locs hH hS => ?_)
    refine lv_goto (tgt := 134) hx hb dX8_puts_130 (by decide) ?_
    exact w_X8_puts_134 X v3 v7 s0 r819 (σ.2 15 v7.toNatClampNeg) v7 σ818 hf _ _ hH hS _ (lv_sub hl [1, 2, 3, 0] rfl)
def b_X8_puts_101 (v3 : Int64) (v6 : Int32) (v7 : Int32) (s0 : Int32) (σ : Sto) : Option (Sto) :=
  if s0 = v6 then (b_X8_puts_111 v3 v7 (1 : Int32) σ) else (b_X8_puts_111 v3 v7 (0 : Int32) σ)
set_option maxHeartbeats 4000000 in
set_option maxRecDepth 100000 in
theorem w_X8_puts_101 {p : Program} {l : Launch} {e : Env} {s : State} {m : MethodId} {args : Array Value} {below : List Frame} {meth : Method} {c : Code} {G : Gd} {B : Nat} (X : Cm p s m args meth c cX8_puts 9 RX8 G none) {σr : Sto} (v3 : Int64) (v6 : Int32) (v7 : Int32) (s0 : Int32) (σ : Sto) (hf : b_X8_puts_101 v3 v6 v7 s0 σ = some σr) (H : Heap) (locs : List Loc) (hH : HX G layM B σ H) (hS : va_S (inW layM B) s.heap H locs) (ls : Array Slot) (hl : lv_has ls 9 [(0, .ref (B + 0)), (3, .long v3), (6, .int v6), (7, .int v7)]) : WM p l e 1 s m args below meth c H locs G layM B none σr (F0 m 101 ls [.int s0]) := by
  unfold b_X8_puts_101 at hf
  have hx := X.1.1
  have hb := X.1.2.1
  refine lv_iload hx hb dX8_puts_101 (lv_at hl 2 rfl) ?_
  refine lv_icmp_ne (tgt := 110) hx hb dX8_puts_103 (by decide) (fun q407 => ?_) (fun q407 => ?_)
  · replace hf := brF hf q407
    refine lv_iconst (v := 0) hx hb dX8_puts_110 (by decide) ?_
    exact w_X8_puts_111 X v3 v7 (0 : Int32) σ hf _ _ hH hS _ (lv_sub hl [0, 1, 3] rfl)
  · replace hf := brT hf q407
    refine lv_iconst (v := 1) hx hb dX8_puts_106 (by decide) ?_
    refine lv_goto (tgt := 111) hx hb dX8_puts_107 (by decide) ?_
    exact w_X8_puts_111 X v3 v7 (1 : Int32) σ hf _ _ hH hS _ (lv_sub hl [0, 1, 3] rfl)
def b_X8_puts_87 (v3 : Int64) (v5 : Int32) (v6 : Int32) (s0 : Int32) (σ : Sto) : Option (Sto) :=
  if (10 : Int32) ≤ v5 then (b_X8_puts_101 v3 v6 s0 (0 : Int32) σ) else (b_X8_puts_101 v3 v6 s0 (1 : Int32) σ)
set_option maxHeartbeats 4000000 in
set_option maxRecDepth 100000 in
theorem w_X8_puts_87 {p : Program} {l : Launch} {e : Env} {s : State} {m : MethodId} {args : Array Value} {below : List Frame} {meth : Method} {c : Code} {G : Gd} {B : Nat} (X : Cm p s m args meth c cX8_puts 9 RX8 G none) {σr : Sto} (v3 : Int64) (v5 : Int32) (v6 : Int32) (s0 : Int32) (σ : Sto) (hf : b_X8_puts_87 v3 v5 v6 s0 σ = some σr) (H : Heap) (locs : List Loc) (hH : HX G layM B σ H) (hS : va_S (inW layM B) s.heap H locs) (ls : Array Slot) (hl : lv_has ls 9 [(0, .ref (B + 0)), (3, .long v3), (5, .int v5), (6, .int v6)]) : WM p l e 1 s m args below meth c H locs G layM B none σr (F0 m 87 ls [.int s0]) := by
  unfold b_X8_puts_87 at hf
  have hx := X.1.1
  have hb := X.1.2.1
  refine lv_istore (lv' := [(7, .int s0), (0, .ref (B + 0)), (3, .long v3), (5, .int v5), (6, .int v6)]) hx hb dX8_puts_87 hl (by decide) rfl (fun ls hl => ?_)
  refine lv_iload hx hb dX8_puts_89 (lv_at hl 3 rfl) ?_
  refine lv_bipush (v := 10) hx hb dX8_puts_91 (by decide) ?_
  refine lv_icmp_ge (tgt := 100) hx hb dX8_puts_93 (by decide) (fun q306 => ?_) (fun q306 => ?_)
  · replace hf := brT hf q306
    refine lv_iconst (v := 0) hx hb dX8_puts_100 (by decide) ?_
    exact w_X8_puts_101 X v3 v6 s0 (0 : Int32) σ hf _ _ hH hS _ (lv_sub hl [1, 2, 4, 0] rfl)
  · replace hf := brF hf q306
    refine lv_iconst (v := 1) hx hb dX8_puts_96 (by decide) ?_
    refine lv_goto (tgt := 101) hx hb dX8_puts_97 (by decide) ?_
    exact w_X8_puts_101 X v3 v6 s0 (1 : Int32) σ hf _ _ hH hS _ (lv_sub hl [1, 2, 4, 0] rfl)
def b_X8_puts_63 (s0 : Int64) (s1 : Int64) (s2 : Int32) (σ : Sto) : Option (Sto) :=
  if (s2 < 0 ∨ 10 ≤ s2.toNatClampNeg) then none else nmS (pL σ 12 s2.toNatClampNeg (s1 - s0)) fun σ1023 => b_X8_puts_161 σ1023
set_option maxHeartbeats 4000000 in
set_option maxRecDepth 100000 in
theorem w_X8_puts_63 {p : Program} {l : Launch} {e : Env} {s : State} {m : MethodId} {args : Array Value} {below : List Frame} {meth : Method} {c : Code} {G : Gd} {B : Nat} (X : Cm p s m args meth c cX8_puts 9 RX8 G none) {σr : Sto} (s0 : Int64) (s1 : Int64) (s2 : Int32) (σ : Sto) (hf : b_X8_puts_63 s0 s1 s2 σ = some σr) (H : Heap) (locs : List Loc) (hH : HX G layM B σ H) (hS : va_S (inW layM B) s.heap H locs) (ls : Array Slot) (hl : lv_has ls 9 []) : WM p l e 1 s m args below meth c H locs G layM B none σr (F0 m 63 ls [.long s0, .long s1, .int s2, .ref (B + 12)]) := by
  unfold b_X8_puts_63 at hf
  have hx := X.1.1
  have hb := X.1.2.1
  refine lv_lsub hx hb dX8_puts_63 ?_
  obtain ⟨q1022, hf⟩ := chk hf
  refine g_last (j := s2.toNatClampNeg) X.1 hH hS km_12 q1022 rfl dX8_puts_64 (fun H locs hH hS => ?_)
  obtain ⟨σ1023, eσ1023, hH⟩ := nmX hH
  replace hf := nmU hf eσ1023
  refine lv_goto (tgt := 161) hx hb dX8_puts_65 (by decide) ?_
  exact w_X8_puts_161 X σ1023 hf _ _ hH hS _ (lv_sub hl [] rfl)
def b_X8_puts_50 (v3 : Int64) (v6 : Int32) (s0 : Int32) (s1 : Int64) (s2 : Int32) (σ : Sto) : Option (Sto) :=
  if s0 = v6 then (bd2 (f_X8_size v3 σ) fun r1025 σ1024 => b_X8_puts_63 r1025 s1 s2 σ1024) else (b_X8_puts_63 (0 : Int64) s1 s2 σ)
set_option maxHeartbeats 4000000 in
set_option maxRecDepth 100000 in
theorem w_X8_puts_50 {p : Program} {l : Launch} {e : Env} {s : State} {m : MethodId} {args : Array Value} {below : List Frame} {meth : Method} {c : Code} {G : Gd} {B : Nat} (X : Cm p s m args meth c cX8_puts 9 RX8 G none) {σr : Sto} (v3 : Int64) (v6 : Int32) (s0 : Int32) (s1 : Int64) (s2 : Int32) (σ : Sto) (hf : b_X8_puts_50 v3 v6 s0 s1 s2 σ = some σr) (H : Heap) (locs : List Loc) (hH : HX G layM B σ H) (hS : va_S (inW layM B) s.heap H locs) (ls : Array Slot) (hl : lv_has ls 9 [(3, .long v3), (6, .int v6)]) : WM p l e 1 s m args below meth c H locs G layM B none σr (F0 m 50 ls [.int s0, .long s1, .int s2, .ref (B + 12)]) := by
  unfold b_X8_puts_50 at hf
  have hx := X.1.1
  have hb := X.1.2.1
  refine lv_iload hx hb dX8_puts_50 (lv_at hl 1 rfl) ?_
  refine lv_icmp_ne (tgt := 62) hx hb dX8_puts_52 (by decide) (fun q921 => ?_) (fun q921 => ?_)
  · replace hf := brF hf q921
    refine lv_lconst (v := 0) hx hb dX8_puts_62 (by decide) ?_
    exact w_X8_puts_63 X (0 : Int64) s1 s2 σ hf _ _ hH hS _ (lv_sub hl [] rfl)
  · replace hf := brT hf q921
    refine lv_lload_n hx hb dX8_puts_55 rfl (lv_at hl 0 rfl) ?_
    obtain ⟨r1025, σ1024, eσ1024, hf⟩ := bnd2 hf
    refine g_cSl (As := [.long v3]) X.1 hH hS (c_X8_size l G B v3 σ σ1024 r1025 eσ1024) kw_RX8_187 (by decide) rfl hl (Nat.le_of_ble_eq_true rfl) rfl dX8_puts_56 (fun H locs hH hS => ?_)
    refine lv_goto (tgt := 63) hx hb dX8_puts_59 (by decide) ?_
    exact w_X8_puts_63 X r1025 s1 s2 σ1024 hf _ _ hH hS _ (lv_sub hl [] rfl)
def b_X8_puts_24 (v3 : Int64) (v5 : Int32) (s0 : Int32) (σ : Sto) : Option (Sto) :=
  if (2 : Int32) ≤ v5 then (if (10 : Int32) ≤ v5 then (b_X8_puts_87 v3 v5 s0 (v5 - (10 : Int32)) σ) else (b_X8_puts_87 v3 v5 s0 (v5 - (2 : Int32)) σ)) else (if v5 = (1 : Int32) then (b_X8_puts_50 v3 s0 (1 : Int32) (σ.2 12 1) (1 : Int32) σ) else (b_X8_puts_50 v3 s0 (0 : Int32) (σ.2 12 1) (1 : Int32) σ))
set_option maxHeartbeats 4000000 in
set_option maxRecDepth 100000 in
theorem w_X8_puts_24 {p : Program} {l : Launch} {e : Env} {s : State} {m : MethodId} {args : Array Value} {below : List Frame} {meth : Method} {c : Code} {G : Gd} {B : Nat} (X : Cm p s m args meth c cX8_puts 9 RX8 G none) {σr : Sto} (v3 : Int64) (v5 : Int32) (s0 : Int32) (σ : Sto) (hf : b_X8_puts_24 v3 v5 s0 σ = some σr) (H : Heap) (locs : List Loc) (hH : HX G layM B σ H) (hS : va_S (inW layM B) s.heap H locs) (ls : Array Slot) (hl : lv_has ls 9 [(0, .ref (B + 0)), (3, .long v3), (5, .int v5)]) : WM p l e 1 s m args below meth c H locs G layM B none σr (F0 m 24 ls [.int s0]) := by
  unfold b_X8_puts_24 at hf
  have hx := X.1.1
  have hb := X.1.2.1
  refine lv_istore (lv' := [(6, .int s0), (0, .ref (B + 0)), (3, .long v3), (5, .int v5)]) hx hb dX8_puts_24 hl (by decide) rfl (fun ls hl => ?_)
  refine lv_iload hx hb dX8_puts_26 (lv_at hl 3 rfl) ?_
  refine lv_iconst (v := 2) hx hb dX8_puts_28 (by decide) ?_
  refine lv_icmp_ge (tgt := 68) hx hb dX8_puts_29 (by decide) (fun q204 => ?_) (fun q204 => ?_)
  · replace hf := brT hf q204
    refine lv_iload hx hb dX8_puts_68 (lv_at hl 3 rfl) ?_
    refine lv_bipush (v := 10) hx hb dX8_puts_70 (by decide) ?_
    refine lv_icmp_ge (tgt := 82) hx hb dX8_puts_72 (by decide) (fun q205 => ?_) (fun q205 => ?_)
    · replace hf := brT hf q205
      refine lv_iload hx hb dX8_puts_82 (lv_at hl 3 rfl) ?_
      refine lv_bipush (v := 10) hx hb dX8_puts_84 (by decide) ?_
      refine lv_isub hx hb dX8_puts_86 ?_
      exact w_X8_puts_87 X v3 v5 s0 (v5 - (10 : Int32)) σ hf _ _ hH hS _ (lv_sub hl [1, 2, 3, 0] rfl)
    · replace hf := brF hf q205
      refine lv_iload hx hb dX8_puts_75 (lv_at hl 3 rfl) ?_
      refine lv_iconst (v := 2) hx hb dX8_puts_77 (by decide) ?_
      refine lv_isub hx hb dX8_puts_78 ?_
      refine lv_goto (tgt := 87) hx hb dX8_puts_79 (by decide) ?_
      exact w_X8_puts_87 X v3 v5 s0 (v5 - (2 : Int32)) σ hf _ _ hH hS _ (lv_sub hl [1, 2, 3, 0] rfl)
  · replace hf := brF hf q204
    refine lv_aload_n hx hb dX8_puts_32 rfl (lv_at hl 1 rfl) ?_
    refine g_get (v := .ref (B + 12)) kX8 (by decide) fl_RX8_45 X.1 hH km_0 rfl dX8_puts_33 ?_
    refine lv_iconst (v := 1) hx hb dX8_puts_36 (by decide) ?_
    refine lv_dup2_11 hx hb dX8_puts_37 rfl rfl ?_
    refine g_lald (j := 1) X.1 hH km_12 (by decide) rfl dX8_puts_38 ?_
    refine lv_iload hx hb dX8_puts_39 (lv_at hl 3 rfl) ?_
    refine lv_iconst (v := 1) hx hb dX8_puts_41 (by decide) ?_
    refine lv_icmp_ne (tgt := 49) hx hb dX8_puts_42 (by decide) (fun q820 => ?_) (fun q820 => ?_)
    · replace hf := brF hf q820
      refine lv_iconst (v := 0) hx hb dX8_puts_49 (by decide) ?_
      exact w_X8_puts_50 X v3 s0 (0 : Int32) (σ.2 12 1) (1 : Int32) σ hf _ _ hH hS _ (lv_sub hl [2, 0] rfl)
    · replace hf := brT hf q820
      refine lv_iconst (v := 1) hx hb dX8_puts_45 (by decide) ?_
      refine lv_goto (tgt := 50) hx hb dX8_puts_46 (by decide) ?_
      exact w_X8_puts_50 X v3 s0 (1 : Int32) (σ.2 12 1) (1 : Int32) σ hf _ _ hH hS _ (lv_sub hl [2, 0] rfl)
def f_X8_puts (x1 : Int32) (x2 : Int32) (x3 : Int64) (σ : Sto) : Option (Sto) :=
  if ((((40 : Int32) * x1) + x2) < 0 ∨ 320 ≤ (((40 : Int32) * x1) + x2).toNatClampNeg) then none else nmS (σ.1 3 (((40 : Int32) * x1) + x2).toNatClampNeg) fun y102 => if x3 ≤ (0 : Int64) then (b_X8_puts_24 x3 y102 (0 : Int32) σ) else (b_X8_puts_24 x3 y102 (1 : Int32) σ)
set_option maxHeartbeats 4000000 in
set_option maxRecDepth 100000 in
theorem w_X8_puts {p : Program} {l : Launch} {e : Env} {s : State} {m : MethodId} {args : Array Value} {below : List Frame} {meth : Method} {c : Code} {G : Gd} {B : Nat} (X : Cm p s m args meth c cX8_puts 9 RX8 G none) {σr : Sto} (x1 : Int32) (x2 : Int32) (x3 : Int64) (σ : Sto) (hf : f_X8_puts x1 x2 x3 σ = some σr) (H : Heap) (locs : List Loc) (hH : HX G layM B σ H) (hS : va_S (inW layM B) s.heap H locs) (ls : Array Slot) (hl : lv_has ls 9 [(0, .ref (B + 0)), (1, .int x1), (2, .int x2), (3, .long x3)]) : WM p l e 1 s m args below meth c H locs G layM B none σr (F0 m 0 ls []) := by
  unfold f_X8_puts at hf
  have hx := X.1.1
  have hb := X.1.2.1
  refine lv_aload_n hx hb dX8_puts_0 rfl (lv_at hl 0 rfl) ?_
  refine g_get (v := .ref (B + 3)) kX8 (by decide) fl_RX8_16 X.1 hH km_0 rfl dX8_puts_1 ?_
  refine lv_bipush (v := 40) hx hb dX8_puts_4 (by decide) ?_
  refine lv_iload_n hx hb dX8_puts_6 rfl (lv_at hl 1 rfl) ?_
  refine lv_imul hx hb dX8_puts_7 ?_
  refine lv_iload_n hx hb dX8_puts_8 rfl (lv_at hl 2 rfl) ?_
  refine lv_iadd hx hb dX8_puts_9 ?_
  obtain ⟨q101, hf⟩ := chk hf
  refine g_iald (j := (((40 : Int32) * x1) + x2).toNatClampNeg) X.1 hH km_3 q101 rfl dX8_puts_10 ?_
  refine lv_topi (fun y102 ey102 => ?_)
  replace hf := nmU hf ey102
  refine lv_istore (lv' := [(5, .int y102), (0, .ref (B + 0)), (1, .int x1), (2, .int x2), (3, .long x3)]) hx hb dX8_puts_11 hl (by decide) rfl (fun ls hl => ?_)
  refine lv_lload_n hx hb dX8_puts_13 rfl (lv_at hl 4 rfl) ?_
  refine lv_lconst (v := 0) hx hb dX8_puts_14 (by decide) ?_
  refine g_lle (tgt := 23) X.1 dX8_puts_15 dX8_puts_16 (by decide) (fun q103 => ?_) (fun q103 => ?_)
  · replace hf := brT hf q103
    refine lv_iconst (v := 0) hx hb dX8_puts_23 (by decide) ?_
    exact w_X8_puts_24 X x3 y102 (0 : Int32) σ hf _ _ hH hS _ (lv_sub hl [1, 4, 0] rfl)
  · replace hf := brF hf q103
    refine lv_iconst (v := 1) hx hb dX8_puts_19 (by decide) ?_
    refine lv_goto (tgt := 24) hx hb dX8_puts_20 (by decide) ?_
    exact w_X8_puts_24 X x3 y102 (1 : Int32) σ hf _ _ hH hS _ (lv_sub hl [1, 4, 0] rfl)
theorem c_X8_puts (l : Launch) (G : Gd) (B : Nat) (x1 : Int32) (x2 : Int32) (x3 : Int64) (σ σr : Sto) (hf : f_X8_puts x1 x2 x3 σ = some σr) : Ct l G layM B yX8_puts cX8_puts 9 none 1 [.ref (B + 0), .int x1, .int x2, .long x3] none σ σr :=
  Ct.ofW (by decide) (Nat.le_of_ble_eq_true rfl) (fun _ _ _ _ _ _ _ X hH hS ls hl => w_X8_puts X x1 x2 x3 σ hf _ _ hH hS ls (show lv_has ls 9 [(0, .ref (B + 0)), (1, .int x1), (2, .int x2), (3, .long x3)] from hl))
