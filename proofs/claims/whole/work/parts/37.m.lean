-- SlackProofsModel.putsAll([JII)V  (D 2)
def b_X8_putsAll_209 (k0 n0 : Nat) (s0 : Int64) (s1 : Int32) (σ : Sto) : Option (Sto) :=
  if (s1 < 0 ∨ 10 ≤ s1.toNatClampNeg) then none else nmS (pL σ 12 s1.toNatClampNeg s0) fun σ508 => some σ508
set_option maxHeartbeats 4000000 in
set_option maxRecDepth 100000 in
theorem w_X8_putsAll_209 {p : Program} {l : Launch} {e : Env} {s : State} {m : MethodId} {args : Array Value} {below : List Frame} {meth : Method} {c : Code} {G : Gd} {B : Nat} (X : Cm p s m args meth c cX8_putsAll 7 RX8 G none) (k0 n0 : Nat) (h0 : (k0 < layM.2.2 ∧ layM.1 k0 = .inr (.long, n0))) {σr : Sto} (s0 : Int64) (s1 : Int32) (σ : Sto) (hf : b_X8_putsAll_209 k0 n0 s0 s1 σ = some σr) (H : Heap) (locs : List Loc) (hH : HX G layM B σ H) (hS : va_S (inW layM B) s.heap H locs) (ls : Array Slot) (hl : lv_has ls 7 []) : WM p l e 2 s m args below meth c H locs G layM B none σr (F0 m 209 ls [.long s0, .int s1, .ref (B + 12)]) := by
  unfold b_X8_putsAll_209 at hf
  have hx := X.1.1
  have hb := X.1.2.1
  obtain ⟨q507, hf⟩ := chk hf
  refine g_last (j := s1.toNatClampNeg) X.1 hH hS km_12 q507 rfl dX8_putsAll_209 (fun H locs hH hS => ?_)
  obtain ⟨σ508, eσ508, hH⟩ := nmX hH
  replace hf := nmU hf eσ508
  obtain rfl := rt1 hf
  exact g_vret X hH hS dX8_putsAll_210
def b_X8_putsAll_138 (c92 : Int32 → Sto → Option (Sto)) (k0 n0 : Nat) (v4 : Int32) (s0 : Int64) (σ : Sto) : Option (Sto) :=
  nmS (pL σ 12 1 ((σ.2 12 1) - s0)) fun σ613 => if (v4 < 0 ∨ 8 ≤ v4.toNatClampNeg) then none else if (((2 : Int32) + v4) < 0 ∨ 10 ≤ ((2 : Int32) + v4).toNatClampNeg) then none else if (((2 : Int32) + v4) < 0 ∨ 10 ≤ ((2 : Int32) + v4).toNatClampNeg) then none else nmS (pL σ613 12 ((2 : Int32) + v4).toNatClampNeg ((σ613.2 15 v4.toNatClampNeg) - (σ613.2 12 ((2 : Int32) + v4).toNatClampNeg))) fun σ617 => c92 (v4 + (1 : Int32)) σ617
set_option maxHeartbeats 4000000 in
set_option maxRecDepth 100000 in
theorem w_X8_putsAll_138 {p : Program} {l : Launch} {e : Env} {s : State} {m : MethodId} {args : Array Value} {below : List Frame} {meth : Method} {c : Code} {G : Gd} {B : Nat} (X : Cm p s m args meth c cX8_putsAll 7 RX8 G none) (c92 : Int32 → Sto → Option (Sto)) (k0 n0 : Nat) (h0 : (k0 < layM.2.2 ∧ layM.1 k0 = .inr (.long, n0))) {σr : Sto} (ih92 : ∀ (v4 : Int32) (σ : Sto) (H : Heap) (locs : List Loc) (ls : Array Slot), c92 v4 σ = some σr → HX G layM B σ H → va_S (inW layM B) s.heap H locs → lv_has ls 7 [(0, .ref (B + 0)), (4, .int v4)] → WM p l e 2 s m args below meth c H locs G layM B none σr (F0 m 92 ls [])) (v4 : Int32) (s0 : Int64) (σ : Sto) (hf : b_X8_putsAll_138 c92 k0 n0 v4 s0 σ = some σr) (H : Heap) (locs : List Loc) (hH : HX G layM B σ H) (hS : va_S (inW layM B) s.heap H locs) (ls : Array Slot) (hl : lv_has ls 7 [(0, .ref (B + 0)), (4, .int v4)]) : WM p l e 2 s m args below meth c H locs G layM B none σr (F0 m 138 ls [.long s0]) := by
  unfold b_X8_putsAll_138 at hf
  have hx := X.1.1
  have hb := X.1.2.1
  refine lv_lstore (lv' := [(5, .long s0), (0, .ref (B + 0)), (4, .int v4)]) hx hb dX8_putsAll_138 hl (by decide) rfl (fun ls hl => ?_)
  refine lv_aload_n hx hb dX8_putsAll_140 rfl (lv_at hl 1 rfl) ?_
  refine g_get (v := .ref (B + 12)) kX8 (by decide) fl_RX8_45 X.1 hH km_0 rfl dX8_putsAll_141 ?_
  refine lv_iconst (v := 1) hx hb dX8_putsAll_144 (by decide) ?_
  refine lv_dup2_11 hx hb dX8_putsAll_145 rfl rfl ?_
  refine g_lald (j := 1) X.1 hH km_12 (by decide) rfl dX8_putsAll_146 ?_
  refine lv_lload hx hb dX8_putsAll_147 (lv_at hl 0 rfl) ?_
  refine lv_lsub hx hb dX8_putsAll_149 ?_
  refine g_last (j := 1) X.1 hH hS km_12 (by decide) rfl dX8_putsAll_150 (fun H locs hH hS => ?_)
  obtain ⟨σ613, eσ613, hH⟩ := nmX hH
  replace hf := nmU hf eσ613
  refine lv_aload_n hx hb dX8_putsAll_151 rfl (lv_at hl 1 rfl) ?_
  refine g_get (v := .ref (B + 12)) kX8 (by decide) fl_RX8_45 X.1 hH km_0 rfl dX8_putsAll_152 ?_
  refine lv_iconst (v := 2) hx hb dX8_putsAll_155 (by decide) ?_
  refine lv_iload hx hb dX8_putsAll_156 (lv_at hl 2 rfl) ?_
  refine lv_iadd hx hb dX8_putsAll_158 ?_
  refine lv_aload_n hx hb dX8_putsAll_159 rfl (lv_at hl 1 rfl) ?_
  refine g_get (v := .ref (B + 15)) kX8 (by decide) fl_RX8_54 X.1 hH km_0 rfl dX8_putsAll_160 ?_
  refine lv_iload hx hb dX8_putsAll_163 (lv_at hl 2 rfl) ?_
  obtain ⟨q614, hf⟩ := chk hf
  refine g_lald (j := v4.toNatClampNeg) X.1 hH km_15 q614 rfl dX8_putsAll_165 ?_
  refine lv_aload_n hx hb dX8_putsAll_166 rfl (lv_at hl 1 rfl) ?_
  refine g_get (v := .ref (B + 12)) kX8 (by decide) fl_RX8_45 X.1 hH km_0 rfl dX8_putsAll_167 ?_
  refine lv_iconst (v := 2) hx hb dX8_putsAll_170 (by decide) ?_
  refine lv_iload hx hb dX8_putsAll_171 (lv_at hl 2 rfl) ?_
  refine lv_iadd hx hb dX8_putsAll_173 ?_
  obtain ⟨q615, hf⟩ := chk hf
  refine g_lald (j := ((2 : Int32) + v4).toNatClampNeg) X.1 hH km_12 q615 rfl dX8_putsAll_174 ?_
  refine lv_lsub hx hb dX8_putsAll_175 ?_
  obtain ⟨q616, hf⟩ := chk hf
  refine g_last (j := ((2 : Int32) + v4).toNatClampNeg) X.1 hH hS km_12 q616 rfl dX8_putsAll_176 (fun H locs hH hS => ?_)
  obtain ⟨σ617, eσ617, hH⟩ := nmX hH
  replace hf := nmU hf eσ617
  refine lv_iinc (v := (v4 + (1 : Int32))) (lv' := [(4, .int (v4 + (1 : Int32))), (5, .long s0), (0, .ref (B + 0))]) hx hb dX8_putsAll_177 hl (k := 2) rfl rfl (by decide) rfl (fun ls hl => ?_)
  refine lv_goto (tgt := 92) hx hb dX8_putsAll_180 (by decide) ?_
  exact ih92 (v4 + (1 : Int32)) σ617 _ _ _ hf hH hS (lv_sub hl [2, 0] rfl)
def b_X8_putsAll_92 (c92 : Int32 → Sto → Option (Sto)) (k0 n0 : Nat) (v4 : Int32) (σ : Sto) : Option (Sto) :=
  if (8 : Int32) ≤ v4 then (if (0 : Int64) ≤ (σ.2 12 1) then (b_X8_putsAll_209 k0 n0 (σ.2 12 1) (1 : Int32) σ) else (b_X8_putsAll_209 k0 n0 (0 : Int64) (1 : Int32) σ)) else (if (v4 < 0 ∨ 8 ≤ v4.toNatClampNeg) then none else if (((2 : Int32) + v4) < 0 ∨ 10 ≤ ((2 : Int32) + v4).toNatClampNeg) then none else if (σ.2 12 ((2 : Int32) + v4).toNatClampNeg) ≤ (σ.2 15 v4.toNatClampNeg) then (if (((2 : Int32) + v4) < 0 ∨ 10 ≤ ((2 : Int32) + v4).toNatClampNeg) then none else b_X8_putsAll_138 c92 k0 n0 v4 (σ.2 12 ((2 : Int32) + v4).toNatClampNeg) σ) else (if (v4 < 0 ∨ 8 ≤ v4.toNatClampNeg) then none else b_X8_putsAll_138 c92 k0 n0 v4 (σ.2 15 v4.toNatClampNeg) σ))
set_option maxHeartbeats 4000000 in
set_option maxRecDepth 100000 in
theorem w_X8_putsAll_92 {p : Program} {l : Launch} {e : Env} {s : State} {m : MethodId} {args : Array Value} {below : List Frame} {meth : Method} {c : Code} {G : Gd} {B : Nat} (X : Cm p s m args meth c cX8_putsAll 7 RX8 G none) (c92 : Int32 → Sto → Option (Sto)) (k0 n0 : Nat) (h0 : (k0 < layM.2.2 ∧ layM.1 k0 = .inr (.long, n0))) {σr : Sto} (ih92 : ∀ (v4 : Int32) (σ : Sto) (H : Heap) (locs : List Loc) (ls : Array Slot), c92 v4 σ = some σr → HX G layM B σ H → va_S (inW layM B) s.heap H locs → lv_has ls 7 [(0, .ref (B + 0)), (4, .int v4)] → WM p l e 2 s m args below meth c H locs G layM B none σr (F0 m 92 ls [])) (v4 : Int32) (σ : Sto) (hf : b_X8_putsAll_92 c92 k0 n0 v4 σ = some σr) (H : Heap) (locs : List Loc) (hH : HX G layM B σ H) (hS : va_S (inW layM B) s.heap H locs) (ls : Array Slot) (hl : lv_has ls 7 [(0, .ref (B + 0)), (4, .int v4)]) : WM p l e 2 s m args below meth c H locs G layM B none σr (F0 m 92 ls []) := by
  unfold b_X8_putsAll_92 at hf
  have hx := X.1.1
  have hb := X.1.2.1
  refine lv_iload hx hb dX8_putsAll_92 (lv_at hl 1 rfl) ?_
  refine lv_bipush (v := 8) hx hb dX8_putsAll_94 (by decide) ?_
  refine lv_icmp_ge (tgt := 183) hx hb dX8_putsAll_96 (by decide) (fun q405 => ?_) (fun q405 => ?_)
  · replace hf := brT hf q405
    refine lv_aload_n hx hb dX8_putsAll_183 rfl (lv_at hl 0 rfl) ?_
    refine g_get (v := .ref (B + 12)) kX8 (by decide) fl_RX8_45 X.1 hH km_0 rfl dX8_putsAll_184 ?_
    refine lv_iconst (v := 1) hx hb dX8_putsAll_187 (by decide) ?_
    refine lv_aload_n hx hb dX8_putsAll_188 rfl (lv_at hl 0 rfl) ?_
    refine g_get (v := .ref (B + 12)) kX8 (by decide) fl_RX8_45 X.1 hH km_0 rfl dX8_putsAll_189 ?_
    refine lv_iconst (v := 1) hx hb dX8_putsAll_192 (by decide) ?_
    refine g_lald (j := 1) X.1 hH km_12 (by decide) rfl dX8_putsAll_193 ?_
    refine lv_lconst (v := 0) hx hb dX8_putsAll_194 (by decide) ?_
    refine g_lge (tgt := 203) X.1 dX8_putsAll_195 dX8_putsAll_196 (by decide) (fun q406 => ?_) (fun q406 => ?_)
    · replace hf := brT hf q406
      refine lv_aload_n hx hb dX8_putsAll_203 rfl (lv_at hl 0 rfl) ?_
      refine g_get (v := .ref (B + 12)) kX8 (by decide) fl_RX8_45 X.1 hH km_0 rfl dX8_putsAll_204 ?_
      refine lv_iconst (v := 1) hx hb dX8_putsAll_207 (by decide) ?_
      refine g_lald (j := 1) X.1 hH km_12 (by decide) rfl dX8_putsAll_208 ?_
      exact w_X8_putsAll_209 X k0 n0 h0 (σ.2 12 1) (1 : Int32) σ hf _ _ hH hS _ (lv_sub hl [] rfl)
    · replace hf := brF hf q406
      refine lv_lconst (v := 0) hx hb dX8_putsAll_199 (by decide) ?_
      refine lv_goto (tgt := 209) hx hb dX8_putsAll_200 (by decide) ?_
      exact w_X8_putsAll_209 X k0 n0 h0 (0 : Int64) (1 : Int32) σ hf _ _ hH hS _ (lv_sub hl [] rfl)
  · replace hf := brF hf q405
    refine lv_aload_n hx hb dX8_putsAll_99 rfl (lv_at hl 0 rfl) ?_
    refine g_get (v := .ref (B + 15)) kX8 (by decide) fl_RX8_54 X.1 hH km_0 rfl dX8_putsAll_100 ?_
    refine lv_iload hx hb dX8_putsAll_103 (lv_at hl 1 rfl) ?_
    obtain ⟨q509, hf⟩ := chk hf
    refine g_lald (j := v4.toNatClampNeg) X.1 hH km_15 q509 rfl dX8_putsAll_105 ?_
    refine lv_aload_n hx hb dX8_putsAll_106 rfl (lv_at hl 0 rfl) ?_
    refine g_get (v := .ref (B + 12)) kX8 (by decide) fl_RX8_45 X.1 hH km_0 rfl dX8_putsAll_107 ?_
    refine lv_iconst (v := 2) hx hb dX8_putsAll_110 (by decide) ?_
    refine lv_iload hx hb dX8_putsAll_111 (lv_at hl 1 rfl) ?_
    refine lv_iadd hx hb dX8_putsAll_113 ?_
    obtain ⟨q510, hf⟩ := chk hf
    refine g_lald (j := ((2 : Int32) + v4).toNatClampNeg) X.1 hH km_12 q510 rfl dX8_putsAll_114 ?_
    refine g_lge (tgt := 129) X.1 dX8_putsAll_115 dX8_putsAll_116 (by decide) (fun q511 => ?_) (fun q511 => ?_)
    · replace hf := brT hf q511
      refine lv_aload_n hx hb dX8_putsAll_129 rfl (lv_at hl 0 rfl) ?_
      refine g_get (v := .ref (B + 12)) kX8 (by decide) fl_RX8_45 X.1 hH km_0 rfl dX8_putsAll_130 ?_
      refine lv_iconst (v := 2) hx hb dX8_putsAll_133 (by decide) ?_
      refine lv_iload hx hb dX8_putsAll_134 (lv_at hl 1 rfl) ?_
      refine lv_iadd hx hb dX8_putsAll_136 ?_
      obtain ⟨q512, hf⟩ := chk hf
      refine g_lald (j := ((2 : Int32) + v4).toNatClampNeg) X.1 hH km_12 q512 rfl dX8_putsAll_137 ?_
      exact w_X8_putsAll_138 X c92 k0 n0 h0 ih92 v4 (σ.2 12 ((2 : Int32) + v4).toNatClampNeg) σ hf _ _ hH hS _ (lv_sub hl [0, 1] rfl)
    · replace hf := brF hf q511
      refine lv_aload_n hx hb dX8_putsAll_119 rfl (lv_at hl 0 rfl) ?_
      refine g_get (v := .ref (B + 15)) kX8 (by decide) fl_RX8_54 X.1 hH km_0 rfl dX8_putsAll_120 ?_
      refine lv_iload hx hb dX8_putsAll_123 (lv_at hl 1 rfl) ?_
      obtain ⟨q618, hf⟩ := chk hf
      refine g_lald (j := v4.toNatClampNeg) X.1 hH km_15 q618 rfl dX8_putsAll_125 ?_
      refine lv_goto (tgt := 138) hx hb dX8_putsAll_126 (by decide) ?_
      exact w_X8_putsAll_138 X c92 k0 n0 h0 ih92 v4 (σ.2 15 v4.toNatClampNeg) σ hf _ _ hH hS _ (lv_sub hl [0, 1] rfl)
def l_X8_putsAll_92 (k0 n0 : Nat) : Nat → Int32 → Sto → Option (Sto)
  | 0, _, _ => none
  | n + 1, v4, σ => b_X8_putsAll_92 (l_X8_putsAll_92 k0 n0 n) k0 n0 v4 σ
set_option maxHeartbeats 4000000 in
set_option maxRecDepth 100000 in
theorem wl_X8_putsAll_92 {p : Program} {l : Launch} {e : Env} {s : State} {m : MethodId} {args : Array Value} {below : List Frame} {meth : Method} {c : Code} {G : Gd} {B : Nat} (X : Cm p s m args meth c cX8_putsAll 7 RX8 G none) (k0 n0 : Nat) (h0 : (k0 < layM.2.2 ∧ layM.1 k0 = .inr (.long, n0))) {σr : Sto} (n : Nat) : ∀ (v4 : Int32) (σ : Sto) (H : Heap) (locs : List Loc) (ls : Array Slot), l_X8_putsAll_92 k0 n0 n v4 σ = some σr → HX G layM B σ H → va_S (inW layM B) s.heap H locs → lv_has ls 7 [(0, .ref (B + 0)), (4, .int v4)] → WM p l e 2 s m args below meth c H locs G layM B none σr (F0 m 92 ls []) := by
  induction n with
  | zero =>
    intro _ σ H locs ls hf
    cases hf
  | succ n ih =>
    intro v4 σ H locs ls hf hH hS hl
    exact w_X8_putsAll_92 X (l_X8_putsAll_92 k0 n0 n) k0 n0 h0 ih v4 σ hf H locs hH hS ls hl
def b_X8_putsAll_83 (c48 : Int32 → Int32 → Int32 → Sto → Option (Sto)) (k0 n0 : Nat) (v2 : Int32) (v3 : Int32) (v4 : Int32) (σ : Sto) : Option (Sto) :=
  c48 v2 v3 (v4 + (1 : Int32)) σ
set_option maxHeartbeats 4000000 in
set_option maxRecDepth 100000 in
theorem w_X8_putsAll_83 {p : Program} {l : Launch} {e : Env} {s : State} {m : MethodId} {args : Array Value} {below : List Frame} {meth : Method} {c : Code} {G : Gd} {B : Nat} (X : Cm p s m args meth c cX8_putsAll 7 RX8 G none) (c48 : Int32 → Int32 → Int32 → Sto → Option (Sto)) (k0 n0 : Nat) (h0 : (k0 < layM.2.2 ∧ layM.1 k0 = .inr (.long, n0))) {σr : Sto} (ih48 : ∀ (v2 : Int32) (v3 : Int32) (v4 : Int32) (σ : Sto) (H : Heap) (locs : List Loc) (ls : Array Slot), c48 v2 v3 v4 σ = some σr → HX G layM B σ H → va_S (inW layM B) s.heap H locs → lv_has ls 7 [(0, .ref (B + 0)), (1, .ref (B + k0)), (2, .int v2), (3, .int v3), (4, .int v4)] → WM p l e 2 s m args below meth c H locs G layM B none σr (F0 m 48 ls [])) (v2 : Int32) (v3 : Int32) (v4 : Int32) (σ : Sto) (hf : b_X8_putsAll_83 c48 k0 n0 v2 v3 v4 σ = some σr) (H : Heap) (locs : List Loc) (hH : HX G layM B σ H) (hS : va_S (inW layM B) s.heap H locs) (ls : Array Slot) (hl : lv_has ls 7 [(0, .ref (B + 0)), (1, .ref (B + k0)), (2, .int v2), (3, .int v3), (4, .int v4)]) : WM p l e 2 s m args below meth c H locs G layM B none σr (F0 m 83 ls []) := by
  unfold b_X8_putsAll_83 at hf
  have hx := X.1.1
  have hb := X.1.2.1
  refine lv_iinc (v := (v4 + (1 : Int32))) (lv' := [(4, .int (v4 + (1 : Int32))), (0, .ref (B + 0)), (1, .ref (B + k0)), (2, .int v2), (3, .int v3)]) hx hb dX8_putsAll_83 hl (k := 4) rfl rfl (by decide) rfl (fun ls hl => ?_)
  refine lv_goto (tgt := 48) hx hb dX8_putsAll_86 (by decide) ?_
  exact ih48 v2 v3 (v4 + (1 : Int32)) σ _ _ _ hf hH hS (lv_sub hl [1, 2, 3, 4, 0] rfl)
def b_X8_putsAll_48 (c48 : Int32 → Int32 → Int32 → Sto → Option (Sto)) (k0 n0 : Nat) (v2 : Int32) (v3 : Int32) (v4 : Int32) (σ : Sto) : Option (Sto) :=
  if (8 : Int32) ≤ v4 then (l_X8_putsAll_92 k0 n0 400 (0 : Int32) σ) else (if (((v2 + (2 : Int32)) + v4) < 0 ∨ n0 ≤ ((v2 + (2 : Int32)) + v4).toNatClampNeg) then none else if (σ.2 k0 ((v2 + (2 : Int32)) + v4).toNatClampNeg) = (0 : Int64) then (b_X8_putsAll_83 c48 k0 n0 v2 v3 v4 σ) else (if (((v2 + (2 : Int32)) + v4) < 0 ∨ n0 ≤ ((v2 + (2 : Int32)) + v4).toNatClampNeg) then none else bd1 (f_X8_puts v3 v4 (σ.2 k0 ((v2 + (2 : Int32)) + v4).toNatClampNeg) σ) fun σ722 => b_X8_putsAll_83 c48 k0 n0 v2 v3 v4 σ722))
set_option maxHeartbeats 4000000 in
set_option maxRecDepth 100000 in
theorem w_X8_putsAll_48 {p : Program} {l : Launch} {e : Env} {s : State} {m : MethodId} {args : Array Value} {below : List Frame} {meth : Method} {c : Code} {G : Gd} {B : Nat} (X : Cm p s m args meth c cX8_putsAll 7 RX8 G none) (c48 : Int32 → Int32 → Int32 → Sto → Option (Sto)) (k0 n0 : Nat) (h0 : (k0 < layM.2.2 ∧ layM.1 k0 = .inr (.long, n0))) {σr : Sto} (ih48 : ∀ (v2 : Int32) (v3 : Int32) (v4 : Int32) (σ : Sto) (H : Heap) (locs : List Loc) (ls : Array Slot), c48 v2 v3 v4 σ = some σr → HX G layM B σ H → va_S (inW layM B) s.heap H locs → lv_has ls 7 [(0, .ref (B + 0)), (1, .ref (B + k0)), (2, .int v2), (3, .int v3), (4, .int v4)] → WM p l e 2 s m args below meth c H locs G layM B none σr (F0 m 48 ls [])) (v2 : Int32) (v3 : Int32) (v4 : Int32) (σ : Sto) (hf : b_X8_putsAll_48 c48 k0 n0 v2 v3 v4 σ = some σr) (H : Heap) (locs : List Loc) (hH : HX G layM B σ H) (hS : va_S (inW layM B) s.heap H locs) (ls : Array Slot) (hl : lv_has ls 7 [(0, .ref (B + 0)), (1, .ref (B + k0)), (2, .int v2), (3, .int v3), (4, .int v4)]) : WM p l e 2 s m args below meth c H locs G layM B none σr (F0 m 48 ls []) := by
  unfold b_X8_putsAll_48 at hf
  have hx := X.1.1
  have hb := X.1.2.1
  refine lv_iload hx hb dX8_putsAll_48 (lv_at hl 4 rfl) ?_
  refine lv_bipush (v := 8) hx hb dX8_putsAll_50 (by decide) ?_
  refine lv_icmp_ge (tgt := 89) hx hb dX8_putsAll_52 (by decide) (fun q304 => ?_) (fun q304 => ?_)
  · replace hf := brT hf q304
    refine lv_iconst (v := 0) hx hb dX8_putsAll_89 (by decide) ?_
    refine lv_istore (lv' := [(4, .int (0 : Int32)), (0, .ref (B + 0)), (1, .ref (B + k0)), (2, .int v2), (3, .int v3)]) hx hb dX8_putsAll_90 hl (by decide) rfl (fun ls hl => ?_)
    exact wl_X8_putsAll_92 X k0 n0 h0 400 (0 : Int32) σ _ _ _ hf hH hS (lv_sub hl [1, 0] rfl)
  · replace hf := brF hf q304
    refine lv_aload_n hx hb dX8_putsAll_55 rfl (lv_at hl 1 rfl) ?_
    refine lv_iload_n hx hb dX8_putsAll_56 rfl (lv_at hl 2 rfl) ?_
    refine lv_iconst (v := 2) hx hb dX8_putsAll_57 (by decide) ?_
    refine lv_iadd hx hb dX8_putsAll_58 ?_
    refine lv_iload hx hb dX8_putsAll_59 (lv_at hl 4 rfl) ?_
    refine lv_iadd hx hb dX8_putsAll_61 ?_
    obtain ⟨q619, hf⟩ := chk hf
    refine g_lald (j := ((v2 + (2 : Int32)) + v4).toNatClampNeg) X.1 hH h0 q619 rfl dX8_putsAll_62 ?_
    refine lv_lconst (v := 0) hx hb dX8_putsAll_63 (by decide) ?_
    refine g_leq (tgt := 83) X.1 dX8_putsAll_64 dX8_putsAll_65 (by decide) (fun q620 => ?_) (fun q620 => ?_)
    · replace hf := brT hf q620
      exact w_X8_putsAll_83 X c48 k0 n0 h0 ih48 v2 v3 v4 σ hf _ _ hH hS _ (lv_sub hl [0, 1, 2, 3, 4] rfl)
    · replace hf := brF hf q620
      refine lv_aload_n hx hb dX8_putsAll_68 rfl (lv_at hl 0 rfl) ?_
      refine lv_iload_n hx hb dX8_putsAll_69 rfl (lv_at hl 3 rfl) ?_
      refine lv_iload hx hb dX8_putsAll_70 (lv_at hl 4 rfl) ?_
      refine lv_aload_n hx hb dX8_putsAll_72 rfl (lv_at hl 1 rfl) ?_
      refine lv_iload_n hx hb dX8_putsAll_73 rfl (lv_at hl 2 rfl) ?_
      refine lv_iconst (v := 2) hx hb dX8_putsAll_74 (by decide) ?_
      refine lv_iadd hx hb dX8_putsAll_75 ?_
      refine lv_iload hx hb dX8_putsAll_76 (lv_at hl 4 rfl) ?_
      refine lv_iadd hx hb dX8_putsAll_78 ?_
      obtain ⟨q721, hf⟩ := chk hf
      refine g_lald (j := ((v2 + (2 : Int32)) + v4).toNatClampNeg) X.1 hH h0 q721 rfl dX8_putsAll_79 ?_
      obtain ⟨σ722, eσ722, hf⟩ := bnd1 hf
      refine g_cVv (As := [.int v3, .int v4, .long (σ.2 k0 ((v2 + (2 : Int32)) + v4).toNatClampNeg)]) X.1 hH hS (c_X8_puts l G B v3 v4 (σ.2 k0 ((v2 + (2 : Int32)) + v4).toNatClampNeg) σ σ722 eσ722) kw_RX8_229 kX8 km_0 (by decide) rfl hl (Nat.le_of_ble_eq_true rfl) rfl dX8_putsAll_80 (fun H locs hH hS => ?_)
      exact w_X8_putsAll_83 X c48 k0 n0 h0 ih48 v2 v3 v4 σ722 hf _ _ hH hS _ (lv_sub hl [0, 1, 2, 3, 4] rfl)
def l_X8_putsAll_48 (k0 n0 : Nat) : Nat → Int32 → Int32 → Int32 → Sto → Option (Sto)
  | 0, _, _, _, _ => none
  | n + 1, v2, v3, v4, σ => b_X8_putsAll_48 (l_X8_putsAll_48 k0 n0 n) k0 n0 v2 v3 v4 σ
set_option maxHeartbeats 4000000 in
set_option maxRecDepth 100000 in
theorem wl_X8_putsAll_48 {p : Program} {l : Launch} {e : Env} {s : State} {m : MethodId} {args : Array Value} {below : List Frame} {meth : Method} {c : Code} {G : Gd} {B : Nat} (X : Cm p s m args meth c cX8_putsAll 7 RX8 G none) (k0 n0 : Nat) (h0 : (k0 < layM.2.2 ∧ layM.1 k0 = .inr (.long, n0))) {σr : Sto} (n : Nat) : ∀ (v2 : Int32) (v3 : Int32) (v4 : Int32) (σ : Sto) (H : Heap) (locs : List Loc) (ls : Array Slot), l_X8_putsAll_48 k0 n0 n v2 v3 v4 σ = some σr → HX G layM B σ H → va_S (inW layM B) s.heap H locs → lv_has ls 7 [(0, .ref (B + 0)), (1, .ref (B + k0)), (2, .int v2), (3, .int v3), (4, .int v4)] → WM p l e 2 s m args below meth c H locs G layM B none σr (F0 m 48 ls []) := by
  induction n with
  | zero =>
    intro _ _ _ σ H locs ls hf
    cases hf
  | succ n ih =>
    intro v2 v3 v4 σ H locs ls hf hH hS hl
    exact w_X8_putsAll_48 X (l_X8_putsAll_48 k0 n0 n) k0 n0 h0 ih v2 v3 v4 σ hf H locs hH hS ls hl
def b_X8_putsAll_3 (c3 : Int32 → Int32 → Int32 → Sto → Option (Sto)) (k0 n0 : Nat) (v2 : Int32) (v3 : Int32) (v4 : Int32) (σ : Sto) : Option (Sto) :=
  if (8 : Int32) ≤ v4 then (if ((v2 + (1 : Int32)) < 0 ∨ n0 ≤ (v2 + (1 : Int32)).toNatClampNeg) then none else nmS (pL σ 12 1 (σ.2 k0 (v2 + (1 : Int32)).toNatClampNeg)) fun σ203 => l_X8_putsAll_48 k0 n0 400 v2 v3 (0 : Int32) σ203) else (if (v4 < 0 ∨ 8 ≤ v4.toNatClampNeg) then none else nmS (pL σ 15 v4.toNatClampNeg (0 : Int64)) fun σ725 => if (((2 : Int32) + v4) < 0 ∨ 10 ≤ ((2 : Int32) + v4).toNatClampNeg) then none else nmS (pL σ725 12 ((2 : Int32) + v4).toNatClampNeg (0 : Int64)) fun σ727 => c3 v2 v3 (v4 + (1 : Int32)) σ727)
set_option maxHeartbeats 4000000 in
set_option maxRecDepth 100000 in
theorem w_X8_putsAll_3 {p : Program} {l : Launch} {e : Env} {s : State} {m : MethodId} {args : Array Value} {below : List Frame} {meth : Method} {c : Code} {G : Gd} {B : Nat} (X : Cm p s m args meth c cX8_putsAll 7 RX8 G none) (c3 : Int32 → Int32 → Int32 → Sto → Option (Sto)) (k0 n0 : Nat) (h0 : (k0 < layM.2.2 ∧ layM.1 k0 = .inr (.long, n0))) {σr : Sto} (ih3 : ∀ (v2 : Int32) (v3 : Int32) (v4 : Int32) (σ : Sto) (H : Heap) (locs : List Loc) (ls : Array Slot), c3 v2 v3 v4 σ = some σr → HX G layM B σ H → va_S (inW layM B) s.heap H locs → lv_has ls 7 [(0, .ref (B + 0)), (1, .ref (B + k0)), (2, .int v2), (3, .int v3), (4, .int v4)] → WM p l e 2 s m args below meth c H locs G layM B none σr (F0 m 3 ls [])) (v2 : Int32) (v3 : Int32) (v4 : Int32) (σ : Sto) (hf : b_X8_putsAll_3 c3 k0 n0 v2 v3 v4 σ = some σr) (H : Heap) (locs : List Loc) (hH : HX G layM B σ H) (hS : va_S (inW layM B) s.heap H locs) (ls : Array Slot) (hl : lv_has ls 7 [(0, .ref (B + 0)), (1, .ref (B + k0)), (2, .int v2), (3, .int v3), (4, .int v4)]) : WM p l e 2 s m args below meth c H locs G layM B none σr (F0 m 3 ls []) := by
  unfold b_X8_putsAll_3 at hf
  have hx := X.1.1
  have hb := X.1.2.1
  refine lv_iload hx hb dX8_putsAll_3 (lv_at hl 4 rfl) ?_
  refine lv_bipush (v := 8) hx hb dX8_putsAll_5 (by decide) ?_
  refine lv_icmp_ge (tgt := 34) hx hb dX8_putsAll_7 (by decide) (fun q201 => ?_) (fun q201 => ?_)
  · replace hf := brT hf q201
    refine lv_aload_n hx hb dX8_putsAll_34 rfl (lv_at hl 0 rfl) ?_
    refine g_get (v := .ref (B + 12)) kX8 (by decide) fl_RX8_45 X.1 hH km_0 rfl dX8_putsAll_35 ?_
    refine lv_iconst (v := 1) hx hb dX8_putsAll_38 (by decide) ?_
    refine lv_aload_n hx hb dX8_putsAll_39 rfl (lv_at hl 1 rfl) ?_
    refine lv_iload_n hx hb dX8_putsAll_40 rfl (lv_at hl 2 rfl) ?_
    refine lv_iconst (v := 1) hx hb dX8_putsAll_41 (by decide) ?_
    refine lv_iadd hx hb dX8_putsAll_42 ?_
    obtain ⟨q202, hf⟩ := chk hf
    refine g_lald (j := (v2 + (1 : Int32)).toNatClampNeg) X.1 hH h0 q202 rfl dX8_putsAll_43 ?_
    refine g_last (j := 1) X.1 hH hS km_12 (by decide) rfl dX8_putsAll_44 (fun H locs hH hS => ?_)
    obtain ⟨σ203, eσ203, hH⟩ := nmX hH
    replace hf := nmU hf eσ203
    refine lv_iconst (v := 0) hx hb dX8_putsAll_45 (by decide) ?_
    refine lv_istore (lv' := [(4, .int (0 : Int32)), (0, .ref (B + 0)), (1, .ref (B + k0)), (2, .int v2), (3, .int v3)]) hx hb dX8_putsAll_46 hl (by decide) rfl (fun ls hl => ?_)
    exact wl_X8_putsAll_48 X k0 n0 h0 400 v2 v3 (0 : Int32) σ203 _ _ _ hf hH hS (lv_sub hl [1, 2, 3, 4, 0] rfl)
  · replace hf := brF hf q201
    refine lv_aload_n hx hb dX8_putsAll_10 rfl (lv_at hl 0 rfl) ?_
    refine g_get (v := .ref (B + 15)) kX8 (by decide) fl_RX8_54 X.1 hH km_0 rfl dX8_putsAll_11 ?_
    refine lv_iload hx hb dX8_putsAll_14 (lv_at hl 4 rfl) ?_
    refine lv_lconst (v := 0) hx hb dX8_putsAll_16 (by decide) ?_
    obtain ⟨q724, hf⟩ := chk hf
    refine g_last (j := v4.toNatClampNeg) X.1 hH hS km_15 q724 rfl dX8_putsAll_17 (fun H locs hH hS => ?_)
    obtain ⟨σ725, eσ725, hH⟩ := nmX hH
    replace hf := nmU hf eσ725
    refine lv_aload_n hx hb dX8_putsAll_18 rfl (lv_at hl 0 rfl) ?_
    refine g_get (v := .ref (B + 12)) kX8 (by decide) fl_RX8_45 X.1 hH km_0 rfl dX8_putsAll_19 ?_
    refine lv_iconst (v := 2) hx hb dX8_putsAll_22 (by decide) ?_
    refine lv_iload hx hb dX8_putsAll_23 (lv_at hl 4 rfl) ?_
    refine lv_iadd hx hb dX8_putsAll_25 ?_
    refine lv_lconst (v := 0) hx hb dX8_putsAll_26 (by decide) ?_
    obtain ⟨q726, hf⟩ := chk hf
    refine g_last (j := ((2 : Int32) + v4).toNatClampNeg) X.1 hH hS km_12 q726 rfl dX8_putsAll_27 (fun H locs hH hS => ?_)
    obtain ⟨σ727, eσ727, hH⟩ := nmX hH
    replace hf := nmU hf eσ727
    refine lv_iinc (v := (v4 + (1 : Int32))) (lv' := [(4, .int (v4 + (1 : Int32))), (0, .ref (B + 0)), (1, .ref (B + k0)), (2, .int v2), (3, .int v3)]) hx hb dX8_putsAll_28 hl (k := 4) rfl rfl (by decide) rfl (fun ls hl => ?_)
    refine lv_goto (tgt := 3) hx hb dX8_putsAll_31 (by decide) ?_
    exact ih3 v2 v3 (v4 + (1 : Int32)) σ727 _ _ _ hf hH hS (lv_sub hl [1, 2, 3, 4, 0] rfl)
def l_X8_putsAll_3 (k0 n0 : Nat) : Nat → Int32 → Int32 → Int32 → Sto → Option (Sto)
  | 0, _, _, _, _ => none
  | n + 1, v2, v3, v4, σ => b_X8_putsAll_3 (l_X8_putsAll_3 k0 n0 n) k0 n0 v2 v3 v4 σ
set_option maxHeartbeats 4000000 in
set_option maxRecDepth 100000 in
theorem wl_X8_putsAll_3 {p : Program} {l : Launch} {e : Env} {s : State} {m : MethodId} {args : Array Value} {below : List Frame} {meth : Method} {c : Code} {G : Gd} {B : Nat} (X : Cm p s m args meth c cX8_putsAll 7 RX8 G none) (k0 n0 : Nat) (h0 : (k0 < layM.2.2 ∧ layM.1 k0 = .inr (.long, n0))) {σr : Sto} (n : Nat) : ∀ (v2 : Int32) (v3 : Int32) (v4 : Int32) (σ : Sto) (H : Heap) (locs : List Loc) (ls : Array Slot), l_X8_putsAll_3 k0 n0 n v2 v3 v4 σ = some σr → HX G layM B σ H → va_S (inW layM B) s.heap H locs → lv_has ls 7 [(0, .ref (B + 0)), (1, .ref (B + k0)), (2, .int v2), (3, .int v3), (4, .int v4)] → WM p l e 2 s m args below meth c H locs G layM B none σr (F0 m 3 ls []) := by
  induction n with
  | zero =>
    intro _ _ _ σ H locs ls hf
    cases hf
  | succ n ih =>
    intro v2 v3 v4 σ H locs ls hf hH hS hl
    exact w_X8_putsAll_3 X (l_X8_putsAll_3 k0 n0 n) k0 n0 h0 ih v2 v3 v4 σ hf H locs hH hS ls hl
def f_X8_putsAll (k0 n0 : Nat) (x2 : Int32) (x3 : Int32) (σ : Sto) : Option (Sto) :=
  l_X8_putsAll_3 k0 n0 400 x2 x3 (0 : Int32) σ
set_option maxHeartbeats 4000000 in
set_option maxRecDepth 100000 in
theorem w_X8_putsAll {p : Program} {l : Launch} {e : Env} {s : State} {m : MethodId} {args : Array Value} {below : List Frame} {meth : Method} {c : Code} {G : Gd} {B : Nat} (X : Cm p s m args meth c cX8_putsAll 7 RX8 G none) (k0 n0 : Nat) (h0 : (k0 < layM.2.2 ∧ layM.1 k0 = .inr (.long, n0))) {σr : Sto} (x2 : Int32) (x3 : Int32) (σ : Sto) (hf : f_X8_putsAll k0 n0 x2 x3 σ = some σr) (H : Heap) (locs : List Loc) (hH : HX G layM B σ H) (hS : va_S (inW layM B) s.heap H locs) (ls : Array Slot) (hl : lv_has ls 7 [(0, .ref (B + 0)), (1, .ref (B + k0)), (2, .int x2), (3, .int x3)]) : WM p l e 2 s m args below meth c H locs G layM B none σr (F0 m 0 ls []) := by
  unfold f_X8_putsAll at hf
  have hx := X.1.1
  have hb := X.1.2.1
  refine lv_iconst (v := 0) hx hb dX8_putsAll_0 (by decide) ?_
  refine lv_istore (lv' := [(4, .int (0 : Int32)), (0, .ref (B + 0)), (1, .ref (B + k0)), (2, .int x2), (3, .int x3)]) hx hb dX8_putsAll_1 hl (by decide) rfl (fun ls hl => ?_)
  exact wl_X8_putsAll_3 X k0 n0 h0 400 x2 x3 (0 : Int32) σ _ _ _ hf hH hS (lv_sub hl [1, 2, 3, 4, 0] rfl)
theorem c_X8_putsAll (l : Launch) (G : Gd) (B : Nat) (k0 n0 : Nat) (h0 : (k0 < layM.2.2 ∧ layM.1 k0 = .inr (.long, n0))) (x2 : Int32) (x3 : Int32) (σ σr : Sto) (hf : f_X8_putsAll k0 n0 x2 x3 σ = some σr) : Ct l G layM B yX8_putsAll cX8_putsAll 7 none 2 [.ref (B + 0), .ref (B + k0), .int x2, .int x3] none σ σr :=
  Ct.ofW (by decide) (Nat.le_of_ble_eq_true rfl) (fun _ _ _ _ _ _ _ X hH hS ls hl => w_X8_putsAll X k0 n0 h0 x2 x3 σ hf _ _ hH hS ls (show lv_has ls 7 [(0, .ref (B + 0)), (1, .ref (B + k0)), (2, .int x2), (3, .int x3)] from hl))
-- SlackProofsModel.remove(I)I  (D 5)
def b_X8_remove_81 (v1 : Int32) (σ : Sto) : Option (Int32 × Sto) :=
  bd1 (f_X8_notes σ) fun σ209 => nmS (pL σ209 6 10 ((σ209.2 6 10) &&& (((1 : Int64) <<< (v1.toInt64 &&& 63)) ^^^ (-1 : Int64)))) fun σ211 => bd2 (f_X8_ones ((σ211.2 6 10).toInt32) σ211) fun r213 σ212 => bd2 (f_X8_well r213 σ212) fun r215 σ214 => some (r215, σ214)
set_option maxHeartbeats 4000000 in
set_option maxRecDepth 100000 in
theorem w_X8_remove_81 {p : Program} {l : Launch} {e : Env} {s : State} {m : MethodId} {args : Array Value} {below : List Frame} {meth : Method} {c : Code} {G : Gd} {B : Nat} (X : Cm p s m args meth c cX8_remove 2 RX8 G (some .int)) {r : Int32} {σr : Sto} (v1 : Int32) (σ : Sto) (hf : b_X8_remove_81 v1 σ = some (r, σr)) (H : Heap) (locs : List Loc) (hH : HX G layM B σ H) (hS : va_S (inW layM B) s.heap H locs) (ls : Array Slot) (hl : lv_has ls 2 [(0, .ref (B + 0)), (1, .int v1)]) : WM p l e 5 s m args below meth c H locs G layM B (some (.int r)) σr (F0 m 81 ls []) := by
  unfold b_X8_remove_81 at hf
  have hx := X.1.1
  have hb := X.1.2.1
  refine lv_aload_n hx hb dX8_remove_81 rfl (lv_at hl 0 rfl) ?_
  obtain ⟨σ209, eσ209, hf⟩ := bnd1 hf
  refine g_cVv (As := []) X.1 hH hS (c_X8_notes l G B σ σ209 eσ209) kw_RX8_168 kX8 km_0 (by decide) rfl hl (Nat.le_of_ble_eq_true rfl) rfl dX8_remove_82 (fun H locs hH hS => ?_)
  refine lv_aload_n hx hb dX8_remove_85 rfl (lv_at hl 0 rfl) ?_
  refine g_get (v := .ref (B + 6)) kX8 (by decide) fl_RX8_25 X.1 hH km_0 rfl dX8_remove_86 ?_
  refine lv_bipush (v := 10) hx hb dX8_remove_89 (by decide) ?_
  refine lv_dup2_11 hx hb dX8_remove_91 rfl rfl ?_
  refine g_lald (j := 10) X.1 hH km_6 (by decide) rfl dX8_remove_92 ?_
  refine lv_lconst (v := 1) hx hb dX8_remove_93 (by decide) ?_
  refine lv_iload_n hx hb dX8_remove_94 rfl (lv_at hl 1 rfl) ?_
  refine lv_lshl hx hb dX8_remove_95 rfl ?_
  refine lv_ldc2 (v := -1) hx hb X.1.2.2.2.1 (X.1.2.2.2.2.1 _ kc_RX8_194) dX8_remove_96 ?_
  refine lv_lxor hx hb dX8_remove_99 ?_
  refine lv_land hx hb dX8_remove_100 ?_
  refine g_last (j := 10) X.1 hH hS km_6 (by decide) rfl dX8_remove_101 (fun H locs hH hS => ?_)
  obtain ⟨σ211, eσ211, hH⟩ := nmX hH
  replace hf := nmU hf eσ211
  refine lv_aload_n hx hb dX8_remove_102 rfl (lv_at hl 0 rfl) ?_
  refine lv_aload_n hx hb dX8_remove_103 rfl (lv_at hl 0 rfl) ?_
  refine g_get (v := .ref (B + 6)) kX8 (by decide) fl_RX8_25 X.1 hH km_0 rfl dX8_remove_104 ?_
  refine lv_bipush (v := 10) hx hb dX8_remove_107 (by decide) ?_
  refine g_lald (j := 10) X.1 hH km_6 (by decide) rfl dX8_remove_109 ?_
  refine lv_l2i hx hb dX8_remove_110 rfl ?_
  obtain ⟨r213, σ212, eσ212, hf⟩ := bnd2 hf
  refine g_cSi (As := [.int ((σ211.2 6 10).toInt32)]) X.1 hH hS (c_X8_ones l G B ((σ211.2 6 10).toInt32) σ211 σ212 r213 eσ212) kw_RX8_255 (by decide) rfl hl (Nat.le_of_ble_eq_true rfl) rfl dX8_remove_111 (fun H locs hH hS => ?_)
  obtain ⟨r215, σ214, eσ214, hf⟩ := bnd2 hf
  refine g_cVi (As := [.int r213]) X.1 hH hS (c_X8_well l G B r213 σ212 σ214 r215 eσ214) kw_RX8_81 kX8 km_0 (by decide) rfl hl (Nat.le_of_ble_eq_true rfl) rfl dX8_remove_114 (fun H locs hH hS => ?_)
  obtain ⟨rfl, rfl⟩ := rt2 hf
  exact g_iret X hH hS dX8_remove_117
def f_X8_remove (x1 : Int32) (σ : Sto) : Option (Int32 × Sto) :=
  bd2 (f_X8_isFormula σ) fun r102 σ101 => if r102 = 0 then (some ((-1000002 : Int32), σ101)) else (bd2 (f_X8_isLive x1 σ101) fun r105 σ104 => if r105 = 0 then (some ((-1000001 : Int32), σ104)) else (if (((12 : Int32) + ((10 : Int32) * x1)) < 0 ∨ 312 ≤ ((12 : Int32) + ((10 : Int32) * x1)).toNatClampNeg) then none else if (4 : Int64) ≤ (σ104.2 6 ((12 : Int32) + ((10 : Int32) * x1)).toNatClampNeg) then (b_X8_remove_81 x1 σ104) else (bd2 (f_X8_isOver σ104) fun r217 σ216 => if r217 = 0 then (bd2 (f_X8_isFollowing 6 312 ((12 : Int32) + ((10 : Int32) * x1)) x1 (0 : Int32) σ216) fun r220 σ219 => if r220 = 0 then (bd2 (f_X8_well (-1000000 : Int32) σ219) fun r223 σ222 => some (r223, σ222)) else (b_X8_remove_81 x1 σ219)) else (bd2 (f_X8_found (6 : Int32) σ216) fun r225 σ224 => some (r225, σ224)))))
set_option maxHeartbeats 4000000 in
set_option maxRecDepth 100000 in
theorem w_X8_remove {p : Program} {l : Launch} {e : Env} {s : State} {m : MethodId} {args : Array Value} {below : List Frame} {meth : Method} {c : Code} {G : Gd} {B : Nat} (X : Cm p s m args meth c cX8_remove 2 RX8 G (some .int)) {r : Int32} {σr : Sto} (x1 : Int32) (σ : Sto) (hf : f_X8_remove x1 σ = some (r, σr)) (H : Heap) (locs : List Loc) (hH : HX G layM B σ H) (hS : va_S (inW layM B) s.heap H locs) (ls : Array Slot) (hl : lv_has ls 2 [(0, .ref (B + 0)), (1, .int x1)]) : WM p l e 5 s m args below meth c H locs G layM B (some (.int r)) σr (F0 m 0 ls []) := by
  unfold f_X8_remove at hf
  have hx := X.1.1
  have hb := X.1.2.1
  refine lv_aload_n hx hb dX8_remove_0 rfl (lv_at hl 0 rfl) ?_
  obtain ⟨r102, σ101, eσ101, hf⟩ := bnd2 hf
  refine g_cVi (As := []) X.1 hH hS (c_X8_isFormula l G B σ σ101 r102 eσ101) kw_RX8_171 kX8 km_0 (by decide) rfl hl (Nat.le_of_ble_eq_true rfl) rfl dX8_remove_1 (fun H locs hH hS => ?_)
  refine lv_if_ne (tgt := 10) hx hb dX8_remove_4 (by decide) (fun q103 => ?_) (fun q103 => ?_)
  · replace hf := brF hf q103
    refine lv_aload_n hx hb dX8_remove_10 rfl (lv_at hl 0 rfl) ?_
    refine lv_iload_n hx hb dX8_remove_11 rfl (lv_at hl 1 rfl) ?_
    obtain ⟨r105, σ104, eσ104, hf⟩ := bnd2 hf
    refine g_cVi (As := [.int x1]) X.1 hH hS (c_X8_isLive l G B x1 σ101 σ104 r105 eσ104) kw_RX8_175 kX8 km_0 (by decide) rfl hl (Nat.le_of_ble_eq_true rfl) rfl dX8_remove_12 (fun H locs hH hS => ?_)
    refine lv_if_ne (tgt := 21) hx hb dX8_remove_15 (by decide) (fun q106 => ?_) (fun q106 => ?_)
    · replace hf := brF hf q106
      refine lv_aload_n hx hb dX8_remove_21 rfl (lv_at hl 0 rfl) ?_
      refine g_get (v := .ref (B + 6)) kX8 (by decide) fl_RX8_25 X.1 hH km_0 rfl dX8_remove_22 ?_
      refine lv_bipush (v := 12) hx hb dX8_remove_25 (by decide) ?_
      refine lv_bipush (v := 10) hx hb dX8_remove_27 (by decide) ?_
      refine lv_iload_n hx hb dX8_remove_29 rfl (lv_at hl 1 rfl) ?_
      refine lv_imul hx hb dX8_remove_30 ?_
      refine lv_iadd hx hb dX8_remove_31 ?_
      obtain ⟨q107, hf⟩ := chk hf
      refine g_lald (j := ((12 : Int32) + ((10 : Int32) * x1)).toNatClampNeg) X.1 hH km_6 q107 rfl dX8_remove_32 ?_
      refine lv_ldc2 (v := 4) hx hb X.1.2.2.2.1 (X.1.2.2.2.2.1 _ kc_RX8_253) dX8_remove_33 ?_
      refine g_lge (tgt := 81) X.1 dX8_remove_36 dX8_remove_37 (by decide) (fun q108 => ?_) (fun q108 => ?_)
      · replace hf := brT hf q108
        exact w_X8_remove_81 X x1 σ104 hf _ _ hH hS _ (lv_sub hl [0, 1] rfl)
      · replace hf := brF hf q108
        refine lv_aload_n hx hb dX8_remove_40 rfl (lv_at hl 0 rfl) ?_
        obtain ⟨r217, σ216, eσ216, hf⟩ := bnd2 hf
        refine g_cVi (As := []) X.1 hH hS (c_X8_isOver l G B σ104 σ216 r217 eσ216) kw_RX8_222 kX8 km_0 (by decide) rfl hl (Nat.le_of_ble_eq_true rfl) rfl dX8_remove_41 (fun H locs hH hS => ?_)
        refine lv_if_eq (tgt := 54) hx hb dX8_remove_44 (by decide) (fun q218 => ?_) (fun q218 => ?_)
        · replace hf := brT hf q218
          refine lv_aload_n hx hb dX8_remove_54 rfl (lv_at hl 0 rfl) ?_
          refine lv_aload_n hx hb dX8_remove_55 rfl (lv_at hl 0 rfl) ?_
          refine g_get (v := .ref (B + 6)) kX8 (by decide) fl_RX8_25 X.1 hH km_0 rfl dX8_remove_56 ?_
          refine lv_bipush (v := 12) hx hb dX8_remove_59 (by decide) ?_
          refine lv_bipush (v := 10) hx hb dX8_remove_61 (by decide) ?_
          refine lv_iload_n hx hb dX8_remove_63 rfl (lv_at hl 1 rfl) ?_
          refine lv_imul hx hb dX8_remove_64 ?_
          refine lv_iadd hx hb dX8_remove_65 ?_
          refine lv_iload_n hx hb dX8_remove_66 rfl (lv_at hl 1 rfl) ?_
          refine lv_iconst (v := 0) hx hb dX8_remove_67 (by decide) ?_
          obtain ⟨r220, σ219, eσ219, hf⟩ := bnd2 hf
          refine g_cVi (As := [.ref (B + 6), .int ((12 : Int32) + ((10 : Int32) * x1)), .int x1, .int (0 : Int32)]) X.1 hH hS (c_X8_isFollowing l G B 6 312 km_6 ((12 : Int32) + ((10 : Int32) * x1)) x1 (0 : Int32) σ216 σ219 r220 eσ219) kw_RX8_225 kX8 km_0 (by decide) rfl hl (Nat.le_of_ble_eq_true rfl) rfl dX8_remove_68 (fun H locs hH hS => ?_)
          refine lv_if_ne (tgt := 81) hx hb dX8_remove_71 (by decide) (fun q221 => ?_) (fun q221 => ?_)
          · replace hf := brF hf q221
            exact w_X8_remove_81 X x1 σ219 hf _ _ hH hS _ (lv_sub hl [0, 1] rfl)
          · replace hf := brT hf q221
            refine lv_aload_n hx hb dX8_remove_74 rfl (lv_at hl 0 rfl) ?_
            refine lv_ldc (v := -1000000) hx hb X.1.2.2.2.1 (X.1.2.2.2.2.1 _ kc_RX8_60) dX8_remove_75 ?_
            obtain ⟨r223, σ222, eσ222, hf⟩ := bnd2 hf
            refine g_cVi (As := [.int (-1000000 : Int32)]) X.1 hH hS (c_X8_well l G B (-1000000 : Int32) σ219 σ222 r223 eσ222) kw_RX8_81 kX8 km_0 (by decide) rfl hl (Nat.le_of_ble_eq_true rfl) rfl dX8_remove_77 (fun H locs hH hS => ?_)
            obtain ⟨rfl, rfl⟩ := rt2 hf
            exact g_iret X hH hS dX8_remove_80
        · replace hf := brF hf q218
          refine lv_aload_n hx hb dX8_remove_47 rfl (lv_at hl 0 rfl) ?_
          refine lv_bipush (v := 6) hx hb dX8_remove_48 (by decide) ?_
          obtain ⟨r225, σ224, eσ224, hf⟩ := bnd2 hf
          refine g_cVi (As := [.int (6 : Int32)]) X.1 hH hS (c_X8_found l G B (6 : Int32) σ216 σ224 r225 eσ224) kw_RX8_77 kX8 km_0 (by decide) rfl hl (Nat.le_of_ble_eq_true rfl) rfl dX8_remove_50 (fun H locs hH hS => ?_)
          obtain ⟨rfl, rfl⟩ := rt2 hf
          exact g_iret X hH hS dX8_remove_53
    · replace hf := brT hf q106
      refine lv_ldc (v := -1000001) hx hb X.1.2.2.2.1 (X.1.2.2.2.2.1 _ kc_RX8_76) dX8_remove_18 ?_
      obtain ⟨rfl, rfl⟩ := rt2 hf
      exact g_iret X hH hS dX8_remove_20
  · replace hf := brT hf q103
    refine lv_ldc (v := -1000002) hx hb X.1.2.2.2.1 (X.1.2.2.2.2.1 _ kc_RX8_174) dX8_remove_7 ?_
    obtain ⟨rfl, rfl⟩ := rt2 hf
    exact g_iret X hH hS dX8_remove_9
theorem c_X8_remove (l : Launch) (G : Gd) (B : Nat) (x1 : Int32) (σ σr : Sto) (r : Int32) (hf : f_X8_remove x1 σ = some (r, σr)) : Ct l G layM B yX8_remove cX8_remove 2 (some .int) 5 [.ref (B + 0), .int x1] (some (.int r)) σ σr :=
  Ct.ofW (by decide) (Nat.le_of_ble_eq_true rfl) (fun _ _ _ _ _ _ _ X hH hS ls hl => w_X8_remove X x1 σ hf _ _ hH hS ls (show lv_has ls 2 [(0, .ref (B + 0)), (1, .int x1)] from hl))
-- SlackProofsModel.restore(I)I  (D 1)
def f_X8_restore (x1 : Int32) (σ : Sto) : Option (Int32 × Sto) :=
  bd2 (f_X8_in x1 (0 : Int32) (1 : Int32) σ) fun r102 σ101 => if r102 = 0 then (some ((-1000001 : Int32), σ101)) else (if (x1 < 0 ∨ 2 ≤ x1.toNatClampNeg) then none else if (σ101.1 10 x1.toNatClampNeg) = 0 then (some ((-1000002 : Int32), σ101)) else (bd1 (f_X8_copies 9 624 ((312 : Int32) * x1) 6 312 (0 : Int32) (312 : Int32) σ101) fun σ106 => nmS (pI σ106 0 16 (0 : Int32)) fun σ108 => bd2 (f_X8_ones ((σ108.2 6 10).toInt32) σ108) fun r110 σ109 => some (r110, σ109)))
set_option maxHeartbeats 4000000 in
set_option maxRecDepth 100000 in
theorem w_X8_restore {p : Program} {l : Launch} {e : Env} {s : State} {m : MethodId} {args : Array Value} {below : List Frame} {meth : Method} {c : Code} {G : Gd} {B : Nat} (X : Cm p s m args meth c cX8_restore 2 RX8 G (some .int)) {r : Int32} {σr : Sto} (x1 : Int32) (σ : Sto) (hf : f_X8_restore x1 σ = some (r, σr)) (H : Heap) (locs : List Loc) (hH : HX G layM B σ H) (hS : va_S (inW layM B) s.heap H locs) (ls : Array Slot) (hl : lv_has ls 2 [(0, .ref (B + 0)), (1, .int x1)]) : WM p l e 1 s m args below meth c H locs G layM B (some (.int r)) σr (F0 m 0 ls []) := by
  unfold f_X8_restore at hf
  have hx := X.1.1
  have hb := X.1.2.1
  refine lv_iload_n hx hb dX8_restore_0 rfl (lv_at hl 1 rfl) ?_
  refine lv_iconst (v := 0) hx hb dX8_restore_1 (by decide) ?_
  refine lv_iconst (v := 1) hx hb dX8_restore_2 (by decide) ?_
  obtain ⟨r102, σ101, eσ101, hf⟩ := bnd2 hf
  refine g_cSi (As := [.int x1, .int (0 : Int32), .int (1 : Int32)]) X.1 hH hS (c_X8_in l G B x1 (0 : Int32) (1 : Int32) σ σ101 r102 eσ101) kw_RX8_68 (by decide) rfl hl (Nat.le_of_ble_eq_true rfl) rfl dX8_restore_3 (fun H locs hH hS => ?_)
  refine lv_if_ne (tgt := 12) hx hb dX8_restore_6 (by decide) (fun q103 => ?_) (fun q103 => ?_)
  · replace hf := brF hf q103
    refine lv_aload_n hx hb dX8_restore_12 rfl (lv_at hl 0 rfl) ?_
    refine g_get (v := .ref (B + 10)) kX8 (by decide) fl_RX8_38 X.1 hH km_0 rfl dX8_restore_13 ?_
    refine lv_iload_n hx hb dX8_restore_16 rfl (lv_at hl 1 rfl) ?_
    obtain ⟨q104, hf⟩ := chk hf
    refine g_zald (j := x1.toNatClampNeg) X.1 hH km_10 q104 rfl dX8_restore_17 ?_
    refine lv_if_ne (tgt := 24) hx hb dX8_restore_18 (by decide) (fun q105 => ?_) (fun q105 => ?_)
    · replace hf := brF hf q105
      refine lv_aload_n hx hb dX8_restore_24 rfl (lv_at hl 0 rfl) ?_
      refine g_get (v := .ref (B + 9)) kX8 (by decide) fl_RX8_35 X.1 hH km_0 rfl dX8_restore_25 ?_
      refine lv_sipush (v := 312) hx hb dX8_restore_28 (by decide) ?_
      refine lv_iload_n hx hb dX8_restore_31 rfl (lv_at hl 1 rfl) ?_
      refine lv_imul hx hb dX8_restore_32 ?_
      refine lv_aload_n hx hb dX8_restore_33 rfl (lv_at hl 0 rfl) ?_
      refine g_get (v := .ref (B + 6)) kX8 (by decide) fl_RX8_25 X.1 hH km_0 rfl dX8_restore_34 ?_
      refine lv_iconst (v := 0) hx hb dX8_restore_37 (by decide) ?_
      refine lv_sipush (v := 312) hx hb dX8_restore_38 (by decide) ?_
      obtain ⟨σ106, eσ106, hf⟩ := bnd1 hf
      refine g_cSv (As := [.ref (B + 9), .int ((312 : Int32) * x1), .ref (B + 6), .int (0 : Int32), .int (312 : Int32)]) X.1 hH hS (c_X8_copies l G B 9 624 km_9 ((312 : Int32) * x1) 6 312 km_6 (0 : Int32) (312 : Int32) σ101 σ106 eσ106) kw_RX8_154 (by decide) rfl hl (Nat.le_of_ble_eq_true rfl) rfl dX8_restore_41 (fun H locs hH hS => ?_)
      refine lv_aload_n hx hb dX8_restore_44 rfl (lv_at hl 0 rfl) ?_
      refine lv_iconst (v := 0) hx hb dX8_restore_45 (by decide) ?_
      refine g_putI kX8 (by decide) fl_RX8_163 rfl rfl X.1 hH hS km_0 dX8_restore_46 (fun H locs hH hS => ?_)
      obtain ⟨σ108, eσ108, hH⟩ := nmX hH
      replace hf := nmU hf eσ108
      refine lv_aload_n hx hb dX8_restore_49 rfl (lv_at hl 0 rfl) ?_
      refine g_get (v := .ref (B + 6)) kX8 (by decide) fl_RX8_25 X.1 hH km_0 rfl dX8_restore_50 ?_
      refine lv_bipush (v := 10) hx hb dX8_restore_53 (by decide) ?_
      refine g_lald (j := 10) X.1 hH km_6 (by decide) rfl dX8_restore_55 ?_
      refine lv_l2i hx hb dX8_restore_56 rfl ?_
      obtain ⟨r110, σ109, eσ109, hf⟩ := bnd2 hf
      refine g_cSi (As := [.int ((σ108.2 6 10).toInt32)]) X.1 hH hS (c_X8_ones l G B ((σ108.2 6 10).toInt32) σ108 σ109 r110 eσ109) kw_RX8_255 (by decide) rfl hl (Nat.le_of_ble_eq_true rfl) rfl dX8_restore_57 (fun H locs hH hS => ?_)
      obtain ⟨rfl, rfl⟩ := rt2 hf
      exact g_iret X hH hS dX8_restore_60
    · replace hf := brT hf q105
      refine lv_ldc (v := -1000002) hx hb X.1.2.2.2.1 (X.1.2.2.2.2.1 _ kc_RX8_174) dX8_restore_21 ?_
      obtain ⟨rfl, rfl⟩ := rt2 hf
      exact g_iret X hH hS dX8_restore_23
  · replace hf := brT hf q103
    refine lv_ldc (v := -1000001) hx hb X.1.2.2.2.1 (X.1.2.2.2.2.1 _ kc_RX8_76) dX8_restore_9 ?_
    obtain ⟨rfl, rfl⟩ := rt2 hf
    exact g_iret X hH hS dX8_restore_11
theorem c_X8_restore (l : Launch) (G : Gd) (B : Nat) (x1 : Int32) (σ σr : Sto) (r : Int32) (hf : f_X8_restore x1 σ = some (r, σr)) : Ct l G layM B yX8_restore cX8_restore 2 (some .int) 1 [.ref (B + 0), .int x1] (some (.int r)) σ σr :=
  Ct.ofW (by decide) (Nat.le_of_ble_eq_true rfl) (fun _ _ _ _ _ _ _ X hH hS ls hl => w_X8_restore X x1 σ hf _ _ hH hS ls (show lv_has ls 2 [(0, .ref (B + 0)), (1, .int x1)] from hl))
-- SlackProofsModel.row(III)I  (D 2)
def b_X8_row_22 (σ : Sto) : Option (Int32 × Sto) :=
  some ((-1000001 : Int32), σ)
set_option maxHeartbeats 4000000 in
set_option maxRecDepth 100000 in
theorem w_X8_row_22 {p : Program} {l : Launch} {e : Env} {s : State} {m : MethodId} {args : Array Value} {below : List Frame} {meth : Method} {c : Code} {G : Gd} {B : Nat} (X : Cm p s m args meth c cX8_row 5 RX8 G (some .int)) {r : Int32} {σr : Sto} (σ : Sto) (hf : b_X8_row_22 σ = some (r, σr)) (H : Heap) (locs : List Loc) (hH : HX G layM B σ H) (hS : va_S (inW layM B) s.heap H locs) (ls : Array Slot) (hl : lv_has ls 5 []) : WM p l e 2 s m args below meth c H locs G layM B (some (.int r)) σr (F0 m 22 ls []) := by
  unfold b_X8_row_22 at hf
  have hx := X.1.1
  have hb := X.1.2.1
  refine lv_ldc (v := -1000001) hx hb X.1.2.2.2.1 (X.1.2.2.2.2.1 _ kc_RX8_76) dX8_row_22 ?_
  obtain ⟨rfl, rfl⟩ := rt2 hf
  exact g_iret X hH hS dX8_row_24
def b_X8_row_52 (c52 : Int32 → Int32 → Int32 → Sto → Option (Int32 × Sto)) (v1 : Int32) (v3 : Int32) (v4 : Int32) (σ : Sto) : Option (Int32 × Sto) :=
  if (40 : Int32) ≤ v4 then (bd2 (f_X8_well v3 σ) fun r315 σ314 => some (r315, σ314)) else (if ((((40 : Int32) * v1) + v4) < 0 ∨ 320 ≤ (((40 : Int32) * v1) + v4).toNatClampNeg) then none else nmS (pI σ 3 (((40 : Int32) * v1) + v4).toNatClampNeg (0 : Int32)) fun σ317 => c52 v1 v3 (v4 + (1 : Int32)) σ317)
set_option maxHeartbeats 4000000 in
set_option maxRecDepth 100000 in
theorem w_X8_row_52 {p : Program} {l : Launch} {e : Env} {s : State} {m : MethodId} {args : Array Value} {below : List Frame} {meth : Method} {c : Code} {G : Gd} {B : Nat} (X : Cm p s m args meth c cX8_row 5 RX8 G (some .int)) (c52 : Int32 → Int32 → Int32 → Sto → Option (Int32 × Sto)) {r : Int32} {σr : Sto} (ih52 : ∀ (v1 : Int32) (v3 : Int32) (v4 : Int32) (σ : Sto) (H : Heap) (locs : List Loc) (ls : Array Slot), c52 v1 v3 v4 σ = some (r, σr) → HX G layM B σ H → va_S (inW layM B) s.heap H locs → lv_has ls 5 [(0, .ref (B + 0)), (1, .int v1), (3, .int v3), (4, .int v4)] → WM p l e 2 s m args below meth c H locs G layM B (some (.int r)) σr (F0 m 52 ls [])) (v1 : Int32) (v3 : Int32) (v4 : Int32) (σ : Sto) (hf : b_X8_row_52 c52 v1 v3 v4 σ = some (r, σr)) (H : Heap) (locs : List Loc) (hH : HX G layM B σ H) (hS : va_S (inW layM B) s.heap H locs) (ls : Array Slot) (hl : lv_has ls 5 [(0, .ref (B + 0)), (1, .int v1), (3, .int v3), (4, .int v4)]) : WM p l e 2 s m args below meth c H locs G layM B (some (.int r)) σr (F0 m 52 ls []) := by
  unfold b_X8_row_52 at hf
  have hx := X.1.1
  have hb := X.1.2.1
  refine lv_iload hx hb dX8_row_52 (lv_at hl 3 rfl) ?_
  refine lv_bipush (v := 40) hx hb dX8_row_54 (by decide) ?_
  refine lv_icmp_ge (tgt := 78) hx hb dX8_row_56 (by decide) (fun q313 => ?_) (fun q313 => ?_)
  · replace hf := brT hf q313
    refine lv_aload_n hx hb dX8_row_78 rfl (lv_at hl 0 rfl) ?_
    refine lv_iload_n hx hb dX8_row_79 rfl (lv_at hl 2 rfl) ?_
    obtain ⟨r315, σ314, eσ314, hf⟩ := bnd2 hf
    refine g_cVi (As := [.int v3]) X.1 hH hS (c_X8_well l G B v3 σ σ314 r315 eσ314) kw_RX8_81 kX8 km_0 (by decide) rfl hl (Nat.le_of_ble_eq_true rfl) rfl dX8_row_80 (fun H locs hH hS => ?_)
    obtain ⟨rfl, rfl⟩ := rt2 hf
    exact g_iret X hH hS dX8_row_83
  · replace hf := brF hf q313
    refine lv_aload_n hx hb dX8_row_59 rfl (lv_at hl 0 rfl) ?_
    refine g_get (v := .ref (B + 3)) kX8 (by decide) fl_RX8_16 X.1 hH km_0 rfl dX8_row_60 ?_
    refine lv_bipush (v := 40) hx hb dX8_row_63 (by decide) ?_
    refine lv_iload_n hx hb dX8_row_65 rfl (lv_at hl 1 rfl) ?_
    refine lv_imul hx hb dX8_row_66 ?_
    refine lv_iload hx hb dX8_row_67 (lv_at hl 3 rfl) ?_
    refine lv_iadd hx hb dX8_row_69 ?_
    refine lv_iconst (v := 0) hx hb dX8_row_70 (by decide) ?_
    obtain ⟨q316, hf⟩ := chk hf
    refine g_iast (j := (((40 : Int32) * v1) + v4).toNatClampNeg) X.1 hH hS km_3 q316 rfl dX8_row_71 (fun H locs hH hS => ?_)
    obtain ⟨σ317, eσ317, hH⟩ := nmX hH
    replace hf := nmU hf eσ317
    refine lv_iinc (v := (v4 + (1 : Int32))) (lv' := [(4, .int (v4 + (1 : Int32))), (0, .ref (B + 0)), (1, .int v1), (3, .int v3)]) hx hb dX8_row_72 hl (k := 3) rfl rfl (by decide) rfl (fun ls hl => ?_)
    refine lv_goto (tgt := 52) hx hb dX8_row_75 (by decide) ?_
    exact ih52 v1 v3 (v4 + (1 : Int32)) σ317 _ _ _ hf hH hS (lv_sub hl [1, 2, 3, 0] rfl)
def l_X8_row_52 : Nat → Int32 → Int32 → Int32 → Sto → Option (Int32 × Sto)
  | 0, _, _, _, _ => none
  | n + 1, v1, v3, v4, σ => b_X8_row_52 (l_X8_row_52 n) v1 v3 v4 σ
set_option maxHeartbeats 4000000 in
set_option maxRecDepth 100000 in
theorem wl_X8_row_52 {p : Program} {l : Launch} {e : Env} {s : State} {m : MethodId} {args : Array Value} {below : List Frame} {meth : Method} {c : Code} {G : Gd} {B : Nat} (X : Cm p s m args meth c cX8_row 5 RX8 G (some .int)) {r : Int32} {σr : Sto} (n : Nat) : ∀ (v1 : Int32) (v3 : Int32) (v4 : Int32) (σ : Sto) (H : Heap) (locs : List Loc) (ls : Array Slot), l_X8_row_52 n v1 v3 v4 σ = some (r, σr) → HX G layM B σ H → va_S (inW layM B) s.heap H locs → lv_has ls 5 [(0, .ref (B + 0)), (1, .int v1), (3, .int v3), (4, .int v4)] → WM p l e 2 s m args below meth c H locs G layM B (some (.int r)) σr (F0 m 52 ls []) := by
  induction n with
  | zero =>
    intro _ _ _ σ H locs ls hf
    cases hf
  | succ n ih =>
    intro v1 v3 v4 σ H locs ls hf hH hS hl
    exact w_X8_row_52 X (l_X8_row_52 n) ih v1 v3 v4 σ hf H locs hH hS ls hl
def f_X8_row (x1 : Int32) (x2 : Int32) (x3 : Int32) (σ : Sto) : Option (Int32 × Sto) :=
  bd2 (f_X8_isRow x1 σ) fun r102 σ101 => if r102 = 0 then (b_X8_row_22 σ101) else (bd2 (f_X8_in x2 (0 : Int32) (2 : Int32) σ101) fun r205 σ204 => if r205 = 0 then (b_X8_row_22 σ204) else (if x3 ≤ (40 : Int32) then (if 0 ≤ x3 then (if (x1 < 0 ∨ 8 ≤ x1.toNatClampNeg) then none else nmS (pI σ204 1 x1.toNatClampNeg x2) fun σ210 => if (x1 < 0 ∨ 8 ≤ x1.toNatClampNeg) then none else nmS (pI σ210 2 x1.toNatClampNeg x3) fun σ212 => l_X8_row_52 400 x1 x3 (0 : Int32) σ212) else (bd2 (f_X8_found (4 : Int32) σ204) fun r319 σ318 => some (r319, σ318))) else (b_X8_row_22 σ204)))
set_option maxHeartbeats 4000000 in
set_option maxRecDepth 100000 in
theorem w_X8_row {p : Program} {l : Launch} {e : Env} {s : State} {m : MethodId} {args : Array Value} {below : List Frame} {meth : Method} {c : Code} {G : Gd} {B : Nat} (X : Cm p s m args meth c cX8_row 5 RX8 G (some .int)) {r : Int32} {σr : Sto} (x1 : Int32) (x2 : Int32) (x3 : Int32) (σ : Sto) (hf : f_X8_row x1 x2 x3 σ = some (r, σr)) (H : Heap) (locs : List Loc) (hH : HX G layM B σ H) (hS : va_S (inW layM B) s.heap H locs) (ls : Array Slot) (hl : lv_has ls 5 [(0, .ref (B + 0)), (1, .int x1), (2, .int x2), (3, .int x3)]) : WM p l e 2 s m args below meth c H locs G layM B (some (.int r)) σr (F0 m 0 ls []) := by
  unfold f_X8_row at hf
  have hx := X.1.1
  have hb := X.1.2.1
  refine lv_iload_n hx hb dX8_row_0 rfl (lv_at hl 1 rfl) ?_
  obtain ⟨r102, σ101, eσ101, hf⟩ := bnd2 hf
  refine g_cSi (As := [.int x1]) X.1 hH hS (c_X8_isRow l G B x1 σ σ101 r102 eσ101) kw_RX8_72 (by decide) rfl hl (Nat.le_of_ble_eq_true rfl) rfl dX8_row_1 (fun H locs hH hS => ?_)
  refine lv_if_eq (tgt := 22) hx hb dX8_row_4 (by decide) (fun q103 => ?_) (fun q103 => ?_)
  · replace hf := brT hf q103
    exact w_X8_row_22 X σ101 hf _ _ hH hS _ (lv_sub hl [] rfl)
  · replace hf := brF hf q103
    refine lv_iload_n hx hb dX8_row_7 rfl (lv_at hl 2 rfl) ?_
    refine lv_iconst (v := 0) hx hb dX8_row_8 (by decide) ?_
    refine lv_iconst (v := 2) hx hb dX8_row_9 (by decide) ?_
    obtain ⟨r205, σ204, eσ204, hf⟩ := bnd2 hf
    refine g_cSi (As := [.int x2, .int (0 : Int32), .int (2 : Int32)]) X.1 hH hS (c_X8_in l G B x2 (0 : Int32) (2 : Int32) σ101 σ204 r205 eσ204) kw_RX8_68 (by decide) rfl hl (Nat.le_of_ble_eq_true rfl) rfl dX8_row_10 (fun H locs hH hS => ?_)
    refine lv_if_eq (tgt := 22) hx hb dX8_row_13 (by decide) (fun q206 => ?_) (fun q206 => ?_)
    · replace hf := brT hf q206
      exact w_X8_row_22 X σ204 hf _ _ hH hS _ (lv_sub hl [] rfl)
    · replace hf := brF hf q206
      refine lv_iload_n hx hb dX8_row_16 rfl (lv_at hl 3 rfl) ?_
      refine lv_bipush (v := 40) hx hb dX8_row_17 (by decide) ?_
      refine lv_icmp_le (tgt := 25) hx hb dX8_row_19 (by decide) (fun q207 => ?_) (fun q207 => ?_)
      · replace hf := brT hf q207
        refine lv_iload_n hx hb dX8_row_25 rfl (lv_at hl 3 rfl) ?_
        refine lv_if_ge (tgt := 35) hx hb dX8_row_26 (by decide) (fun q208 => ?_) (fun q208 => ?_)
        · replace hf := brT hf q208
          refine lv_aload_n hx hb dX8_row_35 rfl (lv_at hl 0 rfl) ?_
          refine g_get (v := .ref (B + 1)) kX8 (by decide) fl_RX8_7 X.1 hH km_0 rfl dX8_row_36 ?_
          refine lv_iload_n hx hb dX8_row_39 rfl (lv_at hl 1 rfl) ?_
          refine lv_iload_n hx hb dX8_row_40 rfl (lv_at hl 2 rfl) ?_
          obtain ⟨q209, hf⟩ := chk hf
          refine g_iast (j := x1.toNatClampNeg) X.1 hH hS km_1 q209 rfl dX8_row_41 (fun H locs hH hS => ?_)
          obtain ⟨σ210, eσ210, hH⟩ := nmX hH
          replace hf := nmU hf eσ210
          refine lv_aload_n hx hb dX8_row_42 rfl (lv_at hl 0 rfl) ?_
          refine g_get (v := .ref (B + 2)) kX8 (by decide) fl_RX8_13 X.1 hH km_0 rfl dX8_row_43 ?_
          refine lv_iload_n hx hb dX8_row_46 rfl (lv_at hl 1 rfl) ?_
          refine lv_iload_n hx hb dX8_row_47 rfl (lv_at hl 3 rfl) ?_
          obtain ⟨q211, hf⟩ := chk hf
          refine g_iast (j := x1.toNatClampNeg) X.1 hH hS km_2 q211 rfl dX8_row_48 (fun H locs hH hS => ?_)
          obtain ⟨σ212, eσ212, hH⟩ := nmX hH
          replace hf := nmU hf eσ212
          refine lv_iconst (v := 0) hx hb dX8_row_49 (by decide) ?_
          refine lv_istore (lv' := [(4, .int (0 : Int32)), (0, .ref (B + 0)), (1, .int x1), (2, .int x2), (3, .int x3)]) hx hb dX8_row_50 hl (by decide) rfl (fun ls hl => ?_)
          exact wl_X8_row_52 X 400 x1 x3 (0 : Int32) σ212 _ _ _ hf hH hS (lv_sub hl [1, 2, 4, 0] rfl)
        · replace hf := brF hf q208
          refine lv_aload_n hx hb dX8_row_29 rfl (lv_at hl 0 rfl) ?_
          refine lv_iconst (v := 4) hx hb dX8_row_30 (by decide) ?_
          obtain ⟨r319, σ318, eσ318, hf⟩ := bnd2 hf
          refine g_cVi (As := [.int (4 : Int32)]) X.1 hH hS (c_X8_found l G B (4 : Int32) σ204 σ318 r319 eσ318) kw_RX8_77 kX8 km_0 (by decide) rfl hl (Nat.le_of_ble_eq_true rfl) rfl dX8_row_31 (fun H locs hH hS => ?_)
          obtain ⟨rfl, rfl⟩ := rt2 hf
          exact g_iret X hH hS dX8_row_34
      · replace hf := brF hf q207
        exact w_X8_row_22 X σ204 hf _ _ hH hS _ (lv_sub hl [] rfl)
theorem c_X8_row (l : Launch) (G : Gd) (B : Nat) (x1 : Int32) (x2 : Int32) (x3 : Int32) (σ σr : Sto) (r : Int32) (hf : f_X8_row x1 x2 x3 σ = some (r, σr)) : Ct l G layM B yX8_row cX8_row 5 (some .int) 2 [.ref (B + 0), .int x1, .int x2, .int x3] (some (.int r)) σ σr :=
  Ct.ofW (by decide) (Nat.le_of_ble_eq_true rfl) (fun _ _ _ _ _ _ _ X hH hS ls hl => w_X8_row X x1 x2 x3 σ hf _ _ hH hS ls (show lv_has ls 5 [(0, .ref (B + 0)), (1, .int x1), (2, .int x2), (3, .int x3)] from hl))
