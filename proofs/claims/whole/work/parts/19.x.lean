-- SlackProofs$Reader.readsFormula()Z  (D 5)
def b_X5_readsFormula_23 (s0 : Int32) (σ : Sto) : Option (Int32 × Sto) :=
  if ¬ (s0 = 0 ∨ s0 = 1) then none else some (s0, σ)
set_option maxHeartbeats 4000000 in
set_option maxRecDepth 100000 in
theorem w_X5_readsFormula_23 {p : Program} {l : Launch} {e : Env} {s : State} {m : MethodId} {args : Array Value} {below : List Frame} {meth : Method} {c : Code} {G : Gd} {B : Nat} (X : Cm p s m args meth c cX5_readsFormula 1 RX5 G (some .boolean)) {r : Int32} {σr : Sto} (s0 : Int32) (σ : Sto) (hf : b_X5_readsFormula_23 s0 σ = some (r, σr)) (H : Heap) (locs : List Loc) (hH : HX G layX B σ H) (hS : va_S (inW layX B) s.heap H locs) (ls : Array Slot) (hl : lv_has ls 1 []) : WM p l e 5 s m args below meth c H locs G layX B (some (.int r)) σr (F0 m 23 ls [.int s0]) := by
  unfold b_X5_readsFormula_23 at hf
  have hx := X.1.1
  have hb := X.1.2.1
  obtain ⟨q306, hf⟩ := chk hf
  obtain ⟨rfl, rfl⟩ := rt2 hf
  exact g_zret X hH hS (Decidable.not_not.mp q306) dX5_readsFormula_23
def b_X5_readsFormula_22 (σ : Sto) : Option (Int32 × Sto) :=
  b_X5_readsFormula_23 (0 : Int32) σ
set_option maxHeartbeats 4000000 in
set_option maxRecDepth 100000 in
theorem w_X5_readsFormula_22 {p : Program} {l : Launch} {e : Env} {s : State} {m : MethodId} {args : Array Value} {below : List Frame} {meth : Method} {c : Code} {G : Gd} {B : Nat} (X : Cm p s m args meth c cX5_readsFormula 1 RX5 G (some .boolean)) {r : Int32} {σr : Sto} (σ : Sto) (hf : b_X5_readsFormula_22 σ = some (r, σr)) (H : Heap) (locs : List Loc) (hH : HX G layX B σ H) (hS : va_S (inW layX B) s.heap H locs) (ls : Array Slot) (hl : lv_has ls 1 []) : WM p l e 5 s m args below meth c H locs G layX B (some (.int r)) σr (F0 m 22 ls []) := by
  unfold b_X5_readsFormula_22 at hf
  have hx := X.1.1
  have hb := X.1.2.1
  refine lv_iconst (v := 0) hx hb dX5_readsFormula_22 (by decide) ?_
  exact w_X5_readsFormula_23 X (0 : Int32) σ hf _ _ hH hS _ (lv_sub hl [] rfl)
def f_X5_readsFormula (σ : Sto) : Option (Int32 × Sto) :=
  bd1 (f_X5_begin σ) fun σ101 => bd2 (f_X5_readsClauses σ101) fun r104 σ103 => if r104 = 0 then (b_X5_readsFormula_22 σ103) else (bd2 (f_X5_readsPrices σ103) fun r308 σ307 => if r308 = 0 then (b_X5_readsFormula_22 σ307) else (b_X5_readsFormula_23 (1 : Int32) σ307))
set_option maxHeartbeats 4000000 in
set_option maxRecDepth 100000 in
theorem w_X5_readsFormula {p : Program} {l : Launch} {e : Env} {s : State} {m : MethodId} {args : Array Value} {below : List Frame} {meth : Method} {c : Code} {G : Gd} {B : Nat} (X : Cm p s m args meth c cX5_readsFormula 1 RX5 G (some .boolean)) {r : Int32} {σr : Sto} (σ : Sto) (hf : f_X5_readsFormula σ = some (r, σr)) (H : Heap) (locs : List Loc) (hH : HX G layX B σ H) (hS : va_S (inW layX B) s.heap H locs) (ls : Array Slot) (hl : lv_has ls 1 [(0, .ref (B + 13))]) : WM p l e 5 s m args below meth c H locs G layX B (some (.int r)) σr (F0 m 0 ls []) := by
  unfold f_X5_readsFormula at hf
  have hx := X.1.1
  have hb := X.1.2.1
  refine lv_aload_n hx hb dX5_readsFormula_0 rfl (lv_at hl 0 rfl) ?_
  obtain ⟨σ101, eσ101, hf⟩ := bnd1 hf
  refine g_cVv (As := []) X.1 hH hS (c_X5_begin l G B σ σ101 eσ101) kw_RX5_46 kX5 kx_13 (by decide) rfl hl (Nat.le_of_ble_eq_true rfl) rfl dX5_readsFormula_1 (fun H locs hH hS => ?_)
  refine lv_aload_n hx hb dX5_readsFormula_4 rfl (lv_at hl 0 rfl) ?_
  obtain ⟨r104, σ103, eσ103, hf⟩ := bnd2 hf
  refine g_cVi (As := []) X.1 hH hS (c_X5_readsClauses l G B σ101 σ103 r104 eσ103) kw_RX5_49 kX5 kx_13 (by decide) rfl hl (Nat.le_of_ble_eq_true rfl) rfl dX5_readsFormula_5 (fun H locs hH hS => ?_)
  refine lv_if_eq (tgt := 22) hx hb dX5_readsFormula_8 (by decide) (fun q105 => ?_) (fun q105 => ?_)
  · replace hf := brT hf q105
    exact w_X5_readsFormula_22 X σ103 hf _ _ hH hS _ (lv_sub hl [] rfl)
  · replace hf := brF hf q105
    refine lv_aload_n hx hb dX5_readsFormula_11 rfl (lv_at hl 0 rfl) ?_
    obtain ⟨r308, σ307, eσ307, hf⟩ := bnd2 hf
    refine g_cVi (As := []) X.1 hH hS (c_X5_readsPrices l G B σ103 σ307 r308 eσ307) kw_RX5_53 kX5 kx_13 (by decide) rfl hl (Nat.le_of_ble_eq_true rfl) rfl dX5_readsFormula_12 (fun H locs hH hS => ?_)
    refine lv_if_eq (tgt := 22) hx hb dX5_readsFormula_15 (by decide) (fun q309 => ?_) (fun q309 => ?_)
    · replace hf := brT hf q309
      exact w_X5_readsFormula_22 X σ307 hf _ _ hH hS _ (lv_sub hl [] rfl)
    · replace hf := brF hf q309
      refine lv_iconst (v := 1) hx hb dX5_readsFormula_18 (by decide) ?_
      refine lv_goto (tgt := 23) hx hb dX5_readsFormula_19 (by decide) ?_
      exact w_X5_readsFormula_23 X (1 : Int32) σ307 hf _ _ hH hS _ (lv_sub hl [] rfl)
theorem c_X5_readsFormula (l : Launch) (G : Gd) (B : Nat) (σ σr : Sto) (r : Int32) (hf : f_X5_readsFormula σ = some (r, σr)) : Ct l G layX B yX5_readsFormula cX5_readsFormula 1 (some .boolean) 5 [.ref (B + 13)] (some (.int r)) σ σr :=
  Ct.ofW (by decide) (Nat.le_of_ble_eq_true rfl) (fun _ _ _ _ _ _ _ X hH hS ls hl => w_X5_readsFormula X σ hf _ _ hH hS ls (show lv_has ls 1 [(0, .ref (B + 13))] from hl))
-- SlackProofs$Reader.take(I)I  (D 0)
def b_X5_take_30 (σ : Sto) : Option (Int32 × Sto) :=
  some ((σ.1 13 3), σ)
set_option maxHeartbeats 4000000 in
set_option maxRecDepth 100000 in
theorem w_X5_take_30 {p : Program} {l : Launch} {e : Env} {s : State} {m : MethodId} {args : Array Value} {below : List Frame} {meth : Method} {c : Code} {G : Gd} {B : Nat} (X : Cm p s m args meth c cX5_take 2 RX5 G (some .int)) {r : Int32} {σr : Sto} (σ : Sto) (hf : b_X5_take_30 σ = some (r, σr)) (H : Heap) (locs : List Loc) (hH : HX G layX B σ H) (hS : va_S (inW layX B) s.heap H locs) (ls : Array Slot) (hl : lv_has ls 2 [(0, .ref (B + 13))]) : WM p l e 0 s m args below meth c H locs G layX B (some (.int r)) σr (F0 m 30 ls []) := by
  unfold b_X5_take_30 at hf
  have hx := X.1.1
  have hb := X.1.2.1
  refine lv_aload_n hx hb dX5_take_30 rfl (lv_at hl 0 rfl) ?_
  refine g_get (v := .int (σ.1 13 3)) kX5 (by decide) fl_RX5_27 X.1 hH kx_13 rfl dX5_take_31 ?_
  obtain ⟨rfl, rfl⟩ := rt2 hf
  exact g_iret X hH hS dX5_take_34
def f_X5_take (x1 : Int32) (σ : Sto) : Option (Int32 × Sto) :=
  if (200 : Int32) ≤ (σ.1 13 3) then (b_X5_take_30 σ) else (if ((σ.1 13 3) < 0 ∨ 200 ≤ (σ.1 13 3).toNatClampNeg) then none else nmS (pI σ 14 (σ.1 13 3).toNatClampNeg x1) fun σ203 => nmS (pI σ203 13 3 ((σ203.1 13 3) + (1 : Int32))) fun σ204 => b_X5_take_30 σ204)
set_option maxHeartbeats 4000000 in
set_option maxRecDepth 100000 in
theorem w_X5_take {p : Program} {l : Launch} {e : Env} {s : State} {m : MethodId} {args : Array Value} {below : List Frame} {meth : Method} {c : Code} {G : Gd} {B : Nat} (X : Cm p s m args meth c cX5_take 2 RX5 G (some .int)) {r : Int32} {σr : Sto} (x1 : Int32) (σ : Sto) (hf : f_X5_take x1 σ = some (r, σr)) (H : Heap) (locs : List Loc) (hH : HX G layX B σ H) (hS : va_S (inW layX B) s.heap H locs) (ls : Array Slot) (hl : lv_has ls 2 [(0, .ref (B + 13)), (1, .int x1)]) : WM p l e 0 s m args below meth c H locs G layX B (some (.int r)) σr (F0 m 0 ls []) := by
  unfold f_X5_take at hf
  have hx := X.1.1
  have hb := X.1.2.1
  refine lv_aload_n hx hb dX5_take_0 rfl (lv_at hl 0 rfl) ?_
  refine g_get (v := .int (σ.1 13 3)) kX5 (by decide) fl_RX5_27 X.1 hH kx_13 rfl dX5_take_1 ?_
  refine lv_sipush (v := 200) hx hb dX5_take_4 (by decide) ?_
  refine lv_icmp_ge (tgt := 30) hx hb dX5_take_7 (by decide) (fun q101 => ?_) (fun q101 => ?_)
  · replace hf := brT hf q101
    exact w_X5_take_30 X σ hf _ _ hH hS _ (lv_sub hl [0] rfl)
  · replace hf := brF hf q101
    refine lv_aload_n hx hb dX5_take_10 rfl (lv_at hl 0 rfl) ?_
    refine g_get (v := .ref (B + 14)) kX5 (by decide) fl_RX5_9 X.1 hH kx_13 rfl dX5_take_11 ?_
    refine lv_aload_n hx hb dX5_take_14 rfl (lv_at hl 0 rfl) ?_
    refine g_get (v := .int (σ.1 13 3)) kX5 (by decide) fl_RX5_27 X.1 hH kx_13 rfl dX5_take_15 ?_
    refine lv_iload_n hx hb dX5_take_18 rfl (lv_at hl 1 rfl) ?_
    obtain ⟨q202, hf⟩ := chk hf
    refine g_iast (j := (σ.1 13 3).toNatClampNeg) X.1 hH hS kx_14 q202 rfl dX5_take_19 (fun H locs hH hS => ?_)
    obtain ⟨σ203, eσ203, hH⟩ := nmX hH
    replace hf := nmU hf eσ203
    refine lv_aload_n hx hb dX5_take_20 rfl (lv_at hl 0 rfl) ?_
    refine lv_dup hx hb dX5_take_21 rfl ?_
    refine g_get (v := .int (σ203.1 13 3)) kX5 (by decide) fl_RX5_27 X.1 hH kx_13 rfl dX5_take_22 ?_
    refine lv_iconst (v := 1) hx hb dX5_take_25 (by decide) ?_
    refine lv_iadd hx hb dX5_take_26 ?_
    refine g_putI kX5 (by decide) fl_RX5_27 rfl rfl X.1 hH hS kx_13 dX5_take_27 (fun H locs hH hS => ?_)
    obtain ⟨σ204, eσ204, hH⟩ := nmX hH
    replace hf := nmU hf eσ204
    exact w_X5_take_30 X σ204 hf _ _ hH hS _ (lv_sub hl [0] rfl)
theorem c_X5_take (l : Launch) (G : Gd) (B : Nat) (x1 : Int32) (σ σr : Sto) (r : Int32) (hf : f_X5_take x1 σ = some (r, σr)) : Ct l G layX B yX5_take cX5_take 2 (some .int) 0 [.ref (B + 13), .int x1] (some (.int r)) σ σr :=
  Ct.ofW (by decide) (Nat.le_of_ble_eq_true rfl) (fun _ _ _ _ _ _ _ X hH hS ls hl => w_X5_take X x1 σ hf _ _ hH hS ls (show lv_has ls 2 [(0, .ref (B + 13)), (1, .int x1)] from hl))
-- SlackProofs$Rows.isMissing(I)Z  (D 0)
def b_X6_isMissing_14 (s0 : Int32) (σ : Sto) : Option (Int32 × Sto) :=
  if ¬ (s0 = 0 ∨ s0 = 1) then none else some (s0, σ)
set_option maxHeartbeats 4000000 in
set_option maxRecDepth 100000 in
theorem w_X6_isMissing_14 {p : Program} {l : Launch} {e : Env} {s : State} {m : MethodId} {args : Array Value} {below : List Frame} {meth : Method} {c : Code} {G : Gd} {B : Nat} (X : Cm p s m args meth c cX6_isMissing 2 RX6 G (some .boolean)) {r : Int32} {σr : Sto} (s0 : Int32) (σ : Sto) (hf : b_X6_isMissing_14 s0 σ = some (r, σr)) (H : Heap) (locs : List Loc) (hH : HX G layX B σ H) (hS : va_S (inW layX B) s.heap H locs) (ls : Array Slot) (hl : lv_has ls 2 []) : WM p l e 0 s m args below meth c H locs G layX B (some (.int r)) σr (F0 m 14 ls [.int s0]) := by
  unfold b_X6_isMissing_14 at hf
  have hx := X.1.1
  have hb := X.1.2.1
  obtain ⟨q203, hf⟩ := chk hf
  obtain ⟨rfl, rfl⟩ := rt2 hf
  exact g_zret X hH hS (Decidable.not_not.mp q203) dX6_isMissing_14
def f_X6_isMissing (x1 : Int32) (σ : Sto) : Option (Int32 × Sto) :=
  if (x1 < 0 ∨ 8 ≤ x1.toNatClampNeg) then none else if 0 ≤ (σ.1 12 x1.toNatClampNeg) then (b_X6_isMissing_14 (0 : Int32) σ) else (b_X6_isMissing_14 (1 : Int32) σ)
set_option maxHeartbeats 4000000 in
set_option maxRecDepth 100000 in
theorem w_X6_isMissing {p : Program} {l : Launch} {e : Env} {s : State} {m : MethodId} {args : Array Value} {below : List Frame} {meth : Method} {c : Code} {G : Gd} {B : Nat} (X : Cm p s m args meth c cX6_isMissing 2 RX6 G (some .boolean)) {r : Int32} {σr : Sto} (x1 : Int32) (σ : Sto) (hf : f_X6_isMissing x1 σ = some (r, σr)) (H : Heap) (locs : List Loc) (hH : HX G layX B σ H) (hS : va_S (inW layX B) s.heap H locs) (ls : Array Slot) (hl : lv_has ls 2 [(0, .ref (B + 1)), (1, .int x1)]) : WM p l e 0 s m args below meth c H locs G layX B (some (.int r)) σr (F0 m 0 ls []) := by
  unfold f_X6_isMissing at hf
  have hx := X.1.1
  have hb := X.1.2.1
  refine lv_aload_n hx hb dX6_isMissing_0 rfl (lv_at hl 0 rfl) ?_
  refine g_get (v := .ref (B + 12)) kX6 (by decide) fl_RX6_20 X.1 hH kx_1 rfl dX6_isMissing_1 ?_
  refine lv_iload_n hx hb dX6_isMissing_4 rfl (lv_at hl 1 rfl) ?_
  obtain ⟨q101, hf⟩ := chk hf
  refine g_iald (j := x1.toNatClampNeg) X.1 hH kx_12 q101 rfl dX6_isMissing_5 ?_
  refine lv_if_ge (tgt := 13) hx hb dX6_isMissing_6 (by decide) (fun q102 => ?_) (fun q102 => ?_)
  · replace hf := brT hf q102
    refine lv_iconst (v := 0) hx hb dX6_isMissing_13 (by decide) ?_
    exact w_X6_isMissing_14 X (0 : Int32) σ hf _ _ hH hS _ (lv_sub hl [] rfl)
  · replace hf := brF hf q102
    refine lv_iconst (v := 1) hx hb dX6_isMissing_9 (by decide) ?_
    refine lv_goto (tgt := 14) hx hb dX6_isMissing_10 (by decide) ?_
    exact w_X6_isMissing_14 X (1 : Int32) σ hf _ _ hH hS _ (lv_sub hl [] rfl)
theorem c_X6_isMissing (l : Launch) (G : Gd) (B : Nat) (x1 : Int32) (σ σr : Sto) (r : Int32) (hf : f_X6_isMissing x1 σ = some (r, σr)) : Ct l G layX B yX6_isMissing cX6_isMissing 2 (some .boolean) 0 [.ref (B + 1), .int x1] (some (.int r)) σ σr :=
  Ct.ofW (by decide) (Nat.le_of_ble_eq_true rfl) (fun _ _ _ _ _ _ _ X hH hS ls hl => w_X6_isMissing X x1 σ hf _ _ hH hS ls (show lv_has ls 2 [(0, .ref (B + 1)), (1, .int x1)] from hl))
-- SlackProofs$Rows.countAll()I  (D 1)
def b_X6_countAll_21 (c4 : Int32 → Int32 → Sto → Option (Int32 × Sto)) (v1 : Int32) (v2 : Int32) (σ : Sto) : Option (Int32 × Sto) :=
  c4 v1 (v2 + (1 : Int32)) σ
set_option maxHeartbeats 4000000 in
set_option maxRecDepth 100000 in
theorem w_X6_countAll_21 {p : Program} {l : Launch} {e : Env} {s : State} {m : MethodId} {args : Array Value} {below : List Frame} {meth : Method} {c : Code} {G : Gd} {B : Nat} (X : Cm p s m args meth c cX6_countAll 3 RX6 G (some .int)) (c4 : Int32 → Int32 → Sto → Option (Int32 × Sto)) {r : Int32} {σr : Sto} (ih4 : ∀ (v1 : Int32) (v2 : Int32) (σ : Sto) (H : Heap) (locs : List Loc) (ls : Array Slot), c4 v1 v2 σ = some (r, σr) → HX G layX B σ H → va_S (inW layX B) s.heap H locs → lv_has ls 3 [(0, .ref (B + 1)), (1, .int v1), (2, .int v2)] → WM p l e 1 s m args below meth c H locs G layX B (some (.int r)) σr (F0 m 4 ls [])) (v1 : Int32) (v2 : Int32) (σ : Sto) (hf : b_X6_countAll_21 c4 v1 v2 σ = some (r, σr)) (H : Heap) (locs : List Loc) (hH : HX G layX B σ H) (hS : va_S (inW layX B) s.heap H locs) (ls : Array Slot) (hl : lv_has ls 3 [(0, .ref (B + 1)), (1, .int v1), (2, .int v2)]) : WM p l e 1 s m args below meth c H locs G layX B (some (.int r)) σr (F0 m 21 ls []) := by
  unfold b_X6_countAll_21 at hf
  have hx := X.1.1
  have hb := X.1.2.1
  refine lv_iinc (v := (v2 + (1 : Int32))) (lv' := [(2, .int (v2 + (1 : Int32))), (0, .ref (B + 1)), (1, .int v1)]) hx hb dX6_countAll_21 hl (k := 2) rfl rfl (by decide) rfl (fun ls hl => ?_)
  refine lv_goto (tgt := 4) hx hb dX6_countAll_24 (by decide) ?_
  exact ih4 v1 (v2 + (1 : Int32)) σ _ _ _ hf hH hS (lv_sub hl [1, 2, 0] rfl)
def b_X6_countAll_4 (c4 : Int32 → Int32 → Sto → Option (Int32 × Sto)) (v1 : Int32) (v2 : Int32) (σ : Sto) : Option (Int32 × Sto) :=
  if (8 : Int32) ≤ v2 then (some (v1, σ)) else (bd2 (f_X6_isMissing v2 σ) fun r203 σ202 => if r203 = 0 then (b_X6_countAll_21 c4 (v1 + (1 : Int32)) v2 σ202) else (b_X6_countAll_21 c4 v1 v2 σ202))
set_option maxHeartbeats 4000000 in
set_option maxRecDepth 100000 in
theorem w_X6_countAll_4 {p : Program} {l : Launch} {e : Env} {s : State} {m : MethodId} {args : Array Value} {below : List Frame} {meth : Method} {c : Code} {G : Gd} {B : Nat} (X : Cm p s m args meth c cX6_countAll 3 RX6 G (some .int)) (c4 : Int32 → Int32 → Sto → Option (Int32 × Sto)) {r : Int32} {σr : Sto} (ih4 : ∀ (v1 : Int32) (v2 : Int32) (σ : Sto) (H : Heap) (locs : List Loc) (ls : Array Slot), c4 v1 v2 σ = some (r, σr) → HX G layX B σ H → va_S (inW layX B) s.heap H locs → lv_has ls 3 [(0, .ref (B + 1)), (1, .int v1), (2, .int v2)] → WM p l e 1 s m args below meth c H locs G layX B (some (.int r)) σr (F0 m 4 ls [])) (v1 : Int32) (v2 : Int32) (σ : Sto) (hf : b_X6_countAll_4 c4 v1 v2 σ = some (r, σr)) (H : Heap) (locs : List Loc) (hH : HX G layX B σ H) (hS : va_S (inW layX B) s.heap H locs) (ls : Array Slot) (hl : lv_has ls 3 [(0, .ref (B + 1)), (1, .int v1), (2, .int v2)]) : WM p l e 1 s m args below meth c H locs G layX B (some (.int r)) σr (F0 m 4 ls []) := by
  unfold b_X6_countAll_4 at hf
  have hx := X.1.1
  have hb := X.1.2.1
  refine lv_iload_n hx hb dX6_countAll_4 rfl (lv_at hl 2 rfl) ?_
  refine lv_bipush (v := 8) hx hb dX6_countAll_5 (by decide) ?_
  refine lv_icmp_ge (tgt := 27) hx hb dX6_countAll_7 (by decide) (fun q201 => ?_) (fun q201 => ?_)
  · replace hf := brT hf q201
    refine lv_iload_n hx hb dX6_countAll_27 rfl (lv_at hl 1 rfl) ?_
    obtain ⟨rfl, rfl⟩ := rt2 hf
    exact g_iret X hH hS dX6_countAll_28
  · replace hf := brF hf q201
    refine lv_aload_n hx hb dX6_countAll_10 rfl (lv_at hl 0 rfl) ?_
    refine lv_iload_n hx hb dX6_countAll_11 rfl (lv_at hl 2 rfl) ?_
    obtain ⟨r203, σ202, eσ202, hf⟩ := bnd2 hf
    refine g_cVi (As := [.int v2]) X.1 hH hS (c_X6_isMissing l G B v2 σ σ202 r203 eσ202) kw_RX6_29 kX6 kx_1 (by decide) rfl hl (Nat.le_of_ble_eq_true rfl) rfl dX6_countAll_12 (fun H locs hH hS => ?_)
    refine lv_if_ne (tgt := 21) hx hb dX6_countAll_15 (by decide) (fun q204 => ?_) (fun q204 => ?_)
    · replace hf := brF hf q204
      exact w_X6_countAll_21 X c4 ih4 v1 v2 σ202 hf _ _ hH hS _ (lv_sub hl [0, 1, 2] rfl)
    · replace hf := brT hf q204
      refine lv_iinc (v := (v1 + (1 : Int32))) (lv' := [(1, .int (v1 + (1 : Int32))), (0, .ref (B + 1)), (2, .int v2)]) hx hb dX6_countAll_18 hl (k := 1) rfl rfl (by decide) rfl (fun ls hl => ?_)
      exact w_X6_countAll_21 X c4 ih4 (v1 + (1 : Int32)) v2 σ202 hf _ _ hH hS _ (lv_sub hl [1, 0, 2] rfl)
def l_X6_countAll_4 : Nat → Int32 → Int32 → Sto → Option (Int32 × Sto)
  | 0, _, _, _ => none
  | n + 1, v1, v2, σ => b_X6_countAll_4 (l_X6_countAll_4 n) v1 v2 σ
set_option maxHeartbeats 4000000 in
set_option maxRecDepth 100000 in
theorem wl_X6_countAll_4 {p : Program} {l : Launch} {e : Env} {s : State} {m : MethodId} {args : Array Value} {below : List Frame} {meth : Method} {c : Code} {G : Gd} {B : Nat} (X : Cm p s m args meth c cX6_countAll 3 RX6 G (some .int)) {r : Int32} {σr : Sto} (n : Nat) : ∀ (v1 : Int32) (v2 : Int32) (σ : Sto) (H : Heap) (locs : List Loc) (ls : Array Slot), l_X6_countAll_4 n v1 v2 σ = some (r, σr) → HX G layX B σ H → va_S (inW layX B) s.heap H locs → lv_has ls 3 [(0, .ref (B + 1)), (1, .int v1), (2, .int v2)] → WM p l e 1 s m args below meth c H locs G layX B (some (.int r)) σr (F0 m 4 ls []) := by
  induction n with
  | zero =>
    intro _ _ σ H locs ls hf
    cases hf
  | succ n ih =>
    intro v1 v2 σ H locs ls hf hH hS hl
    exact w_X6_countAll_4 X (l_X6_countAll_4 n) ih v1 v2 σ hf H locs hH hS ls hl
def f_X6_countAll (σ : Sto) : Option (Int32 × Sto) :=
  l_X6_countAll_4 400 (0 : Int32) (0 : Int32) σ
set_option maxHeartbeats 4000000 in
set_option maxRecDepth 100000 in
theorem w_X6_countAll {p : Program} {l : Launch} {e : Env} {s : State} {m : MethodId} {args : Array Value} {below : List Frame} {meth : Method} {c : Code} {G : Gd} {B : Nat} (X : Cm p s m args meth c cX6_countAll 3 RX6 G (some .int)) {r : Int32} {σr : Sto} (σ : Sto) (hf : f_X6_countAll σ = some (r, σr)) (H : Heap) (locs : List Loc) (hH : HX G layX B σ H) (hS : va_S (inW layX B) s.heap H locs) (ls : Array Slot) (hl : lv_has ls 3 [(0, .ref (B + 1))]) : WM p l e 1 s m args below meth c H locs G layX B (some (.int r)) σr (F0 m 0 ls []) := by
  unfold f_X6_countAll at hf
  have hx := X.1.1
  have hb := X.1.2.1
  refine lv_iconst (v := 0) hx hb dX6_countAll_0 (by decide) ?_
  refine lv_istore_n (lv' := [(1, .int (0 : Int32)), (0, .ref (B + 1))]) hx hb dX6_countAll_1 rfl hl (by decide) rfl (fun ls hl => ?_)
  refine lv_iconst (v := 0) hx hb dX6_countAll_2 (by decide) ?_
  refine lv_istore_n (lv' := [(2, .int (0 : Int32)), (1, .int (0 : Int32)), (0, .ref (B + 1))]) hx hb dX6_countAll_3 rfl hl (by decide) rfl (fun ls hl => ?_)
  exact wl_X6_countAll_4 X 400 (0 : Int32) (0 : Int32) σ _ _ _ hf hH hS (lv_sub hl [2, 1, 0] rfl)
theorem c_X6_countAll (l : Launch) (G : Gd) (B : Nat) (σ σr : Sto) (r : Int32) (hf : f_X6_countAll σ = some (r, σr)) : Ct l G layX B yX6_countAll cX6_countAll 3 (some .int) 1 [.ref (B + 1)] (some (.int r)) σ σr :=
  Ct.ofW (by decide) (Nat.le_of_ble_eq_true rfl) (fun _ _ _ _ _ _ _ X hH hS ls hl => w_X6_countAll X σ hf _ _ hH hS ls (show lv_has ls 3 [(0, .ref (B + 1))] from hl))
-- SlackProofs$Rows.hasPlaces(III)Z  (D 0)
def b_X6_hasPlaces_35 (s0 : Int32) (σ : Sto) : Option (Int32 × Sto) :=
  if ¬ (s0 = 0 ∨ s0 = 1) then none else some (s0, σ)
set_option maxHeartbeats 4000000 in
set_option maxRecDepth 100000 in
theorem w_X6_hasPlaces_35 {p : Program} {l : Launch} {e : Env} {s : State} {m : MethodId} {args : Array Value} {below : List Frame} {meth : Method} {c : Code} {G : Gd} {B : Nat} (X : Cm p s m args meth c cX6_hasPlaces 4 RX6 G (some .boolean)) {r : Int32} {σr : Sto} (s0 : Int32) (σ : Sto) (hf : b_X6_hasPlaces_35 s0 σ = some (r, σr)) (H : Heap) (locs : List Loc) (hH : HX G layX B σ H) (hS : va_S (inW layX B) s.heap H locs) (ls : Array Slot) (hl : lv_has ls 4 []) : WM p l e 0 s m args below meth c H locs G layX B (some (.int r)) σr (F0 m 35 ls [.int s0]) := by
  unfold b_X6_hasPlaces_35 at hf
  have hx := X.1.1
  have hb := X.1.2.1
  obtain ⟨q302, hf⟩ := chk hf
  obtain ⟨rfl, rfl⟩ := rt2 hf
  exact g_zret X hH hS (Decidable.not_not.mp q302) dX6_hasPlaces_35
def b_X6_hasPlaces_34 (σ : Sto) : Option (Int32 × Sto) :=
  b_X6_hasPlaces_35 (0 : Int32) σ
set_option maxHeartbeats 4000000 in
set_option maxRecDepth 100000 in
theorem w_X6_hasPlaces_34 {p : Program} {l : Launch} {e : Env} {s : State} {m : MethodId} {args : Array Value} {below : List Frame} {meth : Method} {c : Code} {G : Gd} {B : Nat} (X : Cm p s m args meth c cX6_hasPlaces 4 RX6 G (some .boolean)) {r : Int32} {σr : Sto} (σ : Sto) (hf : b_X6_hasPlaces_34 σ = some (r, σr)) (H : Heap) (locs : List Loc) (hH : HX G layX B σ H) (hS : va_S (inW layX B) s.heap H locs) (ls : Array Slot) (hl : lv_has ls 4 []) : WM p l e 0 s m args below meth c H locs G layX B (some (.int r)) σr (F0 m 34 ls []) := by
  unfold b_X6_hasPlaces_34 at hf
  have hx := X.1.1
  have hb := X.1.2.1
  refine lv_iconst (v := 0) hx hb dX6_hasPlaces_34 (by decide) ?_
  exact w_X6_hasPlaces_35 X (0 : Int32) σ hf _ _ hH hS _ (lv_sub hl [] rfl)
def f_X6_hasPlaces (x1 : Int32) (x2 : Int32) (x3 : Int32) (σ : Sto) : Option (Int32 × Sto) :=
  if x2 < 0 then (b_X6_hasPlaces_34 σ) else (if x3 < 0 then (b_X6_hasPlaces_34 σ) else (if (x1 < 0 ∨ 8 ≤ x1.toNatClampNeg) then none else if (σ.1 12 x1.toNatClampNeg) < x2 then (b_X6_hasPlaces_34 σ) else (if (x1 < 0 ∨ 8 ≤ x1.toNatClampNeg) then none else if ((σ.1 12 x1.toNatClampNeg) - x2) < x3 then (b_X6_hasPlaces_34 σ) else (b_X6_hasPlaces_35 (1 : Int32) σ))))
set_option maxHeartbeats 4000000 in
set_option maxRecDepth 100000 in
theorem w_X6_hasPlaces {p : Program} {l : Launch} {e : Env} {s : State} {m : MethodId} {args : Array Value} {below : List Frame} {meth : Method} {c : Code} {G : Gd} {B : Nat} (X : Cm p s m args meth c cX6_hasPlaces 4 RX6 G (some .boolean)) {r : Int32} {σr : Sto} (x1 : Int32) (x2 : Int32) (x3 : Int32) (σ : Sto) (hf : f_X6_hasPlaces x1 x2 x3 σ = some (r, σr)) (H : Heap) (locs : List Loc) (hH : HX G layX B σ H) (hS : va_S (inW layX B) s.heap H locs) (ls : Array Slot) (hl : lv_has ls 4 [(0, .ref (B + 1)), (1, .int x1), (2, .int x2), (3, .int x3)]) : WM p l e 0 s m args below meth c H locs G layX B (some (.int r)) σr (F0 m 0 ls []) := by
  unfold f_X6_hasPlaces at hf
  have hx := X.1.1
  have hb := X.1.2.1
  refine lv_iload_n hx hb dX6_hasPlaces_0 rfl (lv_at hl 2 rfl) ?_
  refine lv_if_lt (tgt := 34) hx hb dX6_hasPlaces_1 (by decide) (fun q101 => ?_) (fun q101 => ?_)
  · replace hf := brT hf q101
    exact w_X6_hasPlaces_34 X σ hf _ _ hH hS _ (lv_sub hl [] rfl)
  · replace hf := brF hf q101
    refine lv_iload_n hx hb dX6_hasPlaces_4 rfl (lv_at hl 3 rfl) ?_
    refine lv_if_lt (tgt := 34) hx hb dX6_hasPlaces_5 (by decide) (fun q303 => ?_) (fun q303 => ?_)
    · replace hf := brT hf q303
      exact w_X6_hasPlaces_34 X σ hf _ _ hH hS _ (lv_sub hl [] rfl)
    · replace hf := brF hf q303
      refine lv_iload_n hx hb dX6_hasPlaces_8 rfl (lv_at hl 2 rfl) ?_
      refine lv_aload_n hx hb dX6_hasPlaces_9 rfl (lv_at hl 0 rfl) ?_
      refine g_get (v := .ref (B + 12)) kX6 (by decide) fl_RX6_20 X.1 hH kx_1 rfl dX6_hasPlaces_10 ?_
      refine lv_iload_n hx hb dX6_hasPlaces_13 rfl (lv_at hl 1 rfl) ?_
      obtain ⟨q304, hf⟩ := chk hf
      refine g_iald (j := x1.toNatClampNeg) X.1 hH kx_12 q304 rfl dX6_hasPlaces_14 ?_
      refine lv_icmp_gt (tgt := 34) hx hb dX6_hasPlaces_15 (by decide) (fun q305 => ?_) (fun q305 => ?_)
      · replace hf := brT hf q305
        exact w_X6_hasPlaces_34 X σ hf _ _ hH hS _ (lv_sub hl [] rfl)
      · replace hf := brF hf q305
        refine lv_iload_n hx hb dX6_hasPlaces_18 rfl (lv_at hl 3 rfl) ?_
        refine lv_aload_n hx hb dX6_hasPlaces_19 rfl (lv_at hl 0 rfl) ?_
        refine g_get (v := .ref (B + 12)) kX6 (by decide) fl_RX6_20 X.1 hH kx_1 rfl dX6_hasPlaces_20 ?_
        refine lv_iload_n hx hb dX6_hasPlaces_23 rfl (lv_at hl 1 rfl) ?_
        obtain ⟨q306, hf⟩ := chk hf
        refine g_iald (j := x1.toNatClampNeg) X.1 hH kx_12 q306 rfl dX6_hasPlaces_24 ?_
        refine lv_iload_n hx hb dX6_hasPlaces_25 rfl (lv_at hl 2 rfl) ?_
        refine lv_isub hx hb dX6_hasPlaces_26 ?_
        refine lv_icmp_gt (tgt := 34) hx hb dX6_hasPlaces_27 (by decide) (fun q307 => ?_) (fun q307 => ?_)
        · replace hf := brT hf q307
          exact w_X6_hasPlaces_34 X σ hf _ _ hH hS _ (lv_sub hl [] rfl)
        · replace hf := brF hf q307
          refine lv_iconst (v := 1) hx hb dX6_hasPlaces_30 (by decide) ?_
          refine lv_goto (tgt := 35) hx hb dX6_hasPlaces_31 (by decide) ?_
          exact w_X6_hasPlaces_35 X (1 : Int32) σ hf _ _ hH hS _ (lv_sub hl [] rfl)
theorem c_X6_hasPlaces (l : Launch) (G : Gd) (B : Nat) (x1 : Int32) (x2 : Int32) (x3 : Int32) (σ σr : Sto) (r : Int32) (hf : f_X6_hasPlaces x1 x2 x3 σ = some (r, σr)) : Ct l G layX B yX6_hasPlaces cX6_hasPlaces 4 (some .boolean) 0 [.ref (B + 1), .int x1, .int x2, .int x3] (some (.int r)) σ σr :=
  Ct.ofW (by decide) (Nat.le_of_ble_eq_true rfl) (fun _ _ _ _ _ _ _ X hH hS ls hl => w_X6_hasPlaces X x1 x2 x3 σ hf _ _ hH hS ls (show lv_has ls 4 [(0, .ref (B + 1)), (1, .int x1), (2, .int x2), (3, .int x3)] from hl))
-- SlackProofs$Rows.isWitness(I)Z  (D 0)
def b_X6_isWitness_45 (σ : Sto) : Option (Int32 × Sto) :=
  some ((0 : Int32), σ)
set_option maxHeartbeats 4000000 in
set_option maxRecDepth 100000 in
theorem w_X6_isWitness_45 {p : Program} {l : Launch} {e : Env} {s : State} {m : MethodId} {args : Array Value} {below : List Frame} {meth : Method} {c : Code} {G : Gd} {B : Nat} (X : Cm p s m args meth c cX6_isWitness 3 RX6 G (some .boolean)) {r : Int32} {σr : Sto} (σ : Sto) (hf : b_X6_isWitness_45 σ = some (r, σr)) (H : Heap) (locs : List Loc) (hH : HX G layX B σ H) (hS : va_S (inW layX B) s.heap H locs) (ls : Array Slot) (hl : lv_has ls 3 []) : WM p l e 0 s m args below meth c H locs G layX B (some (.int r)) σr (F0 m 45 ls []) := by
  unfold b_X6_isWitness_45 at hf
  have hx := X.1.1
  have hb := X.1.2.1
  refine lv_iconst (v := 0) hx hb dX6_isWitness_45 (by decide) ?_
  obtain ⟨rfl, rfl⟩ := rt2 hf
  exact g_zret X hH hS (by decide) dX6_isWitness_46
def b_X6_isWitness_15 (c15 : Int32 → Int32 → Sto → Option (Int32 × Sto)) (v1 : Int32) (v2 : Int32) (σ : Sto) : Option (Int32 × Sto) :=
  if (8 : Int32) ≤ v2 then (some ((1 : Int32), σ)) else (if (v1 < 0 ∨ 8 ≤ v1.toNatClampNeg) then none else if (v2 < 0 ∨ 40 ≤ v2.toNatClampNeg) then none else if (σ.1 (3 + v1.toNatClampNeg) v2.toNatClampNeg) < 0 then (b_X6_isWitness_45 σ) else (if (v1 < 0 ∨ 8 ≤ v1.toNatClampNeg) then none else if (v2 < 0 ∨ 40 ≤ v2.toNatClampNeg) then none else if (σ.1 (3 + v1.toNatClampNeg) v2.toNatClampNeg) < (18 : Int32) then (c15 v1 (v2 + (1 : Int32)) σ) else (b_X6_isWitness_45 σ)))
set_option maxHeartbeats 4000000 in
set_option maxRecDepth 100000 in
theorem w_X6_isWitness_15 {p : Program} {l : Launch} {e : Env} {s : State} {m : MethodId} {args : Array Value} {below : List Frame} {meth : Method} {c : Code} {G : Gd} {B : Nat} (X : Cm p s m args meth c cX6_isWitness 3 RX6 G (some .boolean)) (c15 : Int32 → Int32 → Sto → Option (Int32 × Sto)) {r : Int32} {σr : Sto} (ih15 : ∀ (v1 : Int32) (v2 : Int32) (σ : Sto) (H : Heap) (locs : List Loc) (ls : Array Slot), c15 v1 v2 σ = some (r, σr) → HX G layX B σ H → va_S (inW layX B) s.heap H locs → lv_has ls 3 [(0, .ref (B + 1)), (1, .int v1), (2, .int v2)] → WM p l e 0 s m args below meth c H locs G layX B (some (.int r)) σr (F0 m 15 ls [])) (v1 : Int32) (v2 : Int32) (σ : Sto) (hf : b_X6_isWitness_15 c15 v1 v2 σ = some (r, σr)) (H : Heap) (locs : List Loc) (hH : HX G layX B σ H) (hS : va_S (inW layX B) s.heap H locs) (ls : Array Slot) (hl : lv_has ls 3 [(0, .ref (B + 1)), (1, .int v1), (2, .int v2)]) : WM p l e 0 s m args below meth c H locs G layX B (some (.int r)) σr (F0 m 15 ls []) := by
  unfold b_X6_isWitness_15 at hf
  have hx := X.1.1
  have hb := X.1.2.1
  refine lv_iload_n hx hb dX6_isWitness_15 rfl (lv_at hl 2 rfl) ?_
  refine lv_bipush (v := 8) hx hb dX6_isWitness_16 (by decide) ?_
  refine lv_icmp_ge (tgt := 53) hx hb dX6_isWitness_18 (by decide) (fun q203 => ?_) (fun q203 => ?_)
  · replace hf := brT hf q203
    refine lv_iconst (v := 1) hx hb dX6_isWitness_53 (by decide) ?_
    obtain ⟨rfl, rfl⟩ := rt2 hf
    exact g_zret X hH hS (by decide) dX6_isWitness_54
  · replace hf := brF hf q203
    refine lv_aload_n hx hb dX6_isWitness_21 rfl (lv_at hl 0 rfl) ?_
    refine g_get (v := .ref (B + 2)) kX6 (by decide) fl_RX6_11 X.1 hH kx_1 rfl dX6_isWitness_22 ?_
    refine lv_iload_n hx hb dX6_isWitness_25 rfl (lv_at hl 1 rfl) ?_
    obtain ⟨q204, hf⟩ := chk hf
    refine g_aald (b := (3 + v1.toNatClampNeg)) X.1 hH kx_2 (by decide) q204 rfl dX6_isWitness_26 ?_
    refine lv_iload_n hx hb dX6_isWitness_27 rfl (lv_at hl 2 rfl) ?_
    obtain ⟨q205, hf⟩ := chk hf
    refine g_iald (j := v2.toNatClampNeg) X.1 hH (kRow q204) q205 rfl dX6_isWitness_28 ?_
    refine lv_if_lt (tgt := 45) hx hb dX6_isWitness_29 (by decide) (fun q206 => ?_) (fun q206 => ?_)
    · replace hf := brT hf q206
      exact w_X6_isWitness_45 X σ hf _ _ hH hS _ (lv_sub hl [] rfl)
    · replace hf := brF hf q206
      refine lv_aload_n hx hb dX6_isWitness_32 rfl (lv_at hl 0 rfl) ?_
      refine g_get (v := .ref (B + 2)) kX6 (by decide) fl_RX6_11 X.1 hH kx_1 rfl dX6_isWitness_33 ?_
      refine lv_iload_n hx hb dX6_isWitness_36 rfl (lv_at hl 1 rfl) ?_
      obtain ⟨q307, hf⟩ := chk hf
      refine g_aald (b := (3 + v1.toNatClampNeg)) X.1 hH kx_2 (by decide) q307 rfl dX6_isWitness_37 ?_
      refine lv_iload_n hx hb dX6_isWitness_38 rfl (lv_at hl 2 rfl) ?_
      obtain ⟨q308, hf⟩ := chk hf
      refine g_iald (j := v2.toNatClampNeg) X.1 hH (kRow q307) q308 rfl dX6_isWitness_39 ?_
      refine lv_bipush (v := 18) hx hb dX6_isWitness_40 (by decide) ?_
      refine lv_icmp_lt (tgt := 47) hx hb dX6_isWitness_42 (by decide) (fun q309 => ?_) (fun q309 => ?_)
      · replace hf := brT hf q309
        refine lv_iinc (v := (v2 + (1 : Int32))) (lv' := [(2, .int (v2 + (1 : Int32))), (0, .ref (B + 1)), (1, .int v1)]) hx hb dX6_isWitness_47 hl (k := 2) rfl rfl (by decide) rfl (fun ls hl => ?_)
        refine lv_goto (tgt := 15) hx hb dX6_isWitness_50 (by decide) ?_
        exact ih15 v1 (v2 + (1 : Int32)) σ _ _ _ hf hH hS (lv_sub hl [1, 2, 0] rfl)
      · replace hf := brF hf q309
        exact w_X6_isWitness_45 X σ hf _ _ hH hS _ (lv_sub hl [] rfl)
def l_X6_isWitness_15 : Nat → Int32 → Int32 → Sto → Option (Int32 × Sto)
  | 0, _, _, _ => none
  | n + 1, v1, v2, σ => b_X6_isWitness_15 (l_X6_isWitness_15 n) v1 v2 σ
set_option maxHeartbeats 4000000 in
set_option maxRecDepth 100000 in
theorem wl_X6_isWitness_15 {p : Program} {l : Launch} {e : Env} {s : State} {m : MethodId} {args : Array Value} {below : List Frame} {meth : Method} {c : Code} {G : Gd} {B : Nat} (X : Cm p s m args meth c cX6_isWitness 3 RX6 G (some .boolean)) {r : Int32} {σr : Sto} (n : Nat) : ∀ (v1 : Int32) (v2 : Int32) (σ : Sto) (H : Heap) (locs : List Loc) (ls : Array Slot), l_X6_isWitness_15 n v1 v2 σ = some (r, σr) → HX G layX B σ H → va_S (inW layX B) s.heap H locs → lv_has ls 3 [(0, .ref (B + 1)), (1, .int v1), (2, .int v2)] → WM p l e 0 s m args below meth c H locs G layX B (some (.int r)) σr (F0 m 15 ls []) := by
  induction n with
  | zero =>
    intro _ _ σ H locs ls hf
    cases hf
  | succ n ih =>
    intro v1 v2 σ H locs ls hf hH hS hl
    exact w_X6_isWitness_15 X (l_X6_isWitness_15 n) ih v1 v2 σ hf H locs hH hS ls hl
def f_X6_isWitness (x1 : Int32) (σ : Sto) : Option (Int32 × Sto) :=
  if (x1 < 0 ∨ 8 ≤ x1.toNatClampNeg) then none else if (8 : Int32) ≤ (σ.1 12 x1.toNatClampNeg) then (l_X6_isWitness_15 400 x1 (0 : Int32) σ) else (some ((0 : Int32), σ))
set_option maxHeartbeats 4000000 in
set_option maxRecDepth 100000 in
theorem w_X6_isWitness {p : Program} {l : Launch} {e : Env} {s : State} {m : MethodId} {args : Array Value} {below : List Frame} {meth : Method} {c : Code} {G : Gd} {B : Nat} (X : Cm p s m args meth c cX6_isWitness 3 RX6 G (some .boolean)) {r : Int32} {σr : Sto} (x1 : Int32) (σ : Sto) (hf : f_X6_isWitness x1 σ = some (r, σr)) (H : Heap) (locs : List Loc) (hH : HX G layX B σ H) (hS : va_S (inW layX B) s.heap H locs) (ls : Array Slot) (hl : lv_has ls 3 [(0, .ref (B + 1)), (1, .int x1)]) : WM p l e 0 s m args below meth c H locs G layX B (some (.int r)) σr (F0 m 0 ls []) := by
  unfold f_X6_isWitness at hf
  have hx := X.1.1
  have hb := X.1.2.1
  refine lv_aload_n hx hb dX6_isWitness_0 rfl (lv_at hl 0 rfl) ?_
  refine g_get (v := .ref (B + 12)) kX6 (by decide) fl_RX6_20 X.1 hH kx_1 rfl dX6_isWitness_1 ?_
  refine lv_iload_n hx hb dX6_isWitness_4 rfl (lv_at hl 1 rfl) ?_
  obtain ⟨q101, hf⟩ := chk hf
  refine g_iald (j := x1.toNatClampNeg) X.1 hH kx_12 q101 rfl dX6_isWitness_5 ?_
  refine lv_bipush (v := 8) hx hb dX6_isWitness_6 (by decide) ?_
  refine lv_icmp_ge (tgt := 13) hx hb dX6_isWitness_8 (by decide) (fun q102 => ?_) (fun q102 => ?_)
  · replace hf := brT hf q102
    refine lv_iconst (v := 0) hx hb dX6_isWitness_13 (by decide) ?_
    refine lv_istore_n (lv' := [(2, .int (0 : Int32)), (0, .ref (B + 1)), (1, .int x1)]) hx hb dX6_isWitness_14 rfl hl (by decide) rfl (fun ls hl => ?_)
    exact wl_X6_isWitness_15 X 400 x1 (0 : Int32) σ _ _ _ hf hH hS (lv_sub hl [1, 2, 0] rfl)
  · replace hf := brF hf q102
    refine lv_iconst (v := 0) hx hb dX6_isWitness_11 (by decide) ?_
    obtain ⟨rfl, rfl⟩ := rt2 hf
    exact g_zret X hH hS (by decide) dX6_isWitness_12
theorem c_X6_isWitness (l : Launch) (G : Gd) (B : Nat) (x1 : Int32) (σ σr : Sto) (r : Int32) (hf : f_X6_isWitness x1 σ = some (r, σr)) : Ct l G layX B yX6_isWitness cX6_isWitness 3 (some .boolean) 0 [.ref (B + 1), .int x1] (some (.int r)) σ σr :=
  Ct.ofW (by decide) (Nat.le_of_ble_eq_true rfl) (fun _ _ _ _ _ _ _ X hH hS ls hl => w_X6_isWitness X x1 σ hf _ _ hH hS ls (show lv_has ls 3 [(0, .ref (B + 1)), (1, .int x1)] from hl))
-- SlackProofs$Rows.lose(I)I  (D 0)
def f_X6_lose (x1 : Int32) (σ : Sto) : Option (Int32 × Sto) :=
  if (x1 < 0 ∨ 8 ≤ x1.toNatClampNeg) then none else nmS (σ.1 12 x1.toNatClampNeg) fun y102 => if (x1 < 0 ∨ 8 ≤ x1.toNatClampNeg) then none else nmS (pI σ 12 x1.toNatClampNeg (-1 : Int32)) fun σ104 => some (y102, σ104)
set_option maxHeartbeats 4000000 in
set_option maxRecDepth 100000 in
theorem w_X6_lose {p : Program} {l : Launch} {e : Env} {s : State} {m : MethodId} {args : Array Value} {below : List Frame} {meth : Method} {c : Code} {G : Gd} {B : Nat} (X : Cm p s m args meth c cX6_lose 3 RX6 G (some .int)) {r : Int32} {σr : Sto} (x1 : Int32) (σ : Sto) (hf : f_X6_lose x1 σ = some (r, σr)) (H : Heap) (locs : List Loc) (hH : HX G layX B σ H) (hS : va_S (inW layX B) s.heap H locs) (ls : Array Slot) (hl : lv_has ls 3 [(0, .ref (B + 1)), (1, .int x1)]) : WM p l e 0 s m args below meth c H locs G layX B (some (.int r)) σr (F0 m 0 ls []) := by
  unfold f_X6_lose at hf
  have hx := X.1.1
  have hb := X.1.2.1
  refine lv_aload_n hx hb dX6_lose_0 rfl (lv_at hl 0 rfl) ?_
  refine g_get (v := .ref (B + 12)) kX6 (by decide) fl_RX6_20 X.1 hH kx_1 rfl dX6_lose_1 ?_
  refine lv_iload_n hx hb dX6_lose_4 rfl (lv_at hl 1 rfl) ?_
  obtain ⟨q101, hf⟩ := chk hf
  refine g_iald (j := x1.toNatClampNeg) X.1 hH kx_12 q101 rfl dX6_lose_5 ?_
  refine lv_topi (fun y102 ey102 => ?_)
  replace hf := nmU hf ey102
  refine lv_istore_n (lv' := [(2, .int y102), (0, .ref (B + 1)), (1, .int x1)]) hx hb dX6_lose_6 rfl hl (by decide) rfl (fun ls hl => ?_)
  refine lv_aload_n hx hb dX6_lose_7 rfl (lv_at hl 1 rfl) ?_
  refine g_get (v := .ref (B + 12)) kX6 (by decide) fl_RX6_20 X.1 hH kx_1 rfl dX6_lose_8 ?_
  refine lv_iload_n hx hb dX6_lose_11 rfl (lv_at hl 2 rfl) ?_
  refine lv_iconst (v := -1) hx hb dX6_lose_12 (by decide) ?_
  obtain ⟨q103, hf⟩ := chk hf
  refine g_iast (j := x1.toNatClampNeg) X.1 hH hS kx_12 q103 rfl dX6_lose_13 (fun H locs hH hS => ?_)
  obtain ⟨σ104, eσ104, hH⟩ := nmX hH
  replace hf := nmU hf eσ104
  refine lv_iload_n hx hb dX6_lose_14 rfl (lv_at hl 0 rfl) ?_
  obtain ⟨rfl, rfl⟩ := rt2 hf
  exact g_iret X hH hS dX6_lose_15
theorem c_X6_lose (l : Launch) (G : Gd) (B : Nat) (x1 : Int32) (σ σr : Sto) (r : Int32) (hf : f_X6_lose x1 σ = some (r, σr)) : Ct l G layX B yX6_lose cX6_lose 3 (some .int) 0 [.ref (B + 1), .int x1] (some (.int r)) σ σr :=
  Ct.ofW (by decide) (Nat.le_of_ble_eq_true rfl) (fun _ _ _ _ _ _ _ X hH hS ls hl => w_X6_lose X x1 σ hf _ _ hH hS ls (show lv_has ls 3 [(0, .ref (B + 1)), (1, .int x1)] from hl))
-- SlackProofs$Rows.make(III)V  (D 1)
def f_X6_make (x1 : Int32) (x2 : Int32) (x3 : Int32) (σ : Sto) : Option (Sto) :=
  if (x1 < 0 ∨ 8 ≤ x1.toNatClampNeg) then none else bd1 (f_J7_fill_53178 (3 + x1.toNatClampNeg) 40 (0 : Int32) σ) fun σ102 => if (x1 < 0 ∨ 8 ≤ x1.toNatClampNeg) then none else nmS (pI σ102 11 x1.toNatClampNeg x2) fun σ105 => if (x1 < 0 ∨ 8 ≤ x1.toNatClampNeg) then none else nmS (pI σ105 12 x1.toNatClampNeg x3) fun σ107 => some σ107
set_option maxHeartbeats 4000000 in
set_option maxRecDepth 100000 in
theorem w_X6_make {p : Program} {l : Launch} {e : Env} {s : State} {m : MethodId} {args : Array Value} {below : List Frame} {meth : Method} {c : Code} {G : Gd} {B : Nat} (X : Cm p s m args meth c cX6_make 4 RX6 G none) {σr : Sto} (x1 : Int32) (x2 : Int32) (x3 : Int32) (σ : Sto) (hf : f_X6_make x1 x2 x3 σ = some σr) (H : Heap) (locs : List Loc) (hH : HX G layX B σ H) (hS : va_S (inW layX B) s.heap H locs) (ls : Array Slot) (hl : lv_has ls 4 [(0, .ref (B + 1)), (1, .int x1), (2, .int x2), (3, .int x3)]) : WM p l e 1 s m args below meth c H locs G layX B none σr (F0 m 0 ls []) := by
  unfold f_X6_make at hf
  have hx := X.1.1
  have hb := X.1.2.1
  refine lv_aload_n hx hb dX6_make_0 rfl (lv_at hl 0 rfl) ?_
  refine g_get (v := .ref (B + 2)) kX6 (by decide) fl_RX6_11 X.1 hH kx_1 rfl dX6_make_1 ?_
  refine lv_iload_n hx hb dX6_make_4 rfl (lv_at hl 1 rfl) ?_
  obtain ⟨q101, hf⟩ := chk hf
  refine g_aald (b := (3 + x1.toNatClampNeg)) X.1 hH kx_2 (by decide) q101 rfl dX6_make_5 ?_
  refine lv_iconst (v := 0) hx hb dX6_make_6 (by decide) ?_
  obtain ⟨σ102, eσ102, hf⟩ := bnd1 hf
  refine g_cSv (As := [.ref (B + (3 + x1.toNatClampNeg)), .int (0 : Int32)]) X.1 hH hS (c_J7_fill_53178 l G B (3 + x1.toNatClampNeg) 40 (kRow q101) (0 : Int32) σ σ102 eσ102) kw_RX6_23 (by decide) rfl hl (Nat.le_of_ble_eq_true rfl) rfl dX6_make_7 (fun H locs hH hS => ?_)
  refine lv_aload_n hx hb dX6_make_10 rfl (lv_at hl 0 rfl) ?_
  refine g_get (v := .ref (B + 11)) kX6 (by decide) fl_RX6_16 X.1 hH kx_1 rfl dX6_make_11 ?_
  refine lv_iload_n hx hb dX6_make_14 rfl (lv_at hl 1 rfl) ?_
  refine lv_iload_n hx hb dX6_make_15 rfl (lv_at hl 2 rfl) ?_
  obtain ⟨q104, hf⟩ := chk hf
  refine g_iast (j := x1.toNatClampNeg) X.1 hH hS kx_11 q104 rfl dX6_make_16 (fun H locs hH hS => ?_)
  obtain ⟨σ105, eσ105, hH⟩ := nmX hH
  replace hf := nmU hf eσ105
  refine lv_aload_n hx hb dX6_make_17 rfl (lv_at hl 0 rfl) ?_
  refine g_get (v := .ref (B + 12)) kX6 (by decide) fl_RX6_20 X.1 hH kx_1 rfl dX6_make_18 ?_
  refine lv_iload_n hx hb dX6_make_21 rfl (lv_at hl 1 rfl) ?_
  refine lv_iload_n hx hb dX6_make_22 rfl (lv_at hl 3 rfl) ?_
  obtain ⟨q106, hf⟩ := chk hf
  refine g_iast (j := x1.toNatClampNeg) X.1 hH hS kx_12 q106 rfl dX6_make_23 (fun H locs hH hS => ?_)
  obtain ⟨σ107, eσ107, hH⟩ := nmX hH
  replace hf := nmU hf eσ107
  obtain rfl := rt1 hf
  exact g_vret X hH hS dX6_make_24
theorem c_X6_make (l : Launch) (G : Gd) (B : Nat) (x1 : Int32) (x2 : Int32) (x3 : Int32) (σ σr : Sto) (hf : f_X6_make x1 x2 x3 σ = some σr) : Ct l G layX B yX6_make cX6_make 4 none 1 [.ref (B + 1), .int x1, .int x2, .int x3] none σ σr :=
  Ct.ofW (by decide) (Nat.le_of_ble_eq_true rfl) (fun _ _ _ _ _ _ _ X hH hS ls hl => w_X6_make X x1 x2 x3 σ hf _ _ hH hS ls (show lv_has ls 4 [(0, .ref (B + 1)), (1, .int x1), (2, .int x2), (3, .int x3)] from hl))
-- SlackProofs$Rows.put(III)I  (D 0)
def b_X6_put_33 (v1 : Int32) (v2 : Int32) (v4 : Int32) (σ : Sto) : Option (Int32 × Sto) :=
  if (v1 < 0 ∨ 8 ≤ v1.toNatClampNeg) then none else if (v2 < 0 ∨ 40 ≤ v2.toNatClampNeg) then none else nmS (pI σ (3 + v1.toNatClampNeg) v2.toNatClampNeg v4) fun σ207 => some (v4, σ207)
set_option maxHeartbeats 4000000 in
set_option maxRecDepth 100000 in
theorem w_X6_put_33 {p : Program} {l : Launch} {e : Env} {s : State} {m : MethodId} {args : Array Value} {below : List Frame} {meth : Method} {c : Code} {G : Gd} {B : Nat} (X : Cm p s m args meth c cX6_put 5 RX6 G (some .int)) {r : Int32} {σr : Sto} (v1 : Int32) (v2 : Int32) (v4 : Int32) (σ : Sto) (hf : b_X6_put_33 v1 v2 v4 σ = some (r, σr)) (H : Heap) (locs : List Loc) (hH : HX G layX B σ H) (hS : va_S (inW layX B) s.heap H locs) (ls : Array Slot) (hl : lv_has ls 5 [(0, .ref (B + 1)), (1, .int v1), (2, .int v2), (4, .int v4)]) : WM p l e 0 s m args below meth c H locs G layX B (some (.int r)) σr (F0 m 33 ls []) := by
  unfold b_X6_put_33 at hf
  have hx := X.1.1
  have hb := X.1.2.1
  refine lv_aload_n hx hb dX6_put_33 rfl (lv_at hl 0 rfl) ?_
  refine g_get (v := .ref (B + 2)) kX6 (by decide) fl_RX6_11 X.1 hH kx_1 rfl dX6_put_34 ?_
  refine lv_iload_n hx hb dX6_put_37 rfl (lv_at hl 1 rfl) ?_
  obtain ⟨q205, hf⟩ := chk hf
  refine g_aald (b := (3 + v1.toNatClampNeg)) X.1 hH kx_2 (by decide) q205 rfl dX6_put_38 ?_
  refine lv_iload_n hx hb dX6_put_39 rfl (lv_at hl 2 rfl) ?_
  refine lv_iload hx hb dX6_put_40 (lv_at hl 3 rfl) ?_
  obtain ⟨q206, hf⟩ := chk hf
  refine g_iast (j := v2.toNatClampNeg) X.1 hH hS (kRow q205) q206 rfl dX6_put_42 (fun H locs hH hS => ?_)
  obtain ⟨σ207, eσ207, hH⟩ := nmX hH
  replace hf := nmU hf eσ207
  refine lv_iload hx hb dX6_put_43 (lv_at hl 3 rfl) ?_
  obtain ⟨rfl, rfl⟩ := rt2 hf
  exact g_iret X hH hS dX6_put_45
def f_X6_put (x1 : Int32) (x2 : Int32) (x3 : Int32) (σ : Sto) : Option (Int32 × Sto) :=
  if (x1 < 0 ∨ 8 ≤ x1.toNatClampNeg) then none else if (σ.1 11 x1.toNatClampNeg) = 0 then (nmS x3.toInt8.toInt32 fun y209 => b_X6_put_33 x1 x2 y209 σ) else (if (x1 < 0 ∨ 8 ≤ x1.toNatClampNeg) then none else if (σ.1 11 x1.toNatClampNeg) = (1 : Int32) then (nmS x3.toInt16.toInt32 fun y208 => b_X6_put_33 x1 x2 y208 σ) else (b_X6_put_33 x1 x2 x3 σ))
set_option maxHeartbeats 4000000 in
set_option maxRecDepth 100000 in
theorem w_X6_put {p : Program} {l : Launch} {e : Env} {s : State} {m : MethodId} {args : Array Value} {below : List Frame} {meth : Method} {c : Code} {G : Gd} {B : Nat} (X : Cm p s m args meth c cX6_put 5 RX6 G (some .int)) {r : Int32} {σr : Sto} (x1 : Int32) (x2 : Int32) (x3 : Int32) (σ : Sto) (hf : f_X6_put x1 x2 x3 σ = some (r, σr)) (H : Heap) (locs : List Loc) (hH : HX G layX B σ H) (hS : va_S (inW layX B) s.heap H locs) (ls : Array Slot) (hl : lv_has ls 5 [(0, .ref (B + 1)), (1, .int x1), (2, .int x2), (3, .int x3)]) : WM p l e 0 s m args below meth c H locs G layX B (some (.int r)) σr (F0 m 0 ls []) := by
  unfold f_X6_put at hf
  have hx := X.1.1
  have hb := X.1.2.1
  refine lv_iload_n hx hb dX6_put_0 rfl (lv_at hl 3 rfl) ?_
  refine lv_istore (lv' := [(4, .int x3), (0, .ref (B + 1)), (1, .int x1), (2, .int x2), (3, .int x3)]) hx hb dX6_put_1 hl (by decide) rfl (fun ls hl => ?_)
  refine lv_aload_n hx hb dX6_put_3 rfl (lv_at hl 1 rfl) ?_
  refine g_get (v := .ref (B + 11)) kX6 (by decide) fl_RX6_16 X.1 hH kx_1 rfl dX6_put_4 ?_
  refine lv_iload_n hx hb dX6_put_7 rfl (lv_at hl 2 rfl) ?_
  obtain ⟨q101, hf⟩ := chk hf
  refine g_iald (j := x1.toNatClampNeg) X.1 hH kx_11 q101 rfl dX6_put_8 ?_
  refine lv_if_ne (tgt := 19) hx hb dX6_put_9 (by decide) (fun q102 => ?_) (fun q102 => ?_)
  · replace hf := brF hf q102
    refine lv_aload_n hx hb dX6_put_19 rfl (lv_at hl 1 rfl) ?_
    refine g_get (v := .ref (B + 11)) kX6 (by decide) fl_RX6_16 X.1 hH kx_1 rfl dX6_put_20 ?_
    refine lv_iload_n hx hb dX6_put_23 rfl (lv_at hl 2 rfl) ?_
    obtain ⟨q103, hf⟩ := chk hf
    refine g_iald (j := x1.toNatClampNeg) X.1 hH kx_11 q103 rfl dX6_put_24 ?_
    refine lv_iconst (v := 1) hx hb dX6_put_25 (by decide) ?_
    refine lv_icmp_ne (tgt := 33) hx hb dX6_put_26 (by decide) (fun q104 => ?_) (fun q104 => ?_)
    · replace hf := brF hf q104
      exact w_X6_put_33 X x1 x2 x3 σ hf _ _ hH hS _ (lv_sub hl [1, 2, 3, 0] rfl)
    · replace hf := brT hf q104
      refine lv_iload_n hx hb dX6_put_29 rfl (lv_at hl 4 rfl) ?_
      refine lv_i2s hx hb dX6_put_30 rfl ?_
      refine lv_topi (fun y208 ey208 => ?_)
      replace hf := nmU hf ey208
      refine lv_istore (lv' := [(4, .int y208), (0, .ref (B + 1)), (1, .int x1), (2, .int x2), (3, .int x3)]) hx hb dX6_put_31 hl (by decide) rfl (fun ls hl => ?_)
      exact w_X6_put_33 X x1 x2 y208 σ hf _ _ hH hS _ (lv_sub hl [1, 2, 3, 0] rfl)
  · replace hf := brT hf q102
    refine lv_iload_n hx hb dX6_put_12 rfl (lv_at hl 4 rfl) ?_
    refine lv_i2b hx hb dX6_put_13 rfl ?_
    refine lv_topi (fun y209 ey209 => ?_)
    replace hf := nmU hf ey209
    refine lv_istore (lv' := [(4, .int y209), (0, .ref (B + 1)), (1, .int x1), (2, .int x2), (3, .int x3)]) hx hb dX6_put_14 hl (by decide) rfl (fun ls hl => ?_)
    refine lv_goto (tgt := 33) hx hb dX6_put_16 (by decide) ?_
    exact w_X6_put_33 X x1 x2 y209 σ hf _ _ hH hS _ (lv_sub hl [1, 2, 3, 0] rfl)
theorem c_X6_put (l : Launch) (G : Gd) (B : Nat) (x1 : Int32) (x2 : Int32) (x3 : Int32) (σ σr : Sto) (r : Int32) (hf : f_X6_put x1 x2 x3 σ = some (r, σr)) : Ct l G layX B yX6_put cX6_put 5 (some .int) 0 [.ref (B + 1), .int x1, .int x2, .int x3] (some (.int r)) σ σr :=
  Ct.ofW (by decide) (Nat.le_of_ble_eq_true rfl) (fun _ _ _ _ _ _ _ X hH hS ls hl => w_X6_put X x1 x2 x3 σ hf _ _ hH hS ls (show lv_has ls 5 [(0, .ref (B + 1)), (1, .int x1), (2, .int x2), (3, .int x3)] from hl))
-- SlackProofs.isOfKind(II)Z  (D 0)
def b_X7_isOfKind_39 (s0 : Int32) (σ : Sto) : Option (Int32 × Sto) :=
  if ¬ (s0 = 0 ∨ s0 = 1) then none else some (s0, σ)
set_option maxHeartbeats 4000000 in
set_option maxRecDepth 100000 in
theorem w_X7_isOfKind_39 {p : Program} {l : Launch} {e : Env} {s : State} {m : MethodId} {args : Array Value} {below : List Frame} {meth : Method} {c : Code} {G : Gd} {B : Nat} (X : Cm p s m args meth c cX7_isOfKind 2 RX7 G (some .boolean)) {r : Int32} {σr : Sto} (s0 : Int32) (σ : Sto) (hf : b_X7_isOfKind_39 s0 σ = some (r, σr)) (H : Heap) (locs : List Loc) (hH : HX G layX B σ H) (hS : va_S (inW layX B) s.heap H locs) (ls : Array Slot) (hl : lv_has ls 2 []) : WM p l e 0 s m args below meth c H locs G layX B (some (.int r)) σr (F0 m 39 ls [.int s0]) := by
  unfold b_X7_isOfKind_39 at hf
  have hx := X.1.1
  have hb := X.1.2.1
  obtain ⟨q302, hf⟩ := chk hf
  obtain ⟨rfl, rfl⟩ := rt2 hf
  exact g_zret X hH hS (Decidable.not_not.mp q302) dX7_isOfKind_39
def b_X7_isOfKind_34 (σ : Sto) : Option (Int32 × Sto) :=
  b_X7_isOfKind_39 (1 : Int32) σ
set_option maxHeartbeats 4000000 in
set_option maxRecDepth 100000 in
theorem w_X7_isOfKind_34 {p : Program} {l : Launch} {e : Env} {s : State} {m : MethodId} {args : Array Value} {below : List Frame} {meth : Method} {c : Code} {G : Gd} {B : Nat} (X : Cm p s m args meth c cX7_isOfKind 2 RX7 G (some .boolean)) {r : Int32} {σr : Sto} (σ : Sto) (hf : b_X7_isOfKind_34 σ = some (r, σr)) (H : Heap) (locs : List Loc) (hH : HX G layX B σ H) (hS : va_S (inW layX B) s.heap H locs) (ls : Array Slot) (hl : lv_has ls 2 []) : WM p l e 0 s m args below meth c H locs G layX B (some (.int r)) σr (F0 m 34 ls []) := by
  unfold b_X7_isOfKind_34 at hf
  have hx := X.1.1
  have hb := X.1.2.1
  refine lv_iconst (v := 1) hx hb dX7_isOfKind_34 (by decide) ?_
  refine lv_goto (tgt := 39) hx hb dX7_isOfKind_35 (by decide) ?_
  exact w_X7_isOfKind_39 X (1 : Int32) σ hf _ _ hH hS _ (lv_sub hl [] rfl)
def b_X7_isOfKind_38 (σ : Sto) : Option (Int32 × Sto) :=
  b_X7_isOfKind_39 (0 : Int32) σ
set_option maxHeartbeats 4000000 in
set_option maxRecDepth 100000 in
theorem w_X7_isOfKind_38 {p : Program} {l : Launch} {e : Env} {s : State} {m : MethodId} {args : Array Value} {below : List Frame} {meth : Method} {c : Code} {G : Gd} {B : Nat} (X : Cm p s m args meth c cX7_isOfKind 2 RX7 G (some .boolean)) {r : Int32} {σr : Sto} (σ : Sto) (hf : b_X7_isOfKind_38 σ = some (r, σr)) (H : Heap) (locs : List Loc) (hH : HX G layX B σ H) (hS : va_S (inW layX B) s.heap H locs) (ls : Array Slot) (hl : lv_has ls 2 []) : WM p l e 0 s m args below meth c H locs G layX B (some (.int r)) σr (F0 m 38 ls []) := by
  unfold b_X7_isOfKind_38 at hf
  have hx := X.1.1
  have hb := X.1.2.1
  refine lv_iconst (v := 0) hx hb dX7_isOfKind_38 (by decide) ?_
  exact w_X7_isOfKind_39 X (0 : Int32) σ hf _ _ hH hS _ (lv_sub hl [] rfl)
def b_X7_isOfKind_24 (v0 : Int32) (v1 : Int32) (σ : Sto) : Option (Int32 × Sto) :=
  if v1 = (4 : Int32) then (if v0 = (5 : Int32) then (b_X7_isOfKind_34 σ) else (b_X7_isOfKind_38 σ)) else (b_X7_isOfKind_38 σ)
set_option maxHeartbeats 4000000 in
set_option maxRecDepth 100000 in
theorem w_X7_isOfKind_24 {p : Program} {l : Launch} {e : Env} {s : State} {m : MethodId} {args : Array Value} {below : List Frame} {meth : Method} {c : Code} {G : Gd} {B : Nat} (X : Cm p s m args meth c cX7_isOfKind 2 RX7 G (some .boolean)) {r : Int32} {σr : Sto} (v0 : Int32) (v1 : Int32) (σ : Sto) (hf : b_X7_isOfKind_24 v0 v1 σ = some (r, σr)) (H : Heap) (locs : List Loc) (hH : HX G layX B σ H) (hS : va_S (inW layX B) s.heap H locs) (ls : Array Slot) (hl : lv_has ls 2 [(0, .int v0), (1, .int v1)]) : WM p l e 0 s m args below meth c H locs G layX B (some (.int r)) σr (F0 m 24 ls []) := by
  unfold b_X7_isOfKind_24 at hf
  have hx := X.1.1
  have hb := X.1.2.1
  refine lv_iload_n hx hb dX7_isOfKind_24 rfl (lv_at hl 1 rfl) ?_
  refine lv_iconst (v := 4) hx hb dX7_isOfKind_25 (by decide) ?_
  refine lv_icmp_ne (tgt := 38) hx hb dX7_isOfKind_26 (by decide) (fun q405 => ?_) (fun q405 => ?_)
  · replace hf := brF hf q405
    exact w_X7_isOfKind_38 X σ hf _ _ hH hS _ (lv_sub hl [] rfl)
  · replace hf := brT hf q405
    refine lv_iload_n hx hb dX7_isOfKind_29 rfl (lv_at hl 0 rfl) ?_
    refine lv_iconst (v := 5) hx hb dX7_isOfKind_30 (by decide) ?_
    refine lv_icmp_ne (tgt := 38) hx hb dX7_isOfKind_31 (by decide) (fun q506 => ?_) (fun q506 => ?_)
    · replace hf := brF hf q506
      exact w_X7_isOfKind_38 X σ hf _ _ hH hS _ (lv_sub hl [] rfl)
    · replace hf := brT hf q506
      exact w_X7_isOfKind_34 X σ hf _ _ hH hS _ (lv_sub hl [] rfl)
def f_X7_isOfKind (x0 : Int32) (x1 : Int32) (σ : Sto) : Option (Int32 × Sto) :=
  if x1 = 0 then (b_X7_isOfKind_34 σ) else (if x0 = x1 then (b_X7_isOfKind_34 σ) else (if x1 = (1 : Int32) then (if x0 = (2 : Int32) then (b_X7_isOfKind_34 σ) else (if x0 = (3 : Int32) then (b_X7_isOfKind_34 σ) else (b_X7_isOfKind_24 x0 x1 σ))) else (b_X7_isOfKind_24 x0 x1 σ)))
set_option maxHeartbeats 4000000 in
set_option maxRecDepth 100000 in
theorem w_X7_isOfKind {p : Program} {l : Launch} {e : Env} {s : State} {m : MethodId} {args : Array Value} {below : List Frame} {meth : Method} {c : Code} {G : Gd} {B : Nat} (X : Cm p s m args meth c cX7_isOfKind 2 RX7 G (some .boolean)) {r : Int32} {σr : Sto} (x0 : Int32) (x1 : Int32) (σ : Sto) (hf : f_X7_isOfKind x0 x1 σ = some (r, σr)) (H : Heap) (locs : List Loc) (hH : HX G layX B σ H) (hS : va_S (inW layX B) s.heap H locs) (ls : Array Slot) (hl : lv_has ls 2 [(0, .int x0), (1, .int x1)]) : WM p l e 0 s m args below meth c H locs G layX B (some (.int r)) σr (F0 m 0 ls []) := by
  unfold f_X7_isOfKind at hf
  have hx := X.1.1
  have hb := X.1.2.1
  refine lv_iload_n hx hb dX7_isOfKind_0 rfl (lv_at hl 1 rfl) ?_
  refine lv_if_eq (tgt := 34) hx hb dX7_isOfKind_1 (by decide) (fun q101 => ?_) (fun q101 => ?_)
  · replace hf := brT hf q101
    exact w_X7_isOfKind_34 X σ hf _ _ hH hS _ (lv_sub hl [] rfl)
  · replace hf := brF hf q101
    refine lv_iload_n hx hb dX7_isOfKind_4 rfl (lv_at hl 0 rfl) ?_
    refine lv_iload_n hx hb dX7_isOfKind_5 rfl (lv_at hl 1 rfl) ?_
    refine lv_icmp_eq (tgt := 34) hx hb dX7_isOfKind_6 (by decide) (fun q303 => ?_) (fun q303 => ?_)
    · replace hf := brT hf q303
      exact w_X7_isOfKind_34 X σ hf _ _ hH hS _ (lv_sub hl [] rfl)
    · replace hf := brF hf q303
      refine lv_iload_n hx hb dX7_isOfKind_9 rfl (lv_at hl 1 rfl) ?_
      refine lv_iconst (v := 1) hx hb dX7_isOfKind_10 (by decide) ?_
      refine lv_icmp_ne (tgt := 24) hx hb dX7_isOfKind_11 (by decide) (fun q304 => ?_) (fun q304 => ?_)
      · replace hf := brF hf q304
        exact w_X7_isOfKind_24 X x0 x1 σ hf _ _ hH hS _ (lv_sub hl [0, 1] rfl)
      · replace hf := brT hf q304
        refine lv_iload_n hx hb dX7_isOfKind_14 rfl (lv_at hl 0 rfl) ?_
        refine lv_iconst (v := 2) hx hb dX7_isOfKind_15 (by decide) ?_
        refine lv_icmp_eq (tgt := 34) hx hb dX7_isOfKind_16 (by decide) (fun q507 => ?_) (fun q507 => ?_)
        · replace hf := brT hf q507
          exact w_X7_isOfKind_34 X σ hf _ _ hH hS _ (lv_sub hl [] rfl)
        · replace hf := brF hf q507
          refine lv_iload_n hx hb dX7_isOfKind_19 rfl (lv_at hl 0 rfl) ?_
          refine lv_iconst (v := 3) hx hb dX7_isOfKind_20 (by decide) ?_
          refine lv_icmp_eq (tgt := 34) hx hb dX7_isOfKind_21 (by decide) (fun q508 => ?_) (fun q508 => ?_)
          · replace hf := brT hf q508
            exact w_X7_isOfKind_34 X σ hf _ _ hH hS _ (lv_sub hl [] rfl)
          · replace hf := brF hf q508
            exact w_X7_isOfKind_24 X x0 x1 σ hf _ _ hH hS _ (lv_sub hl [0, 1] rfl)
theorem c_X7_isOfKind (l : Launch) (G : Gd) (B : Nat) (x0 : Int32) (x1 : Int32) (σ σr : Sto) (r : Int32) (hf : f_X7_isOfKind x0 x1 σ = some (r, σr)) : Ct l G layX B yX7_isOfKind cX7_isOfKind 2 (some .boolean) 0 [.int x0, .int x1] (some (.int r)) σ σr :=
  Ct.ofW (by decide) (Nat.le_of_ble_eq_true rfl) (fun _ _ _ _ _ _ _ X hH hS ls hl => w_X7_isOfKind X x0 x1 σ hf _ _ hH hS ls (show lv_has ls 2 [(0, .int x0), (1, .int x1)] from hl))
-- SlackProofs.found(I)I  (D 0)
def f_X7_found (x1 : Int32) (σ : Sto) : Option (Int32 × Sto) :=
  nmS (pI σ 0 7 x1) fun σ101 => some (((-1000010 : Int32) - x1), σ101)
set_option maxHeartbeats 4000000 in
set_option maxRecDepth 100000 in
theorem w_X7_found {p : Program} {l : Launch} {e : Env} {s : State} {m : MethodId} {args : Array Value} {below : List Frame} {meth : Method} {c : Code} {G : Gd} {B : Nat} (X : Cm p s m args meth c cX7_found 2 RX7 G (some .int)) {r : Int32} {σr : Sto} (x1 : Int32) (σ : Sto) (hf : f_X7_found x1 σ = some (r, σr)) (H : Heap) (locs : List Loc) (hH : HX G layX B σ H) (hS : va_S (inW layX B) s.heap H locs) (ls : Array Slot) (hl : lv_has ls 2 [(0, .ref (B + 0)), (1, .int x1)]) : WM p l e 0 s m args below meth c H locs G layX B (some (.int r)) σr (F0 m 0 ls []) := by
  unfold f_X7_found at hf
  have hx := X.1.1
  have hb := X.1.2.1
  refine lv_aload_n hx hb dX7_found_0 rfl (lv_at hl 0 rfl) ?_
  refine lv_iload_n hx hb dX7_found_1 rfl (lv_at hl 1 rfl) ?_
  refine g_putI kX7 (by decide) fl_RX7_57 rfl rfl X.1 hH hS kx_0 dX7_found_2 (fun H locs hH hS => ?_)
  obtain ⟨σ101, eσ101, hH⟩ := nmX hH
  replace hf := nmU hf eσ101
  refine lv_ldcw (v := -1000010) hx hb X.1.2.2.2.1 (X.1.2.2.2.2.1 _ kc_RX7_319) dX7_found_5 ?_
  refine lv_iload_n hx hb dX7_found_8 rfl (lv_at hl 1 rfl) ?_
  refine lv_isub hx hb dX7_found_9 ?_
  obtain ⟨rfl, rfl⟩ := rt2 hf
  exact g_iret X hH hS dX7_found_10
theorem c_X7_found (l : Launch) (G : Gd) (B : Nat) (x1 : Int32) (σ σr : Sto) (r : Int32) (hf : f_X7_found x1 σ = some (r, σr)) : Ct l G layX B yX7_found cX7_found 2 (some .int) 0 [.ref (B + 0), .int x1] (some (.int r)) σ σr :=
  Ct.ofW (by decide) (Nat.le_of_ble_eq_true rfl) (fun _ _ _ _ _ _ _ X hH hS ls hl => w_X7_found X x1 σ hf _ _ hH hS ls (show lv_has ls 2 [(0, .ref (B + 0)), (1, .int x1)] from hl))
-- SlackProofs.well(I)I  (D 0)
def f_X7_well (x1 : Int32) (σ : Sto) : Option (Int32 × Sto) :=
  nmS (pI σ 0 7 (0 : Int32)) fun σ101 => some (x1, σ101)
set_option maxHeartbeats 4000000 in
set_option maxRecDepth 100000 in
theorem w_X7_well {p : Program} {l : Launch} {e : Env} {s : State} {m : MethodId} {args : Array Value} {below : List Frame} {meth : Method} {c : Code} {G : Gd} {B : Nat} (X : Cm p s m args meth c cX7_well 2 RX7 G (some .int)) {r : Int32} {σr : Sto} (x1 : Int32) (σ : Sto) (hf : f_X7_well x1 σ = some (r, σr)) (H : Heap) (locs : List Loc) (hH : HX G layX B σ H) (hS : va_S (inW layX B) s.heap H locs) (ls : Array Slot) (hl : lv_has ls 2 [(0, .ref (B + 0)), (1, .int x1)]) : WM p l e 0 s m args below meth c H locs G layX B (some (.int r)) σr (F0 m 0 ls []) := by
  unfold f_X7_well at hf
  have hx := X.1.1
  have hb := X.1.2.1
  refine lv_aload_n hx hb dX7_well_0 rfl (lv_at hl 0 rfl) ?_
  refine lv_iconst (v := 0) hx hb dX7_well_1 (by decide) ?_
  refine g_putI kX7 (by decide) fl_RX7_57 rfl rfl X.1 hH hS kx_0 dX7_well_2 (fun H locs hH hS => ?_)
  obtain ⟨σ101, eσ101, hH⟩ := nmX hH
  replace hf := nmU hf eσ101
  refine lv_iload_n hx hb dX7_well_5 rfl (lv_at hl 1 rfl) ?_
  obtain ⟨rfl, rfl⟩ := rt2 hf
  exact g_iret X hH hS dX7_well_6
theorem c_X7_well (l : Launch) (G : Gd) (B : Nat) (x1 : Int32) (σ σr : Sto) (r : Int32) (hf : f_X7_well x1 σ = some (r, σr)) : Ct l G layX B yX7_well cX7_well 2 (some .int) 0 [.ref (B + 0), .int x1] (some (.int r)) σ σr :=
  Ct.ofW (by decide) (Nat.le_of_ble_eq_true rfl) (fun _ _ _ _ _ _ _ X hH hS ls hl => w_X7_well X x1 σ hf _ _ hH hS ls (show lv_has ls 2 [(0, .ref (B + 0)), (1, .int x1)] from hl))
