-- SlackProofsModel.isTerm()Z  (D 1)
def b_X8_isTerm_38 (s0 : Int32) (σ : Sto) : Option (Int32 × Sto) :=
  if ¬ (s0 = 0 ∨ s0 = 1) then none else some (s0, σ)
set_option maxHeartbeats 4000000 in
set_option maxRecDepth 100000 in
theorem w_X8_isTerm_38 {p : Program} {l : Launch} {e : Env} {s : State} {m : MethodId} {args : Array Value} {below : List Frame} {meth : Method} {c : Code} {G : Gd} {B : Nat} (X : Cm p s m args meth c cX8_isTerm 1 RX8 G (some .boolean)) {r : Int32} {σr : Sto} (s0 : Int32) (σ : Sto) (hf : b_X8_isTerm_38 s0 σ = some (r, σr)) (H : Heap) (locs : List Loc) (hH : HX G layM B σ H) (hS : va_S (inW layM B) s.heap H locs) (ls : Array Slot) (hl : lv_has ls 1 []) : WM p l e 1 s m args below meth c H locs G layM B (some (.int r)) σr (F0 m 38 ls [.int s0]) := by
  unfold b_X8_isTerm_38 at hf
  have hx := X.1.1
  have hb := X.1.2.1
  obtain ⟨q304, hf⟩ := chk hf
  obtain ⟨rfl, rfl⟩ := rt2 hf
  exact g_zret X hH hS (Decidable.not_not.mp q304) dX8_isTerm_38
def b_X8_isTerm_37 (σ : Sto) : Option (Int32 × Sto) :=
  b_X8_isTerm_38 (0 : Int32) σ
set_option maxHeartbeats 4000000 in
set_option maxRecDepth 100000 in
theorem w_X8_isTerm_37 {p : Program} {l : Launch} {e : Env} {s : State} {m : MethodId} {args : Array Value} {below : List Frame} {meth : Method} {c : Code} {G : Gd} {B : Nat} (X : Cm p s m args meth c cX8_isTerm 1 RX8 G (some .boolean)) {r : Int32} {σr : Sto} (σ : Sto) (hf : b_X8_isTerm_37 σ = some (r, σr)) (H : Heap) (locs : List Loc) (hH : HX G layM B σ H) (hS : va_S (inW layM B) s.heap H locs) (ls : Array Slot) (hl : lv_has ls 1 []) : WM p l e 1 s m args below meth c H locs G layM B (some (.int r)) σr (F0 m 37 ls []) := by
  unfold b_X8_isTerm_37 at hf
  have hx := X.1.1
  have hb := X.1.2.1
  refine lv_iconst (v := 0) hx hb dX8_isTerm_37 (by decide) ?_
  exact w_X8_isTerm_38 X (0 : Int32) σ hf _ _ hH hS _ (lv_sub hl [] rfl)
def b_X8_isTerm_33 (σ : Sto) : Option (Int32 × Sto) :=
  b_X8_isTerm_38 (1 : Int32) σ
set_option maxHeartbeats 4000000 in
set_option maxRecDepth 100000 in
theorem w_X8_isTerm_33 {p : Program} {l : Launch} {e : Env} {s : State} {m : MethodId} {args : Array Value} {below : List Frame} {meth : Method} {c : Code} {G : Gd} {B : Nat} (X : Cm p s m args meth c cX8_isTerm 1 RX8 G (some .boolean)) {r : Int32} {σr : Sto} (σ : Sto) (hf : b_X8_isTerm_33 σ = some (r, σr)) (H : Heap) (locs : List Loc) (hH : HX G layM B σ H) (hS : va_S (inW layM B) s.heap H locs) (ls : Array Slot) (hl : lv_has ls 1 []) : WM p l e 1 s m args below meth c H locs G layM B (some (.int r)) σr (F0 m 33 ls []) := by
  unfold b_X8_isTerm_33 at hf
  have hx := X.1.1
  have hb := X.1.2.1
  refine lv_iconst (v := 1) hx hb dX8_isTerm_33 (by decide) ?_
  refine lv_goto (tgt := 38) hx hb dX8_isTerm_34 (by decide) ?_
  exact w_X8_isTerm_38 X (1 : Int32) σ hf _ _ hH hS _ (lv_sub hl [] rfl)
def f_X8_isTerm (σ : Sto) : Option (Int32 × Sto) :=
  bd2 (f_X8_isWell σ) fun r102 σ101 => if r102 = 0 then (b_X8_isTerm_37 σ101) else (if (σ101.1 0 11) = (1 : Int32) then (if (σ101.1 0 12) = (112 : Int32) then (b_X8_isTerm_33 σ101) else (if (σ101.1 0 12) = (110 : Int32) then (b_X8_isTerm_33 σ101) else (b_X8_isTerm_37 σ101))) else (b_X8_isTerm_37 σ101))
set_option maxHeartbeats 4000000 in
set_option maxRecDepth 100000 in
theorem w_X8_isTerm {p : Program} {l : Launch} {e : Env} {s : State} {m : MethodId} {args : Array Value} {below : List Frame} {meth : Method} {c : Code} {G : Gd} {B : Nat} (X : Cm p s m args meth c cX8_isTerm 1 RX8 G (some .boolean)) {r : Int32} {σr : Sto} (σ : Sto) (hf : f_X8_isTerm σ = some (r, σr)) (H : Heap) (locs : List Loc) (hH : HX G layM B σ H) (hS : va_S (inW layM B) s.heap H locs) (ls : Array Slot) (hl : lv_has ls 1 [(0, .ref (B + 0))]) : WM p l e 1 s m args below meth c H locs G layM B (some (.int r)) σr (F0 m 0 ls []) := by
  unfold f_X8_isTerm at hf
  have hx := X.1.1
  have hb := X.1.2.1
  refine lv_aload_n hx hb dX8_isTerm_0 rfl (lv_at hl 0 rfl) ?_
  obtain ⟨r102, σ101, eσ101, hf⟩ := bnd2 hf
  refine g_cVi (As := []) X.1 hH hS (c_X8_isWell l G B σ σ101 r102 eσ101) kw_RX8_116 kX8 km_0 (by decide) rfl hl (Nat.le_of_ble_eq_true rfl) rfl dX8_isTerm_1 (fun H locs hH hS => ?_)
  refine lv_if_eq (tgt := 37) hx hb dX8_isTerm_4 (by decide) (fun q103 => ?_) (fun q103 => ?_)
  · replace hf := brT hf q103
    exact w_X8_isTerm_37 X σ101 hf _ _ hH hS _ (lv_sub hl [] rfl)
  · replace hf := brF hf q103
    refine lv_aload_n hx hb dX8_isTerm_7 rfl (lv_at hl 0 rfl) ?_
    refine g_get (v := .int (σ101.1 0 11)) kX8 (by decide) fl_RX8_110 X.1 hH km_0 rfl dX8_isTerm_8 ?_
    refine lv_iconst (v := 1) hx hb dX8_isTerm_11 (by decide) ?_
    refine lv_icmp_ne (tgt := 37) hx hb dX8_isTerm_12 (by decide) (fun q305 => ?_) (fun q305 => ?_)
    · replace hf := brF hf q305
      exact w_X8_isTerm_37 X σ101 hf _ _ hH hS _ (lv_sub hl [] rfl)
    · replace hf := brT hf q305
      refine lv_aload_n hx hb dX8_isTerm_15 rfl (lv_at hl 0 rfl) ?_
      refine g_get (v := .int (σ101.1 0 12)) kX8 (by decide) fl_RX8_107 X.1 hH km_0 rfl dX8_isTerm_16 ?_
      refine lv_bipush (v := 112) hx hb dX8_isTerm_19 (by decide) ?_
      refine lv_icmp_eq (tgt := 33) hx hb dX8_isTerm_21 (by decide) (fun q306 => ?_) (fun q306 => ?_)
      · replace hf := brT hf q306
        exact w_X8_isTerm_33 X σ101 hf _ _ hH hS _ (lv_sub hl [] rfl)
      · replace hf := brF hf q306
        refine lv_aload_n hx hb dX8_isTerm_24 rfl (lv_at hl 0 rfl) ?_
        refine g_get (v := .int (σ101.1 0 12)) kX8 (by decide) fl_RX8_107 X.1 hH km_0 rfl dX8_isTerm_25 ?_
        refine lv_bipush (v := 110) hx hb dX8_isTerm_28 (by decide) ?_
        refine lv_icmp_ne (tgt := 37) hx hb dX8_isTerm_30 (by decide) (fun q407 => ?_) (fun q407 => ?_)
        · replace hf := brF hf q407
          exact w_X8_isTerm_37 X σ101 hf _ _ hH hS _ (lv_sub hl [] rfl)
        · replace hf := brT hf q407
          exact w_X8_isTerm_33 X σ101 hf _ _ hH hS _ (lv_sub hl [] rfl)
theorem c_X8_isTerm (l : Launch) (G : Gd) (B : Nat) (σ σr : Sto) (r : Int32) (hf : f_X8_isTerm σ = some (r, σr)) : Ct l G layM B yX8_isTerm cX8_isTerm 1 (some .boolean) 1 [.ref (B + 0)] (some (.int r)) σ σr :=
  Ct.ofW (by decide) (Nat.le_of_ble_eq_true rfl) (fun _ _ _ _ _ _ _ X hH hS ls hl => w_X8_isTerm X σ hf _ _ hH hS ls (show lv_has ls 1 [(0, .ref (B + 0))] from hl))
-- SlackProofsModel.variable(I)I  (D 4)
def b_X8_variable_46 (σ : Sto) : Option (Int32 × Sto) :=
  bd2 (f_X8_figure (0 : Int32) (7 : Int32) σ) fun r205 σ204 => some (r205, σ204)
set_option maxHeartbeats 4000000 in
set_option maxRecDepth 100000 in
theorem w_X8_variable_46 {p : Program} {l : Launch} {e : Env} {s : State} {m : MethodId} {args : Array Value} {below : List Frame} {meth : Method} {c : Code} {G : Gd} {B : Nat} (X : Cm p s m args meth c cX8_variable 2 RX8 G (some .int)) {r : Int32} {σr : Sto} (σ : Sto) (hf : b_X8_variable_46 σ = some (r, σr)) (H : Heap) (locs : List Loc) (hH : HX G layM B σ H) (hS : va_S (inW layM B) s.heap H locs) (ls : Array Slot) (hl : lv_has ls 2 [(0, .ref (B + 0))]) : WM p l e 4 s m args below meth c H locs G layM B (some (.int r)) σr (F0 m 46 ls []) := by
  unfold b_X8_variable_46 at hf
  have hx := X.1.1
  have hb := X.1.2.1
  refine lv_aload_n hx hb dX8_variable_46 rfl (lv_at hl 0 rfl) ?_
  refine lv_iconst (v := 0) hx hb dX8_variable_47 (by decide) ?_
  refine lv_bipush (v := 7) hx hb dX8_variable_48 (by decide) ?_
  obtain ⟨r205, σ204, eσ204, hf⟩ := bnd2 hf
  refine g_cVi (As := [.int (0 : Int32), .int (7 : Int32)]) X.1 hH hS (c_X8_figure l G B (0 : Int32) (7 : Int32) σ σ204 r205 eσ204) kw_RX8_130 kX8 km_0 (by decide) rfl hl (Nat.le_of_ble_eq_true rfl) rfl dX8_variable_50 (fun H locs hH hS => ?_)
  obtain ⟨rfl, rfl⟩ := rt2 hf
  exact g_iret X hH hS dX8_variable_53
def f_X8_variable (x1 : Int32) (σ : Sto) : Option (Int32 × Sto) :=
  bd2 (f_X8_isWell σ) fun r102 σ101 => if r102 = 0 then (b_X8_variable_46 σ101) else (if (σ101.1 0 11) = (2 : Int32) then (bd2 (f_X8_in (σ101.1 0 12) (0 : Int32) (7 : Int32) σ101) fun r208 σ207 => if r208 = 0 then (b_X8_variable_46 σ207) else (bd2 (f_X8_has x1 (σ207.1 0 12) σ207) fun r211 σ210 => if r211 = 0 then (b_X8_variable_46 σ210) else (bd2 (f_X8_takes (0 : Int32) (2 : Int32) σ210) fun r214 σ213 => some (r214, σ213)))) else (b_X8_variable_46 σ101))
set_option maxHeartbeats 4000000 in
set_option maxRecDepth 100000 in
theorem w_X8_variable {p : Program} {l : Launch} {e : Env} {s : State} {m : MethodId} {args : Array Value} {below : List Frame} {meth : Method} {c : Code} {G : Gd} {B : Nat} (X : Cm p s m args meth c cX8_variable 2 RX8 G (some .int)) {r : Int32} {σr : Sto} (x1 : Int32) (σ : Sto) (hf : f_X8_variable x1 σ = some (r, σr)) (H : Heap) (locs : List Loc) (hH : HX G layM B σ H) (hS : va_S (inW layM B) s.heap H locs) (ls : Array Slot) (hl : lv_has ls 2 [(0, .ref (B + 0)), (1, .int x1)]) : WM p l e 4 s m args below meth c H locs G layM B (some (.int r)) σr (F0 m 0 ls []) := by
  unfold f_X8_variable at hf
  have hx := X.1.1
  have hb := X.1.2.1
  refine lv_aload_n hx hb dX8_variable_0 rfl (lv_at hl 0 rfl) ?_
  obtain ⟨r102, σ101, eσ101, hf⟩ := bnd2 hf
  refine g_cVi (As := []) X.1 hH hS (c_X8_isWell l G B σ σ101 r102 eσ101) kw_RX8_116 kX8 km_0 (by decide) rfl hl (Nat.le_of_ble_eq_true rfl) rfl dX8_variable_1 (fun H locs hH hS => ?_)
  refine lv_if_eq (tgt := 46) hx hb dX8_variable_4 (by decide) (fun q103 => ?_) (fun q103 => ?_)
  · replace hf := brT hf q103
    exact w_X8_variable_46 X σ101 hf _ _ hH hS _ (lv_sub hl [0] rfl)
  · replace hf := brF hf q103
    refine lv_aload_n hx hb dX8_variable_7 rfl (lv_at hl 0 rfl) ?_
    refine g_get (v := .int (σ101.1 0 11)) kX8 (by decide) fl_RX8_110 X.1 hH km_0 rfl dX8_variable_8 ?_
    refine lv_iconst (v := 2) hx hb dX8_variable_11 (by decide) ?_
    refine lv_icmp_ne (tgt := 46) hx hb dX8_variable_12 (by decide) (fun q206 => ?_) (fun q206 => ?_)
    · replace hf := brF hf q206
      exact w_X8_variable_46 X σ101 hf _ _ hH hS _ (lv_sub hl [0] rfl)
    · replace hf := brT hf q206
      refine lv_aload_n hx hb dX8_variable_15 rfl (lv_at hl 0 rfl) ?_
      refine g_get (v := .int (σ101.1 0 12)) kX8 (by decide) fl_RX8_107 X.1 hH km_0 rfl dX8_variable_16 ?_
      refine lv_iconst (v := 0) hx hb dX8_variable_19 (by decide) ?_
      refine lv_bipush (v := 7) hx hb dX8_variable_20 (by decide) ?_
      obtain ⟨r208, σ207, eσ207, hf⟩ := bnd2 hf
      refine g_cSi (As := [.int (σ101.1 0 12), .int (0 : Int32), .int (7 : Int32)]) X.1 hH hS (c_X8_in l G B (σ101.1 0 12) (0 : Int32) (7 : Int32) σ101 σ207 r208 eσ207) kw_RX8_68 (by decide) rfl hl (Nat.le_of_ble_eq_true rfl) rfl dX8_variable_22 (fun H locs hH hS => ?_)
      refine lv_if_eq (tgt := 46) hx hb dX8_variable_25 (by decide) (fun q209 => ?_) (fun q209 => ?_)
      · replace hf := brT hf q209
        exact w_X8_variable_46 X σ207 hf _ _ hH hS _ (lv_sub hl [0] rfl)
      · replace hf := brF hf q209
        refine lv_iload_n hx hb dX8_variable_28 rfl (lv_at hl 1 rfl) ?_
        refine lv_aload_n hx hb dX8_variable_29 rfl (lv_at hl 0 rfl) ?_
        refine g_get (v := .int (σ207.1 0 12)) kX8 (by decide) fl_RX8_107 X.1 hH km_0 rfl dX8_variable_30 ?_
        obtain ⟨r211, σ210, eσ210, hf⟩ := bnd2 hf
        refine g_cSi (As := [.int x1, .int (σ207.1 0 12)]) X.1 hH hS (c_X8_has l G B x1 (σ207.1 0 12) σ207 σ210 r211 eσ210) kw_RX8_133 (by decide) rfl hl (Nat.le_of_ble_eq_true rfl) rfl dX8_variable_33 (fun H locs hH hS => ?_)
        refine lv_if_eq (tgt := 46) hx hb dX8_variable_36 (by decide) (fun q212 => ?_) (fun q212 => ?_)
        · replace hf := brT hf q212
          exact w_X8_variable_46 X σ210 hf _ _ hH hS _ (lv_sub hl [0] rfl)
        · replace hf := brF hf q212
          refine lv_aload_n hx hb dX8_variable_39 rfl (lv_at hl 0 rfl) ?_
          refine lv_iconst (v := 0) hx hb dX8_variable_40 (by decide) ?_
          refine lv_iconst (v := 2) hx hb dX8_variable_41 (by decide) ?_
          obtain ⟨r214, σ213, eσ213, hf⟩ := bnd2 hf
          refine g_cVi (As := [.int (0 : Int32), .int (2 : Int32)]) X.1 hH hS (c_X8_takes l G B (0 : Int32) (2 : Int32) σ210 σ213 r214 eσ213) kw_RX8_126 kX8 km_0 (by decide) rfl hl (Nat.le_of_ble_eq_true rfl) rfl dX8_variable_42 (fun H locs hH hS => ?_)
          obtain ⟨rfl, rfl⟩ := rt2 hf
          exact g_iret X hH hS dX8_variable_45
theorem c_X8_variable (l : Launch) (G : Gd) (B : Nat) (x1 : Int32) (σ σr : Sto) (r : Int32) (hf : f_X8_variable x1 σ = some (r, σr)) : Ct l G layM B yX8_variable cX8_variable 2 (some .int) 4 [.ref (B + 0), .int x1] (some (.int r)) σ σr :=
  Ct.ofW (by decide) (Nat.le_of_ble_eq_true rfl) (fun _ _ _ _ _ _ _ X hH hS ls hl => w_X8_variable X x1 σ hf _ _ hH hS ls (show lv_has ls 2 [(0, .ref (B + 0)), (1, .int x1)] from hl))
-- SlackProofsModel.readsClause()V  (D 5)
def b_X8_readsClause_175 (s0 : Int32) (σ : Sto) : Option (Sto) :=
  bd2 (f_X8_takes s0 (1 : Int32) σ) fun r613 σ612 => some σ612
set_option maxHeartbeats 4000000 in
set_option maxRecDepth 100000 in
theorem w_X8_readsClause_175 {p : Program} {l : Launch} {e : Env} {s : State} {m : MethodId} {args : Array Value} {below : List Frame} {meth : Method} {c : Code} {G : Gd} {B : Nat} (X : Cm p s m args meth c cX8_readsClause 5 RX8 G none) {σr : Sto} (s0 : Int32) (σ : Sto) (hf : b_X8_readsClause_175 s0 σ = some σr) (H : Heap) (locs : List Loc) (hH : HX G layM B σ H) (hS : va_S (inW layM B) s.heap H locs) (ls : Array Slot) (hl : lv_has ls 5 []) : WM p l e 5 s m args below meth c H locs G layM B none σr (F0 m 175 ls [.int s0, .ref (B + 0)]) := by
  unfold b_X8_readsClause_175 at hf
  have hx := X.1.1
  have hb := X.1.2.1
  refine lv_iconst (v := 1) hx hb dX8_readsClause_175 (by decide) ?_
  obtain ⟨r613, σ612, eσ612, hf⟩ := bnd2 hf
  refine g_cVi (As := [.int s0, .int (1 : Int32)]) X.1 hH hS (c_X8_takes l G B s0 (1 : Int32) σ σ612 r613 eσ612) kw_RX8_126 kX8 km_0 (by decide) rfl hl (Nat.le_of_ble_eq_true rfl) rfl dX8_readsClause_176 (fun H locs hH hS => ?_)
  refine lv_pop hx hb dX8_readsClause_179 rfl ?_
  obtain rfl := rt1 hf
  exact g_vret X hH hS dX8_readsClause_180
def b_X8_readsClause_142 (s0 : Int32) (σ : Sto) : Option (Sto) :=
  bd2 (f_X8_takes s0 (1 : Int32) σ) fun r507 σ506 => bd2 (f_X8_figure (0 : Int32) (99 : Int32) σ506) fun r509 σ508 => nmS (pL σ508 11 1 r509.toInt64) fun σ510 => if (σ510.1 0 11) = (4 : Int32) then (b_X8_readsClause_175 (1 : Int32) σ510) else (b_X8_readsClause_175 (0 : Int32) σ510)
set_option maxHeartbeats 4000000 in
set_option maxRecDepth 100000 in
theorem w_X8_readsClause_142 {p : Program} {l : Launch} {e : Env} {s : State} {m : MethodId} {args : Array Value} {below : List Frame} {meth : Method} {c : Code} {G : Gd} {B : Nat} (X : Cm p s m args meth c cX8_readsClause 5 RX8 G none) {σr : Sto} (s0 : Int32) (σ : Sto) (hf : b_X8_readsClause_142 s0 σ = some σr) (H : Heap) (locs : List Loc) (hH : HX G layM B σ H) (hS : va_S (inW layM B) s.heap H locs) (ls : Array Slot) (hl : lv_has ls 5 [(0, .ref (B + 0))]) : WM p l e 5 s m args below meth c H locs G layM B none σr (F0 m 142 ls [.int s0, .ref (B + 0)]) := by
  unfold b_X8_readsClause_142 at hf
  have hx := X.1.1
  have hb := X.1.2.1
  refine lv_iconst (v := 1) hx hb dX8_readsClause_142 (by decide) ?_
  obtain ⟨r507, σ506, eσ506, hf⟩ := bnd2 hf
  refine g_cVi (As := [.int s0, .int (1 : Int32)]) X.1 hH hS (c_X8_takes l G B s0 (1 : Int32) σ σ506 r507 eσ506) kw_RX8_126 kX8 km_0 (by decide) rfl hl (Nat.le_of_ble_eq_true rfl) rfl dX8_readsClause_143 (fun H locs hH hS => ?_)
  refine lv_pop hx hb dX8_readsClause_146 rfl ?_
  refine lv_aload_n hx hb dX8_readsClause_147 rfl (lv_at hl 0 rfl) ?_
  refine g_get (v := .ref (B + 11)) kX8 (by decide) fl_RX8_42 X.1 hH km_0 rfl dX8_readsClause_148 ?_
  refine lv_iconst (v := 1) hx hb dX8_readsClause_151 (by decide) ?_
  refine lv_aload_n hx hb dX8_readsClause_152 rfl (lv_at hl 0 rfl) ?_
  refine lv_iconst (v := 0) hx hb dX8_readsClause_153 (by decide) ?_
  refine lv_bipush (v := 99) hx hb dX8_readsClause_154 (by decide) ?_
  obtain ⟨r509, σ508, eσ508, hf⟩ := bnd2 hf
  refine g_cVi (As := [.int (0 : Int32), .int (99 : Int32)]) X.1 hH hS (c_X8_figure l G B (0 : Int32) (99 : Int32) σ506 σ508 r509 eσ508) kw_RX8_130 kX8 km_0 (by decide) rfl hl (Nat.le_of_ble_eq_true rfl) rfl dX8_readsClause_156 (fun H locs hH hS => ?_)
  refine lv_i2l hx hb dX8_readsClause_159 rfl ?_
  refine g_last (j := 1) X.1 hH hS km_11 (by decide) rfl dX8_readsClause_160 (fun H locs hH hS => ?_)
  obtain ⟨σ510, eσ510, hH⟩ := nmX hH
  replace hf := nmU hf eσ510
  refine lv_aload_n hx hb dX8_readsClause_161 rfl (lv_at hl 0 rfl) ?_
  refine lv_aload_n hx hb dX8_readsClause_162 rfl (lv_at hl 0 rfl) ?_
  refine g_get (v := .int (σ510.1 0 11)) kX8 (by decide) fl_RX8_110 X.1 hH km_0 rfl dX8_readsClause_163 ?_
  refine lv_iconst (v := 4) hx hb dX8_readsClause_166 (by decide) ?_
  refine lv_icmp_ne (tgt := 174) hx hb dX8_readsClause_167 (by decide) (fun q511 => ?_) (fun q511 => ?_)
  · replace hf := brF hf q511
    refine lv_iconst (v := 0) hx hb dX8_readsClause_174 (by decide) ?_
    exact w_X8_readsClause_175 X (0 : Int32) σ510 hf _ _ hH hS _ (lv_sub hl [] rfl)
  · replace hf := brT hf q511
    refine lv_iconst (v := 1) hx hb dX8_readsClause_170 (by decide) ?_
    refine lv_goto (tgt := 175) hx hb dX8_readsClause_171 (by decide) ?_
    exact w_X8_readsClause_175 X (1 : Int32) σ510 hf _ _ hH hS _ (lv_sub hl [] rfl)
def b_X8_readsClause_141 (σ : Sto) : Option (Sto) :=
  b_X8_readsClause_142 (0 : Int32) σ
set_option maxHeartbeats 4000000 in
set_option maxRecDepth 100000 in
theorem w_X8_readsClause_141 {p : Program} {l : Launch} {e : Env} {s : State} {m : MethodId} {args : Array Value} {below : List Frame} {meth : Method} {c : Code} {G : Gd} {B : Nat} (X : Cm p s m args meth c cX8_readsClause 5 RX8 G none) {σr : Sto} (σ : Sto) (hf : b_X8_readsClause_141 σ = some σr) (H : Heap) (locs : List Loc) (hH : HX G layM B σ H) (hS : va_S (inW layM B) s.heap H locs) (ls : Array Slot) (hl : lv_has ls 5 [(0, .ref (B + 0))]) : WM p l e 5 s m args below meth c H locs G layM B none σr (F0 m 141 ls [.ref (B + 0)]) := by
  unfold b_X8_readsClause_141 at hf
  have hx := X.1.1
  have hb := X.1.2.1
  refine lv_iconst (v := 0) hx hb dX8_readsClause_141 (by decide) ?_
  exact w_X8_readsClause_142 X (0 : Int32) σ hf _ _ hH hS _ (lv_sub hl [0] rfl)
def b_X8_readsClause_116 (c23 : Int32 → Sto → Option (Sto)) (v1 : Int32) (σ : Sto) : Option (Sto) :=
  c23 v1 σ
set_option maxHeartbeats 4000000 in
set_option maxRecDepth 100000 in
theorem w_X8_readsClause_116 {p : Program} {l : Launch} {e : Env} {s : State} {m : MethodId} {args : Array Value} {below : List Frame} {meth : Method} {c : Code} {G : Gd} {B : Nat} (X : Cm p s m args meth c cX8_readsClause 5 RX8 G none) (c23 : Int32 → Sto → Option (Sto)) {σr : Sto} (ih23 : ∀ (v1 : Int32) (σ : Sto) (H : Heap) (locs : List Loc) (ls : Array Slot), c23 v1 σ = some σr → HX G layM B σ H → va_S (inW layM B) s.heap H locs → lv_has ls 5 [(0, .ref (B + 0)), (1, .int v1)] → WM p l e 5 s m args below meth c H locs G layM B none σr (F0 m 23 ls [])) (v1 : Int32) (σ : Sto) (hf : b_X8_readsClause_116 c23 v1 σ = some σr) (H : Heap) (locs : List Loc) (hH : HX G layM B σ H) (hS : va_S (inW layM B) s.heap H locs) (ls : Array Slot) (hl : lv_has ls 5 [(0, .ref (B + 0)), (1, .int v1)]) : WM p l e 5 s m args below meth c H locs G layM B none σr (F0 m 116 ls []) := by
  unfold b_X8_readsClause_116 at hf
  have hx := X.1.1
  have hb := X.1.2.1
  refine lv_goto (tgt := 23) hx hb dX8_readsClause_116 (by decide) ?_
  exact ih23 v1 σ _ _ _ hf hH hS (lv_sub hl [0, 1] rfl)
def b_X8_readsClause_115 (c23 : Int32 → Sto → Option (Sto)) (v1 : Int32) (s0 : Int64) (s1 : Int32) (σ : Sto) : Option (Sto) :=
  if (s1 < 0 ∨ 10 ≤ s1.toNatClampNeg) then none else nmS (pL σ 11 s1.toNatClampNeg s0) fun σ1031 => b_X8_readsClause_116 c23 v1 σ1031
set_option maxHeartbeats 4000000 in
set_option maxRecDepth 100000 in
theorem w_X8_readsClause_115 {p : Program} {l : Launch} {e : Env} {s : State} {m : MethodId} {args : Array Value} {below : List Frame} {meth : Method} {c : Code} {G : Gd} {B : Nat} (X : Cm p s m args meth c cX8_readsClause 5 RX8 G none) (c23 : Int32 → Sto → Option (Sto)) {σr : Sto} (ih23 : ∀ (v1 : Int32) (σ : Sto) (H : Heap) (locs : List Loc) (ls : Array Slot), c23 v1 σ = some σr → HX G layM B σ H → va_S (inW layM B) s.heap H locs → lv_has ls 5 [(0, .ref (B + 0)), (1, .int v1)] → WM p l e 5 s m args below meth c H locs G layM B none σr (F0 m 23 ls [])) (v1 : Int32) (s0 : Int64) (s1 : Int32) (σ : Sto) (hf : b_X8_readsClause_115 c23 v1 s0 s1 σ = some σr) (H : Heap) (locs : List Loc) (hH : HX G layM B σ H) (hS : va_S (inW layM B) s.heap H locs) (ls : Array Slot) (hl : lv_has ls 5 [(0, .ref (B + 0)), (1, .int v1)]) : WM p l e 5 s m args below meth c H locs G layM B none σr (F0 m 115 ls [.long s0, .int s1, .ref (B + 11)]) := by
  unfold b_X8_readsClause_115 at hf
  have hx := X.1.1
  have hb := X.1.2.1
  obtain ⟨q1030, hf⟩ := chk hf
  refine g_last (j := s1.toNatClampNeg) X.1 hH hS km_11 q1030 rfl dX8_readsClause_115 (fun H locs hH hS => ?_)
  obtain ⟨σ1031, eσ1031, hH⟩ := nmX hH
  replace hf := nmU hf eσ1031
  exact w_X8_readsClause_116 X c23 ih23 v1 σ1031 hf _ _ hH hS _ (lv_sub hl [0, 1] rfl)
def b_X8_readsClause_76 (c23 : Int32 → Sto → Option (Sto)) (v1 : Int32) (v2 : Int32) (v3 : Int32) (v4 : Int32) (s0 : Int32) (σ : Sto) : Option (Sto) :=
  bd2 (f_X8_takes s0 (1 : Int32) σ) fun r824 σ823 => bd2 (f_X8_isWell σ823) fun r826 σ825 => if r826 = 0 then (b_X8_readsClause_116 c23 v1 σ825) else (nmS (v1 ||| ((1 : Int32) <<< (v3 &&& 31))) fun y928 => if v2 = 0 then (b_X8_readsClause_115 c23 y928 ((-v4).toInt64) ((2 : Int32) + v3) σ825) else (b_X8_readsClause_115 c23 y928 v4.toInt64 ((2 : Int32) + v3) σ825))
set_option maxHeartbeats 4000000 in
set_option maxRecDepth 100000 in
theorem w_X8_readsClause_76 {p : Program} {l : Launch} {e : Env} {s : State} {m : MethodId} {args : Array Value} {below : List Frame} {meth : Method} {c : Code} {G : Gd} {B : Nat} (X : Cm p s m args meth c cX8_readsClause 5 RX8 G none) (c23 : Int32 → Sto → Option (Sto)) {σr : Sto} (ih23 : ∀ (v1 : Int32) (σ : Sto) (H : Heap) (locs : List Loc) (ls : Array Slot), c23 v1 σ = some σr → HX G layM B σ H → va_S (inW layM B) s.heap H locs → lv_has ls 5 [(0, .ref (B + 0)), (1, .int v1)] → WM p l e 5 s m args below meth c H locs G layM B none σr (F0 m 23 ls [])) (v1 : Int32) (v2 : Int32) (v3 : Int32) (v4 : Int32) (s0 : Int32) (σ : Sto) (hf : b_X8_readsClause_76 c23 v1 v2 v3 v4 s0 σ = some σr) (H : Heap) (locs : List Loc) (hH : HX G layM B σ H) (hS : va_S (inW layM B) s.heap H locs) (ls : Array Slot) (hl : lv_has ls 5 [(0, .ref (B + 0)), (1, .int v1), (2, .int v2), (3, .int v3), (4, .int v4)]) : WM p l e 5 s m args below meth c H locs G layM B none σr (F0 m 76 ls [.int s0, .ref (B + 0)]) := by
  unfold b_X8_readsClause_76 at hf
  have hx := X.1.1
  have hb := X.1.2.1
  refine lv_iconst (v := 1) hx hb dX8_readsClause_76 (by decide) ?_
  obtain ⟨r824, σ823, eσ823, hf⟩ := bnd2 hf
  refine g_cVi (As := [.int s0, .int (1 : Int32)]) X.1 hH hS (c_X8_takes l G B s0 (1 : Int32) σ σ823 r824 eσ823) kw_RX8_126 kX8 km_0 (by decide) rfl hl (Nat.le_of_ble_eq_true rfl) rfl dX8_readsClause_77 (fun H locs hH hS => ?_)
  refine lv_pop hx hb dX8_readsClause_80 rfl ?_
  refine lv_aload_n hx hb dX8_readsClause_81 rfl (lv_at hl 0 rfl) ?_
  obtain ⟨r826, σ825, eσ825, hf⟩ := bnd2 hf
  refine g_cVi (As := []) X.1 hH hS (c_X8_isWell l G B σ823 σ825 r826 eσ825) kw_RX8_116 kX8 km_0 (by decide) rfl hl (Nat.le_of_ble_eq_true rfl) rfl dX8_readsClause_82 (fun H locs hH hS => ?_)
  refine lv_if_eq (tgt := 116) hx hb dX8_readsClause_85 (by decide) (fun q827 => ?_) (fun q827 => ?_)
  · replace hf := brT hf q827
    exact w_X8_readsClause_116 X c23 ih23 v1 σ825 hf _ _ hH hS _ (lv_sub hl [0, 1] rfl)
  · replace hf := brF hf q827
    refine lv_iload_n hx hb dX8_readsClause_88 rfl (lv_at hl 1 rfl) ?_
    refine lv_iconst (v := 1) hx hb dX8_readsClause_89 (by decide) ?_
    refine lv_iload_n hx hb dX8_readsClause_90 rfl (lv_at hl 3 rfl) ?_
    refine lv_ishl hx hb dX8_readsClause_91 ?_
    refine lv_ior hx hb dX8_readsClause_92 ?_
    refine lv_topi (fun y928 ey928 => ?_)
    replace hf := nmU hf ey928
    refine lv_istore_n (lv' := [(1, .int y928), (0, .ref (B + 0)), (2, .int v2), (3, .int v3), (4, .int v4)]) hx hb dX8_readsClause_93 rfl hl (by decide) rfl (fun ls hl => ?_)
    refine lv_aload_n hx hb dX8_readsClause_94 rfl (lv_at hl 1 rfl) ?_
    refine g_get (v := .ref (B + 11)) kX8 (by decide) fl_RX8_42 X.1 hH km_0 rfl dX8_readsClause_95 ?_
    refine lv_iconst (v := 2) hx hb dX8_readsClause_98 (by decide) ?_
    refine lv_iload_n hx hb dX8_readsClause_99 rfl (lv_at hl 3 rfl) ?_
    refine lv_iadd hx hb dX8_readsClause_100 ?_
    refine lv_iload_n hx hb dX8_readsClause_101 rfl (lv_at hl 2 rfl) ?_
    refine lv_if_eq (tgt := 111) hx hb dX8_readsClause_102 (by decide) (fun q929 => ?_) (fun q929 => ?_)
    · replace hf := brT hf q929
      refine lv_iload hx hb dX8_readsClause_111 (lv_at hl 4 rfl) ?_
      refine lv_ineg hx hb dX8_readsClause_113 ?_
      refine lv_i2l hx hb dX8_readsClause_114 rfl ?_
      exact w_X8_readsClause_115 X c23 ih23 y928 ((-v4).toInt64) ((2 : Int32) + v3) σ825 hf _ _ hH hS _ (lv_sub hl [1, 0] rfl)
    · replace hf := brF hf q929
      refine lv_iload hx hb dX8_readsClause_105 (lv_at hl 4 rfl) ?_
      refine lv_i2l hx hb dX8_readsClause_107 rfl ?_
      refine lv_goto (tgt := 115) hx hb dX8_readsClause_108 (by decide) ?_
      exact w_X8_readsClause_115 X c23 ih23 y928 v4.toInt64 ((2 : Int32) + v3) σ825 hf _ _ hH hS _ (lv_sub hl [1, 0] rfl)
def b_X8_readsClause_46 (c23 : Int32 → Sto → Option (Sto)) (v1 : Int32) (s0 : Int32) (σ : Sto) : Option (Sto) :=
  bd2 (f_X8_variable v1 σ) fun r719 σ718 => bd2 (f_X8_behind (1 : Int32) (99 : Int32) σ718) fun r721 σ720 => if (σ720.1 0 11) = (4 : Int32) then (b_X8_readsClause_76 c23 v1 s0 r719 r721 (1 : Int32) σ720) else (b_X8_readsClause_76 c23 v1 s0 r719 r721 (0 : Int32) σ720)
set_option maxHeartbeats 4000000 in
set_option maxRecDepth 100000 in
theorem w_X8_readsClause_46 {p : Program} {l : Launch} {e : Env} {s : State} {m : MethodId} {args : Array Value} {below : List Frame} {meth : Method} {c : Code} {G : Gd} {B : Nat} (X : Cm p s m args meth c cX8_readsClause 5 RX8 G none) (c23 : Int32 → Sto → Option (Sto)) {σr : Sto} (ih23 : ∀ (v1 : Int32) (σ : Sto) (H : Heap) (locs : List Loc) (ls : Array Slot), c23 v1 σ = some σr → HX G layM B σ H → va_S (inW layM B) s.heap H locs → lv_has ls 5 [(0, .ref (B + 0)), (1, .int v1)] → WM p l e 5 s m args below meth c H locs G layM B none σr (F0 m 23 ls [])) (v1 : Int32) (s0 : Int32) (σ : Sto) (hf : b_X8_readsClause_46 c23 v1 s0 σ = some σr) (H : Heap) (locs : List Loc) (hH : HX G layM B σ H) (hS : va_S (inW layM B) s.heap H locs) (ls : Array Slot) (hl : lv_has ls 5 [(0, .ref (B + 0)), (1, .int v1)]) : WM p l e 5 s m args below meth c H locs G layM B none σr (F0 m 46 ls [.int s0]) := by
  unfold b_X8_readsClause_46 at hf
  have hx := X.1.1
  have hb := X.1.2.1
  refine lv_istore_n (lv' := [(2, .int s0), (0, .ref (B + 0)), (1, .int v1)]) hx hb dX8_readsClause_46 rfl hl (by decide) rfl (fun ls hl => ?_)
  refine lv_aload_n hx hb dX8_readsClause_47 rfl (lv_at hl 1 rfl) ?_
  refine lv_iload_n hx hb dX8_readsClause_48 rfl (lv_at hl 2 rfl) ?_
  obtain ⟨r719, σ718, eσ718, hf⟩ := bnd2 hf
  refine g_cVi (As := [.int v1]) X.1 hH hS (c_X8_variable l G B v1 σ σ718 r719 eσ718) kw_RX8_140 kX8 km_0 (by decide) rfl hl (Nat.le_of_ble_eq_true rfl) rfl dX8_readsClause_49 (fun H locs hH hS => ?_)
  refine lv_istore_n (lv' := [(3, .int r719), (2, .int s0), (0, .ref (B + 0)), (1, .int v1)]) hx hb dX8_readsClause_52 rfl hl (by decide) rfl (fun ls hl => ?_)
  refine lv_aload_n hx hb dX8_readsClause_53 rfl (lv_at hl 2 rfl) ?_
  refine lv_iconst (v := 1) hx hb dX8_readsClause_54 (by decide) ?_
  refine lv_bipush (v := 99) hx hb dX8_readsClause_55 (by decide) ?_
  obtain ⟨r721, σ720, eσ720, hf⟩ := bnd2 hf
  refine g_cVi (As := [.int (1 : Int32), .int (99 : Int32)]) X.1 hH hS (c_X8_behind l G B (1 : Int32) (99 : Int32) σ718 σ720 r721 eσ720) kw_RX8_143 kX8 km_0 (by decide) rfl hl (Nat.le_of_ble_eq_true rfl) rfl dX8_readsClause_57 (fun H locs hH hS => ?_)
  refine lv_istore (lv' := [(4, .int r721), (3, .int r719), (2, .int s0), (0, .ref (B + 0)), (1, .int v1)]) hx hb dX8_readsClause_60 hl (by decide) rfl (fun ls hl => ?_)
  refine lv_aload_n hx hb dX8_readsClause_62 rfl (lv_at hl 3 rfl) ?_
  refine lv_aload_n hx hb dX8_readsClause_63 rfl (lv_at hl 3 rfl) ?_
  refine g_get (v := .int (σ720.1 0 11)) kX8 (by decide) fl_RX8_110 X.1 hH km_0 rfl dX8_readsClause_64 ?_
  refine lv_iconst (v := 4) hx hb dX8_readsClause_67 (by decide) ?_
  refine lv_icmp_ne (tgt := 75) hx hb dX8_readsClause_68 (by decide) (fun q722 => ?_) (fun q722 => ?_)
  · replace hf := brF hf q722
    refine lv_iconst (v := 0) hx hb dX8_readsClause_75 (by decide) ?_
    exact w_X8_readsClause_76 X c23 ih23 v1 s0 r719 r721 (0 : Int32) σ720 hf _ _ hH hS _ (lv_sub hl [3, 4, 2, 1, 0] rfl)
  · replace hf := brT hf q722
    refine lv_iconst (v := 1) hx hb dX8_readsClause_71 (by decide) ?_
    refine lv_goto (tgt := 76) hx hb dX8_readsClause_72 (by decide) ?_
    exact w_X8_readsClause_76 X c23 ih23 v1 s0 r719 r721 (1 : Int32) σ720 hf _ _ hH hS _ (lv_sub hl [3, 4, 2, 1, 0] rfl)
def b_X8_readsClause_23 (c23 : Int32 → Sto → Option (Sto)) (v1 : Int32) (σ : Sto) : Option (Sto) :=
  bd2 (f_X8_isTerm σ) fun r303 σ302 => if r303 = 0 then (if (σ302.1 0 11) = (1 : Int32) then (if (σ302.1 0 12) = (103 : Int32) then (b_X8_readsClause_142 (1 : Int32) σ302) else (b_X8_readsClause_141 σ302)) else (b_X8_readsClause_141 σ302)) else (bd2 (f_X8_takes (1 : Int32) (1 : Int32) σ302) fun r616 σ615 => if r616 = (112 : Int32) then (b_X8_readsClause_46 c23 v1 (1 : Int32) σ615) else (b_X8_readsClause_46 c23 v1 (0 : Int32) σ615))
set_option maxHeartbeats 4000000 in
set_option maxRecDepth 100000 in
theorem w_X8_readsClause_23 {p : Program} {l : Launch} {e : Env} {s : State} {m : MethodId} {args : Array Value} {below : List Frame} {meth : Method} {c : Code} {G : Gd} {B : Nat} (X : Cm p s m args meth c cX8_readsClause 5 RX8 G none) (c23 : Int32 → Sto → Option (Sto)) {σr : Sto} (ih23 : ∀ (v1 : Int32) (σ : Sto) (H : Heap) (locs : List Loc) (ls : Array Slot), c23 v1 σ = some σr → HX G layM B σ H → va_S (inW layM B) s.heap H locs → lv_has ls 5 [(0, .ref (B + 0)), (1, .int v1)] → WM p l e 5 s m args below meth c H locs G layM B none σr (F0 m 23 ls [])) (v1 : Int32) (σ : Sto) (hf : b_X8_readsClause_23 c23 v1 σ = some σr) (H : Heap) (locs : List Loc) (hH : HX G layM B σ H) (hS : va_S (inW layM B) s.heap H locs) (ls : Array Slot) (hl : lv_has ls 5 [(0, .ref (B + 0)), (1, .int v1)]) : WM p l e 5 s m args below meth c H locs G layM B none σr (F0 m 23 ls []) := by
  unfold b_X8_readsClause_23 at hf
  have hx := X.1.1
  have hb := X.1.2.1
  refine lv_aload_n hx hb dX8_readsClause_23 rfl (lv_at hl 0 rfl) ?_
  obtain ⟨r303, σ302, eσ302, hf⟩ := bnd2 hf
  refine g_cVi (As := []) X.1 hH hS (c_X8_isTerm l G B σ σ302 r303 eσ302) kw_RX8_137 kX8 km_0 (by decide) rfl hl (Nat.le_of_ble_eq_true rfl) rfl dX8_readsClause_24 (fun H locs hH hS => ?_)
  refine lv_if_eq (tgt := 119) hx hb dX8_readsClause_27 (by decide) (fun q304 => ?_) (fun q304 => ?_)
  · replace hf := brT hf q304
    refine lv_aload_n hx hb dX8_readsClause_119 rfl (lv_at hl 0 rfl) ?_
    refine lv_aload_n hx hb dX8_readsClause_120 rfl (lv_at hl 0 rfl) ?_
    refine g_get (v := .int (σ302.1 0 11)) kX8 (by decide) fl_RX8_110 X.1 hH km_0 rfl dX8_readsClause_121 ?_
    refine lv_iconst (v := 1) hx hb dX8_readsClause_124 (by decide) ?_
    refine lv_icmp_ne (tgt := 141) hx hb dX8_readsClause_125 (by decide) (fun q305 => ?_) (fun q305 => ?_)
    · replace hf := brF hf q305
      exact w_X8_readsClause_141 X σ302 hf _ _ hH hS _ (lv_sub hl [0] rfl)
    · replace hf := brT hf q305
      refine lv_aload_n hx hb dX8_readsClause_128 rfl (lv_at hl 0 rfl) ?_
      refine g_get (v := .int (σ302.1 0 12)) kX8 (by decide) fl_RX8_107 X.1 hH km_0 rfl dX8_readsClause_129 ?_
      refine lv_bipush (v := 103) hx hb dX8_readsClause_132 (by decide) ?_
      refine lv_icmp_ne (tgt := 141) hx hb dX8_readsClause_134 (by decide) (fun q614 => ?_) (fun q614 => ?_)
      · replace hf := brF hf q614
        exact w_X8_readsClause_141 X σ302 hf _ _ hH hS _ (lv_sub hl [0] rfl)
      · replace hf := brT hf q614
        refine lv_iconst (v := 1) hx hb dX8_readsClause_137 (by decide) ?_
        refine lv_goto (tgt := 142) hx hb dX8_readsClause_138 (by decide) ?_
        exact w_X8_readsClause_142 X (1 : Int32) σ302 hf _ _ hH hS _ (lv_sub hl [0] rfl)
  · replace hf := brF hf q304
    refine lv_aload_n hx hb dX8_readsClause_30 rfl (lv_at hl 0 rfl) ?_
    refine lv_iconst (v := 1) hx hb dX8_readsClause_31 (by decide) ?_
    refine lv_iconst (v := 1) hx hb dX8_readsClause_32 (by decide) ?_
    obtain ⟨r616, σ615, eσ615, hf⟩ := bnd2 hf
    refine g_cVi (As := [.int (1 : Int32), .int (1 : Int32)]) X.1 hH hS (c_X8_takes l G B (1 : Int32) (1 : Int32) σ302 σ615 r616 eσ615) kw_RX8_126 kX8 km_0 (by decide) rfl hl (Nat.le_of_ble_eq_true rfl) rfl dX8_readsClause_33 (fun H locs hH hS => ?_)
    refine lv_bipush (v := 112) hx hb dX8_readsClause_36 (by decide) ?_
    refine lv_icmp_ne (tgt := 45) hx hb dX8_readsClause_38 (by decide) (fun q617 => ?_) (fun q617 => ?_)
    · replace hf := brF hf q617
      refine lv_iconst (v := 0) hx hb dX8_readsClause_45 (by decide) ?_
      exact w_X8_readsClause_46 X c23 ih23 v1 (0 : Int32) σ615 hf _ _ hH hS _ (lv_sub hl [0, 1] rfl)
    · replace hf := brT hf q617
      refine lv_iconst (v := 1) hx hb dX8_readsClause_41 (by decide) ?_
      refine lv_goto (tgt := 46) hx hb dX8_readsClause_42 (by decide) ?_
      exact w_X8_readsClause_46 X c23 ih23 v1 (1 : Int32) σ615 hf _ _ hH hS _ (lv_sub hl [0, 1] rfl)
def l_X8_readsClause_23 : Nat → Int32 → Sto → Option (Sto)
  | 0, _, _ => none
  | n + 1, v1, σ => b_X8_readsClause_23 (l_X8_readsClause_23 n) v1 σ
set_option maxHeartbeats 4000000 in
set_option maxRecDepth 100000 in
theorem wl_X8_readsClause_23 {p : Program} {l : Launch} {e : Env} {s : State} {m : MethodId} {args : Array Value} {below : List Frame} {meth : Method} {c : Code} {G : Gd} {B : Nat} (X : Cm p s m args meth c cX8_readsClause 5 RX8 G none) {σr : Sto} (n : Nat) : ∀ (v1 : Int32) (σ : Sto) (H : Heap) (locs : List Loc) (ls : Array Slot), l_X8_readsClause_23 n v1 σ = some σr → HX G layM B σ H → va_S (inW layM B) s.heap H locs → lv_has ls 5 [(0, .ref (B + 0)), (1, .int v1)] → WM p l e 5 s m args below meth c H locs G layM B none σr (F0 m 23 ls []) := by
  induction n with
  | zero =>
    intro _ σ H locs ls hf
    cases hf
  | succ n ih =>
    intro v1 σ H locs ls hf hH hS hl
    exact w_X8_readsClause_23 X (l_X8_readsClause_23 n) ih v1 σ hf H locs hH hS ls hl
def b_X8_readsClause_4 (c4 : Int32 → Int32 → Sto → Option (Sto)) (v1 : Int32) (v2 : Int32) (σ : Sto) : Option (Sto) :=
  if (10 : Int32) ≤ v2 then (l_X8_readsClause_23 400 v1 σ) else (if (v2 < 0 ∨ 10 ≤ v2.toNatClampNeg) then none else nmS (pL σ 11 v2.toNatClampNeg (0 : Int64)) fun σ1033 => c4 v1 (v2 + (1 : Int32)) σ1033)
set_option maxHeartbeats 4000000 in
set_option maxRecDepth 100000 in
theorem w_X8_readsClause_4 {p : Program} {l : Launch} {e : Env} {s : State} {m : MethodId} {args : Array Value} {below : List Frame} {meth : Method} {c : Code} {G : Gd} {B : Nat} (X : Cm p s m args meth c cX8_readsClause 5 RX8 G none) (c4 : Int32 → Int32 → Sto → Option (Sto)) {σr : Sto} (ih4 : ∀ (v1 : Int32) (v2 : Int32) (σ : Sto) (H : Heap) (locs : List Loc) (ls : Array Slot), c4 v1 v2 σ = some σr → HX G layM B σ H → va_S (inW layM B) s.heap H locs → lv_has ls 5 [(0, .ref (B + 0)), (1, .int v1), (2, .int v2)] → WM p l e 5 s m args below meth c H locs G layM B none σr (F0 m 4 ls [])) (v1 : Int32) (v2 : Int32) (σ : Sto) (hf : b_X8_readsClause_4 c4 v1 v2 σ = some σr) (H : Heap) (locs : List Loc) (hH : HX G layM B σ H) (hS : va_S (inW layM B) s.heap H locs) (ls : Array Slot) (hl : lv_has ls 5 [(0, .ref (B + 0)), (1, .int v1), (2, .int v2)]) : WM p l e 5 s m args below meth c H locs G layM B none σr (F0 m 4 ls []) := by
  unfold b_X8_readsClause_4 at hf
  have hx := X.1.1
  have hb := X.1.2.1
  refine lv_iload_n hx hb dX8_readsClause_4 rfl (lv_at hl 2 rfl) ?_
  refine lv_bipush (v := 10) hx hb dX8_readsClause_5 (by decide) ?_
  refine lv_icmp_ge (tgt := 23) hx hb dX8_readsClause_7 (by decide) (fun q201 => ?_) (fun q201 => ?_)
  · replace hf := brT hf q201
    exact wl_X8_readsClause_23 X 400 v1 σ _ _ _ hf hH hS (lv_sub hl [0, 1] rfl)
  · replace hf := brF hf q201
    refine lv_aload_n hx hb dX8_readsClause_10 rfl (lv_at hl 0 rfl) ?_
    refine g_get (v := .ref (B + 11)) kX8 (by decide) fl_RX8_42 X.1 hH km_0 rfl dX8_readsClause_11 ?_
    refine lv_iload_n hx hb dX8_readsClause_14 rfl (lv_at hl 2 rfl) ?_
    refine lv_lconst (v := 0) hx hb dX8_readsClause_15 (by decide) ?_
    obtain ⟨q1032, hf⟩ := chk hf
    refine g_last (j := v2.toNatClampNeg) X.1 hH hS km_11 q1032 rfl dX8_readsClause_16 (fun H locs hH hS => ?_)
    obtain ⟨σ1033, eσ1033, hH⟩ := nmX hH
    replace hf := nmU hf eσ1033
    refine lv_iinc (v := (v2 + (1 : Int32))) (lv' := [(2, .int (v2 + (1 : Int32))), (0, .ref (B + 0)), (1, .int v1)]) hx hb dX8_readsClause_17 hl (k := 2) rfl rfl (by decide) rfl (fun ls hl => ?_)
    refine lv_goto (tgt := 4) hx hb dX8_readsClause_20 (by decide) ?_
    exact ih4 v1 (v2 + (1 : Int32)) σ1033 _ _ _ hf hH hS (lv_sub hl [1, 2, 0] rfl)
def l_X8_readsClause_4 : Nat → Int32 → Int32 → Sto → Option (Sto)
  | 0, _, _, _ => none
  | n + 1, v1, v2, σ => b_X8_readsClause_4 (l_X8_readsClause_4 n) v1 v2 σ
set_option maxHeartbeats 4000000 in
set_option maxRecDepth 100000 in
theorem wl_X8_readsClause_4 {p : Program} {l : Launch} {e : Env} {s : State} {m : MethodId} {args : Array Value} {below : List Frame} {meth : Method} {c : Code} {G : Gd} {B : Nat} (X : Cm p s m args meth c cX8_readsClause 5 RX8 G none) {σr : Sto} (n : Nat) : ∀ (v1 : Int32) (v2 : Int32) (σ : Sto) (H : Heap) (locs : List Loc) (ls : Array Slot), l_X8_readsClause_4 n v1 v2 σ = some σr → HX G layM B σ H → va_S (inW layM B) s.heap H locs → lv_has ls 5 [(0, .ref (B + 0)), (1, .int v1), (2, .int v2)] → WM p l e 5 s m args below meth c H locs G layM B none σr (F0 m 4 ls []) := by
  induction n with
  | zero =>
    intro _ _ σ H locs ls hf
    cases hf
  | succ n ih =>
    intro v1 v2 σ H locs ls hf hH hS hl
    exact w_X8_readsClause_4 X (l_X8_readsClause_4 n) ih v1 v2 σ hf H locs hH hS ls hl
def f_X8_readsClause (σ : Sto) : Option (Sto) :=
  l_X8_readsClause_4 400 (0 : Int32) (0 : Int32) σ
set_option maxHeartbeats 4000000 in
set_option maxRecDepth 100000 in
theorem w_X8_readsClause {p : Program} {l : Launch} {e : Env} {s : State} {m : MethodId} {args : Array Value} {below : List Frame} {meth : Method} {c : Code} {G : Gd} {B : Nat} (X : Cm p s m args meth c cX8_readsClause 5 RX8 G none) {σr : Sto} (σ : Sto) (hf : f_X8_readsClause σ = some σr) (H : Heap) (locs : List Loc) (hH : HX G layM B σ H) (hS : va_S (inW layM B) s.heap H locs) (ls : Array Slot) (hl : lv_has ls 5 [(0, .ref (B + 0))]) : WM p l e 5 s m args below meth c H locs G layM B none σr (F0 m 0 ls []) := by
  unfold f_X8_readsClause at hf
  have hx := X.1.1
  have hb := X.1.2.1
  refine lv_iconst (v := 0) hx hb dX8_readsClause_0 (by decide) ?_
  refine lv_istore_n (lv' := [(1, .int (0 : Int32)), (0, .ref (B + 0))]) hx hb dX8_readsClause_1 rfl hl (by decide) rfl (fun ls hl => ?_)
  refine lv_iconst (v := 0) hx hb dX8_readsClause_2 (by decide) ?_
  refine lv_istore_n (lv' := [(2, .int (0 : Int32)), (1, .int (0 : Int32)), (0, .ref (B + 0))]) hx hb dX8_readsClause_3 rfl hl (by decide) rfl (fun ls hl => ?_)
  exact wl_X8_readsClause_4 X 400 (0 : Int32) (0 : Int32) σ _ _ _ hf hH hS (lv_sub hl [2, 1, 0] rfl)
theorem c_X8_readsClause (l : Launch) (G : Gd) (B : Nat) (σ σr : Sto) (hf : f_X8_readsClause σ = some σr) : Ct l G layM B yX8_readsClause cX8_readsClause 5 none 5 [.ref (B + 0)] none σ σr :=
  Ct.ofW (by decide) (Nat.le_of_ble_eq_true rfl) (fun _ _ _ _ _ _ _ X hH hS ls hl => w_X8_readsClause X σ hf _ _ hH hS ls (show lv_has ls 5 [(0, .ref (B + 0))] from hl))
-- SlackProofsModel.must(Z)V  (D 3)
def b_X8_must_18 (σ : Sto) : Option (Sto) :=
  some σ
set_option maxHeartbeats 4000000 in
set_option maxRecDepth 100000 in
theorem w_X8_must_18 {p : Program} {l : Launch} {e : Env} {s : State} {m : MethodId} {args : Array Value} {below : List Frame} {meth : Method} {c : Code} {G : Gd} {B : Nat} (X : Cm p s m args meth c cX8_must 2 RX8 G none) {σr : Sto} (σ : Sto) (hf : b_X8_must_18 σ = some σr) (H : Heap) (locs : List Loc) (hH : HX G layM B σ H) (hS : va_S (inW layM B) s.heap H locs) (ls : Array Slot) (hl : lv_has ls 2 []) : WM p l e 3 s m args below meth c H locs G layM B none σr (F0 m 18 ls []) := by
  unfold b_X8_must_18 at hf
  have hx := X.1.1
  have hb := X.1.2.1
  obtain rfl := rt1 hf
  exact g_vret X hH hS dX8_must_18
def f_X8_must (x1 : Int32) (σ : Sto) : Option (Sto) :=
  bd2 (f_X8_isWell σ) fun r102 σ101 => if r102 = 0 then (b_X8_must_18 σ101) else (if x1 = 0 then (bd2 (f_X8_takes (0 : Int32) (1 : Int32) σ101) fun r206 σ205 => b_X8_must_18 σ205) else (b_X8_must_18 σ101))
set_option maxHeartbeats 4000000 in
set_option maxRecDepth 100000 in
theorem w_X8_must {p : Program} {l : Launch} {e : Env} {s : State} {m : MethodId} {args : Array Value} {below : List Frame} {meth : Method} {c : Code} {G : Gd} {B : Nat} (X : Cm p s m args meth c cX8_must 2 RX8 G none) {σr : Sto} (x1 : Int32) (σ : Sto) (hf : f_X8_must x1 σ = some σr) (H : Heap) (locs : List Loc) (hH : HX G layM B σ H) (hS : va_S (inW layM B) s.heap H locs) (ls : Array Slot) (hl : lv_has ls 2 [(0, .ref (B + 0)), (1, .int x1)]) : WM p l e 3 s m args below meth c H locs G layM B none σr (F0 m 0 ls []) := by
  unfold f_X8_must at hf
  have hx := X.1.1
  have hb := X.1.2.1
  refine lv_aload_n hx hb dX8_must_0 rfl (lv_at hl 0 rfl) ?_
  obtain ⟨r102, σ101, eσ101, hf⟩ := bnd2 hf
  refine g_cVi (As := []) X.1 hH hS (c_X8_isWell l G B σ σ101 r102 eσ101) kw_RX8_116 kX8 km_0 (by decide) rfl hl (Nat.le_of_ble_eq_true rfl) rfl dX8_must_1 (fun H locs hH hS => ?_)
  refine lv_if_eq (tgt := 18) hx hb dX8_must_4 (by decide) (fun q103 => ?_) (fun q103 => ?_)
  · replace hf := brT hf q103
    exact w_X8_must_18 X σ101 hf _ _ hH hS _ (lv_sub hl [] rfl)
  · replace hf := brF hf q103
    refine lv_iload_n hx hb dX8_must_7 rfl (lv_at hl 1 rfl) ?_
    refine lv_if_ne (tgt := 18) hx hb dX8_must_8 (by decide) (fun q204 => ?_) (fun q204 => ?_)
    · replace hf := brF hf q204
      exact w_X8_must_18 X σ101 hf _ _ hH hS _ (lv_sub hl [] rfl)
    · replace hf := brT hf q204
      refine lv_aload_n hx hb dX8_must_11 rfl (lv_at hl 0 rfl) ?_
      refine lv_iconst (v := 0) hx hb dX8_must_12 (by decide) ?_
      refine lv_iconst (v := 1) hx hb dX8_must_13 (by decide) ?_
      obtain ⟨r206, σ205, eσ205, hf⟩ := bnd2 hf
      refine g_cVi (As := [.int (0 : Int32), .int (1 : Int32)]) X.1 hH hS (c_X8_takes l G B (0 : Int32) (1 : Int32) σ101 σ205 r206 eσ205) kw_RX8_126 kX8 km_0 (by decide) rfl hl (Nat.le_of_ble_eq_true rfl) rfl dX8_must_14 (fun H locs hH hS => ?_)
      refine lv_pop hx hb dX8_must_17 rfl ?_
      exact w_X8_must_18 X σ205 hf _ _ hH hS _ (lv_sub hl [] rfl)
theorem c_X8_must (l : Launch) (G : Gd) (B : Nat) (x1 : Int32) (σ σr : Sto) (hf : f_X8_must x1 σ = some σr) : Ct l G layM B yX8_must cX8_must 2 none 3 [.ref (B + 0), .int x1] none σ σr :=
  Ct.ofW (by decide) (Nat.le_of_ble_eq_true rfl) (fun _ _ _ _ _ _ _ X hH hS ls hl => w_X8_must X x1 σ hf _ _ hH hS ls (show lv_has ls 2 [(0, .ref (B + 0)), (1, .int x1)] from hl))
-- SlackProofsModel.sumOf([JI)J  (D 1)
def b_X8_sumOf_5 (c5 : Int32 → Int64 → Int32 → Sto → Option (Int64 × Sto)) (k0 n0 : Nat) (v1 : Int32) (v2 : Int64) (v4 : Int32) (σ : Sto) : Option (Int64 × Sto) :=
  if (8 : Int32) ≤ v4 then (some (v2, σ)) else (if (((v1 + (2 : Int32)) + v4) < 0 ∨ n0 ≤ ((v1 + (2 : Int32)) + v4).toNatClampNeg) then none else bd2 (f_X8_size (σ.2 k0 ((v1 + (2 : Int32)) + v4).toNatClampNeg) σ) fun r204 σ203 => if r204 ≤ ((9223372036854775807 : Int64) - v2) then (nmS (v2 + r204) fun y206 => c5 v1 y206 (v4 + (1 : Int32)) σ203) else (some ((-1 : Int64), σ203)))
set_option maxHeartbeats 4000000 in
set_option maxRecDepth 100000 in
theorem w_X8_sumOf_5 {p : Program} {l : Launch} {e : Env} {s : State} {m : MethodId} {args : Array Value} {below : List Frame} {meth : Method} {c : Code} {G : Gd} {B : Nat} (X : Cm p s m args meth c cX8_sumOf 7 RX8 G (some .long)) (c5 : Int32 → Int64 → Int32 → Sto → Option (Int64 × Sto)) (k0 n0 : Nat) (h0 : (k0 < layM.2.2 ∧ layM.1 k0 = .inr (.long, n0))) {r : Int64} {σr : Sto} (ih5 : ∀ (v1 : Int32) (v2 : Int64) (v4 : Int32) (σ : Sto) (H : Heap) (locs : List Loc) (ls : Array Slot), c5 v1 v2 v4 σ = some (r, σr) → HX G layM B σ H → va_S (inW layM B) s.heap H locs → lv_has ls 7 [(0, .ref (B + k0)), (1, .int v1), (2, .long v2), (4, .int v4)] → WM p l e 1 s m args below meth c H locs G layM B (some (.long r)) σr (F0 m 5 ls [])) (v1 : Int32) (v2 : Int64) (v4 : Int32) (σ : Sto) (hf : b_X8_sumOf_5 c5 k0 n0 v1 v2 v4 σ = some (r, σr)) (H : Heap) (locs : List Loc) (hH : HX G layM B σ H) (hS : va_S (inW layM B) s.heap H locs) (ls : Array Slot) (hl : lv_has ls 7 [(0, .ref (B + k0)), (1, .int v1), (2, .long v2), (4, .int v4)]) : WM p l e 1 s m args below meth c H locs G layM B (some (.long r)) σr (F0 m 5 ls []) := by
  unfold b_X8_sumOf_5 at hf
  have hx := X.1.1
  have hb := X.1.2.1
  refine lv_iload hx hb dX8_sumOf_5 (lv_at hl 3 rfl) ?_
  refine lv_bipush (v := 8) hx hb dX8_sumOf_7 (by decide) ?_
  refine lv_icmp_ge (tgt := 51) hx hb dX8_sumOf_9 (by decide) (fun q201 => ?_) (fun q201 => ?_)
  · replace hf := brT hf q201
    refine lv_lload_n hx hb dX8_sumOf_51 rfl (lv_at hl 2 rfl) ?_
    obtain ⟨rfl, rfl⟩ := rt2 hf
    exact g_lret X hH hS dX8_sumOf_52
  · replace hf := brF hf q201
    refine lv_aload_n hx hb dX8_sumOf_12 rfl (lv_at hl 0 rfl) ?_
    refine lv_iload_n hx hb dX8_sumOf_13 rfl (lv_at hl 1 rfl) ?_
    refine lv_iconst (v := 2) hx hb dX8_sumOf_14 (by decide) ?_
    refine lv_iadd hx hb dX8_sumOf_15 ?_
    refine lv_iload hx hb dX8_sumOf_16 (lv_at hl 3 rfl) ?_
    refine lv_iadd hx hb dX8_sumOf_18 ?_
    obtain ⟨q202, hf⟩ := chk hf
    refine g_lald (j := ((v1 + (2 : Int32)) + v4).toNatClampNeg) X.1 hH h0 q202 rfl dX8_sumOf_19 ?_
    obtain ⟨r204, σ203, eσ203, hf⟩ := bnd2 hf
    refine g_cSl (As := [.long (σ.2 k0 ((v1 + (2 : Int32)) + v4).toNatClampNeg)]) X.1 hH hS (c_X8_size l G B (σ.2 k0 ((v1 + (2 : Int32)) + v4).toNatClampNeg) σ σ203 r204 eσ203) kw_RX8_187 (by decide) rfl hl (Nat.le_of_ble_eq_true rfl) rfl dX8_sumOf_20 (fun H locs hH hS => ?_)
    refine lv_lstore (lv' := [(5, .long r204), (0, .ref (B + k0)), (1, .int v1), (2, .long v2), (4, .int v4)]) hx hb dX8_sumOf_23 hl (by decide) rfl (fun ls hl => ?_)
    refine lv_lload hx hb dX8_sumOf_25 (lv_at hl 0 rfl) ?_
    refine lv_ldc2 (v := 9223372036854775807) hx hb X.1.2.2.2.1 (X.1.2.2.2.2.1 _ kc_RX8_185) dX8_sumOf_27 ?_
    refine lv_lload_n hx hb dX8_sumOf_30 rfl (lv_at hl 3 rfl) ?_
    refine lv_lsub hx hb dX8_sumOf_31 ?_
    refine g_lle (tgt := 40) X.1 dX8_sumOf_32 dX8_sumOf_33 (by decide) (fun q205 => ?_) (fun q205 => ?_)
    · replace hf := brT hf q205
      refine lv_lload_n hx hb dX8_sumOf_40 rfl (lv_at hl 3 rfl) ?_
      refine lv_lload hx hb dX8_sumOf_41 (lv_at hl 0 rfl) ?_
      refine lv_ladd hx hb dX8_sumOf_43 ?_
      refine lv_topl (fun y206 ey206 => ?_)
      replace hf := nmU hf ey206
      refine lv_lstore_n (lv' := [(2, .long y206), (5, .long r204), (0, .ref (B + k0)), (1, .int v1), (4, .int v4)]) hx hb dX8_sumOf_44 rfl hl (by decide) rfl (fun ls hl => ?_)
      refine lv_iinc (v := (v4 + (1 : Int32))) (lv' := [(4, .int (v4 + (1 : Int32))), (2, .long y206), (5, .long r204), (0, .ref (B + k0)), (1, .int v1)]) hx hb dX8_sumOf_45 hl (k := 4) rfl rfl (by decide) rfl (fun ls hl => ?_)
      refine lv_goto (tgt := 5) hx hb dX8_sumOf_48 (by decide) ?_
      exact ih5 v1 y206 (v4 + (1 : Int32)) σ203 _ _ _ hf hH hS (lv_sub hl [3, 4, 1, 0] rfl)
    · replace hf := brF hf q205
      refine lv_ldc2 (v := -1) hx hb X.1.2.2.2.1 (X.1.2.2.2.2.1 _ kc_RX8_194) dX8_sumOf_36 ?_
      obtain ⟨rfl, rfl⟩ := rt2 hf
      exact g_lret X hH hS dX8_sumOf_39
def l_X8_sumOf_5 (k0 n0 : Nat) : Nat → Int32 → Int64 → Int32 → Sto → Option (Int64 × Sto)
  | 0, _, _, _, _ => none
  | n + 1, v1, v2, v4, σ => b_X8_sumOf_5 (l_X8_sumOf_5 k0 n0 n) k0 n0 v1 v2 v4 σ
set_option maxHeartbeats 4000000 in
set_option maxRecDepth 100000 in
theorem wl_X8_sumOf_5 {p : Program} {l : Launch} {e : Env} {s : State} {m : MethodId} {args : Array Value} {below : List Frame} {meth : Method} {c : Code} {G : Gd} {B : Nat} (X : Cm p s m args meth c cX8_sumOf 7 RX8 G (some .long)) (k0 n0 : Nat) (h0 : (k0 < layM.2.2 ∧ layM.1 k0 = .inr (.long, n0))) {r : Int64} {σr : Sto} (n : Nat) : ∀ (v1 : Int32) (v2 : Int64) (v4 : Int32) (σ : Sto) (H : Heap) (locs : List Loc) (ls : Array Slot), l_X8_sumOf_5 k0 n0 n v1 v2 v4 σ = some (r, σr) → HX G layM B σ H → va_S (inW layM B) s.heap H locs → lv_has ls 7 [(0, .ref (B + k0)), (1, .int v1), (2, .long v2), (4, .int v4)] → WM p l e 1 s m args below meth c H locs G layM B (some (.long r)) σr (F0 m 5 ls []) := by
  induction n with
  | zero =>
    intro _ _ _ σ H locs ls hf
    cases hf
  | succ n ih =>
    intro v1 v2 v4 σ H locs ls hf hH hS hl
    exact w_X8_sumOf_5 X (l_X8_sumOf_5 k0 n0 n) k0 n0 h0 ih v1 v2 v4 σ hf H locs hH hS ls hl
def f_X8_sumOf (k0 n0 : Nat) (x1 : Int32) (σ : Sto) : Option (Int64 × Sto) :=
  l_X8_sumOf_5 k0 n0 400 x1 (0 : Int64) (0 : Int32) σ
set_option maxHeartbeats 4000000 in
set_option maxRecDepth 100000 in
theorem w_X8_sumOf {p : Program} {l : Launch} {e : Env} {s : State} {m : MethodId} {args : Array Value} {below : List Frame} {meth : Method} {c : Code} {G : Gd} {B : Nat} (X : Cm p s m args meth c cX8_sumOf 7 RX8 G (some .long)) (k0 n0 : Nat) (h0 : (k0 < layM.2.2 ∧ layM.1 k0 = .inr (.long, n0))) {r : Int64} {σr : Sto} (x1 : Int32) (σ : Sto) (hf : f_X8_sumOf k0 n0 x1 σ = some (r, σr)) (H : Heap) (locs : List Loc) (hH : HX G layM B σ H) (hS : va_S (inW layM B) s.heap H locs) (ls : Array Slot) (hl : lv_has ls 7 [(0, .ref (B + k0)), (1, .int x1)]) : WM p l e 1 s m args below meth c H locs G layM B (some (.long r)) σr (F0 m 0 ls []) := by
  unfold f_X8_sumOf at hf
  have hx := X.1.1
  have hb := X.1.2.1
  refine lv_lconst (v := 0) hx hb dX8_sumOf_0 (by decide) ?_
  refine lv_lstore_n (lv' := [(2, .long (0 : Int64)), (0, .ref (B + k0)), (1, .int x1)]) hx hb dX8_sumOf_1 rfl hl (by decide) rfl (fun ls hl => ?_)
  refine lv_iconst (v := 0) hx hb dX8_sumOf_2 (by decide) ?_
  refine lv_istore (lv' := [(4, .int (0 : Int32)), (2, .long (0 : Int64)), (0, .ref (B + k0)), (1, .int x1)]) hx hb dX8_sumOf_3 hl (by decide) rfl (fun ls hl => ?_)
  exact wl_X8_sumOf_5 X k0 n0 h0 400 x1 (0 : Int64) (0 : Int32) σ _ _ _ hf hH hS (lv_sub hl [2, 3, 1, 0] rfl)
theorem c_X8_sumOf (l : Launch) (G : Gd) (B : Nat) (k0 n0 : Nat) (h0 : (k0 < layM.2.2 ∧ layM.1 k0 = .inr (.long, n0))) (x1 : Int32) (σ σr : Sto) (r : Int64) (hf : f_X8_sumOf k0 n0 x1 σ = some (r, σr)) : Ct l G layM B yX8_sumOf cX8_sumOf 7 (some .long) 1 [.ref (B + k0), .int x1] (some (.long r)) σ σr :=
  Ct.ofW (by decide) (Nat.le_of_ble_eq_true rfl) (fun _ _ _ _ _ _ _ X hH hS ls hl => w_X8_sumOf X k0 n0 h0 x1 σ hf _ _ hH hS ls (show lv_has ls 7 [(0, .ref (B + k0)), (1, .int x1)] from hl))
