-- SlackProofs$Clause.becomePriceKept([I[I)V  (D 3)
def b_X3_becomePriceKept_33 (c33 : Int32 → Sto → Option (Sto)) (k0 : Nat) (k1 n1 : Nat) (k2 n2 : Nat) (v3 : Int32) (σ : Sto) : Option (Sto) :=
  if (8 : Int32) ≤ v3 then (some σ) else (if (v3 < 0 ∨ n1 ≤ v3.toNatClampNeg) then none else bd2 (f_X3_joins k0 v3 ((σ.1 k1 v3.toNatClampNeg).toInt64) σ) fun r307 σ306 => if (v3 < 0 ∨ n2 ≤ v3.toNatClampNeg) then none else bd2 (f_X3_contraryOf (σ306.1 k2 v3.toNatClampNeg) σ306) fun r310 σ309 => if (v3 < 0 ∨ n1 ≤ v3.toNatClampNeg) then none else bd1 (f_X3_joinsPut k0 r310 ((σ309.1 k1 v3.toNatClampNeg).toInt64) σ309) fun σ312 => c33 (v3 + (1 : Int32)) σ312)
set_option maxHeartbeats 4000000 in
set_option maxRecDepth 100000 in
theorem w_X3_becomePriceKept_33 {p : Program} {l : Launch} {e : Env} {s : State} {m : MethodId} {args : Array Value} {below : List Frame} {meth : Method} {c : Code} {G : Gd} {B : Nat} (X : Cm p s m args meth c cX3_becomePriceKept 4 RX3 G none) (c33 : Int32 → Sto → Option (Sto)) (k0 : Nat) (k1 n1 : Nat) (k2 n2 : Nat) (h0 : (k0 < layX.2.2 ∧ layX.1 k0 = .inl 3)) (h1 : (k1 < layX.2.2 ∧ layX.1 k1 = .inr (.int, n1))) (h2 : (k2 < layX.2.2 ∧ layX.1 k2 = .inr (.int, n2))) {σr : Sto} (ih33 : ∀ (v3 : Int32) (σ : Sto) (H : Heap) (locs : List Loc) (ls : Array Slot), c33 v3 σ = some σr → HX G layX B σ H → va_S (inW layX B) s.heap H locs → lv_has ls 4 [(0, .ref (B + k0)), (1, .ref (B + k1)), (2, .ref (B + k2)), (3, .int v3)] → WM p l e 3 s m args below meth c H locs G layX B none σr (F0 m 33 ls [])) (v3 : Int32) (σ : Sto) (hf : b_X3_becomePriceKept_33 c33 k0 k1 n1 k2 n2 v3 σ = some σr) (H : Heap) (locs : List Loc) (hH : HX G layX B σ H) (hS : va_S (inW layX B) s.heap H locs) (ls : Array Slot) (hl : lv_has ls 4 [(0, .ref (B + k0)), (1, .ref (B + k1)), (2, .ref (B + k2)), (3, .int v3)]) : WM p l e 3 s m args below meth c H locs G layX B none σr (F0 m 33 ls []) := by
  unfold b_X3_becomePriceKept_33 at hf
  have hx := X.1.1
  have hb := X.1.2.1
  refine lv_iload_n hx hb dX3_becomePriceKept_33 rfl (lv_at hl 3 rfl) ?_
  refine lv_bipush (v := 8) hx hb dX3_becomePriceKept_34 (by decide) ?_
  refine lv_icmp_ge (tgt := 69) hx hb dX3_becomePriceKept_36 (by decide) (fun q304 => ?_) (fun q304 => ?_)
  · replace hf := brT hf q304
    obtain rfl := rt1 hf
    exact g_vret X hH hS dX3_becomePriceKept_69
  · replace hf := brF hf q304
    refine lv_aload_n hx hb dX3_becomePriceKept_39 rfl (lv_at hl 0 rfl) ?_
    refine lv_iload_n hx hb dX3_becomePriceKept_40 rfl (lv_at hl 3 rfl) ?_
    refine lv_aload_n hx hb dX3_becomePriceKept_41 rfl (lv_at hl 1 rfl) ?_
    refine lv_iload_n hx hb dX3_becomePriceKept_42 rfl (lv_at hl 3 rfl) ?_
    obtain ⟨q305, hf⟩ := chk hf
    refine g_iald (j := v3.toNatClampNeg) X.1 hH h1 q305 rfl dX3_becomePriceKept_43 ?_
    refine lv_i2l hx hb dX3_becomePriceKept_44 rfl ?_
    obtain ⟨r307, σ306, eσ306, hf⟩ := bnd2 hf
    refine g_cVi (As := [.int v3, .long ((σ.1 k1 v3.toNatClampNeg).toInt64)]) X.1 hH hS (c_X3_joins l G B k0 h0 v3 ((σ.1 k1 v3.toNatClampNeg).toInt64) σ σ306 r307 eσ306) kw_RX3_40 kX3 h0 (by decide) rfl hl (Nat.le_of_ble_eq_true rfl) rfl dX3_becomePriceKept_45 (fun H locs hH hS => ?_)
    refine lv_pop hx hb dX3_becomePriceKept_48 rfl ?_
    refine lv_aload_n hx hb dX3_becomePriceKept_49 rfl (lv_at hl 0 rfl) ?_
    refine lv_aload_n hx hb dX3_becomePriceKept_50 rfl (lv_at hl 2 rfl) ?_
    refine lv_iload_n hx hb dX3_becomePriceKept_51 rfl (lv_at hl 3 rfl) ?_
    obtain ⟨q308, hf⟩ := chk hf
    refine g_iald (j := v3.toNatClampNeg) X.1 hH h2 q308 rfl dX3_becomePriceKept_52 ?_
    obtain ⟨r310, σ309, eσ309, hf⟩ := bnd2 hf
    refine g_cSi (As := [.int (σ306.1 k2 v3.toNatClampNeg)]) X.1 hH hS (c_X3_contraryOf l G B (σ306.1 k2 v3.toNatClampNeg) σ306 σ309 r310 eσ309) kw_RX3_68 (by decide) rfl hl (Nat.le_of_ble_eq_true rfl) rfl dX3_becomePriceKept_53 (fun H locs hH hS => ?_)
    refine lv_aload_n hx hb dX3_becomePriceKept_56 rfl (lv_at hl 1 rfl) ?_
    refine lv_iload_n hx hb dX3_becomePriceKept_57 rfl (lv_at hl 3 rfl) ?_
    obtain ⟨q311, hf⟩ := chk hf
    refine g_iald (j := v3.toNatClampNeg) X.1 hH h1 q311 rfl dX3_becomePriceKept_58 ?_
    refine lv_i2l hx hb dX3_becomePriceKept_59 rfl ?_
    obtain ⟨σ312, eσ312, hf⟩ := bnd1 hf
    refine g_cVv (As := [.int r310, .long ((σ309.1 k1 v3.toNatClampNeg).toInt64)]) X.1 hH hS (c_X3_joinsPut l G B k0 h0 r310 ((σ309.1 k1 v3.toNatClampNeg).toInt64) σ309 σ312 eσ312) kw_RX3_72 kX3 h0 (by decide) rfl hl (Nat.le_of_ble_eq_true rfl) rfl dX3_becomePriceKept_60 (fun H locs hH hS => ?_)
    refine lv_iinc (v := (v3 + (1 : Int32))) (lv' := [(3, .int (v3 + (1 : Int32))), (0, .ref (B + k0)), (1, .ref (B + k1)), (2, .ref (B + k2))]) hx hb dX3_becomePriceKept_63 hl (k := 3) rfl rfl (by decide) rfl (fun ls hl => ?_)
    refine lv_goto (tgt := 33) hx hb dX3_becomePriceKept_66 (by decide) ?_
    exact ih33 (v3 + (1 : Int32)) σ312 _ _ _ hf hH hS (lv_sub hl [1, 2, 3, 0] rfl)
def l_X3_becomePriceKept_33 (k0 : Nat) (k1 n1 : Nat) (k2 n2 : Nat) : Nat → Int32 → Sto → Option (Sto)
  | 0, _, _ => none
  | n + 1, v3, σ => b_X3_becomePriceKept_33 (l_X3_becomePriceKept_33 k0 k1 n1 k2 n2 n) k0 k1 n1 k2 n2 v3 σ
set_option maxHeartbeats 4000000 in
set_option maxRecDepth 100000 in
theorem wl_X3_becomePriceKept_33 {p : Program} {l : Launch} {e : Env} {s : State} {m : MethodId} {args : Array Value} {below : List Frame} {meth : Method} {c : Code} {G : Gd} {B : Nat} (X : Cm p s m args meth c cX3_becomePriceKept 4 RX3 G none) (k0 : Nat) (k1 n1 : Nat) (k2 n2 : Nat) (h0 : (k0 < layX.2.2 ∧ layX.1 k0 = .inl 3)) (h1 : (k1 < layX.2.2 ∧ layX.1 k1 = .inr (.int, n1))) (h2 : (k2 < layX.2.2 ∧ layX.1 k2 = .inr (.int, n2))) {σr : Sto} (n : Nat) : ∀ (v3 : Int32) (σ : Sto) (H : Heap) (locs : List Loc) (ls : Array Slot), l_X3_becomePriceKept_33 k0 k1 n1 k2 n2 n v3 σ = some σr → HX G layX B σ H → va_S (inW layX B) s.heap H locs → lv_has ls 4 [(0, .ref (B + k0)), (1, .ref (B + k1)), (2, .ref (B + k2)), (3, .int v3)] → WM p l e 3 s m args below meth c H locs G layX B none σr (F0 m 33 ls []) := by
  induction n with
  | zero =>
    intro _ σ H locs ls hf
    cases hf
  | succ n ih =>
    intro v3 σ H locs ls hf hH hS hl
    exact w_X3_becomePriceKept_33 X (l_X3_becomePriceKept_33 k0 k1 n1 k2 n2 n) k0 k1 n1 k2 n2 h0 h1 h2 ih v3 σ hf H locs hH hS ls hl
def b_X3_becomePriceKept_6 (c6 : Int32 → Sto → Option (Sto)) (k0 : Nat) (k1 n1 : Nat) (k2 n2 : Nat) (v3 : Int32) (σ : Sto) : Option (Sto) :=
  if (8 : Int32) ≤ v3 then (l_X3_becomePriceKept_33 k0 k1 n1 k2 n2 400 (0 : Int32) σ) else (if (v3 < 0 ∨ n1 ≤ v3.toNatClampNeg) then none else nmS (pL σ k0 2 ((σ.2 k0 2) + (σ.1 k1 v3.toNatClampNeg).toInt64)) fun σ315 => c6 (v3 + (1 : Int32)) σ315)
set_option maxHeartbeats 4000000 in
set_option maxRecDepth 100000 in
theorem w_X3_becomePriceKept_6 {p : Program} {l : Launch} {e : Env} {s : State} {m : MethodId} {args : Array Value} {below : List Frame} {meth : Method} {c : Code} {G : Gd} {B : Nat} (X : Cm p s m args meth c cX3_becomePriceKept 4 RX3 G none) (c6 : Int32 → Sto → Option (Sto)) (k0 : Nat) (k1 n1 : Nat) (k2 n2 : Nat) (h0 : (k0 < layX.2.2 ∧ layX.1 k0 = .inl 3)) (h1 : (k1 < layX.2.2 ∧ layX.1 k1 = .inr (.int, n1))) (h2 : (k2 < layX.2.2 ∧ layX.1 k2 = .inr (.int, n2))) {σr : Sto} (ih6 : ∀ (v3 : Int32) (σ : Sto) (H : Heap) (locs : List Loc) (ls : Array Slot), c6 v3 σ = some σr → HX G layX B σ H → va_S (inW layX B) s.heap H locs → lv_has ls 4 [(0, .ref (B + k0)), (1, .ref (B + k1)), (2, .ref (B + k2)), (3, .int v3)] → WM p l e 3 s m args below meth c H locs G layX B none σr (F0 m 6 ls [])) (v3 : Int32) (σ : Sto) (hf : b_X3_becomePriceKept_6 c6 k0 k1 n1 k2 n2 v3 σ = some σr) (H : Heap) (locs : List Loc) (hH : HX G layX B σ H) (hS : va_S (inW layX B) s.heap H locs) (ls : Array Slot) (hl : lv_has ls 4 [(0, .ref (B + k0)), (1, .ref (B + k1)), (2, .ref (B + k2)), (3, .int v3)]) : WM p l e 3 s m args below meth c H locs G layX B none σr (F0 m 6 ls []) := by
  unfold b_X3_becomePriceKept_6 at hf
  have hx := X.1.1
  have hb := X.1.2.1
  refine lv_iload_n hx hb dX3_becomePriceKept_6 rfl (lv_at hl 3 rfl) ?_
  refine lv_bipush (v := 8) hx hb dX3_becomePriceKept_7 (by decide) ?_
  refine lv_icmp_ge (tgt := 31) hx hb dX3_becomePriceKept_9 (by decide) (fun q203 => ?_) (fun q203 => ?_)
  · replace hf := brT hf q203
    refine lv_iconst (v := 0) hx hb dX3_becomePriceKept_31 (by decide) ?_
    refine lv_istore_n (lv' := [(3, .int (0 : Int32)), (0, .ref (B + k0)), (1, .ref (B + k1)), (2, .ref (B + k2))]) hx hb dX3_becomePriceKept_32 rfl hl (by decide) rfl (fun ls hl => ?_)
    exact wl_X3_becomePriceKept_33 X k0 k1 n1 k2 n2 h0 h1 h2 400 (0 : Int32) σ _ _ _ hf hH hS (lv_sub hl [1, 2, 3, 0] rfl)
  · replace hf := brF hf q203
    refine lv_aload_n hx hb dX3_becomePriceKept_12 rfl (lv_at hl 0 rfl) ?_
    refine lv_dup hx hb dX3_becomePriceKept_13 rfl ?_
    refine g_get (v := .long (σ.2 k0 2)) kX3 (by decide) fl_RX3_25 X.1 hH h0 rfl dX3_becomePriceKept_14 ?_
    refine lv_aload_n hx hb dX3_becomePriceKept_17 rfl (lv_at hl 1 rfl) ?_
    refine lv_iload_n hx hb dX3_becomePriceKept_18 rfl (lv_at hl 3 rfl) ?_
    obtain ⟨q314, hf⟩ := chk hf
    refine g_iald (j := v3.toNatClampNeg) X.1 hH h1 q314 rfl dX3_becomePriceKept_19 ?_
    refine lv_i2l hx hb dX3_becomePriceKept_20 rfl ?_
    refine lv_ladd hx hb dX3_becomePriceKept_21 ?_
    refine g_putL kX3 (by decide) fl_RX3_25 rfl rfl X.1 hH hS h0 dX3_becomePriceKept_22 (fun H locs hH hS => ?_)
    obtain ⟨σ315, eσ315, hH⟩ := nmX hH
    replace hf := nmU hf eσ315
    refine lv_iinc (v := (v3 + (1 : Int32))) (lv' := [(3, .int (v3 + (1 : Int32))), (0, .ref (B + k0)), (1, .ref (B + k1)), (2, .ref (B + k2))]) hx hb dX3_becomePriceKept_25 hl (k := 3) rfl rfl (by decide) rfl (fun ls hl => ?_)
    refine lv_goto (tgt := 6) hx hb dX3_becomePriceKept_28 (by decide) ?_
    exact ih6 (v3 + (1 : Int32)) σ315 _ _ _ hf hH hS (lv_sub hl [1, 2, 3, 0] rfl)
def l_X3_becomePriceKept_6 (k0 : Nat) (k1 n1 : Nat) (k2 n2 : Nat) : Nat → Int32 → Sto → Option (Sto)
  | 0, _, _ => none
  | n + 1, v3, σ => b_X3_becomePriceKept_6 (l_X3_becomePriceKept_6 k0 k1 n1 k2 n2 n) k0 k1 n1 k2 n2 v3 σ
set_option maxHeartbeats 4000000 in
set_option maxRecDepth 100000 in
theorem wl_X3_becomePriceKept_6 {p : Program} {l : Launch} {e : Env} {s : State} {m : MethodId} {args : Array Value} {below : List Frame} {meth : Method} {c : Code} {G : Gd} {B : Nat} (X : Cm p s m args meth c cX3_becomePriceKept 4 RX3 G none) (k0 : Nat) (k1 n1 : Nat) (k2 n2 : Nat) (h0 : (k0 < layX.2.2 ∧ layX.1 k0 = .inl 3)) (h1 : (k1 < layX.2.2 ∧ layX.1 k1 = .inr (.int, n1))) (h2 : (k2 < layX.2.2 ∧ layX.1 k2 = .inr (.int, n2))) {σr : Sto} (n : Nat) : ∀ (v3 : Int32) (σ : Sto) (H : Heap) (locs : List Loc) (ls : Array Slot), l_X3_becomePriceKept_6 k0 k1 n1 k2 n2 n v3 σ = some σr → HX G layX B σ H → va_S (inW layX B) s.heap H locs → lv_has ls 4 [(0, .ref (B + k0)), (1, .ref (B + k1)), (2, .ref (B + k2)), (3, .int v3)] → WM p l e 3 s m args below meth c H locs G layX B none σr (F0 m 6 ls []) := by
  induction n with
  | zero =>
    intro _ σ H locs ls hf
    cases hf
  | succ n ih =>
    intro v3 σ H locs ls hf hH hS hl
    exact w_X3_becomePriceKept_6 X (l_X3_becomePriceKept_6 k0 k1 n1 k2 n2 n) k0 k1 n1 k2 n2 h0 h1 h2 ih v3 σ hf H locs hH hS ls hl
def f_X3_becomePriceKept (k0 : Nat) (k1 n1 : Nat) (k2 n2 : Nat) (σ : Sto) : Option (Sto) :=
  bd1 (f_X3_clear k0 σ) fun σ101 => l_X3_becomePriceKept_6 k0 k1 n1 k2 n2 400 (0 : Int32) σ101
set_option maxHeartbeats 4000000 in
set_option maxRecDepth 100000 in
theorem w_X3_becomePriceKept {p : Program} {l : Launch} {e : Env} {s : State} {m : MethodId} {args : Array Value} {below : List Frame} {meth : Method} {c : Code} {G : Gd} {B : Nat} (X : Cm p s m args meth c cX3_becomePriceKept 4 RX3 G none) (k0 : Nat) (k1 n1 : Nat) (k2 n2 : Nat) (h0 : (k0 < layX.2.2 ∧ layX.1 k0 = .inl 3)) (h1 : (k1 < layX.2.2 ∧ layX.1 k1 = .inr (.int, n1))) (h2 : (k2 < layX.2.2 ∧ layX.1 k2 = .inr (.int, n2))) {σr : Sto} (σ : Sto) (hf : f_X3_becomePriceKept k0 k1 n1 k2 n2 σ = some σr) (H : Heap) (locs : List Loc) (hH : HX G layX B σ H) (hS : va_S (inW layX B) s.heap H locs) (ls : Array Slot) (hl : lv_has ls 4 [(0, .ref (B + k0)), (1, .ref (B + k1)), (2, .ref (B + k2))]) : WM p l e 3 s m args below meth c H locs G layX B none σr (F0 m 0 ls []) := by
  unfold f_X3_becomePriceKept at hf
  have hx := X.1.1
  have hb := X.1.2.1
  refine lv_aload_n hx hb dX3_becomePriceKept_0 rfl (lv_at hl 0 rfl) ?_
  obtain ⟨σ101, eσ101, hf⟩ := bnd1 hf
  refine g_cVv (As := []) X.1 hH hS (c_X3_clear l G B k0 h0 σ σ101 eσ101) kw_RX3_65 kX3 h0 (by decide) rfl hl (Nat.le_of_ble_eq_true rfl) rfl dX3_becomePriceKept_1 (fun H locs hH hS => ?_)
  refine lv_iconst (v := 0) hx hb dX3_becomePriceKept_4 (by decide) ?_
  refine lv_istore_n (lv' := [(3, .int (0 : Int32)), (0, .ref (B + k0)), (1, .ref (B + k1)), (2, .ref (B + k2))]) hx hb dX3_becomePriceKept_5 rfl hl (by decide) rfl (fun ls hl => ?_)
  exact wl_X3_becomePriceKept_6 X k0 k1 n1 k2 n2 h0 h1 h2 400 (0 : Int32) σ101 _ _ _ hf hH hS (lv_sub hl [1, 2, 3, 0] rfl)
theorem c_X3_becomePriceKept (l : Launch) (G : Gd) (B : Nat) (k0 : Nat) (h0 : (k0 < layX.2.2 ∧ layX.1 k0 = .inl 3)) (k1 n1 : Nat) (h1 : (k1 < layX.2.2 ∧ layX.1 k1 = .inr (.int, n1))) (k2 n2 : Nat) (h2 : (k2 < layX.2.2 ∧ layX.1 k2 = .inr (.int, n2))) (σ σr : Sto) (hf : f_X3_becomePriceKept k0 k1 n1 k2 n2 σ = some σr) : Ct l G layX B yX3_becomePriceKept cX3_becomePriceKept 4 none 3 [.ref (B + k0), .ref (B + k1), .ref (B + k2)] none σ σr :=
  Ct.ofW (by decide) (Nat.le_of_ble_eq_true rfl) (fun _ _ _ _ _ _ _ X hH hS ls hl => w_X3_becomePriceKept X k0 k1 n1 k2 n2 h0 h1 h2 σ hf _ _ hH hS ls (show lv_has ls 4 [(0, .ref (B + k0)), (1, .ref (B + k1)), (2, .ref (B + k2))] from hl))
-- SlackProofs$Clause.becomePut(LSlackProofs$Clause;[I)V  (D 3)
def b_X3_becomePut_63 (c14 : Int32 → Sto → Option (Sto)) (k0 : Nat) (k1 : Nat) (k2 n2 : Nat) (v3 : Int32) (σ : Sto) : Option (Sto) :=
  c14 (v3 + (1 : Int32)) σ
set_option maxHeartbeats 4000000 in
set_option maxRecDepth 100000 in
theorem w_X3_becomePut_63 {p : Program} {l : Launch} {e : Env} {s : State} {m : MethodId} {args : Array Value} {below : List Frame} {meth : Method} {c : Code} {G : Gd} {B : Nat} (X : Cm p s m args meth c cX3_becomePut 6 RX3 G none) (c14 : Int32 → Sto → Option (Sto)) (k0 : Nat) (k1 : Nat) (k2 n2 : Nat) (h0 : (k0 < layX.2.2 ∧ layX.1 k0 = .inl 3)) (h1 : (k1 < layX.2.2 ∧ layX.1 k1 = .inl 3)) (h2 : (k2 < layX.2.2 ∧ layX.1 k2 = .inr (.int, n2))) {σr : Sto} (ih14 : ∀ (v3 : Int32) (σ : Sto) (H : Heap) (locs : List Loc) (ls : Array Slot), c14 v3 σ = some σr → HX G layX B σ H → va_S (inW layX B) s.heap H locs → lv_has ls 6 [(0, .ref (B + k0)), (1, .ref (B + k1)), (2, .ref (B + k2)), (3, .int v3)] → WM p l e 3 s m args below meth c H locs G layX B none σr (F0 m 14 ls [])) (v3 : Int32) (σ : Sto) (hf : b_X3_becomePut_63 c14 k0 k1 k2 n2 v3 σ = some σr) (H : Heap) (locs : List Loc) (hH : HX G layX B σ H) (hS : va_S (inW layX B) s.heap H locs) (ls : Array Slot) (hl : lv_has ls 6 [(0, .ref (B + k0)), (1, .ref (B + k1)), (2, .ref (B + k2)), (3, .int v3)]) : WM p l e 3 s m args below meth c H locs G layX B none σr (F0 m 63 ls []) := by
  unfold b_X3_becomePut_63 at hf
  have hx := X.1.1
  have hb := X.1.2.1
  refine lv_iinc (v := (v3 + (1 : Int32))) (lv' := [(3, .int (v3 + (1 : Int32))), (0, .ref (B + k0)), (1, .ref (B + k1)), (2, .ref (B + k2))]) hx hb dX3_becomePut_63 hl (k := 3) rfl rfl (by decide) rfl (fun ls hl => ?_)
  refine lv_goto (tgt := 14) hx hb dX3_becomePut_66 (by decide) ?_
  exact ih14 (v3 + (1 : Int32)) σ _ _ _ hf hH hS (lv_sub hl [1, 2, 3, 0] rfl)
def b_X3_becomePut_55 (c14 : Int32 → Sto → Option (Sto)) (k0 : Nat) (k1 : Nat) (k2 n2 : Nat) (v3 : Int32) (v4 : Int64) (s0 : Int32) (σ : Sto) : Option (Sto) :=
  bd1 (f_X3_joinsPut k0 s0 (mabs v4) σ) fun σ412 => b_X3_becomePut_63 c14 k0 k1 k2 n2 v3 σ412
set_option maxHeartbeats 4000000 in
set_option maxRecDepth 100000 in
theorem w_X3_becomePut_55 {p : Program} {l : Launch} {e : Env} {s : State} {m : MethodId} {args : Array Value} {below : List Frame} {meth : Method} {c : Code} {G : Gd} {B : Nat} (X : Cm p s m args meth c cX3_becomePut 6 RX3 G none) (c14 : Int32 → Sto → Option (Sto)) (k0 : Nat) (k1 : Nat) (k2 n2 : Nat) (h0 : (k0 < layX.2.2 ∧ layX.1 k0 = .inl 3)) (h1 : (k1 < layX.2.2 ∧ layX.1 k1 = .inl 3)) (h2 : (k2 < layX.2.2 ∧ layX.1 k2 = .inr (.int, n2))) {σr : Sto} (ih14 : ∀ (v3 : Int32) (σ : Sto) (H : Heap) (locs : List Loc) (ls : Array Slot), c14 v3 σ = some σr → HX G layX B σ H → va_S (inW layX B) s.heap H locs → lv_has ls 6 [(0, .ref (B + k0)), (1, .ref (B + k1)), (2, .ref (B + k2)), (3, .int v3)] → WM p l e 3 s m args below meth c H locs G layX B none σr (F0 m 14 ls [])) (v3 : Int32) (v4 : Int64) (s0 : Int32) (σ : Sto) (hf : b_X3_becomePut_55 c14 k0 k1 k2 n2 v3 v4 s0 σ = some σr) (H : Heap) (locs : List Loc) (hH : HX G layX B σ H) (hS : va_S (inW layX B) s.heap H locs) (ls : Array Slot) (hl : lv_has ls 6 [(0, .ref (B + k0)), (1, .ref (B + k1)), (2, .ref (B + k2)), (3, .int v3), (4, .long v4)]) : WM p l e 3 s m args below meth c H locs G layX B none σr (F0 m 55 ls [.int s0, .ref (B + k0)]) := by
  unfold b_X3_becomePut_55 at hf
  have hx := X.1.1
  have hb := X.1.2.1
  refine lv_lload hx hb dX3_becomePut_55 (lv_at hl 4 rfl) ?_
  refine g_abs X.1 mt_RX3_44 (by decide) hl (Nat.le_of_ble_eq_true rfl) dX3_becomePut_57 ?_
  obtain ⟨σ412, eσ412, hf⟩ := bnd1 hf
  refine g_cVv (As := [.int s0, .long (mabs v4)]) X.1 hH hS (c_X3_joinsPut l G B k0 h0 s0 (mabs v4) σ σ412 eσ412) kw_RX3_72 kX3 h0 (by decide) rfl hl (Nat.le_of_ble_eq_true rfl) rfl dX3_becomePut_60 (fun H locs hH hS => ?_)
  exact w_X3_becomePut_63 X c14 k0 k1 k2 n2 h0 h1 h2 ih14 v3 σ412 hf _ _ hH hS _ (lv_sub hl [0, 1, 2, 3] rfl)
def b_X3_becomePut_14 (c14 : Int32 → Sto → Option (Sto)) (k0 : Nat) (k1 : Nat) (k2 n2 : Nat) (v3 : Int32) (σ : Sto) : Option (Sto) :=
  if (8 : Int32) ≤ v3 then (some σ) else (if (v3 < 0 ∨ 8 ≤ v3.toNatClampNeg) then none else nmS (σ.2 (k1 + 1) v3.toNatClampNeg) fun y206 => if y206 = (0 : Int64) then (b_X3_becomePut_63 c14 k0 k1 k2 n2 v3 σ) else (if y206 ≤ (0 : Int64) then (if (v3 < 0 ∨ n2 ≤ v3.toNatClampNeg) then none else bd2 (f_X3_contraryOf (σ.1 k2 v3.toNatClampNeg) σ) fun r311 σ310 => b_X3_becomePut_55 c14 k0 k1 k2 n2 v3 y206 r311 σ310) else (if (v3 < 0 ∨ n2 ≤ v3.toNatClampNeg) then none else b_X3_becomePut_55 c14 k0 k1 k2 n2 v3 y206 (σ.1 k2 v3.toNatClampNeg) σ)))
set_option maxHeartbeats 4000000 in
set_option maxRecDepth 100000 in
theorem w_X3_becomePut_14 {p : Program} {l : Launch} {e : Env} {s : State} {m : MethodId} {args : Array Value} {below : List Frame} {meth : Method} {c : Code} {G : Gd} {B : Nat} (X : Cm p s m args meth c cX3_becomePut 6 RX3 G none) (c14 : Int32 → Sto → Option (Sto)) (k0 : Nat) (k1 : Nat) (k2 n2 : Nat) (h0 : (k0 < layX.2.2 ∧ layX.1 k0 = .inl 3)) (h1 : (k1 < layX.2.2 ∧ layX.1 k1 = .inl 3)) (h2 : (k2 < layX.2.2 ∧ layX.1 k2 = .inr (.int, n2))) {σr : Sto} (ih14 : ∀ (v3 : Int32) (σ : Sto) (H : Heap) (locs : List Loc) (ls : Array Slot), c14 v3 σ = some σr → HX G layX B σ H → va_S (inW layX B) s.heap H locs → lv_has ls 6 [(0, .ref (B + k0)), (1, .ref (B + k1)), (2, .ref (B + k2)), (3, .int v3)] → WM p l e 3 s m args below meth c H locs G layX B none σr (F0 m 14 ls [])) (v3 : Int32) (σ : Sto) (hf : b_X3_becomePut_14 c14 k0 k1 k2 n2 v3 σ = some σr) (H : Heap) (locs : List Loc) (hH : HX G layX B σ H) (hS : va_S (inW layX B) s.heap H locs) (ls : Array Slot) (hl : lv_has ls 6 [(0, .ref (B + k0)), (1, .ref (B + k1)), (2, .ref (B + k2)), (3, .int v3)]) : WM p l e 3 s m args below meth c H locs G layX B none σr (F0 m 14 ls []) := by
  unfold b_X3_becomePut_14 at hf
  have hx := X.1.1
  have hb := X.1.2.1
  refine lv_iload_n hx hb dX3_becomePut_14 rfl (lv_at hl 3 rfl) ?_
  refine lv_bipush (v := 8) hx hb dX3_becomePut_15 (by decide) ?_
  refine lv_icmp_ge (tgt := 69) hx hb dX3_becomePut_17 (by decide) (fun q204 => ?_) (fun q204 => ?_)
  · replace hf := brT hf q204
    obtain rfl := rt1 hf
    exact g_vret X hH hS dX3_becomePut_69
  · replace hf := brF hf q204
    refine lv_aload_n hx hb dX3_becomePut_20 rfl (lv_at hl 1 rfl) ?_
    refine g_get (v := .ref (B + (k1 + 1))) kX3 (by decide) fl_RX3_9 X.1 hH h1 (cRef h1) dX3_becomePut_21 ?_
    refine lv_iload_n hx hb dX3_becomePut_24 rfl (lv_at hl 3 rfl) ?_
    obtain ⟨q205, hf⟩ := chk hf
    refine g_lald (j := v3.toNatClampNeg) X.1 hH (cArr h1) q205 rfl dX3_becomePut_25 ?_
    refine lv_topl (fun y206 ey206 => ?_)
    replace hf := nmU hf ey206
    refine lv_lstore (lv' := [(4, .long y206), (0, .ref (B + k0)), (1, .ref (B + k1)), (2, .ref (B + k2)), (3, .int v3)]) hx hb dX3_becomePut_26 hl (by decide) rfl (fun ls hl => ?_)
    refine lv_lload hx hb dX3_becomePut_28 (lv_at hl 0 rfl) ?_
    refine lv_lconst (v := 0) hx hb dX3_becomePut_30 (by decide) ?_
    refine g_leq (tgt := 63) X.1 dX3_becomePut_31 dX3_becomePut_32 (by decide) (fun q207 => ?_) (fun q207 => ?_)
    · replace hf := brT hf q207
      exact w_X3_becomePut_63 X c14 k0 k1 k2 n2 h0 h1 h2 ih14 v3 σ hf _ _ hH hS _ (lv_sub hl [1, 2, 3, 4] rfl)
    · replace hf := brF hf q207
      refine lv_aload_n hx hb dX3_becomePut_35 rfl (lv_at hl 1 rfl) ?_
      refine lv_lload hx hb dX3_becomePut_36 (lv_at hl 0 rfl) ?_
      refine lv_lconst (v := 0) hx hb dX3_becomePut_38 (by decide) ?_
      refine g_lle (tgt := 49) X.1 dX3_becomePut_39 dX3_becomePut_40 (by decide) (fun q308 => ?_) (fun q308 => ?_)
      · replace hf := brT hf q308
        refine lv_aload_n hx hb dX3_becomePut_49 rfl (lv_at hl 3 rfl) ?_
        refine lv_iload_n hx hb dX3_becomePut_50 rfl (lv_at hl 4 rfl) ?_
        obtain ⟨q309, hf⟩ := chk hf
        refine g_iald (j := v3.toNatClampNeg) X.1 hH h2 q309 rfl dX3_becomePut_51 ?_
        obtain ⟨r311, σ310, eσ310, hf⟩ := bnd2 hf
        refine g_cSi (As := [.int (σ.1 k2 v3.toNatClampNeg)]) X.1 hH hS (c_X3_contraryOf l G B (σ.1 k2 v3.toNatClampNeg) σ σ310 r311 eσ310) kw_RX3_68 (by decide) rfl hl (Nat.le_of_ble_eq_true rfl) rfl dX3_becomePut_52 (fun H locs hH hS => ?_)
        exact w_X3_becomePut_55 X c14 k0 k1 k2 n2 h0 h1 h2 ih14 v3 y206 r311 σ310 hf _ _ hH hS _ (lv_sub hl [1, 2, 3, 4, 0] rfl)
      · replace hf := brF hf q308
        refine lv_aload_n hx hb dX3_becomePut_43 rfl (lv_at hl 3 rfl) ?_
        refine lv_iload_n hx hb dX3_becomePut_44 rfl (lv_at hl 4 rfl) ?_
        obtain ⟨q414, hf⟩ := chk hf
        refine g_iald (j := v3.toNatClampNeg) X.1 hH h2 q414 rfl dX3_becomePut_45 ?_
        refine lv_goto (tgt := 55) hx hb dX3_becomePut_46 (by decide) ?_
        exact w_X3_becomePut_55 X c14 k0 k1 k2 n2 h0 h1 h2 ih14 v3 y206 (σ.1 k2 v3.toNatClampNeg) σ hf _ _ hH hS _ (lv_sub hl [1, 2, 3, 4, 0] rfl)
def l_X3_becomePut_14 (k0 : Nat) (k1 : Nat) (k2 n2 : Nat) : Nat → Int32 → Sto → Option (Sto)
  | 0, _, _ => none
  | n + 1, v3, σ => b_X3_becomePut_14 (l_X3_becomePut_14 k0 k1 k2 n2 n) k0 k1 k2 n2 v3 σ
set_option maxHeartbeats 4000000 in
set_option maxRecDepth 100000 in
theorem wl_X3_becomePut_14 {p : Program} {l : Launch} {e : Env} {s : State} {m : MethodId} {args : Array Value} {below : List Frame} {meth : Method} {c : Code} {G : Gd} {B : Nat} (X : Cm p s m args meth c cX3_becomePut 6 RX3 G none) (k0 : Nat) (k1 : Nat) (k2 n2 : Nat) (h0 : (k0 < layX.2.2 ∧ layX.1 k0 = .inl 3)) (h1 : (k1 < layX.2.2 ∧ layX.1 k1 = .inl 3)) (h2 : (k2 < layX.2.2 ∧ layX.1 k2 = .inr (.int, n2))) {σr : Sto} (n : Nat) : ∀ (v3 : Int32) (σ : Sto) (H : Heap) (locs : List Loc) (ls : Array Slot), l_X3_becomePut_14 k0 k1 k2 n2 n v3 σ = some σr → HX G layX B σ H → va_S (inW layX B) s.heap H locs → lv_has ls 6 [(0, .ref (B + k0)), (1, .ref (B + k1)), (2, .ref (B + k2)), (3, .int v3)] → WM p l e 3 s m args below meth c H locs G layX B none σr (F0 m 14 ls []) := by
  induction n with
  | zero =>
    intro _ σ H locs ls hf
    cases hf
  | succ n ih =>
    intro v3 σ H locs ls hf hH hS hl
    exact w_X3_becomePut_14 X (l_X3_becomePut_14 k0 k1 k2 n2 n) k0 k1 k2 n2 h0 h1 h2 ih v3 σ hf H locs hH hS ls hl
def f_X3_becomePut (k0 : Nat) (k1 : Nat) (k2 n2 : Nat) (σ : Sto) : Option (Sto) :=
  bd1 (f_X3_clear k0 σ) fun σ101 => nmS (pL σ101 k0 2 (σ101.2 k1 2)) fun σ103 => l_X3_becomePut_14 k0 k1 k2 n2 400 (0 : Int32) σ103
set_option maxHeartbeats 4000000 in
set_option maxRecDepth 100000 in
theorem w_X3_becomePut {p : Program} {l : Launch} {e : Env} {s : State} {m : MethodId} {args : Array Value} {below : List Frame} {meth : Method} {c : Code} {G : Gd} {B : Nat} (X : Cm p s m args meth c cX3_becomePut 6 RX3 G none) (k0 : Nat) (k1 : Nat) (k2 n2 : Nat) (h0 : (k0 < layX.2.2 ∧ layX.1 k0 = .inl 3)) (h1 : (k1 < layX.2.2 ∧ layX.1 k1 = .inl 3)) (h2 : (k2 < layX.2.2 ∧ layX.1 k2 = .inr (.int, n2))) {σr : Sto} (σ : Sto) (hf : f_X3_becomePut k0 k1 k2 n2 σ = some σr) (H : Heap) (locs : List Loc) (hH : HX G layX B σ H) (hS : va_S (inW layX B) s.heap H locs) (ls : Array Slot) (hl : lv_has ls 6 [(0, .ref (B + k0)), (1, .ref (B + k1)), (2, .ref (B + k2))]) : WM p l e 3 s m args below meth c H locs G layX B none σr (F0 m 0 ls []) := by
  unfold f_X3_becomePut at hf
  have hx := X.1.1
  have hb := X.1.2.1
  refine lv_aload_n hx hb dX3_becomePut_0 rfl (lv_at hl 0 rfl) ?_
  obtain ⟨σ101, eσ101, hf⟩ := bnd1 hf
  refine g_cVv (As := []) X.1 hH hS (c_X3_clear l G B k0 h0 σ σ101 eσ101) kw_RX3_65 kX3 h0 (by decide) rfl hl (Nat.le_of_ble_eq_true rfl) rfl dX3_becomePut_1 (fun H locs hH hS => ?_)
  refine lv_aload_n hx hb dX3_becomePut_4 rfl (lv_at hl 0 rfl) ?_
  refine lv_aload_n hx hb dX3_becomePut_5 rfl (lv_at hl 1 rfl) ?_
  refine g_get (v := .long (σ101.2 k1 2)) kX3 (by decide) fl_RX3_25 X.1 hH h1 rfl dX3_becomePut_6 ?_
  refine g_putL kX3 (by decide) fl_RX3_25 rfl rfl X.1 hH hS h0 dX3_becomePut_9 (fun H locs hH hS => ?_)
  obtain ⟨σ103, eσ103, hH⟩ := nmX hH
  replace hf := nmU hf eσ103
  refine lv_iconst (v := 0) hx hb dX3_becomePut_12 (by decide) ?_
  refine lv_istore_n (lv' := [(3, .int (0 : Int32)), (0, .ref (B + k0)), (1, .ref (B + k1)), (2, .ref (B + k2))]) hx hb dX3_becomePut_13 rfl hl (by decide) rfl (fun ls hl => ?_)
  exact wl_X3_becomePut_14 X k0 k1 k2 n2 h0 h1 h2 400 (0 : Int32) σ103 _ _ _ hf hH hS (lv_sub hl [1, 2, 3, 0] rfl)
theorem c_X3_becomePut (l : Launch) (G : Gd) (B : Nat) (k0 : Nat) (h0 : (k0 < layX.2.2 ∧ layX.1 k0 = .inl 3)) (k1 : Nat) (h1 : (k1 < layX.2.2 ∧ layX.1 k1 = .inl 3)) (k2 n2 : Nat) (h2 : (k2 < layX.2.2 ∧ layX.1 k2 = .inr (.int, n2))) (σ σr : Sto) (hf : f_X3_becomePut k0 k1 k2 n2 σ = some σr) : Ct l G layX B yX3_becomePut cX3_becomePut 6 none 3 [.ref (B + k0), .ref (B + k1), .ref (B + k2)] none σ σr :=
  Ct.ofW (by decide) (Nat.le_of_ble_eq_true rfl) (fun _ _ _ _ _ _ _ X hH hS ls hl => w_X3_becomePut X k0 k1 k2 n2 h0 h1 h2 σ hf _ _ hH hS ls (show lv_has ls 6 [(0, .ref (B + k0)), (1, .ref (B + k1)), (2, .ref (B + k2))] from hl))
-- SlackProofs$Clause.becomeSaturated(LSlackProofs$Clause;)V  (D 1)
def b_X3_becomeSaturated_10 (c10 : Int32 → Sto → Option (Sto)) (k0 : Nat) (k1 : Nat) (v2 : Int32) (σ : Sto) : Option (Sto) :=
  if (8 : Int32) ≤ v2 then (some σ) else (if (v2 < 0 ∨ 8 ≤ v2.toNatClampNeg) then none else if (v2 < 0 ∨ 8 ≤ v2.toNatClampNeg) then none else nmS (pL σ (k0 + 1) v2.toNatClampNeg (mmax (-(σ.2 k0 2)) (mmin (σ.2 k0 2) (σ.2 (k1 + 1) v2.toNatClampNeg)))) fun σ205 => c10 (v2 + (1 : Int32)) σ205)
set_option maxHeartbeats 4000000 in
set_option maxRecDepth 100000 in
theorem w_X3_becomeSaturated_10 {p : Program} {l : Launch} {e : Env} {s : State} {m : MethodId} {args : Array Value} {below : List Frame} {meth : Method} {c : Code} {G : Gd} {B : Nat} (X : Cm p s m args meth c cX3_becomeSaturated 3 RX3 G none) (c10 : Int32 → Sto → Option (Sto)) (k0 : Nat) (k1 : Nat) (h0 : (k0 < layX.2.2 ∧ layX.1 k0 = .inl 3)) (h1 : (k1 < layX.2.2 ∧ layX.1 k1 = .inl 3)) {σr : Sto} (ih10 : ∀ (v2 : Int32) (σ : Sto) (H : Heap) (locs : List Loc) (ls : Array Slot), c10 v2 σ = some σr → HX G layX B σ H → va_S (inW layX B) s.heap H locs → lv_has ls 3 [(0, .ref (B + k0)), (1, .ref (B + k1)), (2, .int v2)] → WM p l e 1 s m args below meth c H locs G layX B none σr (F0 m 10 ls [])) (v2 : Int32) (σ : Sto) (hf : b_X3_becomeSaturated_10 c10 k0 k1 v2 σ = some σr) (H : Heap) (locs : List Loc) (hH : HX G layX B σ H) (hS : va_S (inW layX B) s.heap H locs) (ls : Array Slot) (hl : lv_has ls 3 [(0, .ref (B + k0)), (1, .ref (B + k1)), (2, .int v2)]) : WM p l e 1 s m args below meth c H locs G layX B none σr (F0 m 10 ls []) := by
  unfold b_X3_becomeSaturated_10 at hf
  have hx := X.1.1
  have hb := X.1.2.1
  refine lv_iload_n hx hb dX3_becomeSaturated_10 rfl (lv_at hl 2 rfl) ?_
  refine lv_bipush (v := 8) hx hb dX3_becomeSaturated_11 (by decide) ?_
  refine lv_icmp_ge (tgt := 49) hx hb dX3_becomeSaturated_13 (by decide) (fun q202 => ?_) (fun q202 => ?_)
  · replace hf := brT hf q202
    obtain rfl := rt1 hf
    exact g_vret X hH hS dX3_becomeSaturated_49
  · replace hf := brF hf q202
    refine lv_aload_n hx hb dX3_becomeSaturated_16 rfl (lv_at hl 0 rfl) ?_
    refine g_get (v := .ref (B + (k0 + 1))) kX3 (by decide) fl_RX3_9 X.1 hH h0 (cRef h0) dX3_becomeSaturated_17 ?_
    refine lv_iload_n hx hb dX3_becomeSaturated_20 rfl (lv_at hl 2 rfl) ?_
    refine lv_aload_n hx hb dX3_becomeSaturated_21 rfl (lv_at hl 0 rfl) ?_
    refine g_get (v := .long (σ.2 k0 2)) kX3 (by decide) fl_RX3_25 X.1 hH h0 rfl dX3_becomeSaturated_22 ?_
    refine lv_lneg hx hb dX3_becomeSaturated_25 ?_
    refine lv_aload_n hx hb dX3_becomeSaturated_26 rfl (lv_at hl 0 rfl) ?_
    refine g_get (v := .long (σ.2 k0 2)) kX3 (by decide) fl_RX3_25 X.1 hH h0 rfl dX3_becomeSaturated_27 ?_
    refine lv_aload_n hx hb dX3_becomeSaturated_30 rfl (lv_at hl 1 rfl) ?_
    refine g_get (v := .ref (B + (k1 + 1))) kX3 (by decide) fl_RX3_9 X.1 hH h1 (cRef h1) dX3_becomeSaturated_31 ?_
    refine lv_iload_n hx hb dX3_becomeSaturated_34 rfl (lv_at hl 2 rfl) ?_
    obtain ⟨q203, hf⟩ := chk hf
    refine g_lald (j := v2.toNatClampNeg) X.1 hH (cArr h1) q203 rfl dX3_becomeSaturated_35 ?_
    refine g_min X.1 mt_RX3_50 (by decide) hl (Nat.le_of_ble_eq_true rfl) dX3_becomeSaturated_36 ?_
    refine g_max X.1 mt_RX3_54 (by decide) hl (Nat.le_of_ble_eq_true rfl) dX3_becomeSaturated_39 ?_
    obtain ⟨q204, hf⟩ := chk hf
    refine g_last (j := v2.toNatClampNeg) X.1 hH hS (cArr h0) q204 rfl dX3_becomeSaturated_42 (fun H locs hH hS => ?_)
    obtain ⟨σ205, eσ205, hH⟩ := nmX hH
    replace hf := nmU hf eσ205
    refine lv_iinc (v := (v2 + (1 : Int32))) (lv' := [(2, .int (v2 + (1 : Int32))), (0, .ref (B + k0)), (1, .ref (B + k1))]) hx hb dX3_becomeSaturated_43 hl (k := 2) rfl rfl (by decide) rfl (fun ls hl => ?_)
    refine lv_goto (tgt := 10) hx hb dX3_becomeSaturated_46 (by decide) ?_
    exact ih10 (v2 + (1 : Int32)) σ205 _ _ _ hf hH hS (lv_sub hl [1, 2, 0] rfl)
def l_X3_becomeSaturated_10 (k0 : Nat) (k1 : Nat) : Nat → Int32 → Sto → Option (Sto)
  | 0, _, _ => none
  | n + 1, v2, σ => b_X3_becomeSaturated_10 (l_X3_becomeSaturated_10 k0 k1 n) k0 k1 v2 σ
set_option maxHeartbeats 4000000 in
set_option maxRecDepth 100000 in
theorem wl_X3_becomeSaturated_10 {p : Program} {l : Launch} {e : Env} {s : State} {m : MethodId} {args : Array Value} {below : List Frame} {meth : Method} {c : Code} {G : Gd} {B : Nat} (X : Cm p s m args meth c cX3_becomeSaturated 3 RX3 G none) (k0 : Nat) (k1 : Nat) (h0 : (k0 < layX.2.2 ∧ layX.1 k0 = .inl 3)) (h1 : (k1 < layX.2.2 ∧ layX.1 k1 = .inl 3)) {σr : Sto} (n : Nat) : ∀ (v2 : Int32) (σ : Sto) (H : Heap) (locs : List Loc) (ls : Array Slot), l_X3_becomeSaturated_10 k0 k1 n v2 σ = some σr → HX G layX B σ H → va_S (inW layX B) s.heap H locs → lv_has ls 3 [(0, .ref (B + k0)), (1, .ref (B + k1)), (2, .int v2)] → WM p l e 1 s m args below meth c H locs G layX B none σr (F0 m 10 ls []) := by
  induction n with
  | zero =>
    intro _ σ H locs ls hf
    cases hf
  | succ n ih =>
    intro v2 σ H locs ls hf hH hS hl
    exact w_X3_becomeSaturated_10 X (l_X3_becomeSaturated_10 k0 k1 n) k0 k1 h0 h1 ih v2 σ hf H locs hH hS ls hl
def f_X3_becomeSaturated (k0 : Nat) (k1 : Nat) (σ : Sto) : Option (Sto) :=
  nmS (pL σ k0 2 (σ.2 k1 2)) fun σ101 => l_X3_becomeSaturated_10 k0 k1 400 (0 : Int32) σ101
set_option maxHeartbeats 4000000 in
set_option maxRecDepth 100000 in
theorem w_X3_becomeSaturated {p : Program} {l : Launch} {e : Env} {s : State} {m : MethodId} {args : Array Value} {below : List Frame} {meth : Method} {c : Code} {G : Gd} {B : Nat} (X : Cm p s m args meth c cX3_becomeSaturated 3 RX3 G none) (k0 : Nat) (k1 : Nat) (h0 : (k0 < layX.2.2 ∧ layX.1 k0 = .inl 3)) (h1 : (k1 < layX.2.2 ∧ layX.1 k1 = .inl 3)) {σr : Sto} (σ : Sto) (hf : f_X3_becomeSaturated k0 k1 σ = some σr) (H : Heap) (locs : List Loc) (hH : HX G layX B σ H) (hS : va_S (inW layX B) s.heap H locs) (ls : Array Slot) (hl : lv_has ls 3 [(0, .ref (B + k0)), (1, .ref (B + k1))]) : WM p l e 1 s m args below meth c H locs G layX B none σr (F0 m 0 ls []) := by
  unfold f_X3_becomeSaturated at hf
  have hx := X.1.1
  have hb := X.1.2.1
  refine lv_aload_n hx hb dX3_becomeSaturated_0 rfl (lv_at hl 0 rfl) ?_
  refine lv_aload_n hx hb dX3_becomeSaturated_1 rfl (lv_at hl 1 rfl) ?_
  refine g_get (v := .long (σ.2 k1 2)) kX3 (by decide) fl_RX3_25 X.1 hH h1 rfl dX3_becomeSaturated_2 ?_
  refine g_putL kX3 (by decide) fl_RX3_25 rfl rfl X.1 hH hS h0 dX3_becomeSaturated_5 (fun H locs hH hS => ?_)
  obtain ⟨σ101, eσ101, hH⟩ := nmX hH
  replace hf := nmU hf eσ101
  refine lv_iconst (v := 0) hx hb dX3_becomeSaturated_8 (by decide) ?_
  refine lv_istore_n (lv' := [(2, .int (0 : Int32)), (0, .ref (B + k0)), (1, .ref (B + k1))]) hx hb dX3_becomeSaturated_9 rfl hl (by decide) rfl (fun ls hl => ?_)
  exact wl_X3_becomeSaturated_10 X k0 k1 h0 h1 400 (0 : Int32) σ101 _ _ _ hf hH hS (lv_sub hl [1, 2, 0] rfl)
theorem c_X3_becomeSaturated (l : Launch) (G : Gd) (B : Nat) (k0 : Nat) (h0 : (k0 < layX.2.2 ∧ layX.1 k0 = .inl 3)) (k1 : Nat) (h1 : (k1 < layX.2.2 ∧ layX.1 k1 = .inl 3)) (σ σr : Sto) (hf : f_X3_becomeSaturated k0 k1 σ = some σr) : Ct l G layX B yX3_becomeSaturated cX3_becomeSaturated 3 none 1 [.ref (B + k0), .ref (B + k1)] none σ σr :=
  Ct.ofW (by decide) (Nat.le_of_ble_eq_true rfl) (fun _ _ _ _ _ _ _ X hH hS ls hl => w_X3_becomeSaturated X k0 k1 h0 h1 σ hf _ _ hH hS ls (show lv_has ls 3 [(0, .ref (B + k0)), (1, .ref (B + k1))] from hl))
-- SlackProofs$Clause.splitUp(JI)J  (D 0)
def b_X3_splitUp_38 (s0 : Int64) (σ : Sto) : Option (Int64 × Sto) :=
  some (s0, σ)
set_option maxHeartbeats 4000000 in
set_option maxRecDepth 100000 in
theorem w_X3_splitUp_38 {p : Program} {l : Launch} {e : Env} {s : State} {m : MethodId} {args : Array Value} {below : List Frame} {meth : Method} {c : Code} {G : Gd} {B : Nat} (X : Cm p s m args meth c cX3_splitUp 5 RX3 G (some .long)) {r : Int64} {σr : Sto} (s0 : Int64) (σ : Sto) (hf : b_X3_splitUp_38 s0 σ = some (r, σr)) (H : Heap) (locs : List Loc) (hH : HX G layX B σ H) (hS : va_S (inW layX B) s.heap H locs) (ls : Array Slot) (hl : lv_has ls 5 []) : WM p l e 0 s m args below meth c H locs G layX B (some (.long r)) σr (F0 m 38 ls [.long s0]) := by
  unfold b_X3_splitUp_38 at hf
  have hx := X.1.1
  have hb := X.1.2.1
  obtain ⟨rfl, rfl⟩ := rt2 hf
  exact g_lret X hH hS dX3_splitUp_38
def f_X3_splitUp (x0 : Int64) (x2 : Int32) (σ : Sto) : Option (Int64 × Sto) :=
  if (1 : Int32) ≤ x2 then (if x2.toInt64 = 0 then none else nmS (x0 / x2.toInt64) fun y103 => if x2.toInt64 = 0 then none else if (x0 - x0 / x2.toInt64 * x2.toInt64) = (0 : Int64) then (some (y103, σ)) else (if x0 ≤ (0 : Int64) then (b_X3_splitUp_38 (y103 - (1 : Int64)) σ) else (b_X3_splitUp_38 (y103 + (1 : Int64)) σ))) else (some (x0, σ))
set_option maxHeartbeats 4000000 in
set_option maxRecDepth 100000 in
theorem w_X3_splitUp {p : Program} {l : Launch} {e : Env} {s : State} {m : MethodId} {args : Array Value} {below : List Frame} {meth : Method} {c : Code} {G : Gd} {B : Nat} (X : Cm p s m args meth c cX3_splitUp 5 RX3 G (some .long)) {r : Int64} {σr : Sto} (x0 : Int64) (x2 : Int32) (σ : Sto) (hf : f_X3_splitUp x0 x2 σ = some (r, σr)) (H : Heap) (locs : List Loc) (hH : HX G layX B σ H) (hS : va_S (inW layX B) s.heap H locs) (ls : Array Slot) (hl : lv_has ls 5 [(0, .long x0), (2, .int x2)]) : WM p l e 0 s m args below meth c H locs G layX B (some (.long r)) σr (F0 m 0 ls []) := by
  unfold f_X3_splitUp at hf
  have hx := X.1.1
  have hb := X.1.2.1
  refine lv_iload_n hx hb dX3_splitUp_0 rfl (lv_at hl 1 rfl) ?_
  refine lv_iconst (v := 1) hx hb dX3_splitUp_1 (by decide) ?_
  refine lv_icmp_ge (tgt := 7) hx hb dX3_splitUp_2 (by decide) (fun q101 => ?_) (fun q101 => ?_)
  · replace hf := brT hf q101
    refine lv_lload_n hx hb dX3_splitUp_7 rfl (lv_at hl 0 rfl) ?_
    refine lv_iload_n hx hb dX3_splitUp_8 rfl (lv_at hl 1 rfl) ?_
    refine lv_i2l hx hb dX3_splitUp_9 rfl ?_
    obtain ⟨q102, hf⟩ := chk hf
    refine lv_ldiv hx hb dX3_splitUp_10 q102 ?_
    refine lv_topl (fun y103 ey103 => ?_)
    replace hf := nmU hf ey103
    refine lv_lstore_n (lv' := [(3, .long y103), (0, .long x0), (2, .int x2)]) hx hb dX3_splitUp_11 rfl hl (by decide) rfl (fun ls hl => ?_)
    refine lv_lload_n hx hb dX3_splitUp_12 rfl (lv_at hl 1 rfl) ?_
    refine lv_iload_n hx hb dX3_splitUp_13 rfl (lv_at hl 2 rfl) ?_
    refine lv_i2l hx hb dX3_splitUp_14 rfl ?_
    obtain ⟨q104, hf⟩ := chk hf
    refine lv_lrem hx hb dX3_splitUp_15 q104 ?_
    refine lv_lconst (v := 0) hx hb dX3_splitUp_16 (by decide) ?_
    refine g_lne (tgt := 23) X.1 dX3_splitUp_17 dX3_splitUp_18 (by decide) (fun q105 => ?_) (fun q105 => ?_)
    · replace hf := brF hf q105
      refine lv_lload_n hx hb dX3_splitUp_23 rfl (lv_at hl 1 rfl) ?_
      refine lv_lconst (v := 0) hx hb dX3_splitUp_24 (by decide) ?_
      refine g_lle (tgt := 35) X.1 dX3_splitUp_25 dX3_splitUp_26 (by decide) (fun q106 => ?_) (fun q106 => ?_)
      · replace hf := brT hf q106
        refine lv_lload_n hx hb dX3_splitUp_35 rfl (lv_at hl 0 rfl) ?_
        refine lv_lconst (v := 1) hx hb dX3_splitUp_36 (by decide) ?_
        refine lv_lsub hx hb dX3_splitUp_37 ?_
        exact w_X3_splitUp_38 X (y103 - (1 : Int64)) σ hf _ _ hH hS _ (lv_sub hl [] rfl)
      · replace hf := brF hf q106
        refine lv_lload_n hx hb dX3_splitUp_29 rfl (lv_at hl 0 rfl) ?_
        refine lv_lconst (v := 1) hx hb dX3_splitUp_30 (by decide) ?_
        refine lv_ladd hx hb dX3_splitUp_31 ?_
        refine lv_goto (tgt := 38) hx hb dX3_splitUp_32 (by decide) ?_
        exact w_X3_splitUp_38 X (y103 + (1 : Int64)) σ hf _ _ hH hS _ (lv_sub hl [] rfl)
    · replace hf := brT hf q105
      refine lv_lload_n hx hb dX3_splitUp_21 rfl (lv_at hl 0 rfl) ?_
      obtain ⟨rfl, rfl⟩ := rt2 hf
      exact g_lret X hH hS dX3_splitUp_22
  · replace hf := brF hf q101
    refine lv_lload_n hx hb dX3_splitUp_5 rfl (lv_at hl 0 rfl) ?_
    obtain ⟨rfl, rfl⟩ := rt2 hf
    exact g_lret X hH hS dX3_splitUp_6
theorem c_X3_splitUp (l : Launch) (G : Gd) (B : Nat) (x0 : Int64) (x2 : Int32) (σ σr : Sto) (r : Int64) (hf : f_X3_splitUp x0 x2 σ = some (r, σr)) : Ct l G layX B yX3_splitUp cX3_splitUp 5 (some .long) 0 [.long x0, .int x2] (some (.long r)) σ σr :=
  Ct.ofW (by decide) (Nat.le_of_ble_eq_true rfl) (fun _ _ _ _ _ _ _ X hH hS ls hl => w_X3_splitUp X x0 x2 σ hf _ _ hH hS ls (show lv_has ls 5 [(0, .long x0), (2, .int x2)] from hl))
-- SlackProofs$Clause.becomeSplit(LSlackProofs$Clause;I)V  (D 1)
def b_X3_becomeSplit_14 (c14 : Int32 → Int32 → Sto → Option (Sto)) (k0 : Nat) (k1 : Nat) (v2 : Int32) (v3 : Int32) (σ : Sto) : Option (Sto) :=
  if (8 : Int32) ≤ v3 then (some σ) else (if (v3 < 0 ∨ 8 ≤ v3.toNatClampNeg) then none else bd2 (f_X3_splitUp (σ.2 (k1 + 1) v3.toNatClampNeg) v2 σ) fun r207 σ206 => if (v3 < 0 ∨ 8 ≤ v3.toNatClampNeg) then none else nmS (pL σ206 (k0 + 1) v3.toNatClampNeg r207) fun σ209 => c14 v2 (v3 + (1 : Int32)) σ209)
set_option maxHeartbeats 4000000 in
set_option maxRecDepth 100000 in
theorem w_X3_becomeSplit_14 {p : Program} {l : Launch} {e : Env} {s : State} {m : MethodId} {args : Array Value} {below : List Frame} {meth : Method} {c : Code} {G : Gd} {B : Nat} (X : Cm p s m args meth c cX3_becomeSplit 4 RX3 G none) (c14 : Int32 → Int32 → Sto → Option (Sto)) (k0 : Nat) (k1 : Nat) (h0 : (k0 < layX.2.2 ∧ layX.1 k0 = .inl 3)) (h1 : (k1 < layX.2.2 ∧ layX.1 k1 = .inl 3)) {σr : Sto} (ih14 : ∀ (v2 : Int32) (v3 : Int32) (σ : Sto) (H : Heap) (locs : List Loc) (ls : Array Slot), c14 v2 v3 σ = some σr → HX G layX B σ H → va_S (inW layX B) s.heap H locs → lv_has ls 4 [(0, .ref (B + k0)), (1, .ref (B + k1)), (2, .int v2), (3, .int v3)] → WM p l e 1 s m args below meth c H locs G layX B none σr (F0 m 14 ls [])) (v2 : Int32) (v3 : Int32) (σ : Sto) (hf : b_X3_becomeSplit_14 c14 k0 k1 v2 v3 σ = some σr) (H : Heap) (locs : List Loc) (hH : HX G layX B σ H) (hS : va_S (inW layX B) s.heap H locs) (ls : Array Slot) (hl : lv_has ls 4 [(0, .ref (B + k0)), (1, .ref (B + k1)), (2, .int v2), (3, .int v3)]) : WM p l e 1 s m args below meth c H locs G layX B none σr (F0 m 14 ls []) := by
  unfold b_X3_becomeSplit_14 at hf
  have hx := X.1.1
  have hb := X.1.2.1
  refine lv_iload_n hx hb dX3_becomeSplit_14 rfl (lv_at hl 3 rfl) ?_
  refine lv_bipush (v := 8) hx hb dX3_becomeSplit_15 (by decide) ?_
  refine lv_icmp_ge (tgt := 42) hx hb dX3_becomeSplit_17 (by decide) (fun q204 => ?_) (fun q204 => ?_)
  · replace hf := brT hf q204
    obtain rfl := rt1 hf
    exact g_vret X hH hS dX3_becomeSplit_42
  · replace hf := brF hf q204
    refine lv_aload_n hx hb dX3_becomeSplit_20 rfl (lv_at hl 0 rfl) ?_
    refine g_get (v := .ref (B + (k0 + 1))) kX3 (by decide) fl_RX3_9 X.1 hH h0 (cRef h0) dX3_becomeSplit_21 ?_
    refine lv_iload_n hx hb dX3_becomeSplit_24 rfl (lv_at hl 3 rfl) ?_
    refine lv_aload_n hx hb dX3_becomeSplit_25 rfl (lv_at hl 1 rfl) ?_
    refine g_get (v := .ref (B + (k1 + 1))) kX3 (by decide) fl_RX3_9 X.1 hH h1 (cRef h1) dX3_becomeSplit_26 ?_
    refine lv_iload_n hx hb dX3_becomeSplit_29 rfl (lv_at hl 3 rfl) ?_
    obtain ⟨q205, hf⟩ := chk hf
    refine g_lald (j := v3.toNatClampNeg) X.1 hH (cArr h1) q205 rfl dX3_becomeSplit_30 ?_
    refine lv_iload_n hx hb dX3_becomeSplit_31 rfl (lv_at hl 2 rfl) ?_
    obtain ⟨r207, σ206, eσ206, hf⟩ := bnd2 hf
    refine g_cSl (As := [.long (σ.2 (k1 + 1) v3.toNatClampNeg), .int v2]) X.1 hH hS (c_X3_splitUp l G B (σ.2 (k1 + 1) v3.toNatClampNeg) v2 σ σ206 r207 eσ206) kw_RX3_57 (by decide) rfl hl (Nat.le_of_ble_eq_true rfl) rfl dX3_becomeSplit_32 (fun H locs hH hS => ?_)
    obtain ⟨q208, hf⟩ := chk hf
    refine g_last (j := v3.toNatClampNeg) X.1 hH hS (cArr h0) q208 rfl dX3_becomeSplit_35 (fun H locs hH hS => ?_)
    obtain ⟨σ209, eσ209, hH⟩ := nmX hH
    replace hf := nmU hf eσ209
    refine lv_iinc (v := (v3 + (1 : Int32))) (lv' := [(3, .int (v3 + (1 : Int32))), (0, .ref (B + k0)), (1, .ref (B + k1)), (2, .int v2)]) hx hb dX3_becomeSplit_36 hl (k := 3) rfl rfl (by decide) rfl (fun ls hl => ?_)
    refine lv_goto (tgt := 14) hx hb dX3_becomeSplit_39 (by decide) ?_
    exact ih14 v2 (v3 + (1 : Int32)) σ209 _ _ _ hf hH hS (lv_sub hl [1, 2, 3, 0] rfl)
def l_X3_becomeSplit_14 (k0 : Nat) (k1 : Nat) : Nat → Int32 → Int32 → Sto → Option (Sto)
  | 0, _, _, _ => none
  | n + 1, v2, v3, σ => b_X3_becomeSplit_14 (l_X3_becomeSplit_14 k0 k1 n) k0 k1 v2 v3 σ
set_option maxHeartbeats 4000000 in
set_option maxRecDepth 100000 in
theorem wl_X3_becomeSplit_14 {p : Program} {l : Launch} {e : Env} {s : State} {m : MethodId} {args : Array Value} {below : List Frame} {meth : Method} {c : Code} {G : Gd} {B : Nat} (X : Cm p s m args meth c cX3_becomeSplit 4 RX3 G none) (k0 : Nat) (k1 : Nat) (h0 : (k0 < layX.2.2 ∧ layX.1 k0 = .inl 3)) (h1 : (k1 < layX.2.2 ∧ layX.1 k1 = .inl 3)) {σr : Sto} (n : Nat) : ∀ (v2 : Int32) (v3 : Int32) (σ : Sto) (H : Heap) (locs : List Loc) (ls : Array Slot), l_X3_becomeSplit_14 k0 k1 n v2 v3 σ = some σr → HX G layX B σ H → va_S (inW layX B) s.heap H locs → lv_has ls 4 [(0, .ref (B + k0)), (1, .ref (B + k1)), (2, .int v2), (3, .int v3)] → WM p l e 1 s m args below meth c H locs G layX B none σr (F0 m 14 ls []) := by
  induction n with
  | zero =>
    intro _ _ σ H locs ls hf
    cases hf
  | succ n ih =>
    intro v2 v3 σ H locs ls hf hH hS hl
    exact w_X3_becomeSplit_14 X (l_X3_becomeSplit_14 k0 k1 n) k0 k1 h0 h1 ih v2 v3 σ hf H locs hH hS ls hl
def f_X3_becomeSplit (k0 : Nat) (k1 : Nat) (x2 : Int32) (σ : Sto) : Option (Sto) :=
  bd2 (f_X3_splitUp (σ.2 k1 2) x2 σ) fun r102 σ101 => nmS (pL σ101 k0 2 r102) fun σ103 => l_X3_becomeSplit_14 k0 k1 400 x2 (0 : Int32) σ103
set_option maxHeartbeats 4000000 in
set_option maxRecDepth 100000 in
theorem w_X3_becomeSplit {p : Program} {l : Launch} {e : Env} {s : State} {m : MethodId} {args : Array Value} {below : List Frame} {meth : Method} {c : Code} {G : Gd} {B : Nat} (X : Cm p s m args meth c cX3_becomeSplit 4 RX3 G none) (k0 : Nat) (k1 : Nat) (h0 : (k0 < layX.2.2 ∧ layX.1 k0 = .inl 3)) (h1 : (k1 < layX.2.2 ∧ layX.1 k1 = .inl 3)) {σr : Sto} (x2 : Int32) (σ : Sto) (hf : f_X3_becomeSplit k0 k1 x2 σ = some σr) (H : Heap) (locs : List Loc) (hH : HX G layX B σ H) (hS : va_S (inW layX B) s.heap H locs) (ls : Array Slot) (hl : lv_has ls 4 [(0, .ref (B + k0)), (1, .ref (B + k1)), (2, .int x2)]) : WM p l e 1 s m args below meth c H locs G layX B none σr (F0 m 0 ls []) := by
  unfold f_X3_becomeSplit at hf
  have hx := X.1.1
  have hb := X.1.2.1
  refine lv_aload_n hx hb dX3_becomeSplit_0 rfl (lv_at hl 0 rfl) ?_
  refine lv_aload_n hx hb dX3_becomeSplit_1 rfl (lv_at hl 1 rfl) ?_
  refine g_get (v := .long (σ.2 k1 2)) kX3 (by decide) fl_RX3_25 X.1 hH h1 rfl dX3_becomeSplit_2 ?_
  refine lv_iload_n hx hb dX3_becomeSplit_5 rfl (lv_at hl 2 rfl) ?_
  obtain ⟨r102, σ101, eσ101, hf⟩ := bnd2 hf
  refine g_cSl (As := [.long (σ.2 k1 2), .int x2]) X.1 hH hS (c_X3_splitUp l G B (σ.2 k1 2) x2 σ σ101 r102 eσ101) kw_RX3_57 (by decide) rfl hl (Nat.le_of_ble_eq_true rfl) rfl dX3_becomeSplit_6 (fun H locs hH hS => ?_)
  refine g_putL kX3 (by decide) fl_RX3_25 rfl rfl X.1 hH hS h0 dX3_becomeSplit_9 (fun H locs hH hS => ?_)
  obtain ⟨σ103, eσ103, hH⟩ := nmX hH
  replace hf := nmU hf eσ103
  refine lv_iconst (v := 0) hx hb dX3_becomeSplit_12 (by decide) ?_
  refine lv_istore_n (lv' := [(3, .int (0 : Int32)), (0, .ref (B + k0)), (1, .ref (B + k1)), (2, .int x2)]) hx hb dX3_becomeSplit_13 rfl hl (by decide) rfl (fun ls hl => ?_)
  exact wl_X3_becomeSplit_14 X k0 k1 h0 h1 400 x2 (0 : Int32) σ103 _ _ _ hf hH hS (lv_sub hl [1, 2, 3, 0] rfl)
theorem c_X3_becomeSplit (l : Launch) (G : Gd) (B : Nat) (k0 : Nat) (h0 : (k0 < layX.2.2 ∧ layX.1 k0 = .inl 3)) (k1 : Nat) (h1 : (k1 < layX.2.2 ∧ layX.1 k1 = .inl 3)) (x2 : Int32) (σ σr : Sto) (hf : f_X3_becomeSplit k0 k1 x2 σ = some σr) : Ct l G layX B yX3_becomeSplit cX3_becomeSplit 4 none 1 [.ref (B + k0), .ref (B + k1), .int x2] none σ σr :=
  Ct.ofW (by decide) (Nat.le_of_ble_eq_true rfl) (fun _ _ _ _ _ _ _ X hH hS ls hl => w_X3_becomeSplit X k0 k1 h0 h1 x2 σ hf _ _ hH hS ls (show lv_has ls 4 [(0, .ref (B + k0)), (1, .ref (B + k1)), (2, .int x2)] from hl))
-- SlackProofs$Clause.becomeTimes(LSlackProofs$Clause;I)Z  (D 1)
def b_X3_becomeTimes_39 (c39 : Int32 → Int64 → Int32 → Sto → Option (Int32 × Sto)) (k0 : Nat) (k1 : Nat) (v2 : Int32) (v3 : Int64) (v5 : Int32) (σ : Sto) : Option (Int32 × Sto) :=
  if (8 : Int32) ≤ v5 then (some ((1 : Int32), σ)) else (if (v5 < 0 ∨ 8 ≤ v5.toNatClampNeg) then none else if (mabs (σ.2 (k1 + 1) v5.toNatClampNeg)) ≤ v3 then (if (v5 < 0 ∨ 8 ≤ v5.toNatClampNeg) then none else if (v5 < 0 ∨ 8 ≤ v5.toNatClampNeg) then none else nmS (pL σ (k0 + 1) v5.toNatClampNeg ((σ.2 (k1 + 1) v5.toNatClampNeg) * v2.toInt64)) fun σ211 => c39 v2 v3 (v5 + (1 : Int32)) σ211) else (some ((0 : Int32), σ)))
set_option maxHeartbeats 4000000 in
set_option maxRecDepth 100000 in
theorem w_X3_becomeTimes_39 {p : Program} {l : Launch} {e : Env} {s : State} {m : MethodId} {args : Array Value} {below : List Frame} {meth : Method} {c : Code} {G : Gd} {B : Nat} (X : Cm p s m args meth c cX3_becomeTimes 6 RX3 G (some .boolean)) (c39 : Int32 → Int64 → Int32 → Sto → Option (Int32 × Sto)) (k0 : Nat) (k1 : Nat) (h0 : (k0 < layX.2.2 ∧ layX.1 k0 = .inl 3)) (h1 : (k1 < layX.2.2 ∧ layX.1 k1 = .inl 3)) {r : Int32} {σr : Sto} (ih39 : ∀ (v2 : Int32) (v3 : Int64) (v5 : Int32) (σ : Sto) (H : Heap) (locs : List Loc) (ls : Array Slot), c39 v2 v3 v5 σ = some (r, σr) → HX G layX B σ H → va_S (inW layX B) s.heap H locs → lv_has ls 6 [(0, .ref (B + k0)), (1, .ref (B + k1)), (2, .int v2), (3, .long v3), (5, .int v5)] → WM p l e 1 s m args below meth c H locs G layX B (some (.int r)) σr (F0 m 39 ls [])) (v2 : Int32) (v3 : Int64) (v5 : Int32) (σ : Sto) (hf : b_X3_becomeTimes_39 c39 k0 k1 v2 v3 v5 σ = some (r, σr)) (H : Heap) (locs : List Loc) (hH : HX G layX B σ H) (hS : va_S (inW layX B) s.heap H locs) (ls : Array Slot) (hl : lv_has ls 6 [(0, .ref (B + k0)), (1, .ref (B + k1)), (2, .int v2), (3, .long v3), (5, .int v5)]) : WM p l e 1 s m args below meth c H locs G layX B (some (.int r)) σr (F0 m 39 ls []) := by
  unfold b_X3_becomeTimes_39 at hf
  have hx := X.1.1
  have hb := X.1.2.1
  refine lv_iload hx hb dX3_becomeTimes_39 (lv_at hl 4 rfl) ?_
  refine lv_bipush (v := 8) hx hb dX3_becomeTimes_41 (by decide) ?_
  refine lv_icmp_ge (tgt := 86) hx hb dX3_becomeTimes_43 (by decide) (fun q206 => ?_) (fun q206 => ?_)
  · replace hf := brT hf q206
    refine lv_iconst (v := 1) hx hb dX3_becomeTimes_86 (by decide) ?_
    obtain ⟨rfl, rfl⟩ := rt2 hf
    exact g_zret X hH hS (by decide) dX3_becomeTimes_87
  · replace hf := brF hf q206
    refine lv_aload_n hx hb dX3_becomeTimes_46 rfl (lv_at hl 1 rfl) ?_
    refine g_get (v := .ref (B + (k1 + 1))) kX3 (by decide) fl_RX3_9 X.1 hH h1 (cRef h1) dX3_becomeTimes_47 ?_
    refine lv_iload hx hb dX3_becomeTimes_50 (lv_at hl 4 rfl) ?_
    obtain ⟨q207, hf⟩ := chk hf
    refine g_lald (j := v5.toNatClampNeg) X.1 hH (cArr h1) q207 rfl dX3_becomeTimes_52 ?_
    refine g_abs X.1 mt_RX3_44 (by decide) hl (Nat.le_of_ble_eq_true rfl) dX3_becomeTimes_53 ?_
    refine lv_lload_n hx hb dX3_becomeTimes_56 rfl (lv_at hl 3 rfl) ?_
    refine g_lle (tgt := 63) X.1 dX3_becomeTimes_57 dX3_becomeTimes_58 (by decide) (fun q208 => ?_) (fun q208 => ?_)
    · replace hf := brT hf q208
      refine lv_aload_n hx hb dX3_becomeTimes_63 rfl (lv_at hl 0 rfl) ?_
      refine g_get (v := .ref (B + (k0 + 1))) kX3 (by decide) fl_RX3_9 X.1 hH h0 (cRef h0) dX3_becomeTimes_64 ?_
      refine lv_iload hx hb dX3_becomeTimes_67 (lv_at hl 4 rfl) ?_
      refine lv_aload_n hx hb dX3_becomeTimes_69 rfl (lv_at hl 1 rfl) ?_
      refine g_get (v := .ref (B + (k1 + 1))) kX3 (by decide) fl_RX3_9 X.1 hH h1 (cRef h1) dX3_becomeTimes_70 ?_
      refine lv_iload hx hb dX3_becomeTimes_73 (lv_at hl 4 rfl) ?_
      obtain ⟨q209, hf⟩ := chk hf
      refine g_lald (j := v5.toNatClampNeg) X.1 hH (cArr h1) q209 rfl dX3_becomeTimes_75 ?_
      refine lv_iload_n hx hb dX3_becomeTimes_76 rfl (lv_at hl 2 rfl) ?_
      refine lv_i2l hx hb dX3_becomeTimes_77 rfl ?_
      refine lv_lmul hx hb dX3_becomeTimes_78 ?_
      obtain ⟨q210, hf⟩ := chk hf
      refine g_last (j := v5.toNatClampNeg) X.1 hH hS (cArr h0) q210 rfl dX3_becomeTimes_79 (fun H locs hH hS => ?_)
      obtain ⟨σ211, eσ211, hH⟩ := nmX hH
      replace hf := nmU hf eσ211
      refine lv_iinc (v := (v5 + (1 : Int32))) (lv' := [(5, .int (v5 + (1 : Int32))), (0, .ref (B + k0)), (1, .ref (B + k1)), (2, .int v2), (3, .long v3)]) hx hb dX3_becomeTimes_80 hl (k := 4) rfl rfl (by decide) rfl (fun ls hl => ?_)
      refine lv_goto (tgt := 39) hx hb dX3_becomeTimes_83 (by decide) ?_
      exact ih39 v2 v3 (v5 + (1 : Int32)) σ211 _ _ _ hf hH hS (lv_sub hl [1, 2, 3, 4, 0] rfl)
    · replace hf := brF hf q208
      refine lv_iconst (v := 0) hx hb dX3_becomeTimes_61 (by decide) ?_
      obtain ⟨rfl, rfl⟩ := rt2 hf
      exact g_zret X hH hS (by decide) dX3_becomeTimes_62
def l_X3_becomeTimes_39 (k0 : Nat) (k1 : Nat) : Nat → Int32 → Int64 → Int32 → Sto → Option (Int32 × Sto)
  | 0, _, _, _, _ => none
  | n + 1, v2, v3, v5, σ => b_X3_becomeTimes_39 (l_X3_becomeTimes_39 k0 k1 n) k0 k1 v2 v3 v5 σ
set_option maxHeartbeats 4000000 in
set_option maxRecDepth 100000 in
theorem wl_X3_becomeTimes_39 {p : Program} {l : Launch} {e : Env} {s : State} {m : MethodId} {args : Array Value} {below : List Frame} {meth : Method} {c : Code} {G : Gd} {B : Nat} (X : Cm p s m args meth c cX3_becomeTimes 6 RX3 G (some .boolean)) (k0 : Nat) (k1 : Nat) (h0 : (k0 < layX.2.2 ∧ layX.1 k0 = .inl 3)) (h1 : (k1 < layX.2.2 ∧ layX.1 k1 = .inl 3)) {r : Int32} {σr : Sto} (n : Nat) : ∀ (v2 : Int32) (v3 : Int64) (v5 : Int32) (σ : Sto) (H : Heap) (locs : List Loc) (ls : Array Slot), l_X3_becomeTimes_39 k0 k1 n v2 v3 v5 σ = some (r, σr) → HX G layX B σ H → va_S (inW layX B) s.heap H locs → lv_has ls 6 [(0, .ref (B + k0)), (1, .ref (B + k1)), (2, .int v2), (3, .long v3), (5, .int v5)] → WM p l e 1 s m args below meth c H locs G layX B (some (.int r)) σr (F0 m 39 ls []) := by
  induction n with
  | zero =>
    intro _ _ _ σ H locs ls hf
    cases hf
  | succ n ih =>
    intro v2 v3 v5 σ H locs ls hf hH hS hl
    exact w_X3_becomeTimes_39 X (l_X3_becomeTimes_39 k0 k1 n) k0 k1 h0 h1 ih v2 v3 v5 σ hf H locs hH hS ls hl
def f_X3_becomeTimes (k0 : Nat) (k1 : Nat) (x2 : Int32) (σ : Sto) : Option (Int32 × Sto) :=
  if (1 : Int32) ≤ x2 then (if x2.toInt64 = 0 then none else nmS ((9223372036854775807 : Int64) / x2.toInt64) fun y103 => if (σ.2 k1 2) ≤ y103 then (nmS (pL σ k0 2 ((σ.2 k1 2) * x2.toInt64)) fun σ105 => l_X3_becomeTimes_39 k0 k1 400 x2 y103 (0 : Int32) σ105) else (some ((0 : Int32), σ))) else (some ((0 : Int32), σ))
set_option maxHeartbeats 4000000 in
set_option maxRecDepth 100000 in
theorem w_X3_becomeTimes {p : Program} {l : Launch} {e : Env} {s : State} {m : MethodId} {args : Array Value} {below : List Frame} {meth : Method} {c : Code} {G : Gd} {B : Nat} (X : Cm p s m args meth c cX3_becomeTimes 6 RX3 G (some .boolean)) (k0 : Nat) (k1 : Nat) (h0 : (k0 < layX.2.2 ∧ layX.1 k0 = .inl 3)) (h1 : (k1 < layX.2.2 ∧ layX.1 k1 = .inl 3)) {r : Int32} {σr : Sto} (x2 : Int32) (σ : Sto) (hf : f_X3_becomeTimes k0 k1 x2 σ = some (r, σr)) (H : Heap) (locs : List Loc) (hH : HX G layX B σ H) (hS : va_S (inW layX B) s.heap H locs) (ls : Array Slot) (hl : lv_has ls 6 [(0, .ref (B + k0)), (1, .ref (B + k1)), (2, .int x2)]) : WM p l e 1 s m args below meth c H locs G layX B (some (.int r)) σr (F0 m 0 ls []) := by
  unfold f_X3_becomeTimes at hf
  have hx := X.1.1
  have hb := X.1.2.1
  refine lv_iload_n hx hb dX3_becomeTimes_0 rfl (lv_at hl 2 rfl) ?_
  refine lv_iconst (v := 1) hx hb dX3_becomeTimes_1 (by decide) ?_
  refine lv_icmp_ge (tgt := 7) hx hb dX3_becomeTimes_2 (by decide) (fun q101 => ?_) (fun q101 => ?_)
  · replace hf := brT hf q101
    refine lv_ldc2 (v := 9223372036854775807) hx hb X.1.2.2.2.1 (X.1.2.2.2.2.1 _ kc_RX3_38) dX3_becomeTimes_7 ?_
    refine lv_iload_n hx hb dX3_becomeTimes_10 rfl (lv_at hl 2 rfl) ?_
    refine lv_i2l hx hb dX3_becomeTimes_11 rfl ?_
    obtain ⟨q102, hf⟩ := chk hf
    refine lv_ldiv hx hb dX3_becomeTimes_12 q102 ?_
    refine lv_topl (fun y103 ey103 => ?_)
    replace hf := nmU hf ey103
    refine lv_lstore_n (lv' := [(3, .long y103), (0, .ref (B + k0)), (1, .ref (B + k1)), (2, .int x2)]) hx hb dX3_becomeTimes_13 rfl hl (by decide) rfl (fun ls hl => ?_)
    refine lv_aload_n hx hb dX3_becomeTimes_14 rfl (lv_at hl 2 rfl) ?_
    refine g_get (v := .long (σ.2 k1 2)) kX3 (by decide) fl_RX3_25 X.1 hH h1 rfl dX3_becomeTimes_15 ?_
    refine lv_lload_n hx hb dX3_becomeTimes_18 rfl (lv_at hl 0 rfl) ?_
    refine g_lle (tgt := 25) X.1 dX3_becomeTimes_19 dX3_becomeTimes_20 (by decide) (fun q104 => ?_) (fun q104 => ?_)
    · replace hf := brT hf q104
      refine lv_aload_n hx hb dX3_becomeTimes_25 rfl (lv_at hl 1 rfl) ?_
      refine lv_aload_n hx hb dX3_becomeTimes_26 rfl (lv_at hl 2 rfl) ?_
      refine g_get (v := .long (σ.2 k1 2)) kX3 (by decide) fl_RX3_25 X.1 hH h1 rfl dX3_becomeTimes_27 ?_
      refine lv_iload_n hx hb dX3_becomeTimes_30 rfl (lv_at hl 3 rfl) ?_
      refine lv_i2l hx hb dX3_becomeTimes_31 rfl ?_
      refine lv_lmul hx hb dX3_becomeTimes_32 ?_
      refine g_putL kX3 (by decide) fl_RX3_25 rfl rfl X.1 hH hS h0 dX3_becomeTimes_33 (fun H locs hH hS => ?_)
      obtain ⟨σ105, eσ105, hH⟩ := nmX hH
      replace hf := nmU hf eσ105
      refine lv_iconst (v := 0) hx hb dX3_becomeTimes_36 (by decide) ?_
      refine lv_istore (lv' := [(5, .int (0 : Int32)), (3, .long y103), (0, .ref (B + k0)), (1, .ref (B + k1)), (2, .int x2)]) hx hb dX3_becomeTimes_37 hl (by decide) rfl (fun ls hl => ?_)
      exact wl_X3_becomeTimes_39 X k0 k1 h0 h1 400 x2 y103 (0 : Int32) σ105 _ _ _ hf hH hS (lv_sub hl [2, 3, 4, 1, 0] rfl)
    · replace hf := brF hf q104
      refine lv_iconst (v := 0) hx hb dX3_becomeTimes_23 (by decide) ?_
      obtain ⟨rfl, rfl⟩ := rt2 hf
      exact g_zret X hH hS (by decide) dX3_becomeTimes_24
  · replace hf := brF hf q101
    refine lv_iconst (v := 0) hx hb dX3_becomeTimes_5 (by decide) ?_
    obtain ⟨rfl, rfl⟩ := rt2 hf
    exact g_zret X hH hS (by decide) dX3_becomeTimes_6
theorem c_X3_becomeTimes (l : Launch) (G : Gd) (B : Nat) (k0 : Nat) (h0 : (k0 < layX.2.2 ∧ layX.1 k0 = .inl 3)) (k1 : Nat) (h1 : (k1 < layX.2.2 ∧ layX.1 k1 = .inl 3)) (x2 : Int32) (σ σr : Sto) (r : Int32) (hf : f_X3_becomeTimes k0 k1 x2 σ = some (r, σr)) : Ct l G layX B yX3_becomeTimes cX3_becomeTimes 6 (some .boolean) 1 [.ref (B + k0), .ref (B + k1), .int x2] (some (.int r)) σ σr :=
  Ct.ofW (by decide) (Nat.le_of_ble_eq_true rfl) (fun _ _ _ _ _ _ _ X hH hS ls hl => w_X3_becomeTimes X k0 k1 h0 h1 x2 σ hf _ _ hH hS ls (show lv_has ls 6 [(0, .ref (B + k0)), (1, .ref (B + k1)), (2, .int x2)] from hl))
