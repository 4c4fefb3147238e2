-- SlackProofs.remove(I)I  (D 6)
def b_X7_remove_81 (v1 : Int32) (σ : Sto) : Option (Int32 × Sto) :=
  bd1 (f_X0_keep 33 σ) fun σ209 => nmS (pI σ209 33 4 ((σ209.1 33 4) &&& (((1 : Int32) <<< (v1 &&& 31)) ^^^ (-1 : Int32)))) fun σ211 => bd2 (f_J6_bitCount_0f7a4 (σ211.1 33 4) σ211) fun r213 σ212 => bd2 (f_X7_well r213 σ212) fun r215 σ214 => some (r215, σ214)
set_option maxHeartbeats 4000000 in
set_option maxRecDepth 100000 in
theorem w_X7_remove_81 {p : Program} {l : Launch} {e : Env} {s : State} {m : MethodId} {args : Array Value} {below : List Frame} {meth : Method} {c : Code} {G : Gd} {B : Nat} (X : Cm p s m args meth c cX7_remove 2 RX7 G (some .int)) {r : Int32} {σr : Sto} (v1 : Int32) (σ : Sto) (hf : b_X7_remove_81 v1 σ = some (r, σr)) (H : Heap) (locs : List Loc) (hH : HX G layX B σ H) (hS : va_S (inW layX B) s.heap H locs) (ls : Array Slot) (hl : lv_has ls 2 [(0, .ref (B + 0)), (1, .int v1)]) : WM p l e 6 s m args below meth c H locs G layX B (some (.int r)) σr (F0 m 81 ls []) := by
  unfold b_X7_remove_81 at hf
  have hx := X.1.1
  have hb := X.1.2.1
  refine lv_aload_n hx hb dX7_remove_81 rfl (lv_at hl 0 rfl) ?_
  refine g_get (v := .ref (B + 223)) kX7 (by decide) fl_RX7_37 X.1 hH kx_0 rfl dX7_remove_82 ?_
  refine lv_aload_n hx hb dX7_remove_85 rfl (lv_at hl 0 rfl) ?_
  refine g_get (v := .ref (B + 33)) kX7 (by decide) fl_RX7_26 X.1 hH kx_0 rfl dX7_remove_86 ?_
  obtain ⟨σ209, eσ209, hf⟩ := bnd1 hf
  refine g_cVv (As := [.ref (B + 33)]) X.1 hH hS (c_X0_keep l G B 33 kx_33 σ σ209 eσ209) kw_RX7_225 kX0 kx_223 (by decide) rfl hl (Nat.le_of_ble_eq_true rfl) rfl dX7_remove_89 (fun H locs hH hS => ?_)
  refine lv_aload_n hx hb dX7_remove_92 rfl (lv_at hl 0 rfl) ?_
  refine g_get (v := .ref (B + 33)) kX7 (by decide) fl_RX7_26 X.1 hH kx_0 rfl dX7_remove_93 ?_
  refine lv_dup hx hb dX7_remove_96 rfl ?_
  refine g_get (v := .int (σ209.1 33 4)) kX2 (by decide) fl_RX7_249 X.1 hH kx_33 rfl dX7_remove_97 ?_
  refine lv_iconst (v := 1) hx hb dX7_remove_100 (by decide) ?_
  refine lv_iload_n hx hb dX7_remove_101 rfl (lv_at hl 1 rfl) ?_
  refine lv_ishl hx hb dX7_remove_102 ?_
  refine lv_iconst (v := -1) hx hb dX7_remove_103 (by decide) ?_
  refine lv_ixor hx hb dX7_remove_104 ?_
  refine lv_iand hx hb dX7_remove_105 ?_
  refine g_putI kX2 (by decide) fl_RX7_249 rfl rfl X.1 hH hS kx_33 dX7_remove_106 (fun H locs hH hS => ?_)
  obtain ⟨σ211, eσ211, hH⟩ := nmX hH
  replace hf := nmU hf eσ211
  refine lv_aload_n hx hb dX7_remove_109 rfl (lv_at hl 0 rfl) ?_
  refine lv_aload_n hx hb dX7_remove_110 rfl (lv_at hl 0 rfl) ?_
  refine g_get (v := .ref (B + 33)) kX7 (by decide) fl_RX7_26 X.1 hH kx_0 rfl dX7_remove_111 ?_
  refine g_get (v := .int (σ211.1 33 4)) kX2 (by decide) fl_RX7_249 X.1 hH kx_33 rfl dX7_remove_114 ?_
  obtain ⟨r213, σ212, eσ212, hf⟩ := bnd2 hf
  refine g_cSi (As := [.int (σ211.1 33 4)]) X.1 hH hS (c_J6_bitCount_0f7a4 l G B (σ211.1 33 4) σ211 σ212 r213 eσ212) kw_RX7_252 (by decide) rfl hl (Nat.le_of_ble_eq_true rfl) rfl dX7_remove_117 (fun H locs hH hS => ?_)
  obtain ⟨r215, σ214, eσ214, hf⟩ := bnd2 hf
  refine g_cVi (As := [.int r213]) X.1 hH hS (c_X7_well l G B r213 σ212 σ214 r215 eσ214) kw_RX7_74 kX7 kx_0 (by decide) rfl hl (Nat.le_of_ble_eq_true rfl) rfl dX7_remove_120 (fun H locs hH hS => ?_)
  obtain ⟨rfl, rfl⟩ := rt2 hf
  exact g_iret X hH hS dX7_remove_123
def f_X7_remove (x1 : Int32) (σ : Sto) : Option (Int32 × Sto) :=
  if (σ.1 33 2) = 0 then (some ((-1000002 : Int32), σ)) else (bd2 (f_X2_has 33 x1 σ) fun r103 σ102 => if r103 = 0 then (some ((-1000001 : Int32), σ102)) else (if (x1 < 0 ∨ 30 ≤ x1.toNatClampNeg) then none else bd2 (f_X7_isOfKind (σ102.1 (36 + 2 * x1.toNatClampNeg) 3) (4 : Int32) σ102) fun r107 σ106 => if r107 = 0 then (bd2 (f_X2_isBeyond 33 σ106) fun r217 σ216 => if r217 = 0 then (bd2 (f_X4_followsFromOthers x1 σ216) fun r220 σ219 => if r220 = 0 then (bd2 (f_X7_well (-1000000 : Int32) σ219) fun r223 σ222 => some (r223, σ222)) else (b_X7_remove_81 x1 σ219)) else (bd2 (f_X7_found (6 : Int32) σ216) fun r225 σ224 => some (r225, σ224))) else (b_X7_remove_81 x1 σ106)))
set_option maxHeartbeats 4000000 in
set_option maxRecDepth 100000 in
theorem w_X7_remove {p : Program} {l : Launch} {e : Env} {s : State} {m : MethodId} {args : Array Value} {below : List Frame} {meth : Method} {c : Code} {G : Gd} {B : Nat} (X : Cm p s m args meth c cX7_remove 2 RX7 G (some .int)) {r : Int32} {σr : Sto} (x1 : Int32) (σ : Sto) (hf : f_X7_remove x1 σ = some (r, σr)) (H : Heap) (locs : List Loc) (hH : HX G layX B σ H) (hS : va_S (inW layX B) s.heap H locs) (ls : Array Slot) (hl : lv_has ls 2 [(0, .ref (B + 0)), (1, .int x1)]) : WM p l e 6 s m args below meth c H locs G layX B (some (.int r)) σr (F0 m 0 ls []) := by
  unfold f_X7_remove at hf
  have hx := X.1.1
  have hb := X.1.2.1
  refine lv_aload_n hx hb dX7_remove_0 rfl (lv_at hl 0 rfl) ?_
  refine g_get (v := .ref (B + 33)) kX7 (by decide) fl_RX7_26 X.1 hH kx_0 rfl dX7_remove_1 ?_
  refine g_get (v := .int (σ.1 33 2)) kX2 (by decide) fl_RX7_197 X.1 hH kx_33 rfl dX7_remove_4 ?_
  refine lv_if_ne (tgt := 13) hx hb dX7_remove_7 (by decide) (fun q101 => ?_) (fun q101 => ?_)
  · replace hf := brF hf q101
    refine lv_aload_n hx hb dX7_remove_13 rfl (lv_at hl 0 rfl) ?_
    refine g_get (v := .ref (B + 33)) kX7 (by decide) fl_RX7_26 X.1 hH kx_0 rfl dX7_remove_14 ?_
    refine lv_iload_n hx hb dX7_remove_17 rfl (lv_at hl 1 rfl) ?_
    obtain ⟨r103, σ102, eσ102, hf⟩ := bnd2 hf
    refine g_cVi (As := [.int x1]) X.1 hH hS (c_X2_has l G B 33 kx_33 x1 σ σ102 r103 eσ102) kw_RX7_156 kX2 kx_33 (by decide) rfl hl (Nat.le_of_ble_eq_true rfl) rfl dX7_remove_18 (fun H locs hH hS => ?_)
    refine lv_if_ne (tgt := 27) hx hb dX7_remove_21 (by decide) (fun q104 => ?_) (fun q104 => ?_)
    · replace hf := brF hf q104
      refine lv_aload_n hx hb dX7_remove_27 rfl (lv_at hl 0 rfl) ?_
      refine g_get (v := .ref (B + 33)) kX7 (by decide) fl_RX7_26 X.1 hH kx_0 rfl dX7_remove_28 ?_
      refine g_get (v := .ref (B + 34)) kX2 (by decide) fl_RX7_163 X.1 hH kx_33 rfl dX7_remove_31 ?_
      refine lv_iload_n hx hb dX7_remove_34 rfl (lv_at hl 1 rfl) ?_
      obtain ⟨q105, hf⟩ := chk hf
      refine g_aald (b := (36 + 2 * x1.toNatClampNeg)) X.1 hH kx_34 (by decide) q105 rfl dX7_remove_35 ?_
      refine g_get (v := .int (σ102.1 (36 + 2 * x1.toNatClampNeg) 3)) kX3 (by decide) fl_RX7_239 X.1 hH (kB33 q105) rfl dX7_remove_36 ?_
      refine lv_iconst (v := 4) hx hb dX7_remove_39 (by decide) ?_
      obtain ⟨r107, σ106, eσ106, hf⟩ := bnd2 hf
      refine g_cSi (As := [.int (σ102.1 (36 + 2 * x1.toNatClampNeg) 3), .int (4 : Int32)]) X.1 hH hS (c_X7_isOfKind l G B (σ102.1 (36 + 2 * x1.toNatClampNeg) 3) (4 : Int32) σ102 σ106 r107 eσ106) kw_RX7_242 (by decide) rfl hl (Nat.le_of_ble_eq_true rfl) rfl dX7_remove_40 (fun H locs hH hS => ?_)
      refine lv_if_ne (tgt := 81) hx hb dX7_remove_43 (by decide) (fun q108 => ?_) (fun q108 => ?_)
      · replace hf := brF hf q108
        exact w_X7_remove_81 X x1 σ106 hf _ _ hH hS _ (lv_sub hl [0, 1] rfl)
      · replace hf := brT hf q108
        refine lv_aload_n hx hb dX7_remove_46 rfl (lv_at hl 0 rfl) ?_
        refine g_get (v := .ref (B + 33)) kX7 (by decide) fl_RX7_26 X.1 hH kx_0 rfl dX7_remove_47 ?_
        obtain ⟨r217, σ216, eσ216, hf⟩ := bnd2 hf
        refine g_cVi (As := []) X.1 hH hS (c_X2_isBeyond l G B 33 kx_33 σ106 σ216 r217 eσ216) kw_RX7_218 kX2 kx_33 (by decide) rfl hl (Nat.le_of_ble_eq_true rfl) rfl dX7_remove_50 (fun H locs hH hS => ?_)
        refine lv_if_eq (tgt := 63) hx hb dX7_remove_53 (by decide) (fun q218 => ?_) (fun q218 => ?_)
        · replace hf := brT hf q218
          refine lv_aload_n hx hb dX7_remove_63 rfl (lv_at hl 0 rfl) ?_
          refine g_get (v := .ref (B + 227)) kX7 (by decide) fl_RX7_46 X.1 hH kx_0 rfl dX7_remove_64 ?_
          refine lv_iload_n hx hb dX7_remove_67 rfl (lv_at hl 1 rfl) ?_
          obtain ⟨r220, σ219, eσ219, hf⟩ := bnd2 hf
          refine g_cVi (As := [.int x1]) X.1 hH hS (c_X4_followsFromOthers l G B x1 σ216 σ219 r220 eσ219) kw_RX7_246 kX4 kx_227 (by decide) rfl hl (Nat.le_of_ble_eq_true rfl) rfl dX7_remove_68 (fun H locs hH hS => ?_)
          refine lv_if_ne (tgt := 81) hx hb dX7_remove_71 (by decide) (fun q221 => ?_) (fun q221 => ?_)
          · replace hf := brF hf q221
            exact w_X7_remove_81 X x1 σ219 hf _ _ hH hS _ (lv_sub hl [0, 1] rfl)
          · replace hf := brT hf q221
            refine lv_aload_n hx hb dX7_remove_74 rfl (lv_at hl 0 rfl) ?_
            refine lv_ldc (v := -1000000) hx hb X.1.2.2.2.1 (X.1.2.2.2.2.1 _ kc_RX7_224) dX7_remove_75 ?_
            obtain ⟨r223, σ222, eσ222, hf⟩ := bnd2 hf
            refine g_cVi (As := [.int (-1000000 : Int32)]) X.1 hH hS (c_X7_well l G B (-1000000 : Int32) σ219 σ222 r223 eσ222) kw_RX7_74 kX7 kx_0 (by decide) rfl hl (Nat.le_of_ble_eq_true rfl) rfl dX7_remove_77 (fun H locs hH hS => ?_)
            obtain ⟨rfl, rfl⟩ := rt2 hf
            exact g_iret X hH hS dX7_remove_80
        · replace hf := brF hf q218
          refine lv_aload_n hx hb dX7_remove_56 rfl (lv_at hl 0 rfl) ?_
          refine lv_bipush (v := 6) hx hb dX7_remove_57 (by decide) ?_
          obtain ⟨r225, σ224, eσ224, hf⟩ := bnd2 hf
          refine g_cVi (As := [.int (6 : Int32)]) X.1 hH hS (c_X7_found l G B (6 : Int32) σ216 σ224 r225 eσ224) kw_RX7_66 kX7 kx_0 (by decide) rfl hl (Nat.le_of_ble_eq_true rfl) rfl dX7_remove_59 (fun H locs hH hS => ?_)
          obtain ⟨rfl, rfl⟩ := rt2 hf
          exact g_iret X hH hS dX7_remove_62
    · replace hf := brT hf q104
      refine lv_ldc (v := -1000001) hx hb X.1.2.2.2.1 (X.1.2.2.2.2.1 _ kc_RX7_65) dX7_remove_24 ?_
      obtain ⟨rfl, rfl⟩ := rt2 hf
      exact g_iret X hH hS dX7_remove_26
  · replace hf := brT hf q101
    refine lv_ldc (v := -1000002) hx hb X.1.2.2.2.1 (X.1.2.2.2.2.1 _ kc_RX7_201) dX7_remove_10 ?_
    obtain ⟨rfl, rfl⟩ := rt2 hf
    exact g_iret X hH hS dX7_remove_12
theorem c_X7_remove (l : Launch) (G : Gd) (B : Nat) (x1 : Int32) (σ σr : Sto) (r : Int32) (hf : f_X7_remove x1 σ = some (r, σr)) : Ct l G layX B yX7_remove cX7_remove 2 (some .int) 6 [.ref (B + 0), .int x1] (some (.int r)) σ σr :=
  Ct.ofW (by decide) (Nat.le_of_ble_eq_true rfl) (fun _ _ _ _ _ _ _ X hH hS ls hl => w_X7_remove X x1 σ hf _ _ hH hS ls (show lv_has ls 2 [(0, .ref (B + 0)), (1, .int x1)] from hl))
-- SlackProofs.restore(I)I  (D 4)
def b_X7_restore_9 (σ : Sto) : Option (Int32 × Sto) :=
  some ((-1000001 : Int32), σ)
set_option maxHeartbeats 4000000 in
set_option maxRecDepth 100000 in
theorem w_X7_restore_9 {p : Program} {l : Launch} {e : Env} {s : State} {m : MethodId} {args : Array Value} {below : List Frame} {meth : Method} {c : Code} {G : Gd} {B : Nat} (X : Cm p s m args meth c cX7_restore 2 RX7 G (some .int)) {r : Int32} {σr : Sto} (σ : Sto) (hf : b_X7_restore_9 σ = some (r, σr)) (H : Heap) (locs : List Loc) (hH : HX G layX B σ H) (hS : va_S (inW layX B) s.heap H locs) (ls : Array Slot) (hl : lv_has ls 2 []) : WM p l e 4 s m args below meth c H locs G layX B (some (.int r)) σr (F0 m 9 ls []) := by
  unfold b_X7_restore_9 at hf
  have hx := X.1.1
  have hb := X.1.2.1
  refine lv_ldc (v := -1000001) hx hb X.1.2.2.2.1 (X.1.2.2.2.2.1 _ kc_RX7_65) dX7_restore_9 ?_
  obtain ⟨rfl, rfl⟩ := rt2 hf
  exact g_iret X hH hS dX7_restore_11
def f_X7_restore (x1 : Int32) (σ : Sto) : Option (Int32 × Sto) :=
  if x1 < 0 then (b_X7_restore_9 σ) else (if x1 < (2 : Int32) then (if (x1 < 0 ∨ 2 ≤ x1.toNatClampNeg) then none else if (σ.1 (imgC x1.toNatClampNeg) 2) = 0 then (some ((-1000002 : Int32), σ)) else (if (x1 < 0 ∨ 2 ≤ x1.toNatClampNeg) then none else bd1 (f_X2_become 33 (imgC x1.toNatClampNeg) σ) fun σ206 => bd1 (f_X0_forget σ206) fun σ208 => bd2 (f_J6_bitCount_0f7a4 (σ208.1 33 4) σ208) fun r211 σ210 => some (r211, σ210))) else (b_X7_restore_9 σ))
set_option maxHeartbeats 4000000 in
set_option maxRecDepth 100000 in
theorem w_X7_restore {p : Program} {l : Launch} {e : Env} {s : State} {m : MethodId} {args : Array Value} {below : List Frame} {meth : Method} {c : Code} {G : Gd} {B : Nat} (X : Cm p s m args meth c cX7_restore 2 RX7 G (some .int)) {r : Int32} {σr : Sto} (x1 : Int32) (σ : Sto) (hf : f_X7_restore x1 σ = some (r, σr)) (H : Heap) (locs : List Loc) (hH : HX G layX B σ H) (hS : va_S (inW layX B) s.heap H locs) (ls : Array Slot) (hl : lv_has ls 2 [(0, .ref (B + 0)), (1, .int x1)]) : WM p l e 4 s m args below meth c H locs G layX B (some (.int r)) σr (F0 m 0 ls []) := by
  unfold f_X7_restore at hf
  have hx := X.1.1
  have hb := X.1.2.1
  refine lv_iload_n hx hb dX7_restore_0 rfl (lv_at hl 1 rfl) ?_
  refine lv_if_lt (tgt := 9) hx hb dX7_restore_1 (by decide) (fun q101 => ?_) (fun q101 => ?_)
  · replace hf := brT hf q101
    exact w_X7_restore_9 X σ hf _ _ hH hS _ (lv_sub hl [] rfl)
  · replace hf := brF hf q101
    refine lv_iload_n hx hb dX7_restore_4 rfl (lv_at hl 1 rfl) ?_
    refine lv_iconst (v := 2) hx hb dX7_restore_5 (by decide) ?_
    refine lv_icmp_lt (tgt := 12) hx hb dX7_restore_6 (by decide) (fun q202 => ?_) (fun q202 => ?_)
    · replace hf := brT hf q202
      refine lv_aload_n hx hb dX7_restore_12 rfl (lv_at hl 0 rfl) ?_
      refine g_get (v := .ref (B + 96)) kX7 (by decide) fl_RX7_30 X.1 hH kx_0 rfl dX7_restore_13 ?_
      refine lv_iload_n hx hb dX7_restore_16 rfl (lv_at hl 1 rfl) ?_
      obtain ⟨q203, hf⟩ := chk hf
      refine g_aald (b := (imgC x1.toNatClampNeg)) X.1 hH kx_96 (by decide) q203 rfl dX7_restore_17 ?_
      refine g_get (v := .int (σ.1 (imgC x1.toNatClampNeg) 2)) kX2 (by decide) fl_RX7_197 X.1 hH (kImg q203) rfl dX7_restore_18 ?_
      refine lv_if_ne (tgt := 27) hx hb dX7_restore_21 (by decide) (fun q204 => ?_) (fun q204 => ?_)
      · replace hf := brF hf q204
        refine lv_aload_n hx hb dX7_restore_27 rfl (lv_at hl 0 rfl) ?_
        refine g_get (v := .ref (B + 33)) kX7 (by decide) fl_RX7_26 X.1 hH kx_0 rfl dX7_restore_28 ?_
        refine lv_aload_n hx hb dX7_restore_31 rfl (lv_at hl 0 rfl) ?_
        refine g_get (v := .ref (B + 96)) kX7 (by decide) fl_RX7_30 X.1 hH kx_0 rfl dX7_restore_32 ?_
        refine lv_iload_n hx hb dX7_restore_35 rfl (lv_at hl 1 rfl) ?_
        obtain ⟨q205, hf⟩ := chk hf
        refine g_aald (b := (imgC x1.toNatClampNeg)) X.1 hH kx_96 (by decide) q205 rfl dX7_restore_36 ?_
        obtain ⟨σ206, eσ206, hf⟩ := bnd1 hf
        refine g_cVv (As := [.ref (B + (imgC x1.toNatClampNeg))]) X.1 hH hS (c_X2_become l G B 33 kx_33 (imgC x1.toNatClampNeg) (kImg q205) σ σ206 eσ206) kw_RX7_300 kX2 kx_33 (by decide) rfl hl (Nat.le_of_ble_eq_true rfl) rfl dX7_restore_37 (fun H locs hH hS => ?_)
        refine lv_aload_n hx hb dX7_restore_40 rfl (lv_at hl 0 rfl) ?_
        refine g_get (v := .ref (B + 223)) kX7 (by decide) fl_RX7_37 X.1 hH kx_0 rfl dX7_restore_41 ?_
        obtain ⟨σ208, eσ208, hf⟩ := bnd1 hf
        refine g_cVv (As := []) X.1 hH hS (c_X0_forget l G B σ206 σ208 eσ208) kw_RX7_150 kX0 kx_223 (by decide) rfl hl (Nat.le_of_ble_eq_true rfl) rfl dX7_restore_44 (fun H locs hH hS => ?_)
        refine lv_aload_n hx hb dX7_restore_47 rfl (lv_at hl 0 rfl) ?_
        refine g_get (v := .ref (B + 33)) kX7 (by decide) fl_RX7_26 X.1 hH kx_0 rfl dX7_restore_48 ?_
        refine g_get (v := .int (σ208.1 33 4)) kX2 (by decide) fl_RX7_249 X.1 hH kx_33 rfl dX7_restore_51 ?_
        obtain ⟨r211, σ210, eσ210, hf⟩ := bnd2 hf
        refine g_cSi (As := [.int (σ208.1 33 4)]) X.1 hH hS (c_J6_bitCount_0f7a4 l G B (σ208.1 33 4) σ208 σ210 r211 eσ210) kw_RX7_252 (by decide) rfl hl (Nat.le_of_ble_eq_true rfl) rfl dX7_restore_54 (fun H locs hH hS => ?_)
        obtain ⟨rfl, rfl⟩ := rt2 hf
        exact g_iret X hH hS dX7_restore_57
      · replace hf := brT hf q204
        refine lv_ldc (v := -1000002) hx hb X.1.2.2.2.1 (X.1.2.2.2.2.1 _ kc_RX7_201) dX7_restore_24 ?_
        obtain ⟨rfl, rfl⟩ := rt2 hf
        exact g_iret X hH hS dX7_restore_26
    · replace hf := brF hf q202
      exact w_X7_restore_9 X σ hf _ _ hH hS _ (lv_sub hl [] rfl)
theorem c_X7_restore (l : Launch) (G : Gd) (B : Nat) (x1 : Int32) (σ σr : Sto) (r : Int32) (hf : f_X7_restore x1 σ = some (r, σr)) : Ct l G layX B yX7_restore cX7_restore 2 (some .int) 4 [.ref (B + 0), .int x1] (some (.int r)) σ σr :=
  Ct.ofW (by decide) (Nat.le_of_ble_eq_true rfl) (fun _ _ _ _ _ _ _ X hH hS ls hl => w_X7_restore X x1 σ hf _ _ hH hS ls (show lv_has ls 2 [(0, .ref (B + 0)), (1, .int x1)] from hl))
-- SlackProofs.row(III)I  (D 2)
def b_X7_row_22 (σ : Sto) : Option (Int32 × Sto) :=
  some ((-1000001 : Int32), σ)
set_option maxHeartbeats 4000000 in
set_option maxRecDepth 100000 in
theorem w_X7_row_22 {p : Program} {l : Launch} {e : Env} {s : State} {m : MethodId} {args : Array Value} {below : List Frame} {meth : Method} {c : Code} {G : Gd} {B : Nat} (X : Cm p s m args meth c cX7_row 4 RX7 G (some .int)) {r : Int32} {σr : Sto} (σ : Sto) (hf : b_X7_row_22 σ = some (r, σr)) (H : Heap) (locs : List Loc) (hH : HX G layX B σ H) (hS : va_S (inW layX B) s.heap H locs) (ls : Array Slot) (hl : lv_has ls 4 []) : WM p l e 2 s m args below meth c H locs G layX B (some (.int r)) σr (F0 m 22 ls []) := by
  unfold b_X7_row_22 at hf
  have hx := X.1.1
  have hb := X.1.2.1
  refine lv_ldc (v := -1000001) hx hb X.1.2.2.2.1 (X.1.2.2.2.2.1 _ kc_RX7_65) dX7_row_22 ?_
  obtain ⟨rfl, rfl⟩ := rt2 hf
  exact g_iret X hH hS dX7_row_24
def f_X7_row (x1 : Int32) (x2 : Int32) (x3 : Int32) (σ : Sto) : Option (Int32 × Sto) :=
  bd2 (f_X7_isRow x1 σ) fun r102 σ101 => if r102 = 0 then (b_X7_row_22 σ101) else (if x2 < 0 then (b_X7_row_22 σ101) else (if (3 : Int32) ≤ x2 then (b_X7_row_22 σ101) else (if x3 ≤ (40 : Int32) then (if 0 ≤ x3 then (bd1 (f_X6_make x1 x2 x3 σ101) fun σ208 => bd2 (f_X7_well x3 σ208) fun r211 σ210 => some (r211, σ210)) else (bd2 (f_X7_found (4 : Int32) σ101) fun r213 σ212 => some (r213, σ212))) else (b_X7_row_22 σ101))))
set_option maxHeartbeats 4000000 in
set_option maxRecDepth 100000 in
theorem w_X7_row {p : Program} {l : Launch} {e : Env} {s : State} {m : MethodId} {args : Array Value} {below : List Frame} {meth : Method} {c : Code} {G : Gd} {B : Nat} (X : Cm p s m args meth c cX7_row 4 RX7 G (some .int)) {r : Int32} {σr : Sto} (x1 : Int32) (x2 : Int32) (x3 : Int32) (σ : Sto) (hf : f_X7_row x1 x2 x3 σ = some (r, σr)) (H : Heap) (locs : List Loc) (hH : HX G layX B σ H) (hS : va_S (inW layX B) s.heap H locs) (ls : Array Slot) (hl : lv_has ls 4 [(0, .ref (B + 0)), (1, .int x1), (2, .int x2), (3, .int x3)]) : WM p l e 2 s m args below meth c H locs G layX B (some (.int r)) σr (F0 m 0 ls []) := by
  unfold f_X7_row at hf
  have hx := X.1.1
  have hb := X.1.2.1
  refine lv_iload_n hx hb dX7_row_0 rfl (lv_at hl 1 rfl) ?_
  obtain ⟨r102, σ101, eσ101, hf⟩ := bnd2 hf
  refine g_cSi (As := [.int x1]) X.1 hH hS (c_X7_isRow l G B x1 σ σ101 r102 eσ101) kw_RX7_61 (by decide) rfl hl (Nat.le_of_ble_eq_true rfl) rfl dX7_row_1 (fun H locs hH hS => ?_)
  refine lv_if_eq (tgt := 22) hx hb dX7_row_4 (by decide) (fun q103 => ?_) (fun q103 => ?_)
  · replace hf := brT hf q103
    exact w_X7_row_22 X σ101 hf _ _ hH hS _ (lv_sub hl [] rfl)
  · replace hf := brF hf q103
    refine lv_iload_n hx hb dX7_row_7 rfl (lv_at hl 2 rfl) ?_
    refine lv_if_lt (tgt := 22) hx hb dX7_row_8 (by decide) (fun q204 => ?_) (fun q204 => ?_)
    · replace hf := brT hf q204
      exact w_X7_row_22 X σ101 hf _ _ hH hS _ (lv_sub hl [] rfl)
    · replace hf := brF hf q204
      refine lv_iload_n hx hb dX7_row_11 rfl (lv_at hl 2 rfl) ?_
      refine lv_iconst (v := 3) hx hb dX7_row_12 (by decide) ?_
      refine lv_icmp_ge (tgt := 22) hx hb dX7_row_13 (by decide) (fun q205 => ?_) (fun q205 => ?_)
      · replace hf := brT hf q205
        exact w_X7_row_22 X σ101 hf _ _ hH hS _ (lv_sub hl [] rfl)
      · replace hf := brF hf q205
        refine lv_iload_n hx hb dX7_row_16 rfl (lv_at hl 3 rfl) ?_
        refine lv_bipush (v := 40) hx hb dX7_row_17 (by decide) ?_
        refine lv_icmp_le (tgt := 25) hx hb dX7_row_19 (by decide) (fun q206 => ?_) (fun q206 => ?_)
        · replace hf := brT hf q206
          refine lv_iload_n hx hb dX7_row_25 rfl (lv_at hl 3 rfl) ?_
          refine lv_if_ge (tgt := 35) hx hb dX7_row_26 (by decide) (fun q207 => ?_) (fun q207 => ?_)
          · replace hf := brT hf q207
            refine lv_aload_n hx hb dX7_row_35 rfl (lv_at hl 0 rfl) ?_
            refine g_get (v := .ref (B + 1)) kX7 (by decide) fl_RX7_10 X.1 hH kx_0 rfl dX7_row_36 ?_
            refine lv_iload_n hx hb dX7_row_39 rfl (lv_at hl 1 rfl) ?_
            refine lv_iload_n hx hb dX7_row_40 rfl (lv_at hl 2 rfl) ?_
            refine lv_iload_n hx hb dX7_row_41 rfl (lv_at hl 3 rfl) ?_
            obtain ⟨σ208, eσ208, hf⟩ := bnd1 hf
            refine g_cVv (As := [.int x1, .int x2, .int x3]) X.1 hH hS (c_X6_make l G B x1 x2 x3 σ101 σ208 eσ208) kw_RX7_70 kX6 kx_1 (by decide) rfl hl (Nat.le_of_ble_eq_true rfl) rfl dX7_row_42 (fun H locs hH hS => ?_)
            refine lv_aload_n hx hb dX7_row_45 rfl (lv_at hl 0 rfl) ?_
            refine lv_iload_n hx hb dX7_row_46 rfl (lv_at hl 3 rfl) ?_
            obtain ⟨r211, σ210, eσ210, hf⟩ := bnd2 hf
            refine g_cVi (As := [.int x3]) X.1 hH hS (c_X7_well l G B x3 σ208 σ210 r211 eσ210) kw_RX7_74 kX7 kx_0 (by decide) rfl hl (Nat.le_of_ble_eq_true rfl) rfl dX7_row_47 (fun H locs hH hS => ?_)
            obtain ⟨rfl, rfl⟩ := rt2 hf
            exact g_iret X hH hS dX7_row_50
          · replace hf := brF hf q207
            refine lv_aload_n hx hb dX7_row_29 rfl (lv_at hl 0 rfl) ?_
            refine lv_iconst (v := 4) hx hb dX7_row_30 (by decide) ?_
            obtain ⟨r213, σ212, eσ212, hf⟩ := bnd2 hf
            refine g_cVi (As := [.int (4 : Int32)]) X.1 hH hS (c_X7_found l G B (4 : Int32) σ101 σ212 r213 eσ212) kw_RX7_66 kX7 kx_0 (by decide) rfl hl (Nat.le_of_ble_eq_true rfl) rfl dX7_row_31 (fun H locs hH hS => ?_)
            obtain ⟨rfl, rfl⟩ := rt2 hf
            exact g_iret X hH hS dX7_row_34
        · replace hf := brF hf q206
          exact w_X7_row_22 X σ101 hf _ _ hH hS _ (lv_sub hl [] rfl)
theorem c_X7_row (l : Launch) (G : Gd) (B : Nat) (x1 : Int32) (x2 : Int32) (x3 : Int32) (σ σr : Sto) (r : Int32) (hf : f_X7_row x1 x2 x3 σ = some (r, σr)) : Ct l G layX B yX7_row cX7_row 4 (some .int) 2 [.ref (B + 0), .int x1, .int x2, .int x3] (some (.int r)) σ σr :=
  Ct.ofW (by decide) (Nat.le_of_ble_eq_true rfl) (fun _ _ _ _ _ _ _ X hH hS ls hl => w_X7_row X x1 x2 x3 σ hf _ _ hH hS ls (show lv_has ls 4 [(0, .ref (B + 0)), (1, .int x1), (2, .int x2), (3, .int x3)] from hl))
-- SlackProofs.saturate(I)I  (D 2)
def f_X7_saturate (x1 : Int32) (σ : Sto) : Option (Int32 × Sto) :=
  bd2 (f_X2_has 33 x1 σ) fun r102 σ101 => bd2 (f_X7_stepRefusal r102 σ101) fun r104 σ103 => if r104 = 0 then (bd2 (f_X2_next 33 σ103) fun r107 σ106 => if ¬ (r107 < layX.2.2 ∧ layX.1 r107 = .inl 3) then none else if (x1 < 0 ∨ 30 ≤ x1.toNatClampNeg) then none else bd1 (f_X3_becomeSaturated r107 (36 + 2 * x1.toNatClampNeg) σ106) fun σ110 => bd2 (f_X7_comes (4 : Int32) σ110) fun r113 σ112 => some (r113, σ112)) else (some (r104, σ103))
set_option maxHeartbeats 4000000 in
set_option maxRecDepth 100000 in
theorem w_X7_saturate {p : Program} {l : Launch} {e : Env} {s : State} {m : MethodId} {args : Array Value} {below : List Frame} {meth : Method} {c : Code} {G : Gd} {B : Nat} (X : Cm p s m args meth c cX7_saturate 3 RX7 G (some .int)) {r : Int32} {σr : Sto} (x1 : Int32) (σ : Sto) (hf : f_X7_saturate x1 σ = some (r, σr)) (H : Heap) (locs : List Loc) (hH : HX G layX B σ H) (hS : va_S (inW layX B) s.heap H locs) (ls : Array Slot) (hl : lv_has ls 3 [(0, .ref (B + 0)), (1, .int x1)]) : WM p l e 2 s m args below meth c H locs G layX B (some (.int r)) σr (F0 m 0 ls []) := by
  unfold f_X7_saturate at hf
  have hx := X.1.1
  have hb := X.1.2.1
  refine lv_aload_n hx hb dX7_saturate_0 rfl (lv_at hl 0 rfl) ?_
  refine lv_aload_n hx hb dX7_saturate_1 rfl (lv_at hl 0 rfl) ?_
  refine g_get (v := .ref (B + 33)) kX7 (by decide) fl_RX7_26 X.1 hH kx_0 rfl dX7_saturate_2 ?_
  refine lv_iload_n hx hb dX7_saturate_5 rfl (lv_at hl 1 rfl) ?_
  obtain ⟨r102, σ101, eσ101, hf⟩ := bnd2 hf
  refine g_cVi (As := [.int x1]) X.1 hH hS (c_X2_has l G B 33 kx_33 x1 σ σ101 r102 eσ101) kw_RX7_156 kX2 kx_33 (by decide) rfl hl (Nat.le_of_ble_eq_true rfl) rfl dX7_saturate_6 (fun H locs hH hS => ?_)
  obtain ⟨r104, σ103, eσ103, hf⟩ := bnd2 hf
  refine g_cVi (As := [.int r102]) X.1 hH hS (c_X7_stepRefusal l G B r102 σ101 σ103 r104 eσ103) kw_RX7_159 kX7 kx_0 (by decide) rfl hl (Nat.le_of_ble_eq_true rfl) rfl dX7_saturate_9 (fun H locs hH hS => ?_)
  refine lv_istore_n (lv' := [(2, .int r104), (0, .ref (B + 0)), (1, .int x1)]) hx hb dX7_saturate_12 rfl hl (by decide) rfl (fun ls hl => ?_)
  refine lv_iload_n hx hb dX7_saturate_13 rfl (lv_at hl 0 rfl) ?_
  refine lv_if_eq (tgt := 19) hx hb dX7_saturate_14 (by decide) (fun q105 => ?_) (fun q105 => ?_)
  · replace hf := brT hf q105
    refine lv_aload_n hx hb dX7_saturate_19 rfl (lv_at hl 1 rfl) ?_
    refine g_get (v := .ref (B + 33)) kX7 (by decide) fl_RX7_26 X.1 hH kx_0 rfl dX7_saturate_20 ?_
    obtain ⟨r107, σ106, eσ106, hf⟩ := bnd2 hf
    refine g_cVr (As := []) X.1 hH hS (c_X2_next l G B 33 kx_33 σ103 σ106 r107 eσ106) kw_RX7_133 kX2 kx_33 (by decide) rfl hl (Nat.le_of_ble_eq_true rfl) rfl dX7_saturate_23 (fun H locs hH hS => ?_)
    obtain ⟨q108, hf⟩ := chk hf
    replace q108 := Decidable.not_not.mp q108
    refine lv_aload_n hx hb dX7_saturate_26 rfl (lv_at hl 1 rfl) ?_
    refine g_get (v := .ref (B + 33)) kX7 (by decide) fl_RX7_26 X.1 hH kx_0 rfl dX7_saturate_27 ?_
    refine g_get (v := .ref (B + 34)) kX2 (by decide) fl_RX7_163 X.1 hH kx_33 rfl dX7_saturate_30 ?_
    refine lv_iload_n hx hb dX7_saturate_33 rfl (lv_at hl 2 rfl) ?_
    obtain ⟨q109, hf⟩ := chk hf
    refine g_aald (b := (36 + 2 * x1.toNatClampNeg)) X.1 hH kx_34 (by decide) q109 rfl dX7_saturate_34 ?_
    obtain ⟨σ110, eσ110, hf⟩ := bnd1 hf
    refine g_cVv (As := [.ref (B + (36 + 2 * x1.toNatClampNeg))]) X.1 hH hS (c_X3_becomeSaturated l G B r107 q108 (36 + 2 * x1.toNatClampNeg) (kB33 q109) σ106 σ110 eσ110) kw_RX7_179 kX3 q108 (by decide) rfl hl (Nat.le_of_ble_eq_true rfl) rfl dX7_saturate_35 (fun H locs hH hS => ?_)
    refine lv_aload_n hx hb dX7_saturate_38 rfl (lv_at hl 1 rfl) ?_
    refine lv_iconst (v := 4) hx hb dX7_saturate_39 (by decide) ?_
    obtain ⟨r113, σ112, eσ112, hf⟩ := bnd2 hf
    refine g_cVi (As := [.int (4 : Int32)]) X.1 hH hS (c_X7_comes l G B (4 : Int32) σ110 σ112 r113 eσ112) kw_RX7_168 kX7 kx_0 (by decide) rfl hl (Nat.le_of_ble_eq_true rfl) rfl dX7_saturate_40 (fun H locs hH hS => ?_)
    obtain ⟨rfl, rfl⟩ := rt2 hf
    exact g_iret X hH hS dX7_saturate_43
  · replace hf := brF hf q105
    refine lv_iload_n hx hb dX7_saturate_17 rfl (lv_at hl 0 rfl) ?_
    obtain ⟨rfl, rfl⟩ := rt2 hf
    exact g_iret X hH hS dX7_saturate_18
theorem c_X7_saturate (l : Launch) (G : Gd) (B : Nat) (x1 : Int32) (σ σr : Sto) (r : Int32) (hf : f_X7_saturate x1 σ = some (r, σr)) : Ct l G layX B yX7_saturate cX7_saturate 3 (some .int) 2 [.ref (B + 0), .int x1] (some (.int r)) σ σr :=
  Ct.ofW (by decide) (Nat.le_of_ble_eq_true rfl) (fun _ _ _ _ _ _ _ X hH hS ls hl => w_X7_saturate X x1 σ hf _ _ hH hS ls (show lv_has ls 3 [(0, .ref (B + 0)), (1, .int x1)] from hl))
-- SlackProofs.set(III)I  (D 1)
def b_X7_set_44 (σ : Sto) : Option (Int32 × Sto) :=
  bd2 (f_X7_found (2 : Int32) σ) fun r209 σ208 => some (r209, σ208)
set_option maxHeartbeats 4000000 in
set_option maxRecDepth 100000 in
theorem w_X7_set_44 {p : Program} {l : Launch} {e : Env} {s : State} {m : MethodId} {args : Array Value} {below : List Frame} {meth : Method} {c : Code} {G : Gd} {B : Nat} (X : Cm p s m args meth c cX7_set 4 RX7 G (some .int)) {r : Int32} {σr : Sto} (σ : Sto) (hf : b_X7_set_44 σ = some (r, σr)) (H : Heap) (locs : List Loc) (hH : HX G layX B σ H) (hS : va_S (inW layX B) s.heap H locs) (ls : Array Slot) (hl : lv_has ls 4 [(0, .ref (B + 0))]) : WM p l e 1 s m args below meth c H locs G layX B (some (.int r)) σr (F0 m 44 ls []) := by
  unfold b_X7_set_44 at hf
  have hx := X.1.1
  have hb := X.1.2.1
  refine lv_aload_n hx hb dX7_set_44 rfl (lv_at hl 0 rfl) ?_
  refine lv_iconst (v := 2) hx hb dX7_set_45 (by decide) ?_
  obtain ⟨r209, σ208, eσ208, hf⟩ := bnd2 hf
  refine g_cVi (As := [.int (2 : Int32)]) X.1 hH hS (c_X7_found l G B (2 : Int32) σ σ208 r209 eσ208) kw_RX7_66 kX7 kx_0 (by decide) rfl hl (Nat.le_of_ble_eq_true rfl) rfl dX7_set_46 (fun H locs hH hS => ?_)
  obtain ⟨rfl, rfl⟩ := rt2 hf
  exact g_iret X hH hS dX7_set_49
def f_X7_set (x1 : Int32) (x2 : Int32) (x3 : Int32) (σ : Sto) : Option (Int32 × Sto) :=
  bd2 (f_X7_isRow x1 σ) fun r102 σ101 => if r102 = 0 then (some ((-1000001 : Int32), σ101)) else (bd2 (f_X6_isMissing x1 σ101) fun r105 σ104 => if r105 = 0 then (if x2 < 0 then (b_X7_set_44 σ104) else (if (x1 < 0 ∨ 8 ≤ x1.toNatClampNeg) then none else if x2 < (σ104.1 12 x1.toNatClampNeg) then (bd2 (f_X6_put x1 x2 x3 σ104) fun r213 σ212 => bd2 (f_X7_well r213 σ212) fun r215 σ214 => some (r215, σ214)) else (b_X7_set_44 σ104))) else (bd2 (f_X7_found (1 : Int32) σ104) fun r217 σ216 => some (r217, σ216)))
set_option maxHeartbeats 4000000 in
set_option maxRecDepth 100000 in
theorem w_X7_set {p : Program} {l : Launch} {e : Env} {s : State} {m : MethodId} {args : Array Value} {below : List Frame} {meth : Method} {c : Code} {G : Gd} {B : Nat} (X : Cm p s m args meth c cX7_set 4 RX7 G (some .int)) {r : Int32} {σr : Sto} (x1 : Int32) (x2 : Int32) (x3 : Int32) (σ : Sto) (hf : f_X7_set x1 x2 x3 σ = some (r, σr)) (H : Heap) (locs : List Loc) (hH : HX G layX B σ H) (hS : va_S (inW layX B) s.heap H locs) (ls : Array Slot) (hl : lv_has ls 4 [(0, .ref (B + 0)), (1, .int x1), (2, .int x2), (3, .int x3)]) : WM p l e 1 s m args below meth c H locs G layX B (some (.int r)) σr (F0 m 0 ls []) := by
  unfold f_X7_set at hf
  have hx := X.1.1
  have hb := X.1.2.1
  refine lv_iload_n hx hb dX7_set_0 rfl (lv_at hl 1 rfl) ?_
  obtain ⟨r102, σ101, eσ101, hf⟩ := bnd2 hf
  refine g_cSi (As := [.int x1]) X.1 hH hS (c_X7_isRow l G B x1 σ σ101 r102 eσ101) kw_RX7_61 (by decide) rfl hl (Nat.le_of_ble_eq_true rfl) rfl dX7_set_1 (fun H locs hH hS => ?_)
  refine lv_if_ne (tgt := 10) hx hb dX7_set_4 (by decide) (fun q103 => ?_) (fun q103 => ?_)
  · replace hf := brF hf q103
    refine lv_aload_n hx hb dX7_set_10 rfl (lv_at hl 0 rfl) ?_
    refine g_get (v := .ref (B + 1)) kX7 (by decide) fl_RX7_10 X.1 hH kx_0 rfl dX7_set_11 ?_
    refine lv_iload_n hx hb dX7_set_14 rfl (lv_at hl 1 rfl) ?_
    obtain ⟨r105, σ104, eσ104, hf⟩ := bnd2 hf
    refine g_cVi (As := [.int x1]) X.1 hH hS (c_X6_isMissing l G B x1 σ101 σ104 r105 eσ104) kw_RX7_77 kX6 kx_1 (by decide) rfl hl (Nat.le_of_ble_eq_true rfl) rfl dX7_set_15 (fun H locs hH hS => ?_)
    refine lv_if_eq (tgt := 27) hx hb dX7_set_18 (by decide) (fun q106 => ?_) (fun q106 => ?_)
    · replace hf := brT hf q106
      refine lv_iload_n hx hb dX7_set_27 rfl (lv_at hl 2 rfl) ?_
      refine lv_if_lt (tgt := 44) hx hb dX7_set_28 (by decide) (fun q107 => ?_) (fun q107 => ?_)
      · replace hf := brT hf q107
        exact w_X7_set_44 X σ104 hf _ _ hH hS _ (lv_sub hl [0] rfl)
      · replace hf := brF hf q107
        refine lv_iload_n hx hb dX7_set_31 rfl (lv_at hl 2 rfl) ?_
        refine lv_aload_n hx hb dX7_set_32 rfl (lv_at hl 0 rfl) ?_
        refine g_get (v := .ref (B + 1)) kX7 (by decide) fl_RX7_10 X.1 hH kx_0 rfl dX7_set_33 ?_
        refine g_get (v := .ref (B + 12)) kX6 (by decide) fl_RX7_80 X.1 hH kx_1 rfl dX7_set_36 ?_
        refine lv_iload_n hx hb dX7_set_39 rfl (lv_at hl 1 rfl) ?_
        obtain ⟨q210, hf⟩ := chk hf
        refine g_iald (j := x1.toNatClampNeg) X.1 hH kx_12 q210 rfl dX7_set_40 ?_
        refine lv_icmp_lt (tgt := 50) hx hb dX7_set_41 (by decide) (fun q211 => ?_) (fun q211 => ?_)
        · replace hf := brT hf q211
          refine lv_aload_n hx hb dX7_set_50 rfl (lv_at hl 0 rfl) ?_
          refine lv_aload_n hx hb dX7_set_51 rfl (lv_at hl 0 rfl) ?_
          refine g_get (v := .ref (B + 1)) kX7 (by decide) fl_RX7_10 X.1 hH kx_0 rfl dX7_set_52 ?_
          refine lv_iload_n hx hb dX7_set_55 rfl (lv_at hl 1 rfl) ?_
          refine lv_iload_n hx hb dX7_set_56 rfl (lv_at hl 2 rfl) ?_
          refine lv_iload_n hx hb dX7_set_57 rfl (lv_at hl 3 rfl) ?_
          obtain ⟨r213, σ212, eσ212, hf⟩ := bnd2 hf
          refine g_cVi (As := [.int x1, .int x2, .int x3]) X.1 hH hS (c_X6_put l G B x1 x2 x3 σ104 σ212 r213 eσ212) kw_RX7_84 kX6 kx_1 (by decide) rfl hl (Nat.le_of_ble_eq_true rfl) rfl dX7_set_58 (fun H locs hH hS => ?_)
          obtain ⟨r215, σ214, eσ214, hf⟩ := bnd2 hf
          refine g_cVi (As := [.int r213]) X.1 hH hS (c_X7_well l G B r213 σ212 σ214 r215 eσ214) kw_RX7_74 kX7 kx_0 (by decide) rfl hl (Nat.le_of_ble_eq_true rfl) rfl dX7_set_61 (fun H locs hH hS => ?_)
          obtain ⟨rfl, rfl⟩ := rt2 hf
          exact g_iret X hH hS dX7_set_64
        · replace hf := brF hf q211
          exact w_X7_set_44 X σ104 hf _ _ hH hS _ (lv_sub hl [0] rfl)
    · replace hf := brF hf q106
      refine lv_aload_n hx hb dX7_set_21 rfl (lv_at hl 0 rfl) ?_
      refine lv_iconst (v := 1) hx hb dX7_set_22 (by decide) ?_
      obtain ⟨r217, σ216, eσ216, hf⟩ := bnd2 hf
      refine g_cVi (As := [.int (1 : Int32)]) X.1 hH hS (c_X7_found l G B (1 : Int32) σ104 σ216 r217 eσ216) kw_RX7_66 kX7 kx_0 (by decide) rfl hl (Nat.le_of_ble_eq_true rfl) rfl dX7_set_23 (fun H locs hH hS => ?_)
      obtain ⟨rfl, rfl⟩ := rt2 hf
      exact g_iret X hH hS dX7_set_26
  · replace hf := brT hf q103
    refine lv_ldc (v := -1000001) hx hb X.1.2.2.2.1 (X.1.2.2.2.2.1 _ kc_RX7_65) dX7_set_7 ?_
    obtain ⟨rfl, rfl⟩ := rt2 hf
    exact g_iret X hH hS dX7_set_9
theorem c_X7_set (l : Launch) (G : Gd) (B : Nat) (x1 : Int32) (x2 : Int32) (x3 : Int32) (σ σr : Sto) (r : Int32) (hf : f_X7_set x1 x2 x3 σ = some (r, σr)) : Ct l G layX B yX7_set cX7_set 4 (some .int) 1 [.ref (B + 0), .int x1, .int x2, .int x3] (some (.int r)) σ σr :=
  Ct.ofW (by decide) (Nat.le_of_ble_eq_true rfl) (fun _ _ _ _ _ _ _ X hH hS ls hl => w_X7_set X x1 x2 x3 σ hf _ _ hH hS ls (show lv_has ls 4 [(0, .ref (B + 0)), (1, .int x1), (2, .int x2), (3, .int x3)] from hl))
-- SlackProofs.slack(III)J  (D 3)
def b_X7_slack_25 (σ : Sto) : Option (Int64 × Sto) :=
  some ((-1000001 : Int64), σ)
set_option maxHeartbeats 4000000 in
set_option maxRecDepth 100000 in
theorem w_X7_slack_25 {p : Program} {l : Launch} {e : Env} {s : State} {m : MethodId} {args : Array Value} {below : List Frame} {meth : Method} {c : Code} {G : Gd} {B : Nat} (X : Cm p s m args meth c cX7_slack 4 RX7 G (some .long)) {r : Int64} {σr : Sto} (σ : Sto) (hf : b_X7_slack_25 σ = some (r, σr)) (H : Heap) (locs : List Loc) (hH : HX G layX B σ H) (hS : va_S (inW layX B) s.heap H locs) (ls : Array Slot) (hl : lv_has ls 4 []) : WM p l e 3 s m args below meth c H locs G layX B (some (.long r)) σr (F0 m 25 ls []) := by
  unfold b_X7_slack_25 at hf
  have hx := X.1.1
  have hb := X.1.2.1
  refine lv_ldc2 (v := -1000001) hx hb X.1.2.2.2.1 (X.1.2.2.2.2.1 _ kc_RX7_268) dX7_slack_25 ?_
  obtain ⟨rfl, rfl⟩ := rt2 hf
  exact g_lret X hH hS dX7_slack_28
def f_X7_slack (x1 : Int32) (x2 : Int32) (x3 : Int32) (σ : Sto) : Option (Int64 × Sto) :=
  bd2 (f_X2_has 33 x1 σ) fun r102 σ101 => if r102 = 0 then (b_X7_slack_25 σ101) else (bd2 (f_X7_isSet x2 σ101) fun r205 σ204 => if r205 = 0 then (b_X7_slack_25 σ204) else (bd2 (f_X7_isSet x3 σ204) fun r208 σ207 => if r208 = 0 then (b_X7_slack_25 σ207) else (if (x1 < 0 ∨ 30 ≤ x1.toNatClampNeg) then none else bd2 (f_X3_isBeyond (36 + 2 * x1.toNatClampNeg) σ207) fun r212 σ211 => if r212 = 0 then (nmS (pI σ211 0 7 (0 : Int32)) fun σ214 => if (x1 < 0 ∨ 30 ≤ x1.toNatClampNeg) then none else bd2 (f_X3_slackBy (36 + 2 * x1.toNatClampNeg) x2 x3 σ214) fun r217 σ216 => some (r217, σ216)) else (bd2 (f_X7_found (6 : Int32) σ211) fun r219 σ218 => some (r219.toInt64, σ218)))))
set_option maxHeartbeats 4000000 in
set_option maxRecDepth 100000 in
theorem w_X7_slack {p : Program} {l : Launch} {e : Env} {s : State} {m : MethodId} {args : Array Value} {below : List Frame} {meth : Method} {c : Code} {G : Gd} {B : Nat} (X : Cm p s m args meth c cX7_slack 4 RX7 G (some .long)) {r : Int64} {σr : Sto} (x1 : Int32) (x2 : Int32) (x3 : Int32) (σ : Sto) (hf : f_X7_slack x1 x2 x3 σ = some (r, σr)) (H : Heap) (locs : List Loc) (hH : HX G layX B σ H) (hS : va_S (inW layX B) s.heap H locs) (ls : Array Slot) (hl : lv_has ls 4 [(0, .ref (B + 0)), (1, .int x1), (2, .int x2), (3, .int x3)]) : WM p l e 3 s m args below meth c H locs G layX B (some (.long r)) σr (F0 m 0 ls []) := by
  unfold f_X7_slack at hf
  have hx := X.1.1
  have hb := X.1.2.1
  refine lv_aload_n hx hb dX7_slack_0 rfl (lv_at hl 0 rfl) ?_
  refine g_get (v := .ref (B + 33)) kX7 (by decide) fl_RX7_26 X.1 hH kx_0 rfl dX7_slack_1 ?_
  refine lv_iload_n hx hb dX7_slack_4 rfl (lv_at hl 1 rfl) ?_
  obtain ⟨r102, σ101, eσ101, hf⟩ := bnd2 hf
  refine g_cVi (As := [.int x1]) X.1 hH hS (c_X2_has l G B 33 kx_33 x1 σ σ101 r102 eσ101) kw_RX7_156 kX2 kx_33 (by decide) rfl hl (Nat.le_of_ble_eq_true rfl) rfl dX7_slack_5 (fun H locs hH hS => ?_)
  refine lv_if_eq (tgt := 25) hx hb dX7_slack_8 (by decide) (fun q103 => ?_) (fun q103 => ?_)
  · replace hf := brT hf q103
    exact w_X7_slack_25 X σ101 hf _ _ hH hS _ (lv_sub hl [] rfl)
  · replace hf := brF hf q103
    refine lv_iload_n hx hb dX7_slack_11 rfl (lv_at hl 2 rfl) ?_
    obtain ⟨r205, σ204, eσ204, hf⟩ := bnd2 hf
    refine g_cSi (As := [.int x2]) X.1 hH hS (c_X7_isSet l G B x2 σ101 σ204 r205 eσ204) kw_RX7_208 (by decide) rfl hl (Nat.le_of_ble_eq_true rfl) rfl dX7_slack_12 (fun H locs hH hS => ?_)
    refine lv_if_eq (tgt := 25) hx hb dX7_slack_15 (by decide) (fun q206 => ?_) (fun q206 => ?_)
    · replace hf := brT hf q206
      exact w_X7_slack_25 X σ204 hf _ _ hH hS _ (lv_sub hl [] rfl)
    · replace hf := brF hf q206
      refine lv_iload_n hx hb dX7_slack_18 rfl (lv_at hl 3 rfl) ?_
      obtain ⟨r208, σ207, eσ207, hf⟩ := bnd2 hf
      refine g_cSi (As := [.int x3]) X.1 hH hS (c_X7_isSet l G B x3 σ204 σ207 r208 eσ207) kw_RX7_208 (by decide) rfl hl (Nat.le_of_ble_eq_true rfl) rfl dX7_slack_19 (fun H locs hH hS => ?_)
      refine lv_if_ne (tgt := 29) hx hb dX7_slack_22 (by decide) (fun q209 => ?_) (fun q209 => ?_)
      · replace hf := brF hf q209
        refine lv_aload_n hx hb dX7_slack_29 rfl (lv_at hl 0 rfl) ?_
        refine g_get (v := .ref (B + 33)) kX7 (by decide) fl_RX7_26 X.1 hH kx_0 rfl dX7_slack_30 ?_
        refine g_get (v := .ref (B + 34)) kX2 (by decide) fl_RX7_163 X.1 hH kx_33 rfl dX7_slack_33 ?_
        refine lv_iload_n hx hb dX7_slack_36 rfl (lv_at hl 1 rfl) ?_
        obtain ⟨q210, hf⟩ := chk hf
        refine g_aald (b := (36 + 2 * x1.toNatClampNeg)) X.1 hH kx_34 (by decide) q210 rfl dX7_slack_37 ?_
        obtain ⟨r212, σ211, eσ211, hf⟩ := bnd2 hf
        refine g_cVi (As := []) X.1 hH hS (c_X3_isBeyond l G B (36 + 2 * x1.toNatClampNeg) (kB33 q210) σ207 σ211 r212 eσ211) kw_RX7_270 kX3 (kB33 q210) (by decide) rfl hl (Nat.le_of_ble_eq_true rfl) rfl dX7_slack_38 (fun H locs hH hS => ?_)
        refine lv_if_eq (tgt := 52) hx hb dX7_slack_41 (by decide) (fun q213 => ?_) (fun q213 => ?_)
        · replace hf := brT hf q213
          refine lv_aload_n hx hb dX7_slack_52 rfl (lv_at hl 0 rfl) ?_
          refine lv_iconst (v := 0) hx hb dX7_slack_53 (by decide) ?_
          refine g_putI kX7 (by decide) fl_RX7_57 rfl rfl X.1 hH hS kx_0 dX7_slack_54 (fun H locs hH hS => ?_)
          obtain ⟨σ214, eσ214, hH⟩ := nmX hH
          replace hf := nmU hf eσ214
          refine lv_aload_n hx hb dX7_slack_57 rfl (lv_at hl 0 rfl) ?_
          refine g_get (v := .ref (B + 33)) kX7 (by decide) fl_RX7_26 X.1 hH kx_0 rfl dX7_slack_58 ?_
          refine g_get (v := .ref (B + 34)) kX2 (by decide) fl_RX7_163 X.1 hH kx_33 rfl dX7_slack_61 ?_
          refine lv_iload_n hx hb dX7_slack_64 rfl (lv_at hl 1 rfl) ?_
          obtain ⟨q215, hf⟩ := chk hf
          refine g_aald (b := (36 + 2 * x1.toNatClampNeg)) X.1 hH kx_34 (by decide) q215 rfl dX7_slack_65 ?_
          refine lv_iload_n hx hb dX7_slack_66 rfl (lv_at hl 2 rfl) ?_
          refine lv_iload_n hx hb dX7_slack_67 rfl (lv_at hl 3 rfl) ?_
          obtain ⟨r217, σ216, eσ216, hf⟩ := bnd2 hf
          refine g_cVl (As := [.int x2, .int x3]) X.1 hH hS (c_X3_slackBy l G B (36 + 2 * x1.toNatClampNeg) (kB33 q215) x2 x3 σ214 σ216 r217 eσ216) kw_RX7_275 kX3 (kB33 q215) (by decide) rfl hl (Nat.le_of_ble_eq_true rfl) rfl dX7_slack_68 (fun H locs hH hS => ?_)
          obtain ⟨rfl, rfl⟩ := rt2 hf
          exact g_lret X hH hS dX7_slack_71
        · replace hf := brF hf q213
          refine lv_aload_n hx hb dX7_slack_44 rfl (lv_at hl 0 rfl) ?_
          refine lv_bipush (v := 6) hx hb dX7_slack_45 (by decide) ?_
          obtain ⟨r219, σ218, eσ218, hf⟩ := bnd2 hf
          refine g_cVi (As := [.int (6 : Int32)]) X.1 hH hS (c_X7_found l G B (6 : Int32) σ211 σ218 r219 eσ218) kw_RX7_66 kX7 kx_0 (by decide) rfl hl (Nat.le_of_ble_eq_true rfl) rfl dX7_slack_47 (fun H locs hH hS => ?_)
          refine lv_i2l hx hb dX7_slack_50 rfl ?_
          obtain ⟨rfl, rfl⟩ := rt2 hf
          exact g_lret X hH hS dX7_slack_51
      · replace hf := brT hf q209
        exact w_X7_slack_25 X σ207 hf _ _ hH hS _ (lv_sub hl [] rfl)
theorem c_X7_slack (l : Launch) (G : Gd) (B : Nat) (x1 : Int32) (x2 : Int32) (x3 : Int32) (σ σr : Sto) (r : Int64) (hf : f_X7_slack x1 x2 x3 σ = some (r, σr)) : Ct l G layX B yX7_slack cX7_slack 4 (some .long) 3 [.ref (B + 0), .int x1, .int x2, .int x3] (some (.long r)) σ σr :=
  Ct.ofW (by decide) (Nat.le_of_ble_eq_true rfl) (fun _ _ _ _ _ _ _ X hH hS ls hl => w_X7_slack X x1 x2 x3 σ hf _ _ hH hS ls (show lv_has ls 4 [(0, .ref (B + 0)), (1, .int x1), (2, .int x2), (3, .int x3)] from hl))
-- SlackProofs.solution(I)I  (D 4)
def b_X7_solution_161 (σ : Sto) : Option (Int32 × Sto) :=
  bd2 (f_X7_well (σ.1 33 5) σ) fun r422 σ421 => some (r422, σ421)
set_option maxHeartbeats 4000000 in
set_option maxRecDepth 100000 in
theorem w_X7_solution_161 {p : Program} {l : Launch} {e : Env} {s : State} {m : MethodId} {args : Array Value} {below : List Frame} {meth : Method} {c : Code} {G : Gd} {B : Nat} (X : Cm p s m args meth c cX7_solution 3 RX7 G (some .int)) {r : Int32} {σr : Sto} (σ : Sto) (hf : b_X7_solution_161 σ = some (r, σr)) (H : Heap) (locs : List Loc) (hH : HX G layX B σ H) (hS : va_S (inW layX B) s.heap H locs) (ls : Array Slot) (hl : lv_has ls 3 [(0, .ref (B + 0))]) : WM p l e 4 s m args below meth c H locs G layX B (some (.int r)) σr (F0 m 161 ls []) := by
  unfold b_X7_solution_161 at hf
  have hx := X.1.1
  have hb := X.1.2.1
  refine lv_aload_n hx hb dX7_solution_161 rfl (lv_at hl 0 rfl) ?_
  refine lv_aload_n hx hb dX7_solution_162 rfl (lv_at hl 0 rfl) ?_
  refine g_get (v := .ref (B + 33)) kX7 (by decide) fl_RX7_26 X.1 hH kx_0 rfl dX7_solution_163 ?_
  refine g_get (v := .int (σ.1 33 5)) kX2 (by decide) fl_RX7_231 X.1 hH kx_33 rfl dX7_solution_166 ?_
  obtain ⟨r422, σ421, eσ421, hf⟩ := bnd2 hf
  refine g_cVi (As := [.int (σ.1 33 5)]) X.1 hH hS (c_X7_well l G B (σ.1 33 5) σ σ421 r422 eσ421) kw_RX7_74 kX7 kx_0 (by decide) rfl hl (Nat.le_of_ble_eq_true rfl) rfl dX7_solution_169 (fun H locs hH hS => ?_)
  obtain ⟨rfl, rfl⟩ := rt2 hf
  exact g_iret X hH hS dX7_solution_172
def b_X7_solution_56 (v1 : Int32) (v2 : Int32) (σ : Sto) : Option (Int32 × Sto) :=
  bd2 (f_X2_isBeyond 33 σ) fun r310 σ309 => if r310 = 0 then (bd2 (f_X2_allHold 33 v1 σ309) fun r313 σ312 => if r313 = 0 then (bd2 (f_X7_well (-1000000 : Int32) σ312) fun r433 σ432 => some (r433, σ432)) else (bd1 (f_X0_keep 33 σ312) fun σ315 => bd2 (f_X2_priceOf 33 v1 σ315) fun r318 σ317 => nmS (pI σ317 33 5 r318) fun σ319 => if v2 = 0 then (b_X7_solution_161 σ319) else (bd2 (f_X2_next 33 σ319) fun r424 σ423 => if ¬ (r424 < layX.2.2 ∧ layX.1 r424 = .inl 3) then none else bd2 (f_X2_allPrices 33 σ423) fun r427 σ426 => bd1 (f_X3_becomeBound r424 35 8 r427 (σ426.1 33 5) σ426) fun σ428 => bd2 (f_X2_add 33 (3 : Int32) σ428) fun r431 σ430 => b_X7_solution_161 σ430))) else (bd2 (f_X7_found (6 : Int32) σ309) fun r435 σ434 => some (r435, σ434))
set_option maxHeartbeats 4000000 in
set_option maxRecDepth 100000 in
theorem w_X7_solution_56 {p : Program} {l : Launch} {e : Env} {s : State} {m : MethodId} {args : Array Value} {below : List Frame} {meth : Method} {c : Code} {G : Gd} {B : Nat} (X : Cm p s m args meth c cX7_solution 3 RX7 G (some .int)) {r : Int32} {σr : Sto} (v1 : Int32) (v2 : Int32) (σ : Sto) (hf : b_X7_solution_56 v1 v2 σ = some (r, σr)) (H : Heap) (locs : List Loc) (hH : HX G layX B σ H) (hS : va_S (inW layX B) s.heap H locs) (ls : Array Slot) (hl : lv_has ls 3 [(0, .ref (B + 0)), (1, .int v1), (2, .int v2)]) : WM p l e 4 s m args below meth c H locs G layX B (some (.int r)) σr (F0 m 56 ls []) := by
  unfold b_X7_solution_56 at hf
  have hx := X.1.1
  have hb := X.1.2.1
  refine lv_aload_n hx hb dX7_solution_56 rfl (lv_at hl 0 rfl) ?_
  refine g_get (v := .ref (B + 33)) kX7 (by decide) fl_RX7_26 X.1 hH kx_0 rfl dX7_solution_57 ?_
  obtain ⟨r310, σ309, eσ309, hf⟩ := bnd2 hf
  refine g_cVi (As := []) X.1 hH hS (c_X2_isBeyond l G B 33 kx_33 σ σ309 r310 eσ309) kw_RX7_218 kX2 kx_33 (by decide) rfl hl (Nat.le_of_ble_eq_true rfl) rfl dX7_solution_60 (fun H locs hH hS => ?_)
  refine lv_if_eq (tgt := 73) hx hb dX7_solution_63 (by decide) (fun q311 => ?_) (fun q311 => ?_)
  · replace hf := brT hf q311
    refine lv_aload_n hx hb dX7_solution_73 rfl (lv_at hl 0 rfl) ?_
    refine g_get (v := .ref (B + 33)) kX7 (by decide) fl_RX7_26 X.1 hH kx_0 rfl dX7_solution_74 ?_
    refine lv_iload_n hx hb dX7_solution_77 rfl (lv_at hl 1 rfl) ?_
    obtain ⟨r313, σ312, eσ312, hf⟩ := bnd2 hf
    refine g_cVi (As := [.int v1]) X.1 hH hS (c_X2_allHold l G B 33 kx_33 v1 σ309 σ312 r313 eσ312) kw_RX7_221 kX2 kx_33 (by decide) rfl hl (Nat.le_of_ble_eq_true rfl) rfl dX7_solution_78 (fun H locs hH hS => ?_)
    refine lv_if_ne (tgt := 91) hx hb dX7_solution_81 (by decide) (fun q314 => ?_) (fun q314 => ?_)
    · replace hf := brF hf q314
      refine lv_aload_n hx hb dX7_solution_91 rfl (lv_at hl 0 rfl) ?_
      refine g_get (v := .ref (B + 223)) kX7 (by decide) fl_RX7_37 X.1 hH kx_0 rfl dX7_solution_92 ?_
      refine lv_aload_n hx hb dX7_solution_95 rfl (lv_at hl 0 rfl) ?_
      refine g_get (v := .ref (B + 33)) kX7 (by decide) fl_RX7_26 X.1 hH kx_0 rfl dX7_solution_96 ?_
      obtain ⟨σ315, eσ315, hf⟩ := bnd1 hf
      refine g_cVv (As := [.ref (B + 33)]) X.1 hH hS (c_X0_keep l G B 33 kx_33 σ312 σ315 eσ315) kw_RX7_225 kX0 kx_223 (by decide) rfl hl (Nat.le_of_ble_eq_true rfl) rfl dX7_solution_99 (fun H locs hH hS => ?_)
      refine lv_aload_n hx hb dX7_solution_102 rfl (lv_at hl 0 rfl) ?_
      refine g_get (v := .ref (B + 33)) kX7 (by decide) fl_RX7_26 X.1 hH kx_0 rfl dX7_solution_103 ?_
      refine lv_aload_n hx hb dX7_solution_106 rfl (lv_at hl 0 rfl) ?_
      refine g_get (v := .ref (B + 33)) kX7 (by decide) fl_RX7_26 X.1 hH kx_0 rfl dX7_solution_107 ?_
      refine lv_iload_n hx hb dX7_solution_110 rfl (lv_at hl 1 rfl) ?_
      obtain ⟨r318, σ317, eσ317, hf⟩ := bnd2 hf
      refine g_cVi (As := [.int v1]) X.1 hH hS (c_X2_priceOf l G B 33 kx_33 v1 σ315 σ317 r318 eσ317) kw_RX7_228 kX2 kx_33 (by decide) rfl hl (Nat.le_of_ble_eq_true rfl) rfl dX7_solution_111 (fun H locs hH hS => ?_)
      refine g_putI kX2 (by decide) fl_RX7_231 rfl rfl X.1 hH hS kx_33 dX7_solution_114 (fun H locs hH hS => ?_)
      obtain ⟨σ319, eσ319, hH⟩ := nmX hH
      replace hf := nmU hf eσ319
      refine lv_iload_n hx hb dX7_solution_117 rfl (lv_at hl 2 rfl) ?_
      refine lv_if_eq (tgt := 161) hx hb dX7_solution_118 (by decide) (fun q320 => ?_) (fun q320 => ?_)
      · replace hf := brT hf q320
        exact w_X7_solution_161 X σ319 hf _ _ hH hS _ (lv_sub hl [0] rfl)
      · replace hf := brF hf q320
        refine lv_aload_n hx hb dX7_solution_121 rfl (lv_at hl 0 rfl) ?_
        refine g_get (v := .ref (B + 33)) kX7 (by decide) fl_RX7_26 X.1 hH kx_0 rfl dX7_solution_122 ?_
        obtain ⟨r424, σ423, eσ423, hf⟩ := bnd2 hf
        refine g_cVr (As := []) X.1 hH hS (c_X2_next l G B 33 kx_33 σ319 σ423 r424 eσ423) kw_RX7_133 kX2 kx_33 (by decide) rfl hl (Nat.le_of_ble_eq_true rfl) rfl dX7_solution_125 (fun H locs hH hS => ?_)
        obtain ⟨q425, hf⟩ := chk hf
        replace q425 := Decidable.not_not.mp q425
        refine lv_aload_n hx hb dX7_solution_128 rfl (lv_at hl 0 rfl) ?_
        refine g_get (v := .ref (B + 33)) kX7 (by decide) fl_RX7_26 X.1 hH kx_0 rfl dX7_solution_129 ?_
        refine g_get (v := .ref (B + 35)) kX2 (by decide) fl_RX7_234 X.1 hH kx_33 rfl dX7_solution_132 ?_
        refine lv_aload_n hx hb dX7_solution_135 rfl (lv_at hl 0 rfl) ?_
        refine g_get (v := .ref (B + 33)) kX7 (by decide) fl_RX7_26 X.1 hH kx_0 rfl dX7_solution_136 ?_
        obtain ⟨r427, σ426, eσ426, hf⟩ := bnd2 hf
        refine g_cVi (As := []) X.1 hH hS (c_X2_allPrices l G B 33 kx_33 σ423 σ426 r427 eσ426) kw_RX7_211 kX2 kx_33 (by decide) rfl hl (Nat.le_of_ble_eq_true rfl) rfl dX7_solution_139 (fun H locs hH hS => ?_)
        refine lv_aload_n hx hb dX7_solution_142 rfl (lv_at hl 0 rfl) ?_
        refine g_get (v := .ref (B + 33)) kX7 (by decide) fl_RX7_26 X.1 hH kx_0 rfl dX7_solution_143 ?_
        refine g_get (v := .int (σ426.1 33 5)) kX2 (by decide) fl_RX7_231 X.1 hH kx_33 rfl dX7_solution_146 ?_
        obtain ⟨σ428, eσ428, hf⟩ := bnd1 hf
        refine g_cVv (As := [.ref (B + 35), .int r427, .int (σ426.1 33 5)]) X.1 hH hS (c_X3_becomeBound l G B r424 q425 35 8 kx_35 r427 (σ426.1 33 5) σ426 σ428 eσ428) kw_RX7_235 kX3 q425 (by decide) rfl hl (Nat.le_of_ble_eq_true rfl) rfl dX7_solution_149 (fun H locs hH hS => ?_)
        refine lv_aload_n hx hb dX7_solution_152 rfl (lv_at hl 0 rfl) ?_
        refine g_get (v := .ref (B + 33)) kX7 (by decide) fl_RX7_26 X.1 hH kx_0 rfl dX7_solution_153 ?_
        refine lv_iconst (v := 3) hx hb dX7_solution_156 (by decide) ?_
        obtain ⟨r431, σ430, eσ430, hf⟩ := bnd2 hf
        refine g_cVi (As := [.int (3 : Int32)]) X.1 hH hS (c_X2_add l G B 33 kx_33 (3 : Int32) σ428 σ430 r431 eσ430) kw_RX7_147 kX2 kx_33 (by decide) rfl hl (Nat.le_of_ble_eq_true rfl) rfl dX7_solution_157 (fun H locs hH hS => ?_)
        refine lv_pop hx hb dX7_solution_160 rfl ?_
        exact w_X7_solution_161 X σ430 hf _ _ hH hS _ (lv_sub hl [0] rfl)
    · replace hf := brT hf q314
      refine lv_aload_n hx hb dX7_solution_84 rfl (lv_at hl 0 rfl) ?_
      refine lv_ldc (v := -1000000) hx hb X.1.2.2.2.1 (X.1.2.2.2.2.1 _ kc_RX7_224) dX7_solution_85 ?_
      obtain ⟨r433, σ432, eσ432, hf⟩ := bnd2 hf
      refine g_cVi (As := [.int (-1000000 : Int32)]) X.1 hH hS (c_X7_well l G B (-1000000 : Int32) σ312 σ432 r433 eσ432) kw_RX7_74 kX7 kx_0 (by decide) rfl hl (Nat.le_of_ble_eq_true rfl) rfl dX7_solution_87 (fun H locs hH hS => ?_)
      obtain ⟨rfl, rfl⟩ := rt2 hf
      exact g_iret X hH hS dX7_solution_90
  · replace hf := brF hf q311
    refine lv_aload_n hx hb dX7_solution_66 rfl (lv_at hl 0 rfl) ?_
    refine lv_bipush (v := 6) hx hb dX7_solution_67 (by decide) ?_
    obtain ⟨r435, σ434, eσ434, hf⟩ := bnd2 hf
    refine g_cVi (As := [.int (6 : Int32)]) X.1 hH hS (c_X7_found l G B (6 : Int32) σ309 σ434 r435 eσ434) kw_RX7_66 kX7 kx_0 (by decide) rfl hl (Nat.le_of_ble_eq_true rfl) rfl dX7_solution_69 (fun H locs hH hS => ?_)
    obtain ⟨rfl, rfl⟩ := rt2 hf
    exact g_iret X hH hS dX7_solution_72
def b_X7_solution_38 (v1 : Int32) (s0 : Int32) (σ : Sto) : Option (Int32 × Sto) :=
  if s0 = 0 then (b_X7_solution_56 v1 s0 σ) else (bd2 (f_X2_isFull 33 σ) fun r437 σ436 => if r437 = 0 then (b_X7_solution_56 v1 s0 σ436) else (some ((-1000003 : Int32), σ436)))
set_option maxHeartbeats 4000000 in
set_option maxRecDepth 100000 in
theorem w_X7_solution_38 {p : Program} {l : Launch} {e : Env} {s : State} {m : MethodId} {args : Array Value} {below : List Frame} {meth : Method} {c : Code} {G : Gd} {B : Nat} (X : Cm p s m args meth c cX7_solution 3 RX7 G (some .int)) {r : Int32} {σr : Sto} (v1 : Int32) (s0 : Int32) (σ : Sto) (hf : b_X7_solution_38 v1 s0 σ = some (r, σr)) (H : Heap) (locs : List Loc) (hH : HX G layX B σ H) (hS : va_S (inW layX B) s.heap H locs) (ls : Array Slot) (hl : lv_has ls 3 [(0, .ref (B + 0)), (1, .int v1)]) : WM p l e 4 s m args below meth c H locs G layX B (some (.int r)) σr (F0 m 38 ls [.int s0]) := by
  unfold b_X7_solution_38 at hf
  have hx := X.1.1
  have hb := X.1.2.1
  refine lv_istore_n (lv' := [(2, .int s0), (0, .ref (B + 0)), (1, .int v1)]) hx hb dX7_solution_38 rfl hl (by decide) rfl (fun ls hl => ?_)
  refine lv_iload_n hx hb dX7_solution_39 rfl (lv_at hl 0 rfl) ?_
  refine lv_if_eq (tgt := 56) hx hb dX7_solution_40 (by decide) (fun q208 => ?_) (fun q208 => ?_)
  · replace hf := brT hf q208
    exact w_X7_solution_56 X v1 s0 σ hf _ _ hH hS _ (lv_sub hl [1, 2, 0] rfl)
  · replace hf := brF hf q208
    refine lv_aload_n hx hb dX7_solution_43 rfl (lv_at hl 1 rfl) ?_
    refine g_get (v := .ref (B + 33)) kX7 (by decide) fl_RX7_26 X.1 hH kx_0 rfl dX7_solution_44 ?_
    obtain ⟨r437, σ436, eσ436, hf⟩ := bnd2 hf
    refine g_cVi (As := []) X.1 hH hS (c_X2_isFull l G B 33 kx_33 σ σ436 r437 eσ436) kw_RX7_215 kX2 kx_33 (by decide) rfl hl (Nat.le_of_ble_eq_true rfl) rfl dX7_solution_47 (fun H locs hH hS => ?_)
    refine lv_if_eq (tgt := 56) hx hb dX7_solution_50 (by decide) (fun q438 => ?_) (fun q438 => ?_)
    · replace hf := brT hf q438
      exact w_X7_solution_56 X v1 s0 σ436 hf _ _ hH hS _ (lv_sub hl [1, 2, 0] rfl)
    · replace hf := brF hf q438
      refine lv_ldc (v := -1000003) hx hb X.1.2.2.2.1 (X.1.2.2.2.2.1 _ kc_RX7_111) dX7_solution_53 ?_
      obtain ⟨rfl, rfl⟩ := rt2 hf
      exact g_iret X hH hS dX7_solution_55
def f_X7_solution (x1 : Int32) (σ : Sto) : Option (Int32 × Sto) :=
  if (σ.1 33 2) = 0 then (some ((-1000002 : Int32), σ)) else (bd2 (f_X7_isSet x1 σ) fun r103 σ102 => if r103 = 0 then (some ((-1000001 : Int32), σ102)) else (bd2 (f_X2_allPrices 33 σ102) fun r106 σ105 => if r106 ≤ 0 then (b_X7_solution_38 x1 (0 : Int32) σ105) else (b_X7_solution_38 x1 (1 : Int32) σ105)))
set_option maxHeartbeats 4000000 in
set_option maxRecDepth 100000 in
theorem w_X7_solution {p : Program} {l : Launch} {e : Env} {s : State} {m : MethodId} {args : Array Value} {below : List Frame} {meth : Method} {c : Code} {G : Gd} {B : Nat} (X : Cm p s m args meth c cX7_solution 3 RX7 G (some .int)) {r : Int32} {σr : Sto} (x1 : Int32) (σ : Sto) (hf : f_X7_solution x1 σ = some (r, σr)) (H : Heap) (locs : List Loc) (hH : HX G layX B σ H) (hS : va_S (inW layX B) s.heap H locs) (ls : Array Slot) (hl : lv_has ls 3 [(0, .ref (B + 0)), (1, .int x1)]) : WM p l e 4 s m args below meth c H locs G layX B (some (.int r)) σr (F0 m 0 ls []) := by
  unfold f_X7_solution at hf
  have hx := X.1.1
  have hb := X.1.2.1
  refine lv_aload_n hx hb dX7_solution_0 rfl (lv_at hl 0 rfl) ?_
  refine g_get (v := .ref (B + 33)) kX7 (by decide) fl_RX7_26 X.1 hH kx_0 rfl dX7_solution_1 ?_
  refine g_get (v := .int (σ.1 33 2)) kX2 (by decide) fl_RX7_197 X.1 hH kx_33 rfl dX7_solution_4 ?_
  refine lv_if_ne (tgt := 13) hx hb dX7_solution_7 (by decide) (fun q101 => ?_) (fun q101 => ?_)
  · replace hf := brF hf q101
    refine lv_iload_n hx hb dX7_solution_13 rfl (lv_at hl 1 rfl) ?_
    obtain ⟨r103, σ102, eσ102, hf⟩ := bnd2 hf
    refine g_cSi (As := [.int x1]) X.1 hH hS (c_X7_isSet l G B x1 σ σ102 r103 eσ102) kw_RX7_208 (by decide) rfl hl (Nat.le_of_ble_eq_true rfl) rfl dX7_solution_14 (fun H locs hH hS => ?_)
    refine lv_if_ne (tgt := 23) hx hb dX7_solution_17 (by decide) (fun q104 => ?_) (fun q104 => ?_)
    · replace hf := brF hf q104
      refine lv_aload_n hx hb dX7_solution_23 rfl (lv_at hl 0 rfl) ?_
      refine g_get (v := .ref (B + 33)) kX7 (by decide) fl_RX7_26 X.1 hH kx_0 rfl dX7_solution_24 ?_
      obtain ⟨r106, σ105, eσ105, hf⟩ := bnd2 hf
      refine g_cVi (As := []) X.1 hH hS (c_X2_allPrices l G B 33 kx_33 σ102 σ105 r106 eσ105) kw_RX7_211 kX2 kx_33 (by decide) rfl hl (Nat.le_of_ble_eq_true rfl) rfl dX7_solution_27 (fun H locs hH hS => ?_)
      refine lv_if_le (tgt := 37) hx hb dX7_solution_30 (by decide) (fun q107 => ?_) (fun q107 => ?_)
      · replace hf := brT hf q107
        refine lv_iconst (v := 0) hx hb dX7_solution_37 (by decide) ?_
        exact w_X7_solution_38 X x1 (0 : Int32) σ105 hf _ _ hH hS _ (lv_sub hl [0, 1] rfl)
      · replace hf := brF hf q107
        refine lv_iconst (v := 1) hx hb dX7_solution_33 (by decide) ?_
        refine lv_goto (tgt := 38) hx hb dX7_solution_34 (by decide) ?_
        exact w_X7_solution_38 X x1 (1 : Int32) σ105 hf _ _ hH hS _ (lv_sub hl [0, 1] rfl)
    · replace hf := brT hf q104
      refine lv_ldc (v := -1000001) hx hb X.1.2.2.2.1 (X.1.2.2.2.2.1 _ kc_RX7_65) dX7_solution_20 ?_
      obtain ⟨rfl, rfl⟩ := rt2 hf
      exact g_iret X hH hS dX7_solution_22
  · replace hf := brT hf q101
    refine lv_ldc (v := -1000002) hx hb X.1.2.2.2.1 (X.1.2.2.2.2.1 _ kc_RX7_201) dX7_solution_10 ?_
    obtain ⟨rfl, rfl⟩ := rt2 hf
    exact g_iret X hH hS dX7_solution_12
theorem c_X7_solution (l : Launch) (G : Gd) (B : Nat) (x1 : Int32) (σ σr : Sto) (r : Int32) (hf : f_X7_solution x1 σ = some (r, σr)) : Ct l G layX B yX7_solution cX7_solution 3 (some .int) 4 [.ref (B + 0), .int x1] (some (.int r)) σ σr :=
  Ct.ofW (by decide) (Nat.le_of_ble_eq_true rfl) (fun _ _ _ _ _ _ _ X hH hS ls hl => w_X7_solution X x1 σ hf _ _ hH hS ls (show lv_has ls 3 [(0, .ref (B + 0)), (1, .int x1)] from hl))
