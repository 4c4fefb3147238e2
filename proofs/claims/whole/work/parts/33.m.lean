-- SlackProofsModel.feed(I)I  (D 1)
def f_X8_feed (x1 : Int32) (σ : Sto) : Option (Int32 × Sto) :=
  bd2 (f_X8_in x1 (0 : Int32) (255 : Int32) σ) fun r102 σ101 => if r102 = 0 then (some ((-1000001 : Int32), σ101)) else (if (σ101.1 0 6) = (200 : Int32) then (some ((-1000003 : Int32), σ101)) else (if ((σ101.1 0 6) < 0 ∨ 200 ≤ (σ101.1 0 6).toNatClampNeg) then none else nmS (pI σ101 5 (σ101.1 0 6).toNatClampNeg x1) fun σ106 => nmS (pI σ106 0 6 ((σ106.1 0 6) + (1 : Int32))) fun σ107 => some ((σ107.1 0 6), σ107)))
set_option maxHeartbeats 4000000 in
set_option maxRecDepth 100000 in
theorem w_X8_feed {p : Program} {l : Launch} {e : Env} {s : State} {m : MethodId} {args : Array Value} {below : List Frame} {meth : Method} {c : Code} {G : Gd} {B : Nat} (X : Cm p s m args meth c cX8_feed 2 RX8 G (some .int)) {r : Int32} {σr : Sto} (x1 : Int32) (σ : Sto) (hf : f_X8_feed x1 σ = some (r, σr)) (H : Heap) (locs : List Loc) (hH : HX G layM B σ H) (hS : va_S (inW layM B) s.heap H locs) (ls : Array Slot) (hl : lv_has ls 2 [(0, .ref (B + 0)), (1, .int x1)]) : WM p l e 1 s m args below meth c H locs G layM B (some (.int r)) σr (F0 m 0 ls []) := by
  unfold f_X8_feed at hf
  have hx := X.1.1
  have hb := X.1.2.1
  refine lv_iload_n hx hb dX8_feed_0 rfl (lv_at hl 1 rfl) ?_
  refine lv_iconst (v := 0) hx hb dX8_feed_1 (by decide) ?_
  refine lv_sipush (v := 255) hx hb dX8_feed_2 (by decide) ?_
  obtain ⟨r102, σ101, eσ101, hf⟩ := bnd2 hf
  refine g_cSi (As := [.int x1, .int (0 : Int32), .int (255 : Int32)]) X.1 hH hS (c_X8_in l G B x1 (0 : Int32) (255 : Int32) σ σ101 r102 eσ101) kw_RX8_68 (by decide) rfl hl (Nat.le_of_ble_eq_true rfl) rfl dX8_feed_5 (fun H locs hH hS => ?_)
  refine lv_if_ne (tgt := 14) hx hb dX8_feed_8 (by decide) (fun q103 => ?_) (fun q103 => ?_)
  · replace hf := brF hf q103
    refine lv_aload_n hx hb dX8_feed_14 rfl (lv_at hl 0 rfl) ?_
    refine g_get (v := .int (σ101.1 0 6)) kX8 (by decide) fl_RX8_94 X.1 hH km_0 rfl dX8_feed_15 ?_
    refine lv_sipush (v := 200) hx hb dX8_feed_18 (by decide) ?_
    refine lv_icmp_ne (tgt := 27) hx hb dX8_feed_21 (by decide) (fun q104 => ?_) (fun q104 => ?_)
    · replace hf := brF hf q104
      refine lv_aload_n hx hb dX8_feed_27 rfl (lv_at hl 0 rfl) ?_
      refine g_get (v := .ref (B + 5)) kX8 (by decide) fl_RX8_22 X.1 hH km_0 rfl dX8_feed_28 ?_
      refine lv_aload_n hx hb dX8_feed_31 rfl (lv_at hl 0 rfl) ?_
      refine g_get (v := .int (σ101.1 0 6)) kX8 (by decide) fl_RX8_94 X.1 hH km_0 rfl dX8_feed_32 ?_
      refine lv_iload_n hx hb dX8_feed_35 rfl (lv_at hl 1 rfl) ?_
      obtain ⟨q105, hf⟩ := chk hf
      refine g_iast (j := (σ101.1 0 6).toNatClampNeg) X.1 hH hS km_5 q105 rfl dX8_feed_36 (fun H locs hH hS => ?_)
      obtain ⟨σ106, eσ106, hH⟩ := nmX hH
      replace hf := nmU hf eσ106
      refine lv_aload_n hx hb dX8_feed_37 rfl (lv_at hl 0 rfl) ?_
      refine lv_dup hx hb dX8_feed_38 rfl ?_
      refine g_get (v := .int (σ106.1 0 6)) kX8 (by decide) fl_RX8_94 X.1 hH km_0 rfl dX8_feed_39 ?_
      refine lv_iconst (v := 1) hx hb dX8_feed_42 (by decide) ?_
      refine lv_iadd hx hb dX8_feed_43 ?_
      refine g_putI kX8 (by decide) fl_RX8_94 rfl rfl X.1 hH hS km_0 dX8_feed_44 (fun H locs hH hS => ?_)
      obtain ⟨σ107, eσ107, hH⟩ := nmX hH
      replace hf := nmU hf eσ107
      refine lv_aload_n hx hb dX8_feed_47 rfl (lv_at hl 0 rfl) ?_
      refine g_get (v := .int (σ107.1 0 6)) kX8 (by decide) fl_RX8_94 X.1 hH km_0 rfl dX8_feed_48 ?_
      obtain ⟨rfl, rfl⟩ := rt2 hf
      exact g_iret X hH hS dX8_feed_51
    · replace hf := brT hf q104
      refine lv_ldc (v := -1000003) hx hb X.1.2.2.2.1 (X.1.2.2.2.2.1 _ kc_RX8_97) dX8_feed_24 ?_
      obtain ⟨rfl, rfl⟩ := rt2 hf
      exact g_iret X hH hS dX8_feed_26
  · replace hf := brT hf q103
    refine lv_ldc (v := -1000001) hx hb X.1.2.2.2.1 (X.1.2.2.2.2.1 _ kc_RX8_76) dX8_feed_11 ?_
    obtain ⟨rfl, rfl⟩ := rt2 hf
    exact g_iret X hH hS dX8_feed_13
theorem c_X8_feed (l : Launch) (G : Gd) (B : Nat) (x1 : Int32) (σ σr : Sto) (r : Int32) (hf : f_X8_feed x1 σ = some (r, σr)) : Ct l G layM B yX8_feed cX8_feed 2 (some .int) 1 [.ref (B + 0), .int x1] (some (.int r)) σ σr :=
  Ct.ofW (by decide) (Nat.le_of_ble_eq_true rfl) (fun _ _ _ _ _ _ _ X hH hS ls hl => w_X8_feed X x1 σ hf _ _ hH hS ls (show lv_has ls 2 [(0, .ref (B + 0)), (1, .int x1)] from hl))
-- SlackProofsModel.follows(I)I  (D 5)
def b_X8_follows_51 (s0 : Int32) (σ : Sto) : Option (Int32 × Sto) :=
  bd2 (f_X8_well s0 σ) fun r211 σ210 => some (r211, σ210)
set_option maxHeartbeats 4000000 in
set_option maxRecDepth 100000 in
theorem w_X8_follows_51 {p : Program} {l : Launch} {e : Env} {s : State} {m : MethodId} {args : Array Value} {below : List Frame} {meth : Method} {c : Code} {G : Gd} {B : Nat} (X : Cm p s m args meth c cX8_follows 2 RX8 G (some .int)) {r : Int32} {σr : Sto} (s0 : Int32) (σ : Sto) (hf : b_X8_follows_51 s0 σ = some (r, σr)) (H : Heap) (locs : List Loc) (hH : HX G layM B σ H) (hS : va_S (inW layM B) s.heap H locs) (ls : Array Slot) (hl : lv_has ls 2 []) : WM p l e 5 s m args below meth c H locs G layM B (some (.int r)) σr (F0 m 51 ls [.int s0, .ref (B + 0)]) := by
  unfold b_X8_follows_51 at hf
  have hx := X.1.1
  have hb := X.1.2.1
  obtain ⟨r211, σ210, eσ210, hf⟩ := bnd2 hf
  refine g_cVi (As := [.int s0]) X.1 hH hS (c_X8_well l G B s0 σ σ210 r211 eσ210) kw_RX8_81 kX8 km_0 (by decide) rfl hl (Nat.le_of_ble_eq_true rfl) rfl dX8_follows_51 (fun H locs hH hS => ?_)
  obtain ⟨rfl, rfl⟩ := rt2 hf
  exact g_iret X hH hS dX8_follows_54
def f_X8_follows (x1 : Int32) (σ : Sto) : Option (Int32 × Sto) :=
  bd2 (f_X8_isLive x1 σ) fun r102 σ101 => if r102 = 0 then (some ((-1000001 : Int32), σ101)) else (bd2 (f_X8_isOver σ101) fun r105 σ104 => if r105 = 0 then (bd2 (f_X8_isFollowing 6 312 ((12 : Int32) + ((10 : Int32) * x1)) x1 (0 : Int32) σ104) fun r108 σ107 => if r108 = 0 then (b_X8_follows_51 (0 : Int32) σ107) else (b_X8_follows_51 (1 : Int32) σ107)) else (bd2 (f_X8_found (6 : Int32) σ104) fun r213 σ212 => some (r213, σ212)))
set_option maxHeartbeats 4000000 in
set_option maxRecDepth 100000 in
theorem w_X8_follows {p : Program} {l : Launch} {e : Env} {s : State} {m : MethodId} {args : Array Value} {below : List Frame} {meth : Method} {c : Code} {G : Gd} {B : Nat} (X : Cm p s m args meth c cX8_follows 2 RX8 G (some .int)) {r : Int32} {σr : Sto} (x1 : Int32) (σ : Sto) (hf : f_X8_follows x1 σ = some (r, σr)) (H : Heap) (locs : List Loc) (hH : HX G layM B σ H) (hS : va_S (inW layM B) s.heap H locs) (ls : Array Slot) (hl : lv_has ls 2 [(0, .ref (B + 0)), (1, .int x1)]) : WM p l e 5 s m args below meth c H locs G layM B (some (.int r)) σr (F0 m 0 ls []) := by
  unfold f_X8_follows at hf
  have hx := X.1.1
  have hb := X.1.2.1
  refine lv_aload_n hx hb dX8_follows_0 rfl (lv_at hl 0 rfl) ?_
  refine lv_iload_n hx hb dX8_follows_1 rfl (lv_at hl 1 rfl) ?_
  obtain ⟨r102, σ101, eσ101, hf⟩ := bnd2 hf
  refine g_cVi (As := [.int x1]) X.1 hH hS (c_X8_isLive l G B x1 σ σ101 r102 eσ101) kw_RX8_175 kX8 km_0 (by decide) rfl hl (Nat.le_of_ble_eq_true rfl) rfl dX8_follows_2 (fun H locs hH hS => ?_)
  refine lv_if_ne (tgt := 11) hx hb dX8_follows_5 (by decide) (fun q103 => ?_) (fun q103 => ?_)
  · replace hf := brF hf q103
    refine lv_aload_n hx hb dX8_follows_11 rfl (lv_at hl 0 rfl) ?_
    obtain ⟨r105, σ104, eσ104, hf⟩ := bnd2 hf
    refine g_cVi (As := []) X.1 hH hS (c_X8_isOver l G B σ101 σ104 r105 eσ104) kw_RX8_222 kX8 km_0 (by decide) rfl hl (Nat.le_of_ble_eq_true rfl) rfl dX8_follows_12 (fun H locs hH hS => ?_)
    refine lv_if_eq (tgt := 25) hx hb dX8_follows_15 (by decide) (fun q106 => ?_) (fun q106 => ?_)
    · replace hf := brT hf q106
      refine lv_aload_n hx hb dX8_follows_25 rfl (lv_at hl 0 rfl) ?_
      refine lv_aload_n hx hb dX8_follows_26 rfl (lv_at hl 0 rfl) ?_
      refine lv_aload_n hx hb dX8_follows_27 rfl (lv_at hl 0 rfl) ?_
      refine g_get (v := .ref (B + 6)) kX8 (by decide) fl_RX8_25 X.1 hH km_0 rfl dX8_follows_28 ?_
      refine lv_bipush (v := 12) hx hb dX8_follows_31 (by decide) ?_
      refine lv_bipush (v := 10) hx hb dX8_follows_33 (by decide) ?_
      refine lv_iload_n hx hb dX8_follows_35 rfl (lv_at hl 1 rfl) ?_
      refine lv_imul hx hb dX8_follows_36 ?_
      refine lv_iadd hx hb dX8_follows_37 ?_
      refine lv_iload_n hx hb dX8_follows_38 rfl (lv_at hl 1 rfl) ?_
      refine lv_iconst (v := 0) hx hb dX8_follows_39 (by decide) ?_
      obtain ⟨r108, σ107, eσ107, hf⟩ := bnd2 hf
      refine g_cVi (As := [.ref (B + 6), .int ((12 : Int32) + ((10 : Int32) * x1)), .int x1, .int (0 : Int32)]) X.1 hH hS (c_X8_isFollowing l G B 6 312 km_6 ((12 : Int32) + ((10 : Int32) * x1)) x1 (0 : Int32) σ104 σ107 r108 eσ107) kw_RX8_225 kX8 km_0 (by decide) rfl hl (Nat.le_of_ble_eq_true rfl) rfl dX8_follows_40 (fun H locs hH hS => ?_)
      refine lv_if_eq (tgt := 50) hx hb dX8_follows_43 (by decide) (fun q109 => ?_) (fun q109 => ?_)
      · replace hf := brT hf q109
        refine lv_iconst (v := 0) hx hb dX8_follows_50 (by decide) ?_
        exact w_X8_follows_51 X (0 : Int32) σ107 hf _ _ hH hS _ (lv_sub hl [] rfl)
      · replace hf := brF hf q109
        refine lv_iconst (v := 1) hx hb dX8_follows_46 (by decide) ?_
        refine lv_goto (tgt := 51) hx hb dX8_follows_47 (by decide) ?_
        exact w_X8_follows_51 X (1 : Int32) σ107 hf _ _ hH hS _ (lv_sub hl [] rfl)
    · replace hf := brF hf q106
      refine lv_aload_n hx hb dX8_follows_18 rfl (lv_at hl 0 rfl) ?_
      refine lv_bipush (v := 6) hx hb dX8_follows_19 (by decide) ?_
      obtain ⟨r213, σ212, eσ212, hf⟩ := bnd2 hf
      refine g_cVi (As := [.int (6 : Int32)]) X.1 hH hS (c_X8_found l G B (6 : Int32) σ104 σ212 r213 eσ212) kw_RX8_77 kX8 km_0 (by decide) rfl hl (Nat.le_of_ble_eq_true rfl) rfl dX8_follows_21 (fun H locs hH hS => ?_)
      obtain ⟨rfl, rfl⟩ := rt2 hf
      exact g_iret X hH hS dX8_follows_24
  · replace hf := brT hf q103
    refine lv_ldc (v := -1000001) hx hb X.1.2.2.2.1 (X.1.2.2.2.2.1 _ kc_RX8_76) dX8_follows_8 ?_
    obtain ⟨rfl, rfl⟩ := rt2 hf
    exact g_iret X hH hS dX8_follows_10
theorem c_X8_follows (l : Launch) (G : Gd) (B : Nat) (x1 : Int32) (σ σr : Sto) (r : Int32) (hf : f_X8_follows x1 σ = some (r, σr)) : Ct l G layM B yX8_follows cX8_follows 2 (some .int) 5 [.ref (B + 0), .int x1] (some (.int r)) σ σr :=
  Ct.ofW (by decide) (Nat.le_of_ble_eq_true rfl) (fun _ _ _ _ _ _ _ X hH hS ls hl => w_X8_follows X x1 σ hf _ _ hH hS ls (show lv_has ls 2 [(0, .ref (B + 0)), (1, .int x1)] from hl))
-- SlackProofsModel.forced(III)I  (D 4)
def b_X8_forced_41 (σ : Sto) : Option (Int32 × Sto) :=
  some ((-1000001 : Int32), σ)
set_option maxHeartbeats 4000000 in
set_option maxRecDepth 100000 in
theorem w_X8_forced_41 {p : Program} {l : Launch} {e : Env} {s : State} {m : MethodId} {args : Array Value} {below : List Frame} {meth : Method} {c : Code} {G : Gd} {B : Nat} (X : Cm p s m args meth c cX8_forced 5 RX8 G (some .int)) {r : Int32} {σr : Sto} (σ : Sto) (hf : b_X8_forced_41 σ = some (r, σr)) (H : Heap) (locs : List Loc) (hH : HX G layM B σ H) (hS : va_S (inW layM B) s.heap H locs) (ls : Array Slot) (hl : lv_has ls 5 []) : WM p l e 4 s m args below meth c H locs G layM B (some (.int r)) σr (F0 m 41 ls []) := by
  unfold b_X8_forced_41 at hf
  have hx := X.1.1
  have hb := X.1.2.1
  refine lv_ldc (v := -1000001) hx hb X.1.2.2.2.1 (X.1.2.2.2.2.1 _ kc_RX8_76) dX8_forced_41 ?_
  obtain ⟨rfl, rfl⟩ := rt2 hf
  exact g_iret X hH hS dX8_forced_43
def b_X8_forced_124 (s0 : Int32) (σ : Sto) : Option (Int32 × Sto) :=
  bd2 (f_X8_well s0 σ) fun r324 σ323 => some (r324, σ323)
set_option maxHeartbeats 4000000 in
set_option maxRecDepth 100000 in
theorem w_X8_forced_124 {p : Program} {l : Launch} {e : Env} {s : State} {m : MethodId} {args : Array Value} {below : List Frame} {meth : Method} {c : Code} {G : Gd} {B : Nat} (X : Cm p s m args meth c cX8_forced 5 RX8 G (some .int)) {r : Int32} {σr : Sto} (s0 : Int32) (σ : Sto) (hf : b_X8_forced_124 s0 σ = some (r, σr)) (H : Heap) (locs : List Loc) (hH : HX G layM B σ H) (hS : va_S (inW layM B) s.heap H locs) (ls : Array Slot) (hl : lv_has ls 5 []) : WM p l e 4 s m args below meth c H locs G layM B (some (.int r)) σr (F0 m 124 ls [.int s0, .ref (B + 0)]) := by
  unfold b_X8_forced_124 at hf
  have hx := X.1.1
  have hb := X.1.2.1
  obtain ⟨r324, σ323, eσ323, hf⟩ := bnd2 hf
  refine g_cVi (As := [.int s0]) X.1 hH hS (c_X8_well l G B s0 σ σ323 r324 eσ323) kw_RX8_81 kX8 km_0 (by decide) rfl hl (Nat.le_of_ble_eq_true rfl) rfl dX8_forced_124 (fun H locs hH hS => ?_)
  obtain ⟨rfl, rfl⟩ := rt2 hf
  exact g_iret X hH hS dX8_forced_127
def f_X8_forced (x1 : Int32) (x2 : Int32) (x3 : Int32) (σ : Sto) : Option (Int32 × Sto) :=
  bd2 (f_X8_isFormula σ) fun r102 σ101 => if r102 = 0 then (some ((-1000002 : Int32), σ101)) else (bd2 (f_X8_in x1 (0 : Int32) (255 : Int32) σ101) fun r105 σ104 => if r105 = 0 then (b_X8_forced_41 σ104) else (bd2 (f_X8_in x2 (0 : Int32) (255 : Int32) σ104) fun r208 σ207 => if r208 = 0 then (b_X8_forced_41 σ207) else (bd2 (f_X8_in x3 (0 : Int32) (2 : Int32) σ207) fun r211 σ210 => if r211 = 0 then (b_X8_forced_41 σ210) else (bd2 (f_X8_isOver σ210) fun r214 σ213 => if r214 = 0 then (nmS (pI σ213 0 24 x1) fun σ216 => nmS (pI σ216 0 25 (x2 &&& x1)) fun σ217 => bd2 (f_X8_isConflict (-1000000 : Int32) (0 : Int32) (0 : Int32) σ217) fun r219 σ218 => if x3 = 0 then (if r219 = 0 then (b_X8_forced_124 (0 : Int32) σ218) else (b_X8_forced_124 (1 : Int32) σ218)) else (if r219 = 0 then (if x3 = (1 : Int32) then (b_X8_forced_124 (σ218.1 0 24) σ218) else (b_X8_forced_124 (σ218.1 0 25) σ218)) else (b_X8_forced_124 (-1000000 : Int32) σ218))) else (bd2 (f_X8_found (6 : Int32) σ213) fun r327 σ326 => some (r327, σ326))))))
set_option maxHeartbeats 4000000 in
set_option maxRecDepth 100000 in
theorem w_X8_forced {p : Program} {l : Launch} {e : Env} {s : State} {m : MethodId} {args : Array Value} {below : List Frame} {meth : Method} {c : Code} {G : Gd} {B : Nat} (X : Cm p s m args meth c cX8_forced 5 RX8 G (some .int)) {r : Int32} {σr : Sto} (x1 : Int32) (x2 : Int32) (x3 : Int32) (σ : Sto) (hf : f_X8_forced x1 x2 x3 σ = some (r, σr)) (H : Heap) (locs : List Loc) (hH : HX G layM B σ H) (hS : va_S (inW layM B) s.heap H locs) (ls : Array Slot) (hl : lv_has ls 5 [(0, .ref (B + 0)), (1, .int x1), (2, .int x2), (3, .int x3)]) : WM p l e 4 s m args below meth c H locs G layM B (some (.int r)) σr (F0 m 0 ls []) := by
  unfold f_X8_forced at hf
  have hx := X.1.1
  have hb := X.1.2.1
  refine lv_aload_n hx hb dX8_forced_0 rfl (lv_at hl 0 rfl) ?_
  obtain ⟨r102, σ101, eσ101, hf⟩ := bnd2 hf
  refine g_cVi (As := []) X.1 hH hS (c_X8_isFormula l G B σ σ101 r102 eσ101) kw_RX8_171 kX8 km_0 (by decide) rfl hl (Nat.le_of_ble_eq_true rfl) rfl dX8_forced_1 (fun H locs hH hS => ?_)
  refine lv_if_ne (tgt := 10) hx hb dX8_forced_4 (by decide) (fun q103 => ?_) (fun q103 => ?_)
  · replace hf := brF hf q103
    refine lv_iload_n hx hb dX8_forced_10 rfl (lv_at hl 1 rfl) ?_
    refine lv_iconst (v := 0) hx hb dX8_forced_11 (by decide) ?_
    refine lv_sipush (v := 255) hx hb dX8_forced_12 (by decide) ?_
    obtain ⟨r105, σ104, eσ104, hf⟩ := bnd2 hf
    refine g_cSi (As := [.int x1, .int (0 : Int32), .int (255 : Int32)]) X.1 hH hS (c_X8_in l G B x1 (0 : Int32) (255 : Int32) σ101 σ104 r105 eσ104) kw_RX8_68 (by decide) rfl hl (Nat.le_of_ble_eq_true rfl) rfl dX8_forced_15 (fun H locs hH hS => ?_)
    refine lv_if_eq (tgt := 41) hx hb dX8_forced_18 (by decide) (fun q106 => ?_) (fun q106 => ?_)
    · replace hf := brT hf q106
      exact w_X8_forced_41 X σ104 hf _ _ hH hS _ (lv_sub hl [] rfl)
    · replace hf := brF hf q106
      refine lv_iload_n hx hb dX8_forced_21 rfl (lv_at hl 2 rfl) ?_
      refine lv_iconst (v := 0) hx hb dX8_forced_22 (by decide) ?_
      refine lv_sipush (v := 255) hx hb dX8_forced_23 (by decide) ?_
      obtain ⟨r208, σ207, eσ207, hf⟩ := bnd2 hf
      refine g_cSi (As := [.int x2, .int (0 : Int32), .int (255 : Int32)]) X.1 hH hS (c_X8_in l G B x2 (0 : Int32) (255 : Int32) σ104 σ207 r208 eσ207) kw_RX8_68 (by decide) rfl hl (Nat.le_of_ble_eq_true rfl) rfl dX8_forced_26 (fun H locs hH hS => ?_)
      refine lv_if_eq (tgt := 41) hx hb dX8_forced_29 (by decide) (fun q209 => ?_) (fun q209 => ?_)
      · replace hf := brT hf q209
        exact w_X8_forced_41 X σ207 hf _ _ hH hS _ (lv_sub hl [] rfl)
      · replace hf := brF hf q209
        refine lv_iload_n hx hb dX8_forced_32 rfl (lv_at hl 3 rfl) ?_
        refine lv_iconst (v := 0) hx hb dX8_forced_33 (by decide) ?_
        refine lv_iconst (v := 2) hx hb dX8_forced_34 (by decide) ?_
        obtain ⟨r211, σ210, eσ210, hf⟩ := bnd2 hf
        refine g_cSi (As := [.int x3, .int (0 : Int32), .int (2 : Int32)]) X.1 hH hS (c_X8_in l G B x3 (0 : Int32) (2 : Int32) σ207 σ210 r211 eσ210) kw_RX8_68 (by decide) rfl hl (Nat.le_of_ble_eq_true rfl) rfl dX8_forced_35 (fun H locs hH hS => ?_)
        refine lv_if_ne (tgt := 44) hx hb dX8_forced_38 (by decide) (fun q212 => ?_) (fun q212 => ?_)
        · replace hf := brF hf q212
          refine lv_aload_n hx hb dX8_forced_44 rfl (lv_at hl 0 rfl) ?_
          obtain ⟨r214, σ213, eσ213, hf⟩ := bnd2 hf
          refine g_cVi (As := []) X.1 hH hS (c_X8_isOver l G B σ210 σ213 r214 eσ213) kw_RX8_222 kX8 km_0 (by decide) rfl hl (Nat.le_of_ble_eq_true rfl) rfl dX8_forced_45 (fun H locs hH hS => ?_)
          refine lv_if_eq (tgt := 58) hx hb dX8_forced_48 (by decide) (fun q215 => ?_) (fun q215 => ?_)
          · replace hf := brT hf q215
            refine lv_aload_n hx hb dX8_forced_58 rfl (lv_at hl 0 rfl) ?_
            refine lv_iload_n hx hb dX8_forced_59 rfl (lv_at hl 1 rfl) ?_
            refine g_putI kX8 (by decide) fl_RX8_200 rfl rfl X.1 hH hS km_0 dX8_forced_60 (fun H locs hH hS => ?_)
            obtain ⟨σ216, eσ216, hH⟩ := nmX hH
            replace hf := nmU hf eσ216
            refine lv_aload_n hx hb dX8_forced_63 rfl (lv_at hl 0 rfl) ?_
            refine lv_iload_n hx hb dX8_forced_64 rfl (lv_at hl 2 rfl) ?_
            refine lv_iload_n hx hb dX8_forced_65 rfl (lv_at hl 1 rfl) ?_
            refine lv_iand hx hb dX8_forced_66 ?_
            refine g_putI kX8 (by decide) fl_RX8_203 rfl rfl X.1 hH hS km_0 dX8_forced_67 (fun H locs hH hS => ?_)
            obtain ⟨σ217, eσ217, hH⟩ := nmX hH
            replace hf := nmU hf eσ217
            refine lv_aload_n hx hb dX8_forced_70 rfl (lv_at hl 0 rfl) ?_
            refine lv_ldc (v := -1000000) hx hb X.1.2.2.2.1 (X.1.2.2.2.2.1 _ kc_RX8_60) dX8_forced_71 ?_
            refine lv_iconst (v := 0) hx hb dX8_forced_73 (by decide) ?_
            refine lv_iconst (v := 0) hx hb dX8_forced_74 (by decide) ?_
            obtain ⟨r219, σ218, eσ218, hf⟩ := bnd2 hf
            refine g_cVi (As := [.int (-1000000 : Int32), .int (0 : Int32), .int (0 : Int32)]) X.1 hH hS (c_X8_isConflict l G B (-1000000 : Int32) (0 : Int32) (0 : Int32) σ217 σ218 r219 eσ218) kw_RX8_218 kX8 km_0 (by decide) rfl hl (Nat.le_of_ble_eq_true rfl) rfl dX8_forced_75 (fun H locs hH hS => ?_)
            refine lv_istore (lv' := [(4, .int r219), (0, .ref (B + 0)), (1, .int x1), (2, .int x2), (3, .int x3)]) hx hb dX8_forced_78 hl (by decide) rfl (fun ls hl => ?_)
            refine lv_aload_n hx hb dX8_forced_80 rfl (lv_at hl 1 rfl) ?_
            refine lv_iload_n hx hb dX8_forced_81 rfl (lv_at hl 4 rfl) ?_
            refine lv_if_ne (tgt := 98) hx hb dX8_forced_82 (by decide) (fun q220 => ?_) (fun q220 => ?_)
            · replace hf := brF hf q220
              refine lv_iload hx hb dX8_forced_98 (lv_at hl 0 rfl) ?_
              refine lv_if_eq (tgt := 108) hx hb dX8_forced_100 (by decide) (fun q221 => ?_) (fun q221 => ?_)
              · replace hf := brT hf q221
                refine lv_iload_n hx hb dX8_forced_108 rfl (lv_at hl 4 rfl) ?_
                refine lv_iconst (v := 1) hx hb dX8_forced_109 (by decide) ?_
                refine lv_icmp_ne (tgt := 120) hx hb dX8_forced_110 (by decide) (fun q222 => ?_) (fun q222 => ?_)
                · replace hf := brF hf q222
                  refine lv_aload_n hx hb dX8_forced_120 rfl (lv_at hl 1 rfl) ?_
                  refine g_get (v := .int (σ218.1 0 25)) kX8 (by decide) fl_RX8_203 X.1 hH km_0 rfl dX8_forced_121 ?_
                  exact w_X8_forced_124 X (σ218.1 0 25) σ218 hf _ _ hH hS _ (lv_sub hl [] rfl)
                · replace hf := brT hf q222
                  refine lv_aload_n hx hb dX8_forced_113 rfl (lv_at hl 1 rfl) ?_
                  refine g_get (v := .int (σ218.1 0 24)) kX8 (by decide) fl_RX8_200 X.1 hH km_0 rfl dX8_forced_114 ?_
                  refine lv_goto (tgt := 124) hx hb dX8_forced_117 (by decide) ?_
                  exact w_X8_forced_124 X (σ218.1 0 24) σ218 hf _ _ hH hS _ (lv_sub hl [] rfl)
              · replace hf := brF hf q221
                refine lv_ldc (v := -1000000) hx hb X.1.2.2.2.1 (X.1.2.2.2.2.1 _ kc_RX8_60) dX8_forced_103 ?_
                refine lv_goto (tgt := 124) hx hb dX8_forced_105 (by decide) ?_
                exact w_X8_forced_124 X (-1000000 : Int32) σ218 hf _ _ hH hS _ (lv_sub hl [] rfl)
            · replace hf := brT hf q220
              refine lv_iload hx hb dX8_forced_85 (lv_at hl 0 rfl) ?_
              refine lv_if_eq (tgt := 94) hx hb dX8_forced_87 (by decide) (fun q325 => ?_) (fun q325 => ?_)
              · replace hf := brT hf q325
                refine lv_iconst (v := 0) hx hb dX8_forced_94 (by decide) ?_
                refine lv_goto (tgt := 124) hx hb dX8_forced_95 (by decide) ?_
                exact w_X8_forced_124 X (0 : Int32) σ218 hf _ _ hH hS _ (lv_sub hl [] rfl)
              · replace hf := brF hf q325
                refine lv_iconst (v := 1) hx hb dX8_forced_90 (by decide) ?_
                refine lv_goto (tgt := 124) hx hb dX8_forced_91 (by decide) ?_
                exact w_X8_forced_124 X (1 : Int32) σ218 hf _ _ hH hS _ (lv_sub hl [] rfl)
          · replace hf := brF hf q215
            refine lv_aload_n hx hb dX8_forced_51 rfl (lv_at hl 0 rfl) ?_
            refine lv_bipush (v := 6) hx hb dX8_forced_52 (by decide) ?_
            obtain ⟨r327, σ326, eσ326, hf⟩ := bnd2 hf
            refine g_cVi (As := [.int (6 : Int32)]) X.1 hH hS (c_X8_found l G B (6 : Int32) σ213 σ326 r327 eσ326) kw_RX8_77 kX8 km_0 (by decide) rfl hl (Nat.le_of_ble_eq_true rfl) rfl dX8_forced_54 (fun H locs hH hS => ?_)
            obtain ⟨rfl, rfl⟩ := rt2 hf
            exact g_iret X hH hS dX8_forced_57
        · replace hf := brT hf q212
          exact w_X8_forced_41 X σ210 hf _ _ hH hS _ (lv_sub hl [] rfl)
  · replace hf := brT hf q103
    refine lv_ldc (v := -1000002) hx hb X.1.2.2.2.1 (X.1.2.2.2.2.1 _ kc_RX8_174) dX8_forced_7 ?_
    obtain ⟨rfl, rfl⟩ := rt2 hf
    exact g_iret X hH hS dX8_forced_9
theorem c_X8_forced (l : Launch) (G : Gd) (B : Nat) (x1 : Int32) (x2 : Int32) (x3 : Int32) (σ σr : Sto) (r : Int32) (hf : f_X8_forced x1 x2 x3 σ = some (r, σr)) : Ct l G layM B yX8_forced cX8_forced 5 (some .int) 4 [.ref (B + 0), .int x1, .int x2, .int x3] (some (.int r)) σ σr :=
  Ct.ofW (by decide) (Nat.le_of_ble_eq_true rfl) (fun _ _ _ _ _ _ _ X hH hS ls hl => w_X8_forced X x1 x2 x3 σ hf _ _ hH hS ls (show lv_has ls 5 [(0, .ref (B + 0)), (1, .int x1), (2, .int x2), (3, .int x3)] from hl))
