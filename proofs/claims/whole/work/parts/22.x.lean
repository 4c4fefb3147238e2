-- SlackProofs.forced(III)I  (D 5)
def b_X7_forced_36 (σ : Sto) : Option (Int32 × Sto) :=
  some ((-1000001 : Int32), σ)
set_option maxHeartbeats 4000000 in
set_option maxRecDepth 100000 in
theorem w_X7_forced_36 {p : Program} {l : Launch} {e : Env} {s : State} {m : MethodId} {args : Array Value} {below : List Frame} {meth : Method} {c : Code} {G : Gd} {B : Nat} (X : Cm p s m args meth c cX7_forced 5 RX7 G (some .int)) {r : Int32} {σr : Sto} (σ : Sto) (hf : b_X7_forced_36 σ = some (r, σr)) (H : Heap) (locs : List Loc) (hH : HX G layX B σ H) (hS : va_S (inW layX B) s.heap H locs) (ls : Array Slot) (hl : lv_has ls 5 []) : WM p l e 5 s m args below meth c H locs G layX B (some (.int r)) σr (F0 m 36 ls []) := by
  unfold b_X7_forced_36 at hf
  have hx := X.1.1
  have hb := X.1.2.1
  refine lv_ldc (v := -1000001) hx hb X.1.2.2.2.1 (X.1.2.2.2.2.1 _ kc_RX7_65) dX7_forced_36 ?_
  obtain ⟨rfl, rfl⟩ := rt2 hf
  exact g_iret X hH hS dX7_forced_38
def b_X7_forced_121 (s0 : Int32) (σ : Sto) : Option (Int32 × Sto) :=
  bd2 (f_X7_well s0 σ) fun r319 σ318 => some (r319, σ318)
set_option maxHeartbeats 4000000 in
set_option maxRecDepth 100000 in
theorem w_X7_forced_121 {p : Program} {l : Launch} {e : Env} {s : State} {m : MethodId} {args : Array Value} {below : List Frame} {meth : Method} {c : Code} {G : Gd} {B : Nat} (X : Cm p s m args meth c cX7_forced 5 RX7 G (some .int)) {r : Int32} {σr : Sto} (s0 : Int32) (σ : Sto) (hf : b_X7_forced_121 s0 σ = some (r, σr)) (H : Heap) (locs : List Loc) (hH : HX G layX B σ H) (hS : va_S (inW layX B) s.heap H locs) (ls : Array Slot) (hl : lv_has ls 5 []) : WM p l e 5 s m args below meth c H locs G layX B (some (.int r)) σr (F0 m 121 ls [.int s0, .ref (B + 0)]) := by
  unfold b_X7_forced_121 at hf
  have hx := X.1.1
  have hb := X.1.2.1
  obtain ⟨r319, σ318, eσ318, hf⟩ := bnd2 hf
  refine g_cVi (As := [.int s0]) X.1 hH hS (c_X7_well l G B s0 σ σ318 r319 eσ318) kw_RX7_74 kX7 kx_0 (by decide) rfl hl (Nat.le_of_ble_eq_true rfl) rfl dX7_forced_121 (fun H locs hH hS => ?_)
  obtain ⟨rfl, rfl⟩ := rt2 hf
  exact g_iret X hH hS dX7_forced_124
def b_X7_forced_82 (s0 : Int32) (σ : Sto) : Option (Int32 × Sto) :=
  bd2 (f_X7_well s0 σ) fun r424 σ423 => some (r424, σ423)
set_option maxHeartbeats 4000000 in
set_option maxRecDepth 100000 in
theorem w_X7_forced_82 {p : Program} {l : Launch} {e : Env} {s : State} {m : MethodId} {args : Array Value} {below : List Frame} {meth : Method} {c : Code} {G : Gd} {B : Nat} (X : Cm p s m args meth c cX7_forced 5 RX7 G (some .int)) {r : Int32} {σr : Sto} (s0 : Int32) (σ : Sto) (hf : b_X7_forced_82 s0 σ = some (r, σr)) (H : Heap) (locs : List Loc) (hH : HX G layX B σ H) (hS : va_S (inW layX B) s.heap H locs) (ls : Array Slot) (hl : lv_has ls 5 []) : WM p l e 5 s m args below meth c H locs G layX B (some (.int r)) σr (F0 m 82 ls [.int s0, .ref (B + 0)]) := by
  unfold b_X7_forced_82 at hf
  have hx := X.1.1
  have hb := X.1.2.1
  obtain ⟨r424, σ423, eσ423, hf⟩ := bnd2 hf
  refine g_cVi (As := [.int s0]) X.1 hH hS (c_X7_well l G B s0 σ σ423 r424 eσ423) kw_RX7_74 kX7 kx_0 (by decide) rfl hl (Nat.le_of_ble_eq_true rfl) rfl dX7_forced_82 (fun H locs hH hS => ?_)
  obtain ⟨rfl, rfl⟩ := rt2 hf
  exact g_iret X hH hS dX7_forced_85
def f_X7_forced (x1 : Int32) (x2 : Int32) (x3 : Int32) (σ : Sto) : Option (Int32 × Sto) :=
  if (σ.1 33 2) = 0 then (some ((-1000002 : Int32), σ)) else (bd2 (f_X7_isSet x1 σ) fun r103 σ102 => if r103 = 0 then (b_X7_forced_36 σ102) else (bd2 (f_X7_isSet x2 σ102) fun r206 σ205 => if r206 = 0 then (b_X7_forced_36 σ205) else (if x3 < 0 then (b_X7_forced_36 σ205) else (if x3 ≤ (2 : Int32) then (bd2 (f_X2_isBeyond 33 σ205) fun r211 σ210 => if r211 = 0 then (bd2 (f_X4_conflictByKnown x1 x2 σ210) fun r214 σ213 => if x3 = 0 then (if r214 = 0 then (b_X7_forced_82 (0 : Int32) σ213) else (b_X7_forced_82 (1 : Int32) σ213)) else (if r214 = 0 then (if x3 = (1 : Int32) then (b_X7_forced_121 (σ213.1 227 5) σ213) else (b_X7_forced_121 (σ213.1 227 6) σ213)) else (bd2 (f_X7_well (-1000000 : Int32) σ213) fun r321 σ320 => some (r321, σ320)))) else (bd2 (f_X7_found (6 : Int32) σ210) fun r426 σ425 => some (r426, σ425))) else (b_X7_forced_36 σ205)))))
set_option maxHeartbeats 4000000 in
set_option maxRecDepth 100000 in
theorem w_X7_forced {p : Program} {l : Launch} {e : Env} {s : State} {m : MethodId} {args : Array Value} {below : List Frame} {meth : Method} {c : Code} {G : Gd} {B : Nat} (X : Cm p s m args meth c cX7_forced 5 RX7 G (some .int)) {r : Int32} {σr : Sto} (x1 : Int32) (x2 : Int32) (x3 : Int32) (σ : Sto) (hf : f_X7_forced x1 x2 x3 σ = some (r, σr)) (H : Heap) (locs : List Loc) (hH : HX G layX B σ H) (hS : va_S (inW layX B) s.heap H locs) (ls : Array Slot) (hl : lv_has ls 5 [(0, .ref (B + 0)), (1, .int x1), (2, .int x2), (3, .int x3)]) : WM p l e 5 s m args below meth c H locs G layX B (some (.int r)) σr (F0 m 0 ls []) := by
  unfold f_X7_forced at hf
  have hx := X.1.1
  have hb := X.1.2.1
  refine lv_aload_n hx hb dX7_forced_0 rfl (lv_at hl 0 rfl) ?_
  refine g_get (v := .ref (B + 33)) kX7 (by decide) fl_RX7_26 X.1 hH kx_0 rfl dX7_forced_1 ?_
  refine g_get (v := .int (σ.1 33 2)) kX2 (by decide) fl_RX7_197 X.1 hH kx_33 rfl dX7_forced_4 ?_
  refine lv_if_ne (tgt := 13) hx hb dX7_forced_7 (by decide) (fun q101 => ?_) (fun q101 => ?_)
  · replace hf := brF hf q101
    refine lv_iload_n hx hb dX7_forced_13 rfl (lv_at hl 1 rfl) ?_
    obtain ⟨r103, σ102, eσ102, hf⟩ := bnd2 hf
    refine g_cSi (As := [.int x1]) X.1 hH hS (c_X7_isSet l G B x1 σ σ102 r103 eσ102) kw_RX7_208 (by decide) rfl hl (Nat.le_of_ble_eq_true rfl) rfl dX7_forced_14 (fun H locs hH hS => ?_)
    refine lv_if_eq (tgt := 36) hx hb dX7_forced_17 (by decide) (fun q104 => ?_) (fun q104 => ?_)
    · replace hf := brT hf q104
      exact w_X7_forced_36 X σ102 hf _ _ hH hS _ (lv_sub hl [] rfl)
    · replace hf := brF hf q104
      refine lv_iload_n hx hb dX7_forced_20 rfl (lv_at hl 2 rfl) ?_
      obtain ⟨r206, σ205, eσ205, hf⟩ := bnd2 hf
      refine g_cSi (As := [.int x2]) X.1 hH hS (c_X7_isSet l G B x2 σ102 σ205 r206 eσ205) kw_RX7_208 (by decide) rfl hl (Nat.le_of_ble_eq_true rfl) rfl dX7_forced_21 (fun H locs hH hS => ?_)
      refine lv_if_eq (tgt := 36) hx hb dX7_forced_24 (by decide) (fun q207 => ?_) (fun q207 => ?_)
      · replace hf := brT hf q207
        exact w_X7_forced_36 X σ205 hf _ _ hH hS _ (lv_sub hl [] rfl)
      · replace hf := brF hf q207
        refine lv_iload_n hx hb dX7_forced_27 rfl (lv_at hl 3 rfl) ?_
        refine lv_if_lt (tgt := 36) hx hb dX7_forced_28 (by decide) (fun q208 => ?_) (fun q208 => ?_)
        · replace hf := brT hf q208
          exact w_X7_forced_36 X σ205 hf _ _ hH hS _ (lv_sub hl [] rfl)
        · replace hf := brF hf q208
          refine lv_iload_n hx hb dX7_forced_31 rfl (lv_at hl 3 rfl) ?_
          refine lv_iconst (v := 2) hx hb dX7_forced_32 (by decide) ?_
          refine lv_icmp_le (tgt := 39) hx hb dX7_forced_33 (by decide) (fun q209 => ?_) (fun q209 => ?_)
          · replace hf := brT hf q209
            refine lv_aload_n hx hb dX7_forced_39 rfl (lv_at hl 0 rfl) ?_
            refine g_get (v := .ref (B + 33)) kX7 (by decide) fl_RX7_26 X.1 hH kx_0 rfl dX7_forced_40 ?_
            obtain ⟨r211, σ210, eσ210, hf⟩ := bnd2 hf
            refine g_cVi (As := []) X.1 hH hS (c_X2_isBeyond l G B 33 kx_33 σ205 σ210 r211 eσ210) kw_RX7_218 kX2 kx_33 (by decide) rfl hl (Nat.le_of_ble_eq_true rfl) rfl dX7_forced_43 (fun H locs hH hS => ?_)
            refine lv_if_eq (tgt := 56) hx hb dX7_forced_46 (by decide) (fun q212 => ?_) (fun q212 => ?_)
            · replace hf := brT hf q212
              refine lv_aload_n hx hb dX7_forced_56 rfl (lv_at hl 0 rfl) ?_
              refine g_get (v := .ref (B + 227)) kX7 (by decide) fl_RX7_46 X.1 hH kx_0 rfl dX7_forced_57 ?_
              refine lv_iload_n hx hb dX7_forced_60 rfl (lv_at hl 1 rfl) ?_
              refine lv_iload_n hx hb dX7_forced_61 rfl (lv_at hl 2 rfl) ?_
              obtain ⟨r214, σ213, eσ213, hf⟩ := bnd2 hf
              refine g_cVi (As := [.int x1, .int x2]) X.1 hH hS (c_X4_conflictByKnown l G B x1 x2 σ210 σ213 r214 eσ213) kw_RX7_279 kX4 kx_227 (by decide) rfl hl (Nat.le_of_ble_eq_true rfl) rfl dX7_forced_62 (fun H locs hH hS => ?_)
              refine lv_istore (lv' := [(4, .int r214), (0, .ref (B + 0)), (1, .int x1), (2, .int x2), (3, .int x3)]) hx hb dX7_forced_65 hl (by decide) rfl (fun ls hl => ?_)
              refine lv_iload_n hx hb dX7_forced_67 rfl (lv_at hl 4 rfl) ?_
              refine lv_if_ne (tgt := 86) hx hb dX7_forced_68 (by decide) (fun q215 => ?_) (fun q215 => ?_)
              · replace hf := brF hf q215
                refine lv_iload hx hb dX7_forced_86 (lv_at hl 0 rfl) ?_
                refine lv_if_eq (tgt := 98) hx hb dX7_forced_88 (by decide) (fun q216 => ?_) (fun q216 => ?_)
                · replace hf := brT hf q216
                  refine lv_aload_n hx hb dX7_forced_98 rfl (lv_at hl 1 rfl) ?_
                  refine lv_iload_n hx hb dX7_forced_99 rfl (lv_at hl 4 rfl) ?_
                  refine lv_iconst (v := 1) hx hb dX7_forced_100 (by decide) ?_
                  refine lv_icmp_ne (tgt := 114) hx hb dX7_forced_101 (by decide) (fun q217 => ?_) (fun q217 => ?_)
                  · replace hf := brF hf q217
                    refine lv_aload_n hx hb dX7_forced_114 rfl (lv_at hl 1 rfl) ?_
                    refine g_get (v := .ref (B + 227)) kX7 (by decide) fl_RX7_46 X.1 hH kx_0 rfl dX7_forced_115 ?_
                    refine g_get (v := .int (σ213.1 227 6)) kX4 (by decide) fl_RX7_285 X.1 hH kx_227 rfl dX7_forced_118 ?_
                    exact w_X7_forced_121 X (σ213.1 227 6) σ213 hf _ _ hH hS _ (lv_sub hl [] rfl)
                  · replace hf := brT hf q217
                    refine lv_aload_n hx hb dX7_forced_104 rfl (lv_at hl 1 rfl) ?_
                    refine g_get (v := .ref (B + 227)) kX7 (by decide) fl_RX7_46 X.1 hH kx_0 rfl dX7_forced_105 ?_
                    refine g_get (v := .int (σ213.1 227 5)) kX4 (by decide) fl_RX7_282 X.1 hH kx_227 rfl dX7_forced_108 ?_
                    refine lv_goto (tgt := 121) hx hb dX7_forced_111 (by decide) ?_
                    exact w_X7_forced_121 X (σ213.1 227 5) σ213 hf _ _ hH hS _ (lv_sub hl [] rfl)
                · replace hf := brF hf q216
                  refine lv_aload_n hx hb dX7_forced_91 rfl (lv_at hl 1 rfl) ?_
                  refine lv_ldc (v := -1000000) hx hb X.1.2.2.2.1 (X.1.2.2.2.2.1 _ kc_RX7_224) dX7_forced_92 ?_
                  obtain ⟨r321, σ320, eσ320, hf⟩ := bnd2 hf
                  refine g_cVi (As := [.int (-1000000 : Int32)]) X.1 hH hS (c_X7_well l G B (-1000000 : Int32) σ213 σ320 r321 eσ320) kw_RX7_74 kX7 kx_0 (by decide) rfl hl (Nat.le_of_ble_eq_true rfl) rfl dX7_forced_94 (fun H locs hH hS => ?_)
                  obtain ⟨rfl, rfl⟩ := rt2 hf
                  exact g_iret X hH hS dX7_forced_97
              · replace hf := brT hf q215
                refine lv_aload_n hx hb dX7_forced_71 rfl (lv_at hl 1 rfl) ?_
                refine lv_iload hx hb dX7_forced_72 (lv_at hl 0 rfl) ?_
                refine lv_if_eq (tgt := 81) hx hb dX7_forced_74 (by decide) (fun q322 => ?_) (fun q322 => ?_)
                · replace hf := brT hf q322
                  refine lv_iconst (v := 0) hx hb dX7_forced_81 (by decide) ?_
                  exact w_X7_forced_82 X (0 : Int32) σ213 hf _ _ hH hS _ (lv_sub hl [] rfl)
                · replace hf := brF hf q322
                  refine lv_iconst (v := 1) hx hb dX7_forced_77 (by decide) ?_
                  refine lv_goto (tgt := 82) hx hb dX7_forced_78 (by decide) ?_
                  exact w_X7_forced_82 X (1 : Int32) σ213 hf _ _ hH hS _ (lv_sub hl [] rfl)
            · replace hf := brF hf q212
              refine lv_aload_n hx hb dX7_forced_49 rfl (lv_at hl 0 rfl) ?_
              refine lv_bipush (v := 6) hx hb dX7_forced_50 (by decide) ?_
              obtain ⟨r426, σ425, eσ425, hf⟩ := bnd2 hf
              refine g_cVi (As := [.int (6 : Int32)]) X.1 hH hS (c_X7_found l G B (6 : Int32) σ210 σ425 r426 eσ425) kw_RX7_66 kX7 kx_0 (by decide) rfl hl (Nat.le_of_ble_eq_true rfl) rfl dX7_forced_52 (fun H locs hH hS => ?_)
              obtain ⟨rfl, rfl⟩ := rt2 hf
              exact g_iret X hH hS dX7_forced_55
          · replace hf := brF hf q209
            exact w_X7_forced_36 X σ205 hf _ _ hH hS _ (lv_sub hl [] rfl)
  · replace hf := brT hf q101
    refine lv_ldc (v := -1000002) hx hb X.1.2.2.2.1 (X.1.2.2.2.2.1 _ kc_RX7_201) dX7_forced_10 ?_
    obtain ⟨rfl, rfl⟩ := rt2 hf
    exact g_iret X hH hS dX7_forced_12
theorem c_X7_forced (l : Launch) (G : Gd) (B : Nat) (x1 : Int32) (x2 : Int32) (x3 : Int32) (σ σr : Sto) (r : Int32) (hf : f_X7_forced x1 x2 x3 σ = some (r, σr)) : Ct l G layX B yX7_forced cX7_forced 5 (some .int) 5 [.ref (B + 0), .int x1, .int x2, .int x3] (some (.int r)) σ σr :=
  Ct.ofW (by decide) (Nat.le_of_ble_eq_true rfl) (fun _ _ _ _ _ _ _ X hH hS ls hl => w_X7_forced X x1 x2 x3 σ hf _ _ hH hS ls (show lv_has ls 5 [(0, .ref (B + 0)), (1, .int x1), (2, .int x2), (3, .int x3)] from hl))
-- SlackProofs.formula()I  (D 6)
def b_X7_formula_37 (c37 : Int32 → Sto → Option (Int32 × Sto)) (v1 : Int32) (σ : Sto) : Option (Int32 × Sto) :=
  if (σ.1 13 5) ≤ v1 then (bd1 (f_X0_forget σ) fun σ207 => some ((σ207.1 13 5), σ207)) else (bd2 (f_X2_next 33 σ) fun r210 σ209 => if ¬ (r210 < layX.2.2 ∧ layX.1 r210 = .inl 3) then none else if (v1 < 0 ∨ 8 ≤ v1.toNatClampNeg) then none else bd1 (f_X3_become r210 (17 + 2 * v1.toNatClampNeg) σ209) fun σ213 => bd2 (f_X2_add 33 (1 : Int32) σ213) fun r216 σ215 => c37 (v1 + (1 : Int32)) σ215)
set_option maxHeartbeats 4000000 in
set_option maxRecDepth 100000 in
theorem w_X7_formula_37 {p : Program} {l : Launch} {e : Env} {s : State} {m : MethodId} {args : Array Value} {below : List Frame} {meth : Method} {c : Code} {G : Gd} {B : Nat} (X : Cm p s m args meth c cX7_formula 2 RX7 G (some .int)) (c37 : Int32 → Sto → Option (Int32 × Sto)) {r : Int32} {σr : Sto} (ih37 : ∀ (v1 : Int32) (σ : Sto) (H : Heap) (locs : List Loc) (ls : Array Slot), c37 v1 σ = some (r, σr) → HX G layX B σ H → va_S (inW layX B) s.heap H locs → lv_has ls 2 [(0, .ref (B + 0)), (1, .int v1)] → WM p l e 6 s m args below meth c H locs G layX B (some (.int r)) σr (F0 m 37 ls [])) (v1 : Int32) (σ : Sto) (hf : b_X7_formula_37 c37 v1 σ = some (r, σr)) (H : Heap) (locs : List Loc) (hH : HX G layX B σ H) (hS : va_S (inW layX B) s.heap H locs) (ls : Array Slot) (hl : lv_has ls 2 [(0, .ref (B + 0)), (1, .int v1)]) : WM p l e 6 s m args below meth c H locs G layX B (some (.int r)) σr (F0 m 37 ls []) := by
  unfold b_X7_formula_37 at hf
  have hx := X.1.1
  have hb := X.1.2.1
  refine lv_iload_n hx hb dX7_formula_37 rfl (lv_at hl 1 rfl) ?_
  refine lv_aload_n hx hb dX7_formula_38 rfl (lv_at hl 0 rfl) ?_
  refine g_get (v := .ref (B + 13)) kX7 (by decide) fl_RX7_19 X.1 hH kx_0 rfl dX7_formula_39 ?_
  refine g_get (v := .int (σ.1 13 5)) kX5 (by decide) fl_RX7_130 X.1 hH kx_13 rfl dX7_formula_42 ?_
  refine lv_icmp_ge (tgt := 82) hx hb dX7_formula_45 (by decide) (fun q206 => ?_) (fun q206 => ?_)
  · replace hf := brT hf q206
    refine lv_aload_n hx hb dX7_formula_82 rfl (lv_at hl 0 rfl) ?_
    refine g_get (v := .ref (B + 223)) kX7 (by decide) fl_RX7_37 X.1 hH kx_0 rfl dX7_formula_83 ?_
    obtain ⟨σ207, eσ207, hf⟩ := bnd1 hf
    refine g_cVv (As := []) X.1 hH hS (c_X0_forget l G B σ σ207 eσ207) kw_RX7_150 kX0 kx_223 (by decide) rfl hl (Nat.le_of_ble_eq_true rfl) rfl dX7_formula_86 (fun H locs hH hS => ?_)
    refine lv_aload_n hx hb dX7_formula_89 rfl (lv_at hl 0 rfl) ?_
    refine g_get (v := .ref (B + 13)) kX7 (by decide) fl_RX7_19 X.1 hH kx_0 rfl dX7_formula_90 ?_
    refine g_get (v := .int (σ207.1 13 5)) kX5 (by decide) fl_RX7_130 X.1 hH kx_13 rfl dX7_formula_93 ?_
    obtain ⟨rfl, rfl⟩ := rt2 hf
    exact g_iret X hH hS dX7_formula_96
  · replace hf := brF hf q206
    refine lv_aload_n hx hb dX7_formula_48 rfl (lv_at hl 0 rfl) ?_
    refine g_get (v := .ref (B + 33)) kX7 (by decide) fl_RX7_26 X.1 hH kx_0 rfl dX7_formula_49 ?_
    obtain ⟨r210, σ209, eσ209, hf⟩ := bnd2 hf
    refine g_cVr (As := []) X.1 hH hS (c_X2_next l G B 33 kx_33 σ σ209 r210 eσ209) kw_RX7_133 kX2 kx_33 (by decide) rfl hl (Nat.le_of_ble_eq_true rfl) rfl dX7_formula_52 (fun H locs hH hS => ?_)
    obtain ⟨q211, hf⟩ := chk hf
    replace q211 := Decidable.not_not.mp q211
    refine lv_aload_n hx hb dX7_formula_55 rfl (lv_at hl 0 rfl) ?_
    refine g_get (v := .ref (B + 13)) kX7 (by decide) fl_RX7_19 X.1 hH kx_0 rfl dX7_formula_56 ?_
    refine g_get (v := .ref (B + 15)) kX5 (by decide) fl_RX7_137 X.1 hH kx_13 rfl dX7_formula_59 ?_
    refine lv_iload_n hx hb dX7_formula_62 rfl (lv_at hl 1 rfl) ?_
    obtain ⟨q212, hf⟩ := chk hf
    refine g_aald (b := (17 + 2 * v1.toNatClampNeg)) X.1 hH kx_15 (by decide) q212 rfl dX7_formula_63 ?_
    obtain ⟨σ213, eσ213, hf⟩ := bnd1 hf
    refine g_cVv (As := [.ref (B + (17 + 2 * v1.toNatClampNeg))]) X.1 hH hS (c_X3_become l G B r210 q211 (17 + 2 * v1.toNatClampNeg) (kRd q212) σ209 σ213 eσ213) kw_RX7_141 kX3 q211 (by decide) rfl hl (Nat.le_of_ble_eq_true rfl) rfl dX7_formula_64 (fun H locs hH hS => ?_)
    refine lv_aload_n hx hb dX7_formula_67 rfl (lv_at hl 0 rfl) ?_
    refine g_get (v := .ref (B + 33)) kX7 (by decide) fl_RX7_26 X.1 hH kx_0 rfl dX7_formula_68 ?_
    refine lv_iconst (v := 1) hx hb dX7_formula_71 (by decide) ?_
    obtain ⟨r216, σ215, eσ215, hf⟩ := bnd2 hf
    refine g_cVi (As := [.int (1 : Int32)]) X.1 hH hS (c_X2_add l G B 33 kx_33 (1 : Int32) σ213 σ215 r216 eσ215) kw_RX7_147 kX2 kx_33 (by decide) rfl hl (Nat.le_of_ble_eq_true rfl) rfl dX7_formula_72 (fun H locs hH hS => ?_)
    refine lv_pop hx hb dX7_formula_75 rfl ?_
    refine lv_iinc (v := (v1 + (1 : Int32))) (lv' := [(1, .int (v1 + (1 : Int32))), (0, .ref (B + 0))]) hx hb dX7_formula_76 hl (k := 1) rfl rfl (by decide) rfl (fun ls hl => ?_)
    refine lv_goto (tgt := 37) hx hb dX7_formula_79 (by decide) ?_
    exact ih37 (v1 + (1 : Int32)) σ215 _ _ _ hf hH hS (lv_sub hl [1, 0] rfl)
def l_X7_formula_37 : Nat → Int32 → Sto → Option (Int32 × Sto)
  | 0, _, _ => none
  | n + 1, v1, σ => b_X7_formula_37 (l_X7_formula_37 n) v1 σ
set_option maxHeartbeats 4000000 in
set_option maxRecDepth 100000 in
theorem wl_X7_formula_37 {p : Program} {l : Launch} {e : Env} {s : State} {m : MethodId} {args : Array Value} {below : List Frame} {meth : Method} {c : Code} {G : Gd} {B : Nat} (X : Cm p s m args meth c cX7_formula 2 RX7 G (some .int)) {r : Int32} {σr : Sto} (n : Nat) : ∀ (v1 : Int32) (σ : Sto) (H : Heap) (locs : List Loc) (ls : Array Slot), l_X7_formula_37 n v1 σ = some (r, σr) → HX G layX B σ H → va_S (inW layX B) s.heap H locs → lv_has ls 2 [(0, .ref (B + 0)), (1, .int v1)] → WM p l e 6 s m args below meth c H locs G layX B (some (.int r)) σr (F0 m 37 ls []) := by
  induction n with
  | zero =>
    intro _ σ H locs ls hf
    cases hf
  | succ n ih =>
    intro v1 σ H locs ls hf hH hS hl
    exact w_X7_formula_37 X (l_X7_formula_37 n) ih v1 σ hf H locs hH hS ls hl
def f_X7_formula (σ : Sto) : Option (Int32 × Sto) :=
  bd2 (f_X5_readsFormula σ) fun r102 σ101 => if r102 = 0 then (some (((-1000100 : Int32) - (σ101.1 13 6)), σ101)) else (bd1 (f_X2_begin 33 16 8 σ101) fun σ104 => l_X7_formula_37 400 (0 : Int32) σ104)
set_option maxHeartbeats 4000000 in
set_option maxRecDepth 100000 in
theorem w_X7_formula {p : Program} {l : Launch} {e : Env} {s : State} {m : MethodId} {args : Array Value} {below : List Frame} {meth : Method} {c : Code} {G : Gd} {B : Nat} (X : Cm p s m args meth c cX7_formula 2 RX7 G (some .int)) {r : Int32} {σr : Sto} (σ : Sto) (hf : f_X7_formula σ = some (r, σr)) (H : Heap) (locs : List Loc) (hH : HX G layX B σ H) (hS : va_S (inW layX B) s.heap H locs) (ls : Array Slot) (hl : lv_has ls 2 [(0, .ref (B + 0))]) : WM p l e 6 s m args below meth c H locs G layX B (some (.int r)) σr (F0 m 0 ls []) := by
  unfold f_X7_formula at hf
  have hx := X.1.1
  have hb := X.1.2.1
  refine lv_aload_n hx hb dX7_formula_0 rfl (lv_at hl 0 rfl) ?_
  refine g_get (v := .ref (B + 13)) kX7 (by decide) fl_RX7_19 X.1 hH kx_0 rfl dX7_formula_1 ?_
  obtain ⟨r102, σ101, eσ101, hf⟩ := bnd2 hf
  refine g_cVi (As := []) X.1 hH hS (c_X5_readsFormula l G B σ σ101 r102 eσ101) kw_RX7_115 kX5 kx_13 (by decide) rfl hl (Nat.le_of_ble_eq_true rfl) rfl dX7_formula_4 (fun H locs hH hS => ?_)
  refine lv_if_ne (tgt := 21) hx hb dX7_formula_7 (by decide) (fun q103 => ?_) (fun q103 => ?_)
  · replace hf := brF hf q103
    refine lv_aload_n hx hb dX7_formula_21 rfl (lv_at hl 0 rfl) ?_
    refine g_get (v := .ref (B + 33)) kX7 (by decide) fl_RX7_26 X.1 hH kx_0 rfl dX7_formula_22 ?_
    refine lv_aload_n hx hb dX7_formula_25 rfl (lv_at hl 0 rfl) ?_
    refine g_get (v := .ref (B + 13)) kX7 (by decide) fl_RX7_19 X.1 hH kx_0 rfl dX7_formula_26 ?_
    refine g_get (v := .ref (B + 16)) kX5 (by decide) fl_RX7_123 X.1 hH kx_13 rfl dX7_formula_29 ?_
    obtain ⟨σ104, eσ104, hf⟩ := bnd1 hf
    refine g_cVv (As := [.ref (B + 16)]) X.1 hH hS (c_X2_begin l G B 33 kx_33 16 8 kx_16 σ101 σ104 eσ104) kw_RX7_126 kX2 kx_33 (by decide) rfl hl (Nat.le_of_ble_eq_true rfl) rfl dX7_formula_32 (fun H locs hH hS => ?_)
    refine lv_iconst (v := 0) hx hb dX7_formula_35 (by decide) ?_
    refine lv_istore_n (lv' := [(1, .int (0 : Int32)), (0, .ref (B + 0))]) hx hb dX7_formula_36 rfl hl (by decide) rfl (fun ls hl => ?_)
    exact wl_X7_formula_37 X 400 (0 : Int32) σ104 _ _ _ hf hH hS (lv_sub hl [1, 0] rfl)
  · replace hf := brT hf q103
    refine lv_ldc (v := -1000100) hx hb X.1.2.2.2.1 (X.1.2.2.2.2.1 _ kc_RX7_119) dX7_formula_10 ?_
    refine lv_aload_n hx hb dX7_formula_12 rfl (lv_at hl 0 rfl) ?_
    refine g_get (v := .ref (B + 13)) kX7 (by decide) fl_RX7_19 X.1 hH kx_0 rfl dX7_formula_13 ?_
    refine g_get (v := .int (σ101.1 13 6)) kX5 (by decide) fl_RX7_120 X.1 hH kx_13 rfl dX7_formula_16 ?_
    refine lv_isub hx hb dX7_formula_19 ?_
    obtain ⟨rfl, rfl⟩ := rt2 hf
    exact g_iret X hH hS dX7_formula_20
theorem c_X7_formula (l : Launch) (G : Gd) (B : Nat) (σ σr : Sto) (r : Int32) (hf : f_X7_formula σ = some (r, σr)) : Ct l G layX B yX7_formula cX7_formula 2 (some .int) 6 [.ref (B + 0)] (some (.int r)) σ σr :=
  Ct.ofW (by decide) (Nat.le_of_ble_eq_true rfl) (fun _ _ _ _ _ _ _ X hH hS ls hl => w_X7_formula X σ hf _ _ hH hS ls (show lv_has ls 2 [(0, .ref (B + 0))] from hl))
-- SlackProofs.holds(I)I  (D 3)
def b_X7_holds_66 (c40 : Int32 → Int32 → Int32 → Sto → Option (Int32 × Sto)) (v1 : Int32) (v2 : Int32) (v3 : Int32) (σ : Sto) : Option (Int32 × Sto) :=
  c40 v1 v2 (v3 + (1 : Int32)) σ
set_option maxHeartbeats 4000000 in
set_option maxRecDepth 100000 in
theorem w_X7_holds_66 {p : Program} {l : Launch} {e : Env} {s : State} {m : MethodId} {args : Array Value} {below : List Frame} {meth : Method} {c : Code} {G : Gd} {B : Nat} (X : Cm p s m args meth c cX7_holds 4 RX7 G (some .int)) (c40 : Int32 → Int32 → Int32 → Sto → Option (Int32 × Sto)) {r : Int32} {σr : Sto} (ih40 : ∀ (v1 : Int32) (v2 : Int32) (v3 : Int32) (σ : Sto) (H : Heap) (locs : List Loc) (ls : Array Slot), c40 v1 v2 v3 σ = some (r, σr) → HX G layX B σ H → va_S (inW layX B) s.heap H locs → lv_has ls 4 [(0, .ref (B + 0)), (1, .int v1), (2, .int v2), (3, .int v3)] → WM p l e 3 s m args below meth c H locs G layX B (some (.int r)) σr (F0 m 40 ls [])) (v1 : Int32) (v2 : Int32) (v3 : Int32) (σ : Sto) (hf : b_X7_holds_66 c40 v1 v2 v3 σ = some (r, σr)) (H : Heap) (locs : List Loc) (hH : HX G layX B σ H) (hS : va_S (inW layX B) s.heap H locs) (ls : Array Slot) (hl : lv_has ls 4 [(0, .ref (B + 0)), (1, .int v1), (2, .int v2), (3, .int v3)]) : WM p l e 3 s m args below meth c H locs G layX B (some (.int r)) σr (F0 m 66 ls []) := by
  unfold b_X7_holds_66 at hf
  have hx := X.1.1
  have hb := X.1.2.1
  refine lv_iinc (v := (v3 + (1 : Int32))) (lv' := [(3, .int (v3 + (1 : Int32))), (0, .ref (B + 0)), (1, .int v1), (2, .int v2)]) hx hb dX7_holds_66 hl (k := 3) rfl rfl (by decide) rfl (fun ls hl => ?_)
  refine lv_goto (tgt := 40) hx hb dX7_holds_69 (by decide) ?_
  exact ih40 v1 v2 (v3 + (1 : Int32)) σ _ _ _ hf hH hS (lv_sub hl [1, 2, 3, 0] rfl)
def b_X7_holds_40 (c40 : Int32 → Int32 → Int32 → Sto → Option (Int32 × Sto)) (v1 : Int32) (v2 : Int32) (v3 : Int32) (σ : Sto) : Option (Int32 × Sto) :=
  if (256 : Int32) ≤ v3 then (bd2 (f_X7_well v2 σ) fun r210 σ209 => some (r210, σ209)) else (if (v1 < 0 ∨ 30 ≤ v1.toNatClampNeg) then none else bd2 (f_X3_holdsBy (36 + 2 * v1.toNatClampNeg) v3 σ) fun r213 σ212 => if r213 = 0 then (b_X7_holds_66 c40 v1 v2 v3 σ212) else (b_X7_holds_66 c40 v1 (v2 + (1 : Int32)) v3 σ212))
set_option maxHeartbeats 4000000 in
set_option maxRecDepth 100000 in
theorem w_X7_holds_40 {p : Program} {l : Launch} {e : Env} {s : State} {m : MethodId} {args : Array Value} {below : List Frame} {meth : Method} {c : Code} {G : Gd} {B : Nat} (X : Cm p s m args meth c cX7_holds 4 RX7 G (some .int)) (c40 : Int32 → Int32 → Int32 → Sto → Option (Int32 × Sto)) {r : Int32} {σr : Sto} (ih40 : ∀ (v1 : Int32) (v2 : Int32) (v3 : Int32) (σ : Sto) (H : Heap) (locs : List Loc) (ls : Array Slot), c40 v1 v2 v3 σ = some (r, σr) → HX G layX B σ H → va_S (inW layX B) s.heap H locs → lv_has ls 4 [(0, .ref (B + 0)), (1, .int v1), (2, .int v2), (3, .int v3)] → WM p l e 3 s m args below meth c H locs G layX B (some (.int r)) σr (F0 m 40 ls [])) (v1 : Int32) (v2 : Int32) (v3 : Int32) (σ : Sto) (hf : b_X7_holds_40 c40 v1 v2 v3 σ = some (r, σr)) (H : Heap) (locs : List Loc) (hH : HX G layX B σ H) (hS : va_S (inW layX B) s.heap H locs) (ls : Array Slot) (hl : lv_has ls 4 [(0, .ref (B + 0)), (1, .int v1), (2, .int v2), (3, .int v3)]) : WM p l e 3 s m args below meth c H locs G layX B (some (.int r)) σr (F0 m 40 ls []) := by
  unfold b_X7_holds_40 at hf
  have hx := X.1.1
  have hb := X.1.2.1
  refine lv_iload_n hx hb dX7_holds_40 rfl (lv_at hl 3 rfl) ?_
  refine lv_sipush (v := 256) hx hb dX7_holds_41 (by decide) ?_
  refine lv_icmp_ge (tgt := 72) hx hb dX7_holds_44 (by decide) (fun q208 => ?_) (fun q208 => ?_)
  · replace hf := brT hf q208
    refine lv_aload_n hx hb dX7_holds_72 rfl (lv_at hl 0 rfl) ?_
    refine lv_iload_n hx hb dX7_holds_73 rfl (lv_at hl 2 rfl) ?_
    obtain ⟨r210, σ209, eσ209, hf⟩ := bnd2 hf
    refine g_cVi (As := [.int v2]) X.1 hH hS (c_X7_well l G B v2 σ σ209 r210 eσ209) kw_RX7_74 kX7 kx_0 (by decide) rfl hl (Nat.le_of_ble_eq_true rfl) rfl dX7_holds_74 (fun H locs hH hS => ?_)
    obtain ⟨rfl, rfl⟩ := rt2 hf
    exact g_iret X hH hS dX7_holds_77
  · replace hf := brF hf q208
    refine lv_aload_n hx hb dX7_holds_47 rfl (lv_at hl 0 rfl) ?_
    refine g_get (v := .ref (B + 33)) kX7 (by decide) fl_RX7_26 X.1 hH kx_0 rfl dX7_holds_48 ?_
    refine g_get (v := .ref (B + 34)) kX2 (by decide) fl_RX7_163 X.1 hH kx_33 rfl dX7_holds_51 ?_
    refine lv_iload_n hx hb dX7_holds_54 rfl (lv_at hl 1 rfl) ?_
    obtain ⟨q211, hf⟩ := chk hf
    refine g_aald (b := (36 + 2 * v1.toNatClampNeg)) X.1 hH kx_34 (by decide) q211 rfl dX7_holds_55 ?_
    refine lv_iload_n hx hb dX7_holds_56 rfl (lv_at hl 3 rfl) ?_
    obtain ⟨r213, σ212, eσ212, hf⟩ := bnd2 hf
    refine g_cVi (As := [.int v3]) X.1 hH hS (c_X3_holdsBy l G B (36 + 2 * v1.toNatClampNeg) (kB33 q211) v3 σ σ212 r213 eσ212) kw_RX7_294 kX3 (kB33 q211) (by decide) rfl hl (Nat.le_of_ble_eq_true rfl) rfl dX7_holds_57 (fun H locs hH hS => ?_)
    refine lv_if_eq (tgt := 66) hx hb dX7_holds_60 (by decide) (fun q214 => ?_) (fun q214 => ?_)
    · replace hf := brT hf q214
      exact w_X7_holds_66 X c40 ih40 v1 v2 v3 σ212 hf _ _ hH hS _ (lv_sub hl [0, 1, 2, 3] rfl)
    · replace hf := brF hf q214
      refine lv_iinc (v := (v2 + (1 : Int32))) (lv' := [(2, .int (v2 + (1 : Int32))), (0, .ref (B + 0)), (1, .int v1), (3, .int v3)]) hx hb dX7_holds_63 hl (k := 2) rfl rfl (by decide) rfl (fun ls hl => ?_)
      exact w_X7_holds_66 X c40 ih40 v1 (v2 + (1 : Int32)) v3 σ212 hf _ _ hH hS _ (lv_sub hl [1, 2, 0, 3] rfl)
def l_X7_holds_40 : Nat → Int32 → Int32 → Int32 → Sto → Option (Int32 × Sto)
  | 0, _, _, _, _ => none
  | n + 1, v1, v2, v3, σ => b_X7_holds_40 (l_X7_holds_40 n) v1 v2 v3 σ
set_option maxHeartbeats 4000000 in
set_option maxRecDepth 100000 in
theorem wl_X7_holds_40 {p : Program} {l : Launch} {e : Env} {s : State} {m : MethodId} {args : Array Value} {below : List Frame} {meth : Method} {c : Code} {G : Gd} {B : Nat} (X : Cm p s m args meth c cX7_holds 4 RX7 G (some .int)) {r : Int32} {σr : Sto} (n : Nat) : ∀ (v1 : Int32) (v2 : Int32) (v3 : Int32) (σ : Sto) (H : Heap) (locs : List Loc) (ls : Array Slot), l_X7_holds_40 n v1 v2 v3 σ = some (r, σr) → HX G layX B σ H → va_S (inW layX B) s.heap H locs → lv_has ls 4 [(0, .ref (B + 0)), (1, .int v1), (2, .int v2), (3, .int v3)] → WM p l e 3 s m args below meth c H locs G layX B (some (.int r)) σr (F0 m 40 ls []) := by
  induction n with
  | zero =>
    intro _ _ _ σ H locs ls hf
    cases hf
  | succ n ih =>
    intro v1 v2 v3 σ H locs ls hf hH hS hl
    exact w_X7_holds_40 X (l_X7_holds_40 n) ih v1 v2 v3 σ hf H locs hH hS ls hl
def f_X7_holds (x1 : Int32) (σ : Sto) : Option (Int32 × Sto) :=
  bd2 (f_X2_has 33 x1 σ) fun r102 σ101 => if r102 = 0 then (some ((-1000001 : Int32), σ101)) else (if (x1 < 0 ∨ 30 ≤ x1.toNatClampNeg) then none else bd2 (f_X3_isBeyond (36 + 2 * x1.toNatClampNeg) σ101) fun r106 σ105 => if r106 = 0 then (l_X7_holds_40 400 x1 (0 : Int32) (0 : Int32) σ105) else (bd2 (f_X7_found (6 : Int32) σ105) fun r316 σ315 => some (r316, σ315)))
set_option maxHeartbeats 4000000 in
set_option maxRecDepth 100000 in
theorem w_X7_holds {p : Program} {l : Launch} {e : Env} {s : State} {m : MethodId} {args : Array Value} {below : List Frame} {meth : Method} {c : Code} {G : Gd} {B : Nat} (X : Cm p s m args meth c cX7_holds 4 RX7 G (some .int)) {r : Int32} {σr : Sto} (x1 : Int32) (σ : Sto) (hf : f_X7_holds x1 σ = some (r, σr)) (H : Heap) (locs : List Loc) (hH : HX G layX B σ H) (hS : va_S (inW layX B) s.heap H locs) (ls : Array Slot) (hl : lv_has ls 4 [(0, .ref (B + 0)), (1, .int x1)]) : WM p l e 3 s m args below meth c H locs G layX B (some (.int r)) σr (F0 m 0 ls []) := by
  unfold f_X7_holds at hf
  have hx := X.1.1
  have hb := X.1.2.1
  refine lv_aload_n hx hb dX7_holds_0 rfl (lv_at hl 0 rfl) ?_
  refine g_get (v := .ref (B + 33)) kX7 (by decide) fl_RX7_26 X.1 hH kx_0 rfl dX7_holds_1 ?_
  refine lv_iload_n hx hb dX7_holds_4 rfl (lv_at hl 1 rfl) ?_
  obtain ⟨r102, σ101, eσ101, hf⟩ := bnd2 hf
  refine g_cVi (As := [.int x1]) X.1 hH hS (c_X2_has l G B 33 kx_33 x1 σ σ101 r102 eσ101) kw_RX7_156 kX2 kx_33 (by decide) rfl hl (Nat.le_of_ble_eq_true rfl) rfl dX7_holds_5 (fun H locs hH hS => ?_)
  refine lv_if_ne (tgt := 14) hx hb dX7_holds_8 (by decide) (fun q103 => ?_) (fun q103 => ?_)
  · replace hf := brF hf q103
    refine lv_aload_n hx hb dX7_holds_14 rfl (lv_at hl 0 rfl) ?_
    refine g_get (v := .ref (B + 33)) kX7 (by decide) fl_RX7_26 X.1 hH kx_0 rfl dX7_holds_15 ?_
    refine g_get (v := .ref (B + 34)) kX2 (by decide) fl_RX7_163 X.1 hH kx_33 rfl dX7_holds_18 ?_
    refine lv_iload_n hx hb dX7_holds_21 rfl (lv_at hl 1 rfl) ?_
    obtain ⟨q104, hf⟩ := chk hf
    refine g_aald (b := (36 + 2 * x1.toNatClampNeg)) X.1 hH kx_34 (by decide) q104 rfl dX7_holds_22 ?_
    obtain ⟨r106, σ105, eσ105, hf⟩ := bnd2 hf
    refine g_cVi (As := []) X.1 hH hS (c_X3_isBeyond l G B (36 + 2 * x1.toNatClampNeg) (kB33 q104) σ101 σ105 r106 eσ105) kw_RX7_270 kX3 (kB33 q104) (by decide) rfl hl (Nat.le_of_ble_eq_true rfl) rfl dX7_holds_23 (fun H locs hH hS => ?_)
    refine lv_if_eq (tgt := 36) hx hb dX7_holds_26 (by decide) (fun q107 => ?_) (fun q107 => ?_)
    · replace hf := brT hf q107
      refine lv_iconst (v := 0) hx hb dX7_holds_36 (by decide) ?_
      refine lv_istore_n (lv' := [(2, .int (0 : Int32)), (0, .ref (B + 0)), (1, .int x1)]) hx hb dX7_holds_37 rfl hl (by decide) rfl (fun ls hl => ?_)
      refine lv_iconst (v := 0) hx hb dX7_holds_38 (by decide) ?_
      refine lv_istore_n (lv' := [(3, .int (0 : Int32)), (2, .int (0 : Int32)), (0, .ref (B + 0)), (1, .int x1)]) hx hb dX7_holds_39 rfl hl (by decide) rfl (fun ls hl => ?_)
      exact wl_X7_holds_40 X 400 x1 (0 : Int32) (0 : Int32) σ105 _ _ _ hf hH hS (lv_sub hl [2, 3, 1, 0] rfl)
    · replace hf := brF hf q107
      refine lv_aload_n hx hb dX7_holds_29 rfl (lv_at hl 0 rfl) ?_
      refine lv_bipush (v := 6) hx hb dX7_holds_30 (by decide) ?_
      obtain ⟨r316, σ315, eσ315, hf⟩ := bnd2 hf
      refine g_cVi (As := [.int (6 : Int32)]) X.1 hH hS (c_X7_found l G B (6 : Int32) σ105 σ315 r316 eσ315) kw_RX7_66 kX7 kx_0 (by decide) rfl hl (Nat.le_of_ble_eq_true rfl) rfl dX7_holds_32 (fun H locs hH hS => ?_)
      obtain ⟨rfl, rfl⟩ := rt2 hf
      exact g_iret X hH hS dX7_holds_35
  · replace hf := brT hf q103
    refine lv_ldc (v := -1000001) hx hb X.1.2.2.2.1 (X.1.2.2.2.2.1 _ kc_RX7_65) dX7_holds_11 ?_
    obtain ⟨rfl, rfl⟩ := rt2 hf
    exact g_iret X hH hS dX7_holds_13
theorem c_X7_holds (l : Launch) (G : Gd) (B : Nat) (x1 : Int32) (σ σr : Sto) (r : Int32) (hf : f_X7_holds x1 σ = some (r, σr)) : Ct l G layX B yX7_holds cX7_holds 4 (some .int) 3 [.ref (B + 0), .int x1] (some (.int r)) σ σr :=
  Ct.ofW (by decide) (Nat.le_of_ble_eq_true rfl) (fun _ _ _ _ _ _ _ X hH hS ls hl => w_X7_holds X x1 σ hf _ _ hH hS ls (show lv_has ls 4 [(0, .ref (B + 0)), (1, .int x1)] from hl))
-- SlackProofs.image(I)I  (D 4)
def b_X7_image_9 (σ : Sto) : Option (Int32 × Sto) :=
  some ((-1000001 : Int32), σ)
set_option maxHeartbeats 4000000 in
set_option maxRecDepth 100000 in
theorem w_X7_image_9 {p : Program} {l : Launch} {e : Env} {s : State} {m : MethodId} {args : Array Value} {below : List Frame} {meth : Method} {c : Code} {G : Gd} {B : Nat} (X : Cm p s m args meth c cX7_image 2 RX7 G (some .int)) {r : Int32} {σr : Sto} (σ : Sto) (hf : b_X7_image_9 σ = some (r, σr)) (H : Heap) (locs : List Loc) (hH : HX G layX B σ H) (hS : va_S (inW layX B) s.heap H locs) (ls : Array Slot) (hl : lv_has ls 2 []) : WM p l e 4 s m args below meth c H locs G layX B (some (.int r)) σr (F0 m 9 ls []) := by
  unfold b_X7_image_9 at hf
  have hx := X.1.1
  have hb := X.1.2.1
  refine lv_ldc (v := -1000001) hx hb X.1.2.2.2.1 (X.1.2.2.2.2.1 _ kc_RX7_65) dX7_image_9 ?_
  obtain ⟨rfl, rfl⟩ := rt2 hf
  exact g_iret X hH hS dX7_image_11
def f_X7_image (x1 : Int32) (σ : Sto) : Option (Int32 × Sto) :=
  if x1 < 0 then (b_X7_image_9 σ) else (if x1 < (2 : Int32) then (if (σ.1 33 2) = 0 then (some ((-1000002 : Int32), σ)) else (if (x1 < 0 ∨ 2 ≤ x1.toNatClampNeg) then none else bd1 (f_X2_become (imgC x1.toNatClampNeg) 33 σ) fun σ205 => bd2 (f_J6_bitCount_0f7a4 (σ205.1 33 4) σ205) fun r208 σ207 => some (r208, σ207))) else (b_X7_image_9 σ))
set_option maxHeartbeats 4000000 in
set_option maxRecDepth 100000 in
theorem w_X7_image {p : Program} {l : Launch} {e : Env} {s : State} {m : MethodId} {args : Array Value} {below : List Frame} {meth : Method} {c : Code} {G : Gd} {B : Nat} (X : Cm p s m args meth c cX7_image 2 RX7 G (some .int)) {r : Int32} {σr : Sto} (x1 : Int32) (σ : Sto) (hf : f_X7_image x1 σ = some (r, σr)) (H : Heap) (locs : List Loc) (hH : HX G layX B σ H) (hS : va_S (inW layX B) s.heap H locs) (ls : Array Slot) (hl : lv_has ls 2 [(0, .ref (B + 0)), (1, .int x1)]) : WM p l e 4 s m args below meth c H locs G layX B (some (.int r)) σr (F0 m 0 ls []) := by
  unfold f_X7_image at hf
  have hx := X.1.1
  have hb := X.1.2.1
  refine lv_iload_n hx hb dX7_image_0 rfl (lv_at hl 1 rfl) ?_
  refine lv_if_lt (tgt := 9) hx hb dX7_image_1 (by decide) (fun q101 => ?_) (fun q101 => ?_)
  · replace hf := brT hf q101
    exact w_X7_image_9 X σ hf _ _ hH hS _ (lv_sub hl [] rfl)
  · replace hf := brF hf q101
    refine lv_iload_n hx hb dX7_image_4 rfl (lv_at hl 1 rfl) ?_
    refine lv_iconst (v := 2) hx hb dX7_image_5 (by decide) ?_
    refine lv_icmp_lt (tgt := 12) hx hb dX7_image_6 (by decide) (fun q202 => ?_) (fun q202 => ?_)
    · replace hf := brT hf q202
      refine lv_aload_n hx hb dX7_image_12 rfl (lv_at hl 0 rfl) ?_
      refine g_get (v := .ref (B + 33)) kX7 (by decide) fl_RX7_26 X.1 hH kx_0 rfl dX7_image_13 ?_
      refine g_get (v := .int (σ.1 33 2)) kX2 (by decide) fl_RX7_197 X.1 hH kx_33 rfl dX7_image_16 ?_
      refine lv_if_ne (tgt := 25) hx hb dX7_image_19 (by decide) (fun q203 => ?_) (fun q203 => ?_)
      · replace hf := brF hf q203
        refine lv_aload_n hx hb dX7_image_25 rfl (lv_at hl 0 rfl) ?_
        refine g_get (v := .ref (B + 96)) kX7 (by decide) fl_RX7_30 X.1 hH kx_0 rfl dX7_image_26 ?_
        refine lv_iload_n hx hb dX7_image_29 rfl (lv_at hl 1 rfl) ?_
        obtain ⟨q204, hf⟩ := chk hf
        refine g_aald (b := (imgC x1.toNatClampNeg)) X.1 hH kx_96 (by decide) q204 rfl dX7_image_30 ?_
        refine lv_aload_n hx hb dX7_image_31 rfl (lv_at hl 0 rfl) ?_
        refine g_get (v := .ref (B + 33)) kX7 (by decide) fl_RX7_26 X.1 hH kx_0 rfl dX7_image_32 ?_
        obtain ⟨σ205, eσ205, hf⟩ := bnd1 hf
        refine g_cVv (As := [.ref (B + 33)]) X.1 hH hS (c_X2_become l G B (imgC x1.toNatClampNeg) (kImg q204) 33 kx_33 σ σ205 eσ205) kw_RX7_300 kX2 (kImg q204) (by decide) rfl hl (Nat.le_of_ble_eq_true rfl) rfl dX7_image_35 (fun H locs hH hS => ?_)
        refine lv_aload_n hx hb dX7_image_38 rfl (lv_at hl 0 rfl) ?_
        refine g_get (v := .ref (B + 33)) kX7 (by decide) fl_RX7_26 X.1 hH kx_0 rfl dX7_image_39 ?_
        refine g_get (v := .int (σ205.1 33 4)) kX2 (by decide) fl_RX7_249 X.1 hH kx_33 rfl dX7_image_42 ?_
        obtain ⟨r208, σ207, eσ207, hf⟩ := bnd2 hf
        refine g_cSi (As := [.int (σ205.1 33 4)]) X.1 hH hS (c_J6_bitCount_0f7a4 l G B (σ205.1 33 4) σ205 σ207 r208 eσ207) kw_RX7_252 (by decide) rfl hl (Nat.le_of_ble_eq_true rfl) rfl dX7_image_45 (fun H locs hH hS => ?_)
        obtain ⟨rfl, rfl⟩ := rt2 hf
        exact g_iret X hH hS dX7_image_48
      · replace hf := brT hf q203
        refine lv_ldc (v := -1000002) hx hb X.1.2.2.2.1 (X.1.2.2.2.2.1 _ kc_RX7_201) dX7_image_22 ?_
        obtain ⟨rfl, rfl⟩ := rt2 hf
        exact g_iret X hH hS dX7_image_24
    · replace hf := brF hf q202
      exact w_X7_image_9 X σ hf _ _ hH hS _ (lv_sub hl [] rfl)
theorem c_X7_image (l : Launch) (G : Gd) (B : Nat) (x1 : Int32) (σ σr : Sto) (r : Int32) (hf : f_X7_image x1 σ = some (r, σr)) : Ct l G layX B yX7_image cX7_image 2 (some .int) 4 [.ref (B + 0), .int x1] (some (.int r)) σ σr :=
  Ct.ofW (by decide) (Nat.le_of_ble_eq_true rfl) (fun _ _ _ _ _ _ _ X hH hS ls hl => w_X7_image X x1 σ hf _ _ hH hS ls (show lv_has ls 2 [(0, .ref (B + 0)), (1, .int x1)] from hl))
-- SlackProofs.kind(I)I  (D 2)
def b_X7_kind_28 (s0 : Int32) (σ : Sto) : Option (Int32 × Sto) :=
  some (s0, σ)
set_option maxHeartbeats 4000000 in
set_option maxRecDepth 100000 in
theorem w_X7_kind_28 {p : Program} {l : Launch} {e : Env} {s : State} {m : MethodId} {args : Array Value} {below : List Frame} {meth : Method} {c : Code} {G : Gd} {B : Nat} (X : Cm p s m args meth c cX7_kind 2 RX7 G (some .int)) {r : Int32} {σr : Sto} (s0 : Int32) (σ : Sto) (hf : b_X7_kind_28 s0 σ = some (r, σr)) (H : Heap) (locs : List Loc) (hH : HX G layX B σ H) (hS : va_S (inW layX B) s.heap H locs) (ls : Array Slot) (hl : lv_has ls 2 []) : WM p l e 2 s m args below meth c H locs G layX B (some (.int r)) σr (F0 m 28 ls [.int s0]) := by
  unfold b_X7_kind_28 at hf
  have hx := X.1.1
  have hb := X.1.2.1
  obtain ⟨rfl, rfl⟩ := rt2 hf
  exact g_iret X hH hS dX7_kind_28
def f_X7_kind (x1 : Int32) (σ : Sto) : Option (Int32 × Sto) :=
  bd2 (f_X2_has 33 x1 σ) fun r102 σ101 => if r102 = 0 then (b_X7_kind_28 (-1000001 : Int32) σ101) else (if (x1 < 0 ∨ 30 ≤ x1.toNatClampNeg) then none else b_X7_kind_28 (σ101.1 (36 + 2 * x1.toNatClampNeg) 3) σ101)
set_option maxHeartbeats 4000000 in
set_option maxRecDepth 100000 in
theorem w_X7_kind {p : Program} {l : Launch} {e : Env} {s : State} {m : MethodId} {args : Array Value} {below : List Frame} {meth : Method} {c : Code} {G : Gd} {B : Nat} (X : Cm p s m args meth c cX7_kind 2 RX7 G (some .int)) {r : Int32} {σr : Sto} (x1 : Int32) (σ : Sto) (hf : f_X7_kind x1 σ = some (r, σr)) (H : Heap) (locs : List Loc) (hH : HX G layX B σ H) (hS : va_S (inW layX B) s.heap H locs) (ls : Array Slot) (hl : lv_has ls 2 [(0, .ref (B + 0)), (1, .int x1)]) : WM p l e 2 s m args below meth c H locs G layX B (some (.int r)) σr (F0 m 0 ls []) := by
  unfold f_X7_kind at hf
  have hx := X.1.1
  have hb := X.1.2.1
  refine lv_aload_n hx hb dX7_kind_0 rfl (lv_at hl 0 rfl) ?_
  refine g_get (v := .ref (B + 33)) kX7 (by decide) fl_RX7_26 X.1 hH kx_0 rfl dX7_kind_1 ?_
  refine lv_iload_n hx hb dX7_kind_4 rfl (lv_at hl 1 rfl) ?_
  obtain ⟨r102, σ101, eσ101, hf⟩ := bnd2 hf
  refine g_cVi (As := [.int x1]) X.1 hH hS (c_X2_has l G B 33 kx_33 x1 σ σ101 r102 eσ101) kw_RX7_156 kX2 kx_33 (by decide) rfl hl (Nat.le_of_ble_eq_true rfl) rfl dX7_kind_5 (fun H locs hH hS => ?_)
  refine lv_if_eq (tgt := 26) hx hb dX7_kind_8 (by decide) (fun q103 => ?_) (fun q103 => ?_)
  · replace hf := brT hf q103
    refine lv_ldc (v := -1000001) hx hb X.1.2.2.2.1 (X.1.2.2.2.2.1 _ kc_RX7_65) dX7_kind_26 ?_
    exact w_X7_kind_28 X (-1000001 : Int32) σ101 hf _ _ hH hS _ (lv_sub hl [] rfl)
  · replace hf := brF hf q103
    refine lv_aload_n hx hb dX7_kind_11 rfl (lv_at hl 0 rfl) ?_
    refine g_get (v := .ref (B + 33)) kX7 (by decide) fl_RX7_26 X.1 hH kx_0 rfl dX7_kind_12 ?_
    refine g_get (v := .ref (B + 34)) kX2 (by decide) fl_RX7_163 X.1 hH kx_33 rfl dX7_kind_15 ?_
    refine lv_iload_n hx hb dX7_kind_18 rfl (lv_at hl 1 rfl) ?_
    obtain ⟨q204, hf⟩ := chk hf
    refine g_aald (b := (36 + 2 * x1.toNatClampNeg)) X.1 hH kx_34 (by decide) q204 rfl dX7_kind_19 ?_
    refine g_get (v := .int (σ101.1 (36 + 2 * x1.toNatClampNeg) 3)) kX3 (by decide) fl_RX7_239 X.1 hH (kB33 q204) rfl dX7_kind_20 ?_
    refine lv_goto (tgt := 28) hx hb dX7_kind_23 (by decide) ?_
    exact w_X7_kind_28 X (σ101.1 (36 + 2 * x1.toNatClampNeg) 3) σ101 hf _ _ hH hS _ (lv_sub hl [] rfl)
theorem c_X7_kind (l : Launch) (G : Gd) (B : Nat) (x1 : Int32) (σ σr : Sto) (r : Int32) (hf : f_X7_kind x1 σ = some (r, σr)) : Ct l G layX B yX7_kind cX7_kind 2 (some .int) 2 [.ref (B + 0), .int x1] (some (.int r)) σ σr :=
  Ct.ofW (by decide) (Nat.le_of_ble_eq_true rfl) (fun _ _ _ _ _ _ _ X hH hS ls hl => w_X7_kind X x1 σ hf _ _ hH hS ls (show lv_has ls 2 [(0, .ref (B + 0)), (1, .int x1)] from hl))
-- SlackProofs.plus(II)I  (D 3)
def b_X7_plus_28 (v1 : Int32) (v2 : Int32) (s0 : Int32) (σ : Sto) : Option (Int32 × Sto) :=
  bd2 (f_X7_stepRefusal s0 σ) fun r305 σ304 => if r305 = 0 then (bd2 (f_X2_next 33 σ304) fun r308 σ307 => if ¬ (r308 < layX.2.2 ∧ layX.1 r308 = .inl 3) then none else if (v1 < 0 ∨ 30 ≤ v1.toNatClampNeg) then none else if (v2 < 0 ∨ 30 ≤ v2.toNatClampNeg) then none else bd2 (f_X3_becomePlus r308 (36 + 2 * v1.toNatClampNeg) (36 + 2 * v2.toNatClampNeg) σ307) fun r313 σ312 => if r313 = 0 then (bd2 (f_X7_found (6 : Int32) σ312) fun r320 σ319 => some (r320, σ319)) else (bd2 (f_X7_comes (4 : Int32) σ312) fun r316 σ315 => bd2 (f_X7_well r316 σ315) fun r318 σ317 => some (r318, σ317))) else (some (r305, σ304))
set_option maxHeartbeats 4000000 in
set_option maxRecDepth 100000 in
theorem w_X7_plus_28 {p : Program} {l : Launch} {e : Env} {s : State} {m : MethodId} {args : Array Value} {below : List Frame} {meth : Method} {c : Code} {G : Gd} {B : Nat} (X : Cm p s m args meth c cX7_plus 4 RX7 G (some .int)) {r : Int32} {σr : Sto} (v1 : Int32) (v2 : Int32) (s0 : Int32) (σ : Sto) (hf : b_X7_plus_28 v1 v2 s0 σ = some (r, σr)) (H : Heap) (locs : List Loc) (hH : HX G layX B σ H) (hS : va_S (inW layX B) s.heap H locs) (ls : Array Slot) (hl : lv_has ls 4 [(0, .ref (B + 0)), (1, .int v1), (2, .int v2)]) : WM p l e 3 s m args below meth c H locs G layX B (some (.int r)) σr (F0 m 28 ls [.int s0, .ref (B + 0)]) := by
  unfold b_X7_plus_28 at hf
  have hx := X.1.1
  have hb := X.1.2.1
  obtain ⟨r305, σ304, eσ304, hf⟩ := bnd2 hf
  refine g_cVi (As := [.int s0]) X.1 hH hS (c_X7_stepRefusal l G B s0 σ σ304 r305 eσ304) kw_RX7_159 kX7 kx_0 (by decide) rfl hl (Nat.le_of_ble_eq_true rfl) rfl dX7_plus_28 (fun H locs hH hS => ?_)
  refine lv_istore_n (lv' := [(3, .int r305), (0, .ref (B + 0)), (1, .int v1), (2, .int v2)]) hx hb dX7_plus_31 rfl hl (by decide) rfl (fun ls hl => ?_)
  refine lv_iload_n hx hb dX7_plus_32 rfl (lv_at hl 0 rfl) ?_
  refine lv_if_eq (tgt := 38) hx hb dX7_plus_33 (by decide) (fun q306 => ?_) (fun q306 => ?_)
  · replace hf := brT hf q306
    refine lv_aload_n hx hb dX7_plus_38 rfl (lv_at hl 1 rfl) ?_
    refine g_get (v := .ref (B + 33)) kX7 (by decide) fl_RX7_26 X.1 hH kx_0 rfl dX7_plus_39 ?_
    obtain ⟨r308, σ307, eσ307, hf⟩ := bnd2 hf
    refine g_cVr (As := []) X.1 hH hS (c_X2_next l G B 33 kx_33 σ304 σ307 r308 eσ307) kw_RX7_133 kX2 kx_33 (by decide) rfl hl (Nat.le_of_ble_eq_true rfl) rfl dX7_plus_42 (fun H locs hH hS => ?_)
    obtain ⟨q309, hf⟩ := chk hf
    replace q309 := Decidable.not_not.mp q309
    refine lv_aload_n hx hb dX7_plus_45 rfl (lv_at hl 1 rfl) ?_
    refine g_get (v := .ref (B + 33)) kX7 (by decide) fl_RX7_26 X.1 hH kx_0 rfl dX7_plus_46 ?_
    refine g_get (v := .ref (B + 34)) kX2 (by decide) fl_RX7_163 X.1 hH kx_33 rfl dX7_plus_49 ?_
    refine lv_iload_n hx hb dX7_plus_52 rfl (lv_at hl 2 rfl) ?_
    obtain ⟨q310, hf⟩ := chk hf
    refine g_aald (b := (36 + 2 * v1.toNatClampNeg)) X.1 hH kx_34 (by decide) q310 rfl dX7_plus_53 ?_
    refine lv_aload_n hx hb dX7_plus_54 rfl (lv_at hl 1 rfl) ?_
    refine g_get (v := .ref (B + 33)) kX7 (by decide) fl_RX7_26 X.1 hH kx_0 rfl dX7_plus_55 ?_
    refine g_get (v := .ref (B + 34)) kX2 (by decide) fl_RX7_163 X.1 hH kx_33 rfl dX7_plus_58 ?_
    refine lv_iload_n hx hb dX7_plus_61 rfl (lv_at hl 3 rfl) ?_
    obtain ⟨q311, hf⟩ := chk hf
    refine g_aald (b := (36 + 2 * v2.toNatClampNeg)) X.1 hH kx_34 (by decide) q311 rfl dX7_plus_62 ?_
    obtain ⟨r313, σ312, eσ312, hf⟩ := bnd2 hf
    refine g_cVi (As := [.ref (B + (36 + 2 * v1.toNatClampNeg)), .ref (B + (36 + 2 * v2.toNatClampNeg))]) X.1 hH hS (c_X3_becomePlus l G B r308 q309 (36 + 2 * v1.toNatClampNeg) (kB33 q310) (36 + 2 * v2.toNatClampNeg) (kB33 q311) σ307 σ312 r313 eσ312) kw_RX7_164 kX3 q309 (by decide) rfl hl (Nat.le_of_ble_eq_true rfl) rfl dX7_plus_63 (fun H locs hH hS => ?_)
    refine lv_if_ne (tgt := 76) hx hb dX7_plus_66 (by decide) (fun q314 => ?_) (fun q314 => ?_)
    · replace hf := brF hf q314
      refine lv_aload_n hx hb dX7_plus_76 rfl (lv_at hl 1 rfl) ?_
      refine lv_aload_n hx hb dX7_plus_77 rfl (lv_at hl 1 rfl) ?_
      refine lv_iconst (v := 4) hx hb dX7_plus_78 (by decide) ?_
      obtain ⟨r316, σ315, eσ315, hf⟩ := bnd2 hf
      refine g_cVi (As := [.int (4 : Int32)]) X.1 hH hS (c_X7_comes l G B (4 : Int32) σ312 σ315 r316 eσ315) kw_RX7_168 kX7 kx_0 (by decide) rfl hl (Nat.le_of_ble_eq_true rfl) rfl dX7_plus_79 (fun H locs hH hS => ?_)
      obtain ⟨r318, σ317, eσ317, hf⟩ := bnd2 hf
      refine g_cVi (As := [.int r316]) X.1 hH hS (c_X7_well l G B r316 σ315 σ317 r318 eσ317) kw_RX7_74 kX7 kx_0 (by decide) rfl hl (Nat.le_of_ble_eq_true rfl) rfl dX7_plus_82 (fun H locs hH hS => ?_)
      obtain ⟨rfl, rfl⟩ := rt2 hf
      exact g_iret X hH hS dX7_plus_85
    · replace hf := brT hf q314
      refine lv_aload_n hx hb dX7_plus_69 rfl (lv_at hl 1 rfl) ?_
      refine lv_bipush (v := 6) hx hb dX7_plus_70 (by decide) ?_
      obtain ⟨r320, σ319, eσ319, hf⟩ := bnd2 hf
      refine g_cVi (As := [.int (6 : Int32)]) X.1 hH hS (c_X7_found l G B (6 : Int32) σ312 σ319 r320 eσ319) kw_RX7_66 kX7 kx_0 (by decide) rfl hl (Nat.le_of_ble_eq_true rfl) rfl dX7_plus_72 (fun H locs hH hS => ?_)
      obtain ⟨rfl, rfl⟩ := rt2 hf
      exact g_iret X hH hS dX7_plus_75
  · replace hf := brF hf q306
    refine lv_iload_n hx hb dX7_plus_36 rfl (lv_at hl 0 rfl) ?_
    obtain ⟨rfl, rfl⟩ := rt2 hf
    exact g_iret X hH hS dX7_plus_37
def b_X7_plus_27 (v1 : Int32) (v2 : Int32) (σ : Sto) : Option (Int32 × Sto) :=
  b_X7_plus_28 v1 v2 (0 : Int32) σ
set_option maxHeartbeats 4000000 in
set_option maxRecDepth 100000 in
theorem w_X7_plus_27 {p : Program} {l : Launch} {e : Env} {s : State} {m : MethodId} {args : Array Value} {below : List Frame} {meth : Method} {c : Code} {G : Gd} {B : Nat} (X : Cm p s m args meth c cX7_plus 4 RX7 G (some .int)) {r : Int32} {σr : Sto} (v1 : Int32) (v2 : Int32) (σ : Sto) (hf : b_X7_plus_27 v1 v2 σ = some (r, σr)) (H : Heap) (locs : List Loc) (hH : HX G layX B σ H) (hS : va_S (inW layX B) s.heap H locs) (ls : Array Slot) (hl : lv_has ls 4 [(0, .ref (B + 0)), (1, .int v1), (2, .int v2)]) : WM p l e 3 s m args below meth c H locs G layX B (some (.int r)) σr (F0 m 27 ls [.ref (B + 0)]) := by
  unfold b_X7_plus_27 at hf
  have hx := X.1.1
  have hb := X.1.2.1
  refine lv_iconst (v := 0) hx hb dX7_plus_27 (by decide) ?_
  exact w_X7_plus_28 X v1 v2 (0 : Int32) σ hf _ _ hH hS _ (lv_sub hl [0, 1, 2] rfl)
def f_X7_plus (x1 : Int32) (x2 : Int32) (σ : Sto) : Option (Int32 × Sto) :=
  bd2 (f_X2_has 33 x1 σ) fun r102 σ101 => if r102 = 0 then (b_X7_plus_27 x1 x2 σ101) else (bd2 (f_X2_has 33 x2 σ101) fun r322 σ321 => if r322 = 0 then (b_X7_plus_27 x1 x2 σ321) else (b_X7_plus_28 x1 x2 (1 : Int32) σ321))
set_option maxHeartbeats 4000000 in
set_option maxRecDepth 100000 in
theorem w_X7_plus {p : Program} {l : Launch} {e : Env} {s : State} {m : MethodId} {args : Array Value} {below : List Frame} {meth : Method} {c : Code} {G : Gd} {B : Nat} (X : Cm p s m args meth c cX7_plus 4 RX7 G (some .int)) {r : Int32} {σr : Sto} (x1 : Int32) (x2 : Int32) (σ : Sto) (hf : f_X7_plus x1 x2 σ = some (r, σr)) (H : Heap) (locs : List Loc) (hH : HX G layX B σ H) (hS : va_S (inW layX B) s.heap H locs) (ls : Array Slot) (hl : lv_has ls 4 [(0, .ref (B + 0)), (1, .int x1), (2, .int x2)]) : WM p l e 3 s m args below meth c H locs G layX B (some (.int r)) σr (F0 m 0 ls []) := by
  unfold f_X7_plus at hf
  have hx := X.1.1
  have hb := X.1.2.1
  refine lv_aload_n hx hb dX7_plus_0 rfl (lv_at hl 0 rfl) ?_
  refine lv_aload_n hx hb dX7_plus_1 rfl (lv_at hl 0 rfl) ?_
  refine g_get (v := .ref (B + 33)) kX7 (by decide) fl_RX7_26 X.1 hH kx_0 rfl dX7_plus_2 ?_
  refine lv_iload_n hx hb dX7_plus_5 rfl (lv_at hl 1 rfl) ?_
  obtain ⟨r102, σ101, eσ101, hf⟩ := bnd2 hf
  refine g_cVi (As := [.int x1]) X.1 hH hS (c_X2_has l G B 33 kx_33 x1 σ σ101 r102 eσ101) kw_RX7_156 kX2 kx_33 (by decide) rfl hl (Nat.le_of_ble_eq_true rfl) rfl dX7_plus_6 (fun H locs hH hS => ?_)
  refine lv_if_eq (tgt := 27) hx hb dX7_plus_9 (by decide) (fun q103 => ?_) (fun q103 => ?_)
  · replace hf := brT hf q103
    exact w_X7_plus_27 X x1 x2 σ101 hf _ _ hH hS _ (lv_sub hl [0, 1, 2] rfl)
  · replace hf := brF hf q103
    refine lv_aload_n hx hb dX7_plus_12 rfl (lv_at hl 0 rfl) ?_
    refine g_get (v := .ref (B + 33)) kX7 (by decide) fl_RX7_26 X.1 hH kx_0 rfl dX7_plus_13 ?_
    refine lv_iload_n hx hb dX7_plus_16 rfl (lv_at hl 2 rfl) ?_
    obtain ⟨r322, σ321, eσ321, hf⟩ := bnd2 hf
    refine g_cVi (As := [.int x2]) X.1 hH hS (c_X2_has l G B 33 kx_33 x2 σ101 σ321 r322 eσ321) kw_RX7_156 kX2 kx_33 (by decide) rfl hl (Nat.le_of_ble_eq_true rfl) rfl dX7_plus_17 (fun H locs hH hS => ?_)
    refine lv_if_eq (tgt := 27) hx hb dX7_plus_20 (by decide) (fun q323 => ?_) (fun q323 => ?_)
    · replace hf := brT hf q323
      exact w_X7_plus_27 X x1 x2 σ321 hf _ _ hH hS _ (lv_sub hl [0, 1, 2] rfl)
    · replace hf := brF hf q323
      refine lv_iconst (v := 1) hx hb dX7_plus_23 (by decide) ?_
      refine lv_goto (tgt := 28) hx hb dX7_plus_24 (by decide) ?_
      exact w_X7_plus_28 X x1 x2 (1 : Int32) σ321 hf _ _ hH hS _ (lv_sub hl [0, 1, 2] rfl)
theorem c_X7_plus (l : Launch) (G : Gd) (B : Nat) (x1 : Int32) (x2 : Int32) (σ σr : Sto) (r : Int32) (hf : f_X7_plus x1 x2 σ = some (r, σr)) : Ct l G layX B yX7_plus cX7_plus 4 (some .int) 3 [.ref (B + 0), .int x1, .int x2] (some (.int r)) σ σr :=
  Ct.ofW (by decide) (Nat.le_of_ble_eq_true rfl) (fun _ _ _ _ _ _ _ X hH hS ls hl => w_X7_plus X x1 x2 σ hf _ _ hH hS ls (show lv_has ls 4 [(0, .ref (B + 0)), (1, .int x1), (2, .int x2)] from hl))
-- SlackProofs.price(I)I  (D 1)
def b_X7_price_21 (s0 : Int32) (σ : Sto) : Option (Int32 × Sto) :=
  some (s0, σ)
set_option maxHeartbeats 4000000 in
set_option maxRecDepth 100000 in
theorem w_X7_price_21 {p : Program} {l : Launch} {e : Env} {s : State} {m : MethodId} {args : Array Value} {below : List Frame} {meth : Method} {c : Code} {G : Gd} {B : Nat} (X : Cm p s m args meth c cX7_price 2 RX7 G (some .int)) {r : Int32} {σr : Sto} (s0 : Int32) (σ : Sto) (hf : b_X7_price_21 s0 σ = some (r, σr)) (H : Heap) (locs : List Loc) (hH : HX G layX B σ H) (hS : va_S (inW layX B) s.heap H locs) (ls : Array Slot) (hl : lv_has ls 2 []) : WM p l e 1 s m args below meth c H locs G layX B (some (.int r)) σr (F0 m 21 ls [.int s0]) := by
  unfold b_X7_price_21 at hf
  have hx := X.1.1
  have hb := X.1.2.1
  obtain ⟨rfl, rfl⟩ := rt2 hf
  exact g_iret X hH hS dX7_price_21
def f_X7_price (x1 : Int32) (σ : Sto) : Option (Int32 × Sto) :=
  bd2 (f_X7_isVariable x1 σ) fun r102 σ101 => if r102 = 0 then (b_X7_price_21 (-1000001 : Int32) σ101) else (if (x1 < 0 ∨ 8 ≤ x1.toNatClampNeg) then none else b_X7_price_21 (σ101.1 35 x1.toNatClampNeg) σ101)
set_option maxHeartbeats 4000000 in
set_option maxRecDepth 100000 in
theorem w_X7_price {p : Program} {l : Launch} {e : Env} {s : State} {m : MethodId} {args : Array Value} {below : List Frame} {meth : Method} {c : Code} {G : Gd} {B : Nat} (X : Cm p s m args meth c cX7_price 2 RX7 G (some .int)) {r : Int32} {σr : Sto} (x1 : Int32) (σ : Sto) (hf : f_X7_price x1 σ = some (r, σr)) (H : Heap) (locs : List Loc) (hH : HX G layX B σ H) (hS : va_S (inW layX B) s.heap H locs) (ls : Array Slot) (hl : lv_has ls 2 [(0, .ref (B + 0)), (1, .int x1)]) : WM p l e 1 s m args below meth c H locs G layX B (some (.int r)) σr (F0 m 0 ls []) := by
  unfold f_X7_price at hf
  have hx := X.1.1
  have hb := X.1.2.1
  refine lv_iload_n hx hb dX7_price_0 rfl (lv_at hl 1 rfl) ?_
  obtain ⟨r102, σ101, eσ101, hf⟩ := bnd2 hf
  refine g_cSi (As := [.int x1]) X.1 hH hS (c_X7_isVariable l G B x1 σ σ101 r102 eσ101) kw_RX7_182 (by decide) rfl hl (Nat.le_of_ble_eq_true rfl) rfl dX7_price_1 (fun H locs hH hS => ?_)
  refine lv_if_eq (tgt := 19) hx hb dX7_price_4 (by decide) (fun q103 => ?_) (fun q103 => ?_)
  · replace hf := brT hf q103
    refine lv_ldc (v := -1000001) hx hb X.1.2.2.2.1 (X.1.2.2.2.2.1 _ kc_RX7_65) dX7_price_19 ?_
    exact w_X7_price_21 X (-1000001 : Int32) σ101 hf _ _ hH hS _ (lv_sub hl [] rfl)
  · replace hf := brF hf q103
    refine lv_aload_n hx hb dX7_price_7 rfl (lv_at hl 0 rfl) ?_
    refine g_get (v := .ref (B + 33)) kX7 (by decide) fl_RX7_26 X.1 hH kx_0 rfl dX7_price_8 ?_
    refine g_get (v := .ref (B + 35)) kX2 (by decide) fl_RX7_234 X.1 hH kx_33 rfl dX7_price_11 ?_
    refine lv_iload_n hx hb dX7_price_14 rfl (lv_at hl 1 rfl) ?_
    obtain ⟨q204, hf⟩ := chk hf
    refine g_iald (j := x1.toNatClampNeg) X.1 hH kx_35 q204 rfl dX7_price_15 ?_
    refine lv_goto (tgt := 21) hx hb dX7_price_16 (by decide) ?_
    exact w_X7_price_21 X (σ101.1 35 x1.toNatClampNeg) σ101 hf _ _ hH hS _ (lv_sub hl [] rfl)
theorem c_X7_price (l : Launch) (G : Gd) (B : Nat) (x1 : Int32) (σ σr : Sto) (r : Int32) (hf : f_X7_price x1 σ = some (r, σr)) : Ct l G layX B yX7_price cX7_price 2 (some .int) 1 [.ref (B + 0), .int x1] (some (.int r)) σ σr :=
  Ct.ofW (by decide) (Nat.le_of_ble_eq_true rfl) (fun _ _ _ _ _ _ _ X hH hS ls hl => w_X7_price X x1 σ hf _ _ hH hS ls (show lv_has ls 2 [(0, .ref (B + 0)), (1, .int x1)] from hl))
