theorem ob_RX7_1 : Cond.methodLink RX7 1 objectInit ∈ tb ∧ Cond.instanceMethod objectInit ∈ tb ∧ Cond.code objectInit ⟨#[0xb1]⟩ 1 none ∈ tb := ⟨tb_in 65 (by decide +kernel) (by decide +kernel), tb_in 66 (by decide +kernel) (by decide +kernel), tb_in 67 (by decide +kernel) (by decide +kernel)⟩
theorem nw_RX7_7 : Cond.classLink RX7 7 RX6 ∈ tb ∧ Cond.instantiable RX6 3 ∈ tb ∧ Cond.initialized RX6 ∈ tb := ⟨tb_in 68 (by decide +kernel) (by decide +kernel), tb_in 69 (by decide +kernel) (by decide +kernel), tb_in 48 (by decide +kernel) (by decide +kernel)⟩
theorem cq_X6_init : (Cond.initialized yX6_init.cls ∈ tb ∧ Cond.code yX6_init cX6_init 1 none ∈ tb ∧ (yX6_init.cls ≠ "java/lang/invoke/MethodHandle" ∧ yX6_init.cls ≠ "java/lang/invoke/VarHandle" ∧ (parseMethodDescriptor yX6_init.desc).map (fun d => d.parameters.length) = some 0)) ∧ Cond.instanceMethod yX6_init ∈ tb := ⟨⟨tb_in 48 (by decide +kernel) (by decide +kernel), tb_in 72 (by decide +kernel) (by decide +kernel), by decide +kernel, by decide +kernel, by decide +kernel⟩, tb_in 71 (by decide +kernel) (by decide +kernel)⟩
theorem kt_RX7_9 : CwB RX7 9 yX6_init cX6_init 1 none 0 ∧ Cond.instanceMethod yX6_init ∈ tb := ⟨⟨tb_in 70 (by decide +kernel) (by decide +kernel), cq_X6_init.1⟩, cq_X6_init.2⟩
theorem nw_RX7_16 : Cond.classLink RX7 16 RX5 ∈ tb ∧ Cond.instantiable RX5 9 ∈ tb ∧ Cond.initialized RX5 ∈ tb := ⟨tb_in 93 (by decide +kernel) (by decide +kernel), tb_in 94 (by decide +kernel) (by decide +kernel), tb_in 50 (by decide +kernel) (by decide +kernel)⟩
theorem cq_X5_init : (Cond.initialized yX5_init.cls ∈ tb ∧ Cond.code yX5_init cX5_init 2 none ∈ tb ∧ (yX5_init.cls ≠ "java/lang/invoke/MethodHandle" ∧ yX5_init.cls ≠ "java/lang/invoke/VarHandle" ∧ (parseMethodDescriptor yX5_init.desc).map (fun d => d.parameters.length) = some 0)) ∧ Cond.instanceMethod yX5_init ∈ tb := ⟨⟨tb_in 50 (by decide +kernel) (by decide +kernel), tb_in 97 (by decide +kernel) (by decide +kernel), by decide +kernel, by decide +kernel, by decide +kernel⟩, tb_in 96 (by decide +kernel) (by decide +kernel)⟩
theorem kt_RX7_18 : CwB RX7 18 yX5_init cX5_init 2 none 0 ∧ Cond.instanceMethod yX5_init ∈ tb := ⟨⟨tb_in 95 (by decide +kernel) (by decide +kernel), cq_X5_init.1⟩, cq_X5_init.2⟩
theorem nw_RX7_23 : Cond.classLink RX7 23 RX2 ∈ tb ∧ Cond.instantiable RX2 6 ∈ tb ∧ Cond.initialized RX2 ∈ tb := ⟨tb_in 165 (by decide +kernel) (by decide +kernel), tb_in 166 (by decide +kernel) (by decide +kernel), tb_in 52 (by decide +kernel) (by decide +kernel)⟩
theorem cq_X2_init : (Cond.initialized yX2_init.cls ∈ tb ∧ Cond.code yX2_init cX2_init 2 none ∈ tb ∧ (yX2_init.cls ≠ "java/lang/invoke/MethodHandle" ∧ yX2_init.cls ≠ "java/lang/invoke/VarHandle" ∧ (parseMethodDescriptor yX2_init.desc).map (fun d => d.parameters.length) = some 0)) ∧ Cond.instanceMethod yX2_init ∈ tb := ⟨⟨tb_in 52 (by decide +kernel) (by decide +kernel), tb_in 169 (by decide +kernel) (by decide +kernel), by decide +kernel, by decide +kernel, by decide +kernel⟩, tb_in 168 (by decide +kernel) (by decide +kernel)⟩
theorem kt_RX7_25 : CwB RX7 25 yX2_init cX2_init 2 none 0 ∧ Cond.instanceMethod yX2_init ∈ tb := ⟨⟨tb_in 167 (by decide +kernel) (by decide +kernel), cq_X2_init.1⟩, cq_X2_init.2⟩
theorem nw_RX7_34 : Cond.classLink RX7 34 RX0 ∈ tb ∧ Cond.instantiable RX0 5 ∈ tb ∧ Cond.initialized RX0 ∈ tb := ⟨tb_in 207 (by decide +kernel) (by decide +kernel), tb_in 208 (by decide +kernel) (by decide +kernel), tb_in 53 (by decide +kernel) (by decide +kernel)⟩
theorem cq_X0_init : (Cond.initialized yX0_init.cls ∈ tb ∧ Cond.code yX0_init cX0_init 1 none ∈ tb ∧ (yX0_init.cls ≠ "java/lang/invoke/MethodHandle" ∧ yX0_init.cls ≠ "java/lang/invoke/VarHandle" ∧ (parseMethodDescriptor yX0_init.desc).map (fun d => d.parameters.length) = some 0)) ∧ Cond.instanceMethod yX0_init ∈ tb := ⟨⟨tb_in 53 (by decide +kernel) (by decide +kernel), tb_in 211 (by decide +kernel) (by decide +kernel), by decide +kernel, by decide +kernel, by decide +kernel⟩, tb_in 210 (by decide +kernel) (by decide +kernel)⟩
theorem nw_RX7_41 : Cond.classLink RX7 41 RX4 ∈ tb ∧ Cond.instantiable RX4 7 ∈ tb ∧ Cond.initialized RX4 ∈ tb := ⟨tb_in 230 (by decide +kernel) (by decide +kernel), tb_in 231 (by decide +kernel) (by decide +kernel), tb_in 54 (by decide +kernel) (by decide +kernel)⟩
theorem cq_X4_init : (Cond.initialized yX4_init.cls ∈ tb ∧ Cond.code yX4_init cX4_init 2 none ∈ tb ∧ (yX4_init.cls ≠ "java/lang/invoke/MethodHandle" ∧ yX4_init.cls ≠ "java/lang/invoke/VarHandle" ∧ (parseMethodDescriptor yX4_init.desc).map (fun d => d.parameters.length) = some 1)) ∧ Cond.instanceMethod yX4_init ∈ tb := ⟨⟨tb_in 54 (by decide +kernel) (by decide +kernel), tb_in 234 (by decide +kernel) (by decide +kernel), by decide +kernel, by decide +kernel, by decide +kernel⟩, tb_in 233 (by decide +kernel) (by decide +kernel)⟩
theorem kt_RX7_43 : CwB RX7 43 yX4_init cX4_init 2 none 1 ∧ Cond.instanceMethod yX4_init ∈ tb := ⟨⟨tb_in 232 (by decide +kernel) (by decide +kernel), cq_X4_init.1⟩, cq_X4_init.2⟩
theorem nw_RX7_50 : Cond.classLink RX7 50 RX1 ∈ tb ∧ Cond.instantiable RX1 2 ∈ tb ∧ Cond.initialized RX1 ∈ tb := ⟨tb_in 262 (by decide +kernel) (by decide +kernel), tb_in 263 (by decide +kernel) (by decide +kernel), tb_in 55 (by decide +kernel) (by decide +kernel)⟩
theorem cq_X1_init : (Cond.initialized yX1_init.cls ∈ tb ∧ Cond.code yX1_init cX1_init 1 none ∈ tb ∧ (yX1_init.cls ≠ "java/lang/invoke/MethodHandle" ∧ yX1_init.cls ≠ "java/lang/invoke/VarHandle" ∧ (parseMethodDescriptor yX1_init.desc).map (fun d => d.parameters.length) = some 0)) ∧ Cond.instanceMethod yX1_init ∈ tb := ⟨⟨tb_in 55 (by decide +kernel) (by decide +kernel), tb_in 266 (by decide +kernel) (by decide +kernel), by decide +kernel, by decide +kernel, by decide +kernel⟩, tb_in 265 (by decide +kernel) (by decide +kernel)⟩
set_option maxHeartbeats 4000000 in
set_option maxRecDepth 100000 in
theorem ct_X7 (l : Launch) (G : Gd) (B : Nat) (V : VS) (hV0 : V 0 = dfl 7) : Cn l G layX B yX7_init cX7_init 2 3 237 1996 [.ref (B + 0)] 1 V (Blk B 0 238 V) := by
  refine Cn.ofW (by decide) (Nat.le_of_ble_eq_true rfl) (fun p e s m below meth c hin X hV hS ls hl => ?_)
  have hl : lv_has ls 2 [(0, .ref (B + 0))] := hl
  have hx := X.1.1
  have hb := X.1.2.1
  refine lv_aload_n hx hb dX7_init_0 rfl (lv_at hl 0 rfl) ?_
  refine r_obj X.1 hl ob_RX7_1 (by decide) dX7_init_1 ?_
  refine lv_aload_n hx hb dX7_init_4 rfl (lv_at hl 0 rfl) ?_
  refine r_new X.1 hV hS kX6 rfl nw_RX7_7 (Nat.le_of_ble_eq_true rfl) (Nat.le_of_ble_eq_true rfl) dX7_init_5 (fun H hV hS => ?_)
  replace hV : HV G layX B _ 2 H := hV
  refine lv_dup hx hb dX7_init_8 rfl ?_
  refine r_ctor (As := []) X.1 X.2.2.2 hV (fun _ h => h) hS (ct_X6 l G B _ nV_at) kt_RX7_9 rfl ⟨by decide, by decide⟩ ⟨Nat.le_of_ble_eq_true rfl, Nat.le_of_ble_eq_true rfl⟩ rfl hl.1 (Nat.le_of_ble_eq_true rfl) rfl dX7_init_9 (fun V1 H locs hR1 hV hS _ _ => ?_)
  replace hV : HV G layX B _ 13 H := hV
  refine r_putF kX7 (by decide) fl_RX7_10 rfl rfl hin X.1 hV hS (k := 0) ⟨by decide, rfl⟩ rfl rfl dX7_init_12 (fun H locs hV hS => ?_)
  refine lv_aload_n hx hb dX7_init_15 rfl (lv_at hl 0 rfl) ?_
  refine r_new X.1 hV hS kX5 rfl nw_RX7_16 (Nat.le_of_ble_eq_true rfl) (Nat.le_of_ble_eq_true rfl) dX7_init_16 (fun H hV hS => ?_)
  replace hV : HV G layX B _ 14 H := hV
  refine lv_dup hx hb dX7_init_19 rfl ?_
  refine r_ctor (As := []) X.1 X.2.2.2 hV (fun _ h => h) hS (ct_X5 l G B _ nV_at) kt_RX7_18 rfl ⟨by decide, by decide⟩ ⟨Nat.le_of_ble_eq_true rfl, Nat.le_of_ble_eq_true rfl⟩ rfl hl.1 (Nat.le_of_ble_eq_true rfl) rfl dX7_init_20 (fun V2 H locs hR2 hV hS _ _ => ?_)
  replace hV : HV G layX B _ 33 H := hV
  refine r_putF kX7 (by decide) fl_RX7_19 rfl rfl hin X.1 hV hS (k := 0) ⟨by decide, rfl⟩ rfl rfl dX7_init_23 (fun H locs hV hS => ?_)
  refine lv_aload_n hx hb dX7_init_26 rfl (lv_at hl 0 rfl) ?_
  refine r_new X.1 hV hS kX2 rfl nw_RX7_23 (Nat.le_of_ble_eq_true rfl) (Nat.le_of_ble_eq_true rfl) dX7_init_27 (fun H hV hS => ?_)
  replace hV : HV G layX B _ 34 H := hV
  refine lv_dup hx hb dX7_init_30 rfl ?_
  refine r_ctor (As := []) X.1 X.2.2.2 hV (fun _ h => h) hS (ct_X2 l G B 33 (by decide) rfl _ nV_at) kt_RX7_25 rfl ⟨by decide, by decide⟩ ⟨Nat.le_of_ble_eq_true rfl, Nat.le_of_ble_eq_true rfl⟩ rfl hl.1 (Nat.le_of_ble_eq_true rfl) rfl dX7_init_31 (fun V3 H locs hR3 hV hS _ _ => ?_)
  replace hV : HV G layX B _ 96 H := hV
  refine r_putF kX7 (by decide) fl_RX7_26 rfl rfl hin X.1 hV hS (k := 0) ⟨by decide, rfl⟩ rfl rfl dX7_init_34 (fun H locs hV hS => ?_)
  refine lv_aload_n hx hb dX7_init_37 rfl (lv_at hl 0 rfl) ?_
  refine lv_iconst (v := 2) hx hb dX7_init_38 (by decide) ?_
  refine r_anew X.1 hV hS (by decide) rfl nw_RX7_23.1 X.2.2.2.2.2.1 (by decide) (by decide) (by decide) (Nat.le_of_ble_eq_true rfl) (Nat.le_of_ble_eq_true rfl) dX7_init_39 (fun H hV hS => ?_)
  replace hV : HV G layX B _ 97 H := hV
  refine r_putF kX7 (by decide) fl_RX7_30 rfl rfl hin X.1 hV hS (k := 0) ⟨by decide, rfl⟩ rfl rfl dX7_init_42 (fun H locs hV hS => ?_)
  refine lv_iconst (v := 0) hx hb dX7_init_45 (by decide) ?_
  refine lv_istore_n (lv' := [(1, .int (0 : Int32)), (0, .ref (B + 0))]) hx hb dX7_init_46 rfl hl (by decide) rfl (fun ls hl => ?_)
  refine lv_iload_n hx hb dX7_init_47 rfl (lv_at hl 0 rfl) ?_
  refine lv_iconst (v := 2) hx hb dX7_init_48 (by decide) ?_
  refine lv_icmp_ge (tgt := 71) hx hb dX7_init_49 (by decide) (fun q => absurd q (by decide)) (fun _ => ?_)
  refine lv_aload_n hx hb dX7_init_52 rfl (lv_at hl 1 rfl) ?_
  refine r_get (v := .ref (B + 96)) kX7 (by decide) fl_RX7_30 X.1 hV (k := 0) ⟨by decide, rfl⟩ (by simp (disch := omega) only [uV_at, uV_j, uV_k, nV_k, hR1.1, hR2.1, hR3.1]) dX7_init_53 ?_
  refine lv_iload_n hx hb dX7_init_56 rfl (lv_at hl 0 rfl) ?_
  refine r_new X.1 hV hS kX2 rfl nw_RX7_23 (Nat.le_of_ble_eq_true rfl) (Nat.le_of_ble_eq_true rfl) dX7_init_57 (fun H hV hS => ?_)
  replace hV : HV G layX B _ 98 H := hV
  refine lv_dup hx hb dX7_init_60 rfl ?_
  refine r_ctor (As := []) X.1 X.2.2.2 hV (fun _ h => h) hS (ct_X2 l G B 97 (by decide) rfl _ nV_at) kt_RX7_25 rfl ⟨by decide, by decide⟩ ⟨Nat.le_of_ble_eq_true rfl, Nat.le_of_ble_eq_true rfl⟩ rfl hl.1 (Nat.le_of_ble_eq_true rfl) rfl dX7_init_61 (fun V4 H locs hR4 hV hS _ _ => ?_)
  replace hV : HV G layX B _ 160 H := hV
  refine r_aast X.1 hV hS (by decide) (k := 96) (k2 := 97) ⟨by decide, rfl⟩ ⟨by decide, rfl⟩ kX2 (by decide) (jj := 0) (by decide) dX7_init_64 (fun H locs hV hS => ?_)
  refine lv_iinc (v := 1) (lv' := [(1, .int (1 : Int32)), (0, .ref (B + 0))]) hx hb dX7_init_65 hl (k := 0) rfl (by decide) (by decide) rfl (fun ls hl => ?_)
  refine lv_goto (tgt := 47) hx hb dX7_init_68 (by decide) ?_
  refine lv_iload_n hx hb dX7_init_47 rfl (lv_at hl 0 rfl) ?_
  refine lv_iconst (v := 2) hx hb dX7_init_48 (by decide) ?_
  refine lv_icmp_ge (tgt := 71) hx hb dX7_init_49 (by decide) (fun q => absurd q (by decide)) (fun _ => ?_)
  refine lv_aload_n hx hb dX7_init_52 rfl (lv_at hl 1 rfl) ?_
  refine r_get (v := .ref (B + 96)) kX7 (by decide) fl_RX7_30 X.1 hV (k := 0) ⟨by decide, rfl⟩ (by simp (disch := omega) only [uV_at, uV_j, uV_k, nV_k, hR1.1, hR2.1, hR3.1, hR4.1]) dX7_init_53 ?_
  refine lv_iload_n hx hb dX7_init_56 rfl (lv_at hl 0 rfl) ?_
  refine r_new X.1 hV hS kX2 rfl nw_RX7_23 (Nat.le_of_ble_eq_true rfl) (Nat.le_of_ble_eq_true rfl) dX7_init_57 (fun H hV hS => ?_)
  replace hV : HV G layX B _ 161 H := hV
  refine lv_dup hx hb dX7_init_60 rfl ?_
  refine r_ctor (As := []) X.1 X.2.2.2 hV (fun _ h => h) hS (ct_X2 l G B 160 (by decide) rfl _ nV_at) kt_RX7_25 rfl ⟨by decide, by decide⟩ ⟨Nat.le_of_ble_eq_true rfl, Nat.le_of_ble_eq_true rfl⟩ rfl hl.1 (Nat.le_of_ble_eq_true rfl) rfl dX7_init_61 (fun V5 H locs hR5 hV hS _ _ => ?_)
  replace hV : HV G layX B _ 223 H := hV
  refine r_aast X.1 hV hS (by decide) (k := 96) (k2 := 160) ⟨by decide, rfl⟩ ⟨by decide, rfl⟩ kX2 (by decide) (jj := 1) (by decide) dX7_init_64 (fun H locs hV hS => ?_)
  refine lv_iinc (v := 2) (lv' := [(1, .int (2 : Int32)), (0, .ref (B + 0))]) hx hb dX7_init_65 hl (k := 0) rfl (by decide) (by decide) rfl (fun ls hl => ?_)
  refine lv_goto (tgt := 47) hx hb dX7_init_68 (by decide) ?_
  refine lv_iload_n hx hb dX7_init_47 rfl (lv_at hl 0 rfl) ?_
  refine lv_iconst (v := 2) hx hb dX7_init_48 (by decide) ?_
  refine lv_icmp_ge (tgt := 71) hx hb dX7_init_49 (by decide) (fun _ => ?_) (fun q => absurd (by decide) q)
  refine lv_aload_n hx hb dX7_init_71 rfl (lv_at hl 1 rfl) ?_
  refine r_new X.1 hV hS kX0 rfl nw_RX7_34 (Nat.le_of_ble_eq_true rfl) (Nat.le_of_ble_eq_true rfl) dX7_init_72 (fun H hV hS => ?_)
  replace hV : HV G layX B _ 224 H := hV
  refine lv_dup hx hb dX7_init_75 rfl ?_
  refine r_ctorN (As := []) X.1 X.2.2.2 hV (fun _ h => h) hS (ct_X0 l G B _ nV_at) X.2.2.2.2.2.2.2.1 cq_X0_init rfl ⟨by decide, by decide⟩ ⟨Nat.le_of_ble_eq_true rfl, Nat.le_of_ble_eq_true rfl⟩ rfl hl.1 (Nat.le_of_ble_eq_true rfl) rfl dX7_init_76 (fun V6 H locs hR6 hV hS _ _ => ?_)
  replace hV : HV G layX B _ 227 H := hV
  refine r_putF kX7 (by decide) fl_RX7_37 rfl rfl hin X.1 hV hS (k := 0) ⟨by decide, rfl⟩ rfl rfl dX7_init_79 (fun H locs hV hS => ?_)
  refine lv_aload_n hx hb dX7_init_82 rfl (lv_at hl 1 rfl) ?_
  refine r_new X.1 hV hS kX4 rfl nw_RX7_41 (Nat.le_of_ble_eq_true rfl) (Nat.le_of_ble_eq_true rfl) dX7_init_83 (fun H hV hS => ?_)
  replace hV : HV G layX B _ 228 H := hV
  refine lv_dup hx hb dX7_init_86 rfl ?_
  refine lv_aload_n hx hb dX7_init_87 rfl (lv_at hl 1 rfl) ?_
  refine r_get (v := .ref (B + 33)) kX7 (by decide) fl_RX7_26 X.1 hV (k := 0) ⟨by decide, rfl⟩ (by simp (disch := omega) only [uV_at, uV_j, uV_k, nV_k, hR1.1, hR2.1, hR3.1, hR4.1, hR5.1, hR6.1]) dX7_init_88 ?_
  refine r_ctor (As := [.ref (B + 33)]) X.1 X.2.2.2 hV (fun _ h => h) hS (ct_X4 l G B _ nV_at) kt_RX7_43 rfl ⟨by decide, by decide⟩ ⟨Nat.le_of_ble_eq_true rfl, Nat.le_of_ble_eq_true rfl⟩ rfl hl.1 (Nat.le_of_ble_eq_true rfl) rfl dX7_init_91 (fun V7 H locs hR7 hV hS _ _ => ?_)
  replace hV : HV G layX B _ 236 H := hV
  refine r_putF kX7 (by decide) fl_RX7_46 rfl rfl hin X.1 hV hS (k := 0) ⟨by decide, rfl⟩ rfl rfl dX7_init_94 (fun H locs hV hS => ?_)
  refine lv_aload_n hx hb dX7_init_97 rfl (lv_at hl 1 rfl) ?_
  refine r_new X.1 hV hS kX1 rfl nw_RX7_50 (Nat.le_of_ble_eq_true rfl) (Nat.le_of_ble_eq_true rfl) dX7_init_98 (fun H hV hS => ?_)
  replace hV : HV G layX B _ 237 H := hV
  refine lv_dup hx hb dX7_init_101 rfl ?_
  refine r_ctorN (As := []) X.1 X.2.2.2 hV (fun _ h => h) hS (ct_X1 l G B _ nV_at) X.2.2.2.2.2.2.2.2 cq_X1_init rfl ⟨by decide, by decide⟩ ⟨Nat.le_of_ble_eq_true rfl, Nat.le_of_ble_eq_true rfl⟩ rfl hl.1 (Nat.le_of_ble_eq_true rfl) rfl dX7_init_102 (fun V8 H locs hR8 hV hS _ _ => ?_)
  replace hV : HV G layX B _ 238 H := hV
  refine r_putF kX7 (by decide) fl_RX7_53 rfl rfl hin X.1 hV hS (k := 0) ⟨by decide, rfl⟩ rfl rfl dX7_init_105 (fun H locs hV hS => ?_)
  refine lv_aload_n hx hb dX7_init_108 rfl (lv_at hl 1 rfl) ?_
  refine lv_iconst (v := 0) hx hb dX7_init_109 (by decide) ?_
  refine r_put kX7 (by decide) fl_RX7_57 rfl X.1 hV hS (k := 0) ⟨by decide, rfl⟩ rfl rfl dX7_init_110 (fun H locs hV hS => ?_)
  refine r_vret X hV hS rfl rfl rfl ?_ dX7_init_113
  refine ⟨fun i hi => absurd hi (Nat.not_lt_zero i), fun i h1 h2 => ?_⟩
  by_cases c0 : i = 0
  · subst c0
    intro r hr j hj
    cases hr
    have hj : j < 8 := hj
    rcases (show j = 0 ∨ j = 1 ∨ j = 2 ∨ j = 3 ∨ j = 4 ∨ j = 5 ∨ j = 6 ∨ j = 7 by omega) with rfl | rfl | rfl | rfl | rfl | rfl | rfl | rfl
    · simp (disch := omega) only [uV_at, uV_j, uV_k, nV_k, hR1.1, hR2.1, hR3.1, hR4.1, hR5.1, hR6.1, hR7.1, hR8.1]
      rfl
    · simp (disch := omega) only [uV_at, uV_j, uV_k, nV_k, hR1.1, hR2.1, hR3.1, hR4.1, hR5.1, hR6.1, hR7.1, hR8.1]
      rfl
    · simp (disch := omega) only [uV_at, uV_j, uV_k, nV_k, hR1.1, hR2.1, hR3.1, hR4.1, hR5.1, hR6.1, hR7.1, hR8.1]
      rfl
    · simp (disch := omega) only [uV_at, uV_j, uV_k, nV_k, hR1.1, hR2.1, hR3.1, hR4.1, hR5.1, hR6.1, hR7.1, hR8.1]
      rfl
    · simp (disch := omega) only [uV_at, uV_j, uV_k, nV_k, hR1.1, hR2.1, hR3.1, hR4.1, hR5.1, hR6.1, hR7.1, hR8.1]
      rfl
    · simp (disch := omega) only [uV_at, uV_j, uV_k, nV_k, hR1.1, hR2.1, hR3.1, hR4.1, hR5.1, hR6.1, hR7.1, hR8.1]
      rfl
    · simp (disch := omega) only [uV_at, uV_j, uV_k, nV_k, hR1.1, hR2.1, hR3.1, hR4.1, hR5.1, hR6.1, hR7.1, hR8.1]
      rfl
    · simp (disch := omega) only [uV_at, uV_j, uV_k, nV_k, hR1.1, hR2.1, hR3.1, hR4.1, hR5.1, hR6.1, hR7.1, hR8.1]
      rfl
  by_cases c96 : i = 96
  · subst c96
    intro j hj
    have hj : j < 2 := hj
    rcases (show j = 0 ∨ j = 1 by omega) with rfl | rfl
    · simp (disch := omega) only [uV_at, uV_j, uV_k, nV_k, hR1.1, hR2.1, hR3.1, hR4.1, hR5.1, hR6.1, hR7.1, hR8.1]
      rfl
    · simp (disch := omega) only [uV_at, uV_j, uV_k, nV_k, hR1.1, hR2.1, hR3.1, hR4.1, hR5.1, hR6.1, hR7.1, hR8.1]
      rfl
  by_cases c1_ : i < 13
  · exact (hR1.2 i (by omega) (by omega)).of (by simp (disch := omega) only [uV_k, nV_k, hR2.1, hR3.1, hR4.1, hR5.1, hR6.1, hR7.1, hR8.1])
  by_cases c2_ : i < 33
  · exact (hR2.2 i (by omega) (by omega)).of (by simp (disch := omega) only [uV_k, nV_k, hR3.1, hR4.1, hR5.1, hR6.1, hR7.1, hR8.1])
  by_cases c3_ : i < 96
  · exact (hR3.2 i (by omega) (by omega)).of (by simp (disch := omega) only [uV_k, nV_k, hR4.1, hR5.1, hR6.1, hR7.1, hR8.1])
  by_cases c4_ : i < 160
  · exact (hR4.2 i (by omega) (by omega)).of (by simp (disch := omega) only [uV_k, nV_k, hR5.1, hR6.1, hR7.1, hR8.1])
  by_cases c5_ : i < 223
  · exact (hR5.2 i (by omega) (by omega)).of (by simp (disch := omega) only [uV_k, nV_k, hR6.1, hR7.1, hR8.1])
  by_cases c6_ : i < 227
  · exact (hR6.2 i (by omega) (by omega)).of (by simp (disch := omega) only [uV_k, nV_k, hR7.1, hR8.1])
  by_cases c7_ : i < 236
  · exact (hR7.2 i (by omega) (by omega)).of (by simp (disch := omega) only [uV_k, nV_k, hR8.1])
  exact (hR8.2 i (by omega) (by omega)).of (by simp (disch := omega) only [uV_k, nV_k])
