theorem ac_int : Cond.arrayClass .int ∈ tb := tb_in 92 (by decide +kernel) (by decide +kernel)
theorem ac_long : Cond.arrayClass .long ∈ tb := tb_in 130 (by decide +kernel) (by decide +kernel)
theorem ac_boolean : Cond.arrayClass .boolean ∈ tb := tb_in 936 (by decide +kernel) (by decide +kernel)
theorem ob_RX3_3 : Cond.methodLink RX3 3 objectInit ∈ tb ∧ Cond.instanceMethod objectInit ∈ tb ∧ Cond.code objectInit ⟨#[0xb1]⟩ 1 none ∈ tb := ⟨tb_in 105 (by decide +kernel) (by decide +kernel), tb_in 66 (by decide +kernel) (by decide +kernel), tb_in 67 (by decide +kernel) (by decide +kernel)⟩
theorem fl_RX3_15 : Cond.fieldLink RX3 15 (TX3 1).1 (TX3 1).2.1 (TX3 1).2.2.1 ∈ tb := tb_in 110 (by decide +kernel) (by decide +kernel)
theorem ob_RX0_3 : Cond.methodLink RX0 3 objectInit ∈ tb ∧ Cond.instanceMethod objectInit ∈ tb ∧ Cond.code objectInit ⟨#[0xb1]⟩ 1 none ∈ tb := ⟨tb_in 212 (by decide +kernel) (by decide +kernel), tb_in 66 (by decide +kernel) (by decide +kernel), tb_in 67 (by decide +kernel) (by decide +kernel)⟩
theorem ob_RX1_3 : Cond.methodLink RX1 3 objectInit ∈ tb ∧ Cond.instanceMethod objectInit ∈ tb ∧ Cond.code objectInit ⟨#[0xb1]⟩ 1 none ∈ tb := ⟨tb_in 267 (by decide +kernel) (by decide +kernel), tb_in 66 (by decide +kernel) (by decide +kernel), tb_in 67 (by decide +kernel) (by decide +kernel)⟩
theorem ob_RX4_3 : Cond.methodLink RX4 3 objectInit ∈ tb ∧ Cond.instanceMethod objectInit ∈ tb ∧ Cond.code objectInit ⟨#[0xb1]⟩ 1 none ∈ tb := ⟨tb_in 235 (by decide +kernel) (by decide +kernel), tb_in 66 (by decide +kernel) (by decide +kernel), tb_in 67 (by decide +kernel) (by decide +kernel)⟩
theorem nw_RX4_9 : Cond.classLink RX4 9 RX3 ∈ tb ∧ Cond.instantiable RX3 4 ∈ tb ∧ Cond.initialized RX3 ∈ tb := ⟨tb_in 236 (by decide +kernel) (by decide +kernel), tb_in 101 (by decide +kernel) (by decide +kernel), tb_in 51 (by decide +kernel) (by decide +kernel)⟩
theorem cq_X3_init : (Cond.initialized yX3_init.cls ∈ tb ∧ Cond.code yX3_init cX3_init 2 none ∈ tb ∧ (yX3_init.cls ≠ "java/lang/invoke/MethodHandle" ∧ yX3_init.cls ≠ "java/lang/invoke/VarHandle" ∧ (parseMethodDescriptor yX3_init.desc).map (fun d => d.parameters.length) = some 1)) ∧ Cond.instanceMethod yX3_init ∈ tb := ⟨⟨tb_in 51 (by decide +kernel) (by decide +kernel), tb_in 104 (by decide +kernel) (by decide +kernel), by decide +kernel, by decide +kernel, by decide +kernel⟩, tb_in 103 (by decide +kernel) (by decide +kernel)⟩
theorem kt_RX4_11 : CwB RX4 11 yX3_init cX3_init 2 none 1 ∧ Cond.instanceMethod yX3_init ∈ tb := ⟨⟨tb_in 237 (by decide +kernel) (by decide +kernel), cq_X3_init.1⟩, cq_X3_init.2⟩
theorem ob_RX5_3 : Cond.methodLink RX5 3 objectInit ∈ tb ∧ Cond.instanceMethod objectInit ∈ tb ∧ Cond.code objectInit ⟨#[0xb1]⟩ 1 none ∈ tb := ⟨tb_in 98 (by decide +kernel) (by decide +kernel), tb_in 66 (by decide +kernel) (by decide +kernel), tb_in 67 (by decide +kernel) (by decide +kernel)⟩
theorem nw_RX5_15 : Cond.classLink RX5 15 RX3 ∈ tb ∧ Cond.instantiable RX3 4 ∈ tb ∧ Cond.initialized RX3 ∈ tb := ⟨tb_in 99 (by decide +kernel) (by decide +kernel), tb_in 101 (by decide +kernel) (by decide +kernel), tb_in 51 (by decide +kernel) (by decide +kernel)⟩
theorem kt_RX5_24 : CwB RX5 24 yX3_init cX3_init 2 none 1 ∧ Cond.instanceMethod yX3_init ∈ tb := ⟨⟨tb_in 102 (by decide +kernel) (by decide +kernel), cq_X3_init.1⟩, cq_X3_init.2⟩
theorem ob_RX8_1 : Cond.methodLink RX8 1 objectInit ∈ tb ∧ Cond.instanceMethod objectInit ∈ tb ∧ Cond.code objectInit ⟨#[0xb1]⟩ 1 none ∈ tb := ⟨tb_in 848 (by decide +kernel) (by decide +kernel), tb_in 66 (by decide +kernel) (by decide +kernel), tb_in 67 (by decide +kernel) (by decide +kernel)⟩
def dfl (ci : Nat) : Nat → Value := fun j => defaultValue (tyOf ci j)
def nmc (k : Nat) : Int32 := if 17 ≤ k ∧ k ≤ 32 then nI ((k - 17) / 2) else if 36 ≤ k ∧ k ≤ 95 then nI ((k - 36) / 2) else if 100 ≤ k ∧ k ≤ 159 then nI ((k - 100) / 2) else if 163 ≤ k ∧ k ≤ 222 then nI ((k - 163) / 2) else -1
/-- the component's store, new -/
def σX : Sto := (fun k j => if k = 12 then -1 else if kdX k = .inl 3 ∧ j = 1 then nmc k else if kdX k = .inl 2 ∧ j = 5 then -1000000 else 0, fun _ _ => 0)
/-- the model's store, new -/
def τM : Sto := (fun k _ => if k = 1 then -1000000 else 0, fun k j => if k = 6 ∧ j = 8 then -1000000 else 0)
def okV (L : Lay) (B : Nat) (σ : Sto) (V : VS) (k : Nat) : Prop := match L.1 k with
  | .inl ci => ∀ r : vw_C, vwCl[ci]? = some r → ∀ j, j < r.2.2 → V k j = vl L B σ (tyOf ci j) k j
  | .inr a => ∀ j, j < a.2 → V k j = vl L B σ a.1 k j
theorem okV.of {L : Lay} {B : Nat} {σ : Sto} {V V' : VS} {k : Nat} (h : okV L B σ V k) (e : V' k = V k) : okV L B σ V' k := by
  unfold okV at h ⊢
  cases hk : L.1 k with
  | inl ci =>
    simp only [hk] at h ⊢
    intro r hr j hj
    rw [e]
    exact h r hr j hj
  | inr a =>
    simp only [hk] at h ⊢
    intro j hj
    rw [e]
    exact h j hj
theorem HV.toHX {G : Gd} {L : Lay} {B : Nat} {σ : Sto} {V : VS} {H : Heap} (h : HV G L B V L.2.2 H) (ok : ∀ k, k < L.2.2 → okV L B σ V k) : HX G L B σ H := by
  intro k hk
  have h1 := h.2 k hk
  have h2 := ok k hk
  unfold vAt at h1
  unfold okV at h2
  unfold cAt
  cases hq : L.1 k with
  | inl ci =>
    simp only [hq] at h1 h2 ⊢
    obtain ⟨r, hr, h3⟩ := h1
    exact ⟨r, hr, h3.to (fun j hj => h2 r hr j hj)⟩
  | inr a =>
    simp only [hq] at h1 h2 ⊢
    rw [h1, arrV_cong h2]
/-- cells k .. k + m - 1 are as they are to be, those below as before -/
def Blk (B k m : Nat) (V V' : VS) : Prop := (∀ i, i < k → V' i = V i) ∧ ∀ i, k ≤ i → i < k + m → okV layX B σX V' i
theorem okCl (B : Nat) (V : VS) (k : Nat) (h : k < 238 ∧ kdX k = .inl 3) (h0 : V k 0 = .ref (B + (k + 1))) (h1 : V k 1 = .int (σX.1 k 1)) (h2 : V k 2 = .long 0) (h3 : V k 3 = .int 0) : okV layX B σX V k := by
  have hk : layX.1 k = .inl 3 := h.2
  have h12 : ¬ k = 12 := fun q => by rw [q] at h; exact absurd h.2 (by decide)
  unfold okV
  simp only [hk]
  intro r hr j hj
  cases hr
  have hj : j < 4 := hj
  rcases (show j = 0 ∨ j = 1 ∨ j = 2 ∨ j = 3 by omega) with rfl | rfl | rfl | rfl
  · rw [h0]
    show _ = Value.ref (B + rfX k 0)
    rw [(layX_cl k h.1 h.2).2.2]
  · exact h1
  · exact h2
  · rw [h3]
    show _ = Value.int (σX.1 k 3)
    simp [σX, h.2, h12]
theorem okAr (B : Nat) (V : VS) (k : Nat) (h : k < 238 ∧ kdX k = .inr (.long, 8)) (h0 : ∀ j, V k j = .long 0) : okV layX B σX V k := by
  have hk : layX.1 k = .inr (.long, 8) := h.2
  unfold okV
  simp only [hk]
  intro j hj
  rw [h0 j]
  rfl
set_option maxHeartbeats 4000000 in
set_option maxRecDepth 100000 in
theorem ct_X3 (l : Launch) (G : Gd) (B k : Nat) (hk : k < 238) (hkd : kdX k = .inl 3) (x : Int32) (hx9 : x = σX.1 k 1) (V : VS) (hV0 : V k = dfl 3) : Cn l G layX B yX3_init cX3_init 2 1 1 8 [.ref (B + k), .int x] (k + 1) V (Blk B k 2 V) := by
  have hc := layX_cl k hk hkd
  refine Cn.ofW (by decide) (Nat.le_of_ble_eq_true rfl) (fun p e s m below meth c hin X hV hS ls hl => ?_)
  have hl : lv_has ls 2 [(0, .ref (B + k)), (1, .int x)] := hl
  have hx := X.1.1
  have hb := X.1.2.1
  refine lv_aload_n hx hb dX3_init_0 rfl (lv_at hl 0 rfl) ?_
  refine r_obj X.1 hl ob_RX3_3 (by decide) dX3_init_1 ?_
  refine lv_aload_n hx hb dX3_init_4 rfl (lv_at hl 0 rfl) ?_
  refine lv_bipush (v := 8) hx hb dX3_init_5 (by decide) ?_
  refine r_newa (atype := .long) X.1 hV hS (by decide) hc.2.1 ac_long (by decide) (by decide) (by decide) (Nat.le_of_ble_eq_true rfl) (Nat.le_of_ble_eq_true rfl) dX3_init_7 (fun H hV hS => ?_)
  refine r_putF kX3 (by decide) fl_RX3_9 rfl rfl hin X.1 hV hS (k := k) ⟨by omega, hkd⟩ rfl rfl dX3_init_9 (fun H locs hV hS => ?_)
  refine lv_aload_n hx hb dX3_init_12 rfl (lv_at hl 0 rfl) ?_
  refine lv_iload_n hx hb dX3_init_13 rfl (lv_at hl 1 rfl) ?_
  refine r_putF kX3 (by decide) fl_RX3_15 rfl rfl hin X.1 hV hS (k := k) ⟨by omega, hkd⟩ rfl rfl dX3_init_14 (fun H locs hV hS => ?_)
  refine r_vret X hV hS rfl rfl rfl ?_ dX3_init_17
  refine ⟨fun i hi => ?_, fun i h1 h2 => ?_⟩
  · rw [uV_k (by omega), uV_k (by omega), nV_k (by omega)]
  · rcases (show i = k ∨ i = k + 1 by omega) with rfl | rfl
    · refine okCl B _ i ⟨hk, hkd⟩ ?_ ?_ ?_ ?_
      · rw [uV_j (by decide), uV_at]
      · rw [uV_at, hx9]
      · rw [uV_j (by decide), uV_j (by decide), nV_k (by omega), hV0]
        rfl
      · rw [uV_j (by decide), uV_j (by decide), nV_k (by omega), hV0]
        rfl
    · refine okAr B _ (k + 1) ⟨hc.1, hc.2.1⟩ (fun j => ?_)
      rw [uV_k (by omega), uV_k (by omega), nV_at]
      rfl

set_option maxHeartbeats 4000000 in
set_option maxRecDepth 100000 in
theorem ct_X0 (l : Launch) (G : Gd) (B : Nat) (V : VS) (hV0 : V 223 = dfl 0) : Cn l G layX B yX0_init cX0_init 1 1 3 36 [.ref (B + 223)] 224 V (Blk B 223 4 V) := by
  refine Cn.ofW (by decide) (Nat.le_of_ble_eq_true rfl) (fun p e s m below meth c hin X hV hS ls hl => ?_)
  have hl : lv_has ls 1 [(0, .ref (B + 223))] := hl
  have hx := X.1.1
  have hb := X.1.2.1
  refine lv_aload_n hx hb dX0_init_0 rfl (lv_at hl 0 rfl) ?_
  refine r_obj X.1 hl ob_RX0_3 (by decide) dX0_init_1 ?_
  refine lv_aload_n hx hb dX0_init_4 rfl (lv_at hl 0 rfl) ?_
  refine lv_bipush (v := 12) hx hb dX0_init_5 (by decide) ?_
  refine r_newa (atype := .int) X.1 hV hS (by decide) rfl ac_int (by decide) (by decide) (by decide) (Nat.le_of_ble_eq_true rfl) (Nat.le_of_ble_eq_true rfl) dX0_init_7 (fun H hV hS => ?_)
  replace hV : HV G layX B _ 225 H := hV
  refine r_putF kX0 (by decide) fl_RX0_9 rfl rfl hin X.1 hV hS (k := 223) ⟨by decide, rfl⟩ rfl rfl dX0_init_9 (fun H locs hV hS => ?_)
  refine lv_aload_n hx hb dX0_init_12 rfl (lv_at hl 0 rfl) ?_
  refine lv_bipush (v := 12) hx hb dX0_init_13 (by decide) ?_
  refine r_newa (atype := .int) X.1 hV hS (by decide) rfl ac_int (by decide) (by decide) (by decide) (Nat.le_of_ble_eq_true rfl) (Nat.le_of_ble_eq_true rfl) dX0_init_15 (fun H hV hS => ?_)
  replace hV : HV G layX B _ 226 H := hV
  refine r_putF kX0 (by decide) fl_RX0_15 rfl rfl hin X.1 hV hS (k := 223) ⟨by decide, rfl⟩ rfl rfl dX0_init_17 (fun H locs hV hS => ?_)
  refine lv_aload_n hx hb dX0_init_20 rfl (lv_at hl 0 rfl) ?_
  refine lv_bipush (v := 12) hx hb dX0_init_21 (by decide) ?_
  refine r_newa (atype := .int) X.1 hV hS (by decide) rfl ac_int (by decide) (by decide) (by decide) (Nat.le_of_ble_eq_true rfl) (Nat.le_of_ble_eq_true rfl) dX0_init_23 (fun H hV hS => ?_)
  replace hV : HV G layX B _ 227 H := hV
  refine r_putF kX0 (by decide) fl_RX0_18 rfl rfl hin X.1 hV hS (k := 223) ⟨by decide, rfl⟩ rfl rfl dX0_init_25 (fun H locs hV hS => ?_)
  refine r_vret X hV hS rfl rfl rfl ?_ dX0_init_28
  refine ⟨fun i hi => ?_, fun i h1 h2 => ?_⟩
  · simp (disch := omega) only [uV_k, nV_k]
  · rcases (show i = 223 ∨ i = 224 ∨ i = 225 ∨ i = 226 by omega) with rfl | rfl | rfl | rfl
    · intro r hr j hj
      cases hr
      have hj : j < 5 := hj
      rcases (show j = 0 ∨ j = 1 ∨ j = 2 ∨ j = 3 ∨ j = 4 by omega) with rfl | rfl | rfl | rfl | rfl
      · rfl
      · rfl
      · rfl
      · show V 223 3 = _
        rw [hV0]
        rfl
      · show V 223 4 = _
        rw [hV0]
        rfl
    · intro j hj
      rfl
    · intro j hj
      rfl
    · intro j hj
      rfl
set_option maxHeartbeats 4000000 in
set_option maxRecDepth 100000 in
theorem ct_X1 (l : Launch) (G : Gd) (B : Nat) (V : VS) (hV0 : V 236 = dfl 1) : Cn l G layX B yX1_init cX1_init 1 1 1 16 [.ref (B + 236)] 237 V (Blk B 236 2 V) := by
  refine Cn.ofW (by decide) (Nat.le_of_ble_eq_true rfl) (fun p e s m below meth c hin X hV hS ls hl => ?_)
  have hl : lv_has ls 1 [(0, .ref (B + 236))] := hl
  have hx := X.1.1
  have hb := X.1.2.1
  refine lv_aload_n hx hb dX1_init_0 rfl (lv_at hl 0 rfl) ?_
  refine r_obj X.1 hl ob_RX1_3 (by decide) dX1_init_1 ?_
  refine lv_aload_n hx hb dX1_init_4 rfl (lv_at hl 0 rfl) ?_
  refine lv_bipush (v := 16) hx hb dX1_init_5 (by decide) ?_
  refine r_newa (atype := .int) X.1 hV hS (by decide) rfl ac_int (by decide) (by decide) (by decide) (Nat.le_of_ble_eq_true rfl) (Nat.le_of_ble_eq_true rfl) dX1_init_7 (fun H hV hS => ?_)
  replace hV : HV G layX B _ 238 H := hV
  refine r_putF kX1 (by decide) fl_RX1_9 rfl rfl hin X.1 hV hS (k := 236) ⟨by decide, rfl⟩ rfl rfl dX1_init_9 (fun H locs hV hS => ?_)
  refine r_vret X hV hS rfl rfl rfl ?_ dX1_init_12
  refine ⟨fun i hi => ?_, fun i h1 h2 => ?_⟩
  · simp (disch := omega) only [uV_k, nV_k]
  · rcases (show i = 236 ∨ i = 237 by omega) with rfl | rfl
    · intro r hr j hj
      cases hr
      have hj : j < 2 := hj
      rcases (show j = 0 ∨ j = 1 by omega) with rfl | rfl
      · rfl
      · show V 236 1 = _
        rw [hV0]
        rfl
    · intro j hj
      rfl
set_option maxHeartbeats 4000000 in
set_option maxRecDepth 100000 in
theorem ct_X4 (l : Launch) (G : Gd) (B : Nat) (V : VS) (hV0 : V 227 = dfl 4) : Cn l G layX B yX4_init cX4_init 2 2 8 48 [.ref (B + 227), .ref (B + 33)] 228 V (Blk B 227 9 V) := by
  refine Cn.ofW (by decide) (Nat.le_of_ble_eq_true rfl) (fun p e s m below meth c hin X hV hS ls hl => ?_)
  have hl : lv_has ls 2 [(0, .ref (B + 227)), (1, .ref (B + 33))] := hl
  have hx := X.1.1
  have hb := X.1.2.1
  refine lv_aload_n hx hb dX4_init_0 rfl (lv_at hl 0 rfl) ?_
  refine r_obj X.1 hl ob_RX4_3 (by decide) dX4_init_1 ?_
  refine lv_aload_n hx hb dX4_init_4 rfl (lv_at hl 0 rfl) ?_
  refine r_new X.1 hV hS kX3 rfl nw_RX4_9 (Nat.le_of_ble_eq_true rfl) (Nat.le_of_ble_eq_true rfl) dX4_init_5 (fun H hV hS => ?_)
  replace hV : HV G layX B _ 229 H := hV
  refine lv_dup hx hb dX4_init_8 rfl ?_
  refine lv_iconst (v := -1) hx hb dX4_init_9 (by decide) ?_
  refine r_ctor (As := [.int (-1 : Int32)]) X.1 X.2.2.2 hV (fun _ h => h) hS (ct_X3 l G B 228 (by decide) rfl (-1 : Int32) (by decide) _ nV_at) kt_RX4_11 rfl ⟨by decide, by decide⟩ ⟨Nat.le_of_ble_eq_true rfl, Nat.le_of_ble_eq_true rfl⟩ rfl hl.1 (Nat.le_of_ble_eq_true rfl) rfl dX4_init_10 (fun V1 H locs hR1 hV hS _ _ => ?_)
  replace hV : HV G layX B _ 230 H := hV
  refine r_putF kX4 (by decide) fl_RX4_14 rfl rfl hin X.1 hV hS (k := 227) ⟨by decide, rfl⟩ rfl rfl dX4_init_13 (fun H locs hV hS => ?_)
  refine lv_aload_n hx hb dX4_init_16 rfl (lv_at hl 0 rfl) ?_
  refine r_new X.1 hV hS kX3 rfl nw_RX4_9 (Nat.le_of_ble_eq_true rfl) (Nat.le_of_ble_eq_true rfl) dX4_init_17 (fun H hV hS => ?_)
  replace hV : HV G layX B _ 231 H := hV
  refine lv_dup hx hb dX4_init_20 rfl ?_
  refine lv_iconst (v := -1) hx hb dX4_init_21 (by decide) ?_
  refine r_ctor (As := [.int (-1 : Int32)]) X.1 X.2.2.2 hV (fun _ h => h) hS (ct_X3 l G B 230 (by decide) rfl (-1 : Int32) (by decide) _ nV_at) kt_RX4_11 rfl ⟨by decide, by decide⟩ ⟨Nat.le_of_ble_eq_true rfl, Nat.le_of_ble_eq_true rfl⟩ rfl hl.1 (Nat.le_of_ble_eq_true rfl) rfl dX4_init_22 (fun V2 H locs hR2 hV hS _ _ => ?_)
  replace hV : HV G layX B _ 232 H := hV
  refine r_putF kX4 (by decide) fl_RX4_20 rfl rfl hin X.1 hV hS (k := 227) ⟨by decide, rfl⟩ rfl rfl dX4_init_25 (fun H locs hV hS => ?_)
  refine lv_aload_n hx hb dX4_init_28 rfl (lv_at hl 0 rfl) ?_
  refine r_new X.1 hV hS kX3 rfl nw_RX4_9 (Nat.le_of_ble_eq_true rfl) (Nat.le_of_ble_eq_true rfl) dX4_init_29 (fun H hV hS => ?_)
  replace hV : HV G layX B _ 233 H := hV
  refine lv_dup hx hb dX4_init_32 rfl ?_
  refine lv_iconst (v := -1) hx hb dX4_init_33 (by decide) ?_
  refine r_ctor (As := [.int (-1 : Int32)]) X.1 X.2.2.2 hV (fun _ h => h) hS (ct_X3 l G B 232 (by decide) rfl (-1 : Int32) (by decide) _ nV_at) kt_RX4_11 rfl ⟨by decide, by decide⟩ ⟨Nat.le_of_ble_eq_true rfl, Nat.le_of_ble_eq_true rfl⟩ rfl hl.1 (Nat.le_of_ble_eq_true rfl) rfl dX4_init_34 (fun V3 H locs hR3 hV hS _ _ => ?_)
  replace hV : HV G layX B _ 234 H := hV
  refine r_putF kX4 (by decide) fl_RX4_23 rfl rfl hin X.1 hV hS (k := 227) ⟨by decide, rfl⟩ rfl rfl dX4_init_37 (fun H locs hV hS => ?_)
  refine lv_aload_n hx hb dX4_init_40 rfl (lv_at hl 0 rfl) ?_
  refine r_new X.1 hV hS kX3 rfl nw_RX4_9 (Nat.le_of_ble_eq_true rfl) (Nat.le_of_ble_eq_true rfl) dX4_init_41 (fun H hV hS => ?_)
  replace hV : HV G layX B _ 235 H := hV
  refine lv_dup hx hb dX4_init_44 rfl ?_
  refine lv_iconst (v := -1) hx hb dX4_init_45 (by decide) ?_
  refine r_ctor (As := [.int (-1 : Int32)]) X.1 X.2.2.2 hV (fun _ h => h) hS (ct_X3 l G B 234 (by decide) rfl (-1 : Int32) (by decide) _ nV_at) kt_RX4_11 rfl ⟨by decide, by decide⟩ ⟨Nat.le_of_ble_eq_true rfl, Nat.le_of_ble_eq_true rfl⟩ rfl hl.1 (Nat.le_of_ble_eq_true rfl) rfl dX4_init_46 (fun V4 H locs hR4 hV hS _ _ => ?_)
  replace hV : HV G layX B _ 236 H := hV
  refine r_putF kX4 (by decide) fl_RX4_26 rfl rfl hin X.1 hV hS (k := 227) ⟨by decide, rfl⟩ rfl rfl dX4_init_49 (fun H locs hV hS => ?_)
  refine lv_aload_n hx hb dX4_init_52 rfl (lv_at hl 0 rfl) ?_
  refine lv_aload_n hx hb dX4_init_53 rfl (lv_at hl 1 rfl) ?_
  refine r_putF kX4 (by decide) fl_RX4_29 rfl rfl hin X.1 hV hS (k := 227) ⟨by decide, rfl⟩ rfl rfl dX4_init_54 (fun H locs hV hS => ?_)
  refine r_vret X hV hS rfl rfl rfl ?_ dX4_init_57
  refine ⟨fun i hi => ?_, fun i h1 h2 => ?_⟩
  · simp (disch := omega) only [uV_k, nV_k, hR1.1, hR2.1, hR3.1, hR4.1]
  · rcases (show i = 227 ∨ i = 228 ∨ i = 229 ∨ i = 230 ∨ i = 231 ∨ i = 232 ∨ i = 233 ∨ i = 234 ∨ i = 235 by omega) with rfl | rfl | rfl | rfl | rfl | rfl | rfl | rfl | rfl
    · intro r hr j hj
      cases hr
      have hj : j < 7 := hj
      rcases (show j = 0 ∨ j = 1 ∨ j = 2 ∨ j = 3 ∨ j = 4 ∨ j = 5 ∨ j = 6 by omega) with rfl | rfl | rfl | rfl | rfl | rfl | rfl
      · simp (disch := omega) only [uV_at, uV_j, uV_k, nV_k, hR1.1, hR2.1, hR3.1, hR4.1]
        rfl
      · simp (disch := omega) only [uV_at, uV_j, uV_k, nV_k, hR1.1, hR2.1, hR3.1, hR4.1]
        rfl
      · simp (disch := omega) only [uV_at, uV_j, uV_k, nV_k, hR1.1, hR2.1, hR3.1, hR4.1]
        rfl
      · simp (disch := omega) only [uV_at, uV_j, uV_k, nV_k, hR1.1, hR2.1, hR3.1, hR4.1]
        rfl
      · simp (disch := omega) only [uV_at, uV_j, uV_k, nV_k, hR1.1, hR2.1, hR3.1, hR4.1]
        rfl
      · simp (disch := omega) only [uV_at, uV_j, uV_k, nV_k, hR1.1, hR2.1, hR3.1, hR4.1]
        rw [hV0]
        rfl
      · simp (disch := omega) only [uV_at, uV_j, uV_k, nV_k, hR1.1, hR2.1, hR3.1, hR4.1]
        rw [hV0]
        rfl
    · exact (hR1.2 _ (by omega) (by omega)).of (by simp (disch := omega) only [uV_k, nV_k, hR2.1, hR3.1, hR4.1])
    · exact (hR1.2 _ (by omega) (by omega)).of (by simp (disch := omega) only [uV_k, nV_k, hR2.1, hR3.1, hR4.1])
    · exact (hR2.2 _ (by omega) (by omega)).of (by simp (disch := omega) only [uV_k, nV_k, hR3.1, hR4.1])
    · exact (hR2.2 _ (by omega) (by omega)).of (by simp (disch := omega) only [uV_k, nV_k, hR3.1, hR4.1])
    · exact (hR3.2 _ (by omega) (by omega)).of (by simp (disch := omega) only [uV_k, nV_k, hR4.1])
    · exact (hR3.2 _ (by omega) (by omega)).of (by simp (disch := omega) only [uV_k, nV_k, hR4.1])
    · exact (hR4.2 _ (by omega) (by omega)).of (by simp (disch := omega) only [uV_k, nV_k])
    · exact (hR4.2 _ (by omega) (by omega)).of (by simp (disch := omega) only [uV_k, nV_k])
set_option maxHeartbeats 4000000 in
set_option maxRecDepth 100000 in
theorem ct_X5 (l : Launch) (G : Gd) (B : Nat) (V : VS) (hV0 : V 13 = dfl 5) : Cn l G layX B yX5_init cX5_init 2 2 19 312 [.ref (B + 13)] 14 V (Blk B 13 20 V) := by
  refine Cn.ofW (by decide) (Nat.le_of_ble_eq_true rfl) (fun p e s m below meth c hin X hV hS ls hl => ?_)
  have hl : lv_has ls 2 [(0, .ref (B + 13))] := hl
  have hx := X.1.1
  have hb := X.1.2.1
  refine lv_aload_n hx hb dX5_init_0 rfl (lv_at hl 0 rfl) ?_
  refine r_obj X.1 hl ob_RX5_3 (by decide) dX5_init_1 ?_
  refine lv_aload_n hx hb dX5_init_4 rfl (lv_at hl 0 rfl) ?_
  refine lv_sipush (v := 200) hx hb dX5_init_5 (by decide) ?_
  refine r_newa (atype := .int) X.1 hV hS (by decide) rfl ac_int (by decide) (by decide) (by decide) (Nat.le_of_ble_eq_true rfl) (Nat.le_of_ble_eq_true rfl) dX5_init_8 (fun H hV hS => ?_)
  replace hV : HV G layX B _ 15 H := hV
  refine r_putF kX5 (by decide) fl_RX5_9 rfl rfl hin X.1 hV hS (k := 13) ⟨by decide, rfl⟩ rfl rfl dX5_init_10 (fun H locs hV hS => ?_)
  refine lv_aload_n hx hb dX5_init_13 rfl (lv_at hl 0 rfl) ?_
  refine lv_bipush (v := 8) hx hb dX5_init_14 (by decide) ?_
  refine r_anew X.1 hV hS (by decide) rfl nw_RX5_15.1 X.2.2.2.2.1 (by decide) (by decide) (by decide) (Nat.le_of_ble_eq_true rfl) (Nat.le_of_ble_eq_true rfl) dX5_init_16 (fun H hV hS => ?_)
  replace hV : HV G layX B _ 16 H := hV
  refine r_putF kX5 (by decide) fl_RX5_17 rfl rfl hin X.1 hV hS (k := 13) ⟨by decide, rfl⟩ rfl rfl dX5_init_19 (fun H locs hV hS => ?_)
  refine lv_aload_n hx hb dX5_init_22 rfl (lv_at hl 0 rfl) ?_
  refine lv_bipush (v := 8) hx hb dX5_init_23 (by decide) ?_
  refine r_newa (atype := .int) X.1 hV hS (by decide) rfl ac_int (by decide) (by decide) (by decide) (Nat.le_of_ble_eq_true rfl) (Nat.le_of_ble_eq_true rfl) dX5_init_25 (fun H hV hS => ?_)
  replace hV : HV G layX B _ 17 H := hV
  refine r_putF kX5 (by decide) fl_RX5_21 rfl rfl hin X.1 hV hS (k := 13) ⟨by decide, rfl⟩ rfl rfl dX5_init_27 (fun H locs hV hS => ?_)
  refine lv_iconst (v := 0) hx hb dX5_init_30 (by decide) ?_
  refine lv_istore_n (lv' := [(1, .int (0 : Int32)), (0, .ref (B + 13))]) hx hb dX5_init_31 rfl hl (by decide) rfl (fun ls hl => ?_)
  refine lv_iload_n hx hb dX5_init_32 rfl (lv_at hl 0 rfl) ?_
  refine lv_bipush (v := 8) hx hb dX5_init_33 (by decide) ?_
  refine lv_icmp_ge (tgt := 58) hx hb dX5_init_35 (by decide) (fun q => absurd q (by decide)) (fun _ => ?_)
  refine lv_aload_n hx hb dX5_init_38 rfl (lv_at hl 1 rfl) ?_
  refine r_get (v := .ref (B + 15)) kX5 (by decide) fl_RX5_17 X.1 hV (k := 13) ⟨by decide, rfl⟩ (by simp (disch := omega) only [uV_at, uV_j, uV_k, nV_k]) dX5_init_39 ?_
  refine lv_iload_n hx hb dX5_init_42 rfl (lv_at hl 0 rfl) ?_
  refine r_new X.1 hV hS kX3 rfl nw_RX5_15 (Nat.le_of_ble_eq_true rfl) (Nat.le_of_ble_eq_true rfl) dX5_init_43 (fun H hV hS => ?_)
  replace hV : HV G layX B _ 18 H := hV
  refine lv_dup hx hb dX5_init_46 rfl ?_
  refine lv_iload_n hx hb dX5_init_47 rfl (lv_at hl 0 rfl) ?_
  refine r_ctor (As := [.int (0 : Int32)]) X.1 X.2.2.2 hV (fun _ h => h) hS (ct_X3 l G B 17 (by decide) rfl (0 : Int32) (by decide) _ nV_at) kt_RX5_24 rfl ⟨by decide, by decide⟩ ⟨Nat.le_of_ble_eq_true rfl, Nat.le_of_ble_eq_true rfl⟩ rfl hl.1 (Nat.le_of_ble_eq_true rfl) rfl dX5_init_48 (fun V1 H locs hR1 hV hS _ _ => ?_)
  replace hV : HV G layX B _ 19 H := hV
  refine r_aast X.1 hV hS (by decide) (k := 15) (k2 := 17) ⟨by decide, rfl⟩ ⟨by decide, rfl⟩ kX3 (by decide) (jj := 0) (by decide) dX5_init_51 (fun H locs hV hS => ?_)
  refine lv_iinc (v := 1) (lv' := [(1, .int (1 : Int32)), (0, .ref (B + 13))]) hx hb dX5_init_52 hl (k := 0) rfl (by decide) (by decide) rfl (fun ls hl => ?_)
  refine lv_goto (tgt := 32) hx hb dX5_init_55 (by decide) ?_
  refine lv_iload_n hx hb dX5_init_32 rfl (lv_at hl 0 rfl) ?_
  refine lv_bipush (v := 8) hx hb dX5_init_33 (by decide) ?_
  refine lv_icmp_ge (tgt := 58) hx hb dX5_init_35 (by decide) (fun q => absurd q (by decide)) (fun _ => ?_)
  refine lv_aload_n hx hb dX5_init_38 rfl (lv_at hl 1 rfl) ?_
  refine r_get (v := .ref (B + 15)) kX5 (by decide) fl_RX5_17 X.1 hV (k := 13) ⟨by decide, rfl⟩ (by simp (disch := omega) only [uV_at, uV_j, uV_k, nV_k, hR1.1]) dX5_init_39 ?_
  refine lv_iload_n hx hb dX5_init_42 rfl (lv_at hl 0 rfl) ?_
  refine r_new X.1 hV hS kX3 rfl nw_RX5_15 (Nat.le_of_ble_eq_true rfl) (Nat.le_of_ble_eq_true rfl) dX5_init_43 (fun H hV hS => ?_)
  replace hV : HV G layX B _ 20 H := hV
  refine lv_dup hx hb dX5_init_46 rfl ?_
  refine lv_iload_n hx hb dX5_init_47 rfl (lv_at hl 0 rfl) ?_
  refine r_ctor (As := [.int (1 : Int32)]) X.1 X.2.2.2 hV (fun _ h => h) hS (ct_X3 l G B 19 (by decide) rfl (1 : Int32) (by decide) _ nV_at) kt_RX5_24 rfl ⟨by decide, by decide⟩ ⟨Nat.le_of_ble_eq_true rfl, Nat.le_of_ble_eq_true rfl⟩ rfl hl.1 (Nat.le_of_ble_eq_true rfl) rfl dX5_init_48 (fun V2 H locs hR2 hV hS _ _ => ?_)
  replace hV : HV G layX B _ 21 H := hV
  refine r_aast X.1 hV hS (by decide) (k := 15) (k2 := 19) ⟨by decide, rfl⟩ ⟨by decide, rfl⟩ kX3 (by decide) (jj := 1) (by decide) dX5_init_51 (fun H locs hV hS => ?_)
  refine lv_iinc (v := 2) (lv' := [(1, .int (2 : Int32)), (0, .ref (B + 13))]) hx hb dX5_init_52 hl (k := 0) rfl (by decide) (by decide) rfl (fun ls hl => ?_)
  refine lv_goto (tgt := 32) hx hb dX5_init_55 (by decide) ?_
  refine lv_iload_n hx hb dX5_init_32 rfl (lv_at hl 0 rfl) ?_
  refine lv_bipush (v := 8) hx hb dX5_init_33 (by decide) ?_
  refine lv_icmp_ge (tgt := 58) hx hb dX5_init_35 (by decide) (fun q => absurd q (by decide)) (fun _ => ?_)
  refine lv_aload_n hx hb dX5_init_38 rfl (lv_at hl 1 rfl) ?_
  refine r_get (v := .ref (B + 15)) kX5 (by decide) fl_RX5_17 X.1 hV (k := 13) ⟨by decide, rfl⟩ (by simp (disch := omega) only [uV_at, uV_j, uV_k, nV_k, hR1.1, hR2.1]) dX5_init_39 ?_
  refine lv_iload_n hx hb dX5_init_42 rfl (lv_at hl 0 rfl) ?_
  refine r_new X.1 hV hS kX3 rfl nw_RX5_15 (Nat.le_of_ble_eq_true rfl) (Nat.le_of_ble_eq_true rfl) dX5_init_43 (fun H hV hS => ?_)
  replace hV : HV G layX B _ 22 H := hV
  refine lv_dup hx hb dX5_init_46 rfl ?_
  refine lv_iload_n hx hb dX5_init_47 rfl (lv_at hl 0 rfl) ?_
  refine r_ctor (As := [.int (2 : Int32)]) X.1 X.2.2.2 hV (fun _ h => h) hS (ct_X3 l G B 21 (by decide) rfl (2 : Int32) (by decide) _ nV_at) kt_RX5_24 rfl ⟨by decide, by decide⟩ ⟨Nat.le_of_ble_eq_true rfl, Nat.le_of_ble_eq_true rfl⟩ rfl hl.1 (Nat.le_of_ble_eq_true rfl) rfl dX5_init_48 (fun V3 H locs hR3 hV hS _ _ => ?_)
  replace hV : HV G layX B _ 23 H := hV
  refine r_aast X.1 hV hS (by decide) (k := 15) (k2 := 21) ⟨by decide, rfl⟩ ⟨by decide, rfl⟩ kX3 (by decide) (jj := 2) (by decide) dX5_init_51 (fun H locs hV hS => ?_)
  refine lv_iinc (v := 3) (lv' := [(1, .int (3 : Int32)), (0, .ref (B + 13))]) hx hb dX5_init_52 hl (k := 0) rfl (by decide) (by decide) rfl (fun ls hl => ?_)
  refine lv_goto (tgt := 32) hx hb dX5_init_55 (by decide) ?_
  refine lv_iload_n hx hb dX5_init_32 rfl (lv_at hl 0 rfl) ?_
  refine lv_bipush (v := 8) hx hb dX5_init_33 (by decide) ?_
  refine lv_icmp_ge (tgt := 58) hx hb dX5_init_35 (by decide) (fun q => absurd q (by decide)) (fun _ => ?_)
  refine lv_aload_n hx hb dX5_init_38 rfl (lv_at hl 1 rfl) ?_
  refine r_get (v := .ref (B + 15)) kX5 (by decide) fl_RX5_17 X.1 hV (k := 13) ⟨by decide, rfl⟩ (by simp (disch := omega) only [uV_at, uV_j, uV_k, nV_k, hR1.1, hR2.1, hR3.1]) dX5_init_39 ?_
  refine lv_iload_n hx hb dX5_init_42 rfl (lv_at hl 0 rfl) ?_
  refine r_new X.1 hV hS kX3 rfl nw_RX5_15 (Nat.le_of_ble_eq_true rfl) (Nat.le_of_ble_eq_true rfl) dX5_init_43 (fun H hV hS => ?_)
  replace hV : HV G layX B _ 24 H := hV
  refine lv_dup hx hb dX5_init_46 rfl ?_
  refine lv_iload_n hx hb dX5_init_47 rfl (lv_at hl 0 rfl) ?_
  refine r_ctor (As := [.int (3 : Int32)]) X.1 X.2.2.2 hV (fun _ h => h) hS (ct_X3 l G B 23 (by decide) rfl (3 : Int32) (by decide) _ nV_at) kt_RX5_24 rfl ⟨by decide, by decide⟩ ⟨Nat.le_of_ble_eq_true rfl, Nat.le_of_ble_eq_true rfl⟩ rfl hl.1 (Nat.le_of_ble_eq_true rfl) rfl dX5_init_48 (fun V4 H locs hR4 hV hS _ _ => ?_)
  replace hV : HV G layX B _ 25 H := hV
  refine r_aast X.1 hV hS (by decide) (k := 15) (k2 := 23) ⟨by decide, rfl⟩ ⟨by decide, rfl⟩ kX3 (by decide) (jj := 3) (by decide) dX5_init_51 (fun H locs hV hS => ?_)
  refine lv_iinc (v := 4) (lv' := [(1, .int (4 : Int32)), (0, .ref (B + 13))]) hx hb dX5_init_52 hl (k := 0) rfl (by decide) (by decide) rfl (fun ls hl => ?_)
  refine lv_goto (tgt := 32) hx hb dX5_init_55 (by decide) ?_
  refine lv_iload_n hx hb dX5_init_32 rfl (lv_at hl 0 rfl) ?_
  refine lv_bipush (v := 8) hx hb dX5_init_33 (by decide) ?_
  refine lv_icmp_ge (tgt := 58) hx hb dX5_init_35 (by decide) (fun q => absurd q (by decide)) (fun _ => ?_)
  refine lv_aload_n hx hb dX5_init_38 rfl (lv_at hl 1 rfl) ?_
  refine r_get (v := .ref (B + 15)) kX5 (by decide) fl_RX5_17 X.1 hV (k := 13) ⟨by decide, rfl⟩ (by simp (disch := omega) only [uV_at, uV_j, uV_k, nV_k, hR1.1, hR2.1, hR3.1, hR4.1]) dX5_init_39 ?_
  refine lv_iload_n hx hb dX5_init_42 rfl (lv_at hl 0 rfl) ?_
  refine r_new X.1 hV hS kX3 rfl nw_RX5_15 (Nat.le_of_ble_eq_true rfl) (Nat.le_of_ble_eq_true rfl) dX5_init_43 (fun H hV hS => ?_)
  replace hV : HV G layX B _ 26 H := hV
  refine lv_dup hx hb dX5_init_46 rfl ?_
  refine lv_iload_n hx hb dX5_init_47 rfl (lv_at hl 0 rfl) ?_
  refine r_ctor (As := [.int (4 : Int32)]) X.1 X.2.2.2 hV (fun _ h => h) hS (ct_X3 l G B 25 (by decide) rfl (4 : Int32) (by decide) _ nV_at) kt_RX5_24 rfl ⟨by decide, by decide⟩ ⟨Nat.le_of_ble_eq_true rfl, Nat.le_of_ble_eq_true rfl⟩ rfl hl.1 (Nat.le_of_ble_eq_true rfl) rfl dX5_init_48 (fun V5 H locs hR5 hV hS _ _ => ?_)
  replace hV : HV G layX B _ 27 H := hV
  refine r_aast X.1 hV hS (by decide) (k := 15) (k2 := 25) ⟨by decide, rfl⟩ ⟨by decide, rfl⟩ kX3 (by decide) (jj := 4) (by decide) dX5_init_51 (fun H locs hV hS => ?_)
  refine lv_iinc (v := 5) (lv' := [(1, .int (5 : Int32)), (0, .ref (B + 13))]) hx hb dX5_init_52 hl (k := 0) rfl (by decide) (by decide) rfl (fun ls hl => ?_)
  refine lv_goto (tgt := 32) hx hb dX5_init_55 (by decide) ?_
  refine lv_iload_n hx hb dX5_init_32 rfl (lv_at hl 0 rfl) ?_
  refine lv_bipush (v := 8) hx hb dX5_init_33 (by decide) ?_
  refine lv_icmp_ge (tgt := 58) hx hb dX5_init_35 (by decide) (fun q => absurd q (by decide)) (fun _ => ?_)
  refine lv_aload_n hx hb dX5_init_38 rfl (lv_at hl 1 rfl) ?_
  refine r_get (v := .ref (B + 15)) kX5 (by decide) fl_RX5_17 X.1 hV (k := 13) ⟨by decide, rfl⟩ (by simp (disch := omega) only [uV_at, uV_j, uV_k, nV_k, hR1.1, hR2.1, hR3.1, hR4.1, hR5.1]) dX5_init_39 ?_
  refine lv_iload_n hx hb dX5_init_42 rfl (lv_at hl 0 rfl) ?_
  refine r_new X.1 hV hS kX3 rfl nw_RX5_15 (Nat.le_of_ble_eq_true rfl) (Nat.le_of_ble_eq_true rfl) dX5_init_43 (fun H hV hS => ?_)
  replace hV : HV G layX B _ 28 H := hV
  refine lv_dup hx hb dX5_init_46 rfl ?_
  refine lv_iload_n hx hb dX5_init_47 rfl (lv_at hl 0 rfl) ?_
  refine r_ctor (As := [.int (5 : Int32)]) X.1 X.2.2.2 hV (fun _ h => h) hS (ct_X3 l G B 27 (by decide) rfl (5 : Int32) (by decide) _ nV_at) kt_RX5_24 rfl ⟨by decide, by decide⟩ ⟨Nat.le_of_ble_eq_true rfl, Nat.le_of_ble_eq_true rfl⟩ rfl hl.1 (Nat.le_of_ble_eq_true rfl) rfl dX5_init_48 (fun V6 H locs hR6 hV hS _ _ => ?_)
  replace hV : HV G layX B _ 29 H := hV
  refine r_aast X.1 hV hS (by decide) (k := 15) (k2 := 27) ⟨by decide, rfl⟩ ⟨by decide, rfl⟩ kX3 (by decide) (jj := 5) (by decide) dX5_init_51 (fun H locs hV hS => ?_)
  refine lv_iinc (v := 6) (lv' := [(1, .int (6 : Int32)), (0, .ref (B + 13))]) hx hb dX5_init_52 hl (k := 0) rfl (by decide) (by decide) rfl (fun ls hl => ?_)
  refine lv_goto (tgt := 32) hx hb dX5_init_55 (by decide) ?_
  refine lv_iload_n hx hb dX5_init_32 rfl (lv_at hl 0 rfl) ?_
  refine lv_bipush (v := 8) hx hb dX5_init_33 (by decide) ?_
  refine lv_icmp_ge (tgt := 58) hx hb dX5_init_35 (by decide) (fun q => absurd q (by decide)) (fun _ => ?_)
  refine lv_aload_n hx hb dX5_init_38 rfl (lv_at hl 1 rfl) ?_
  refine r_get (v := .ref (B + 15)) kX5 (by decide) fl_RX5_17 X.1 hV (k := 13) ⟨by decide, rfl⟩ (by simp (disch := omega) only [uV_at, uV_j, uV_k, nV_k, hR1.1, hR2.1, hR3.1, hR4.1, hR5.1, hR6.1]) dX5_init_39 ?_
  refine lv_iload_n hx hb dX5_init_42 rfl (lv_at hl 0 rfl) ?_
  refine r_new X.1 hV hS kX3 rfl nw_RX5_15 (Nat.le_of_ble_eq_true rfl) (Nat.le_of_ble_eq_true rfl) dX5_init_43 (fun H hV hS => ?_)
  replace hV : HV G layX B _ 30 H := hV
  refine lv_dup hx hb dX5_init_46 rfl ?_
  refine lv_iload_n hx hb dX5_init_47 rfl (lv_at hl 0 rfl) ?_
  refine r_ctor (As := [.int (6 : Int32)]) X.1 X.2.2.2 hV (fun _ h => h) hS (ct_X3 l G B 29 (by decide) rfl (6 : Int32) (by decide) _ nV_at) kt_RX5_24 rfl ⟨by decide, by decide⟩ ⟨Nat.le_of_ble_eq_true rfl, Nat.le_of_ble_eq_true rfl⟩ rfl hl.1 (Nat.le_of_ble_eq_true rfl) rfl dX5_init_48 (fun V7 H locs hR7 hV hS _ _ => ?_)
  replace hV : HV G layX B _ 31 H := hV
  refine r_aast X.1 hV hS (by decide) (k := 15) (k2 := 29) ⟨by decide, rfl⟩ ⟨by decide, rfl⟩ kX3 (by decide) (jj := 6) (by decide) dX5_init_51 (fun H locs hV hS => ?_)
  refine lv_iinc (v := 7) (lv' := [(1, .int (7 : Int32)), (0, .ref (B + 13))]) hx hb dX5_init_52 hl (k := 0) rfl (by decide) (by decide) rfl (fun ls hl => ?_)
  refine lv_goto (tgt := 32) hx hb dX5_init_55 (by decide) ?_
  refine lv_iload_n hx hb dX5_init_32 rfl (lv_at hl 0 rfl) ?_
  refine lv_bipush (v := 8) hx hb dX5_init_33 (by decide) ?_
  refine lv_icmp_ge (tgt := 58) hx hb dX5_init_35 (by decide) (fun q => absurd q (by decide)) (fun _ => ?_)
  refine lv_aload_n hx hb dX5_init_38 rfl (lv_at hl 1 rfl) ?_
  refine r_get (v := .ref (B + 15)) kX5 (by decide) fl_RX5_17 X.1 hV (k := 13) ⟨by decide, rfl⟩ (by simp (disch := omega) only [uV_at, uV_j, uV_k, nV_k, hR1.1, hR2.1, hR3.1, hR4.1, hR5.1, hR6.1, hR7.1]) dX5_init_39 ?_
  refine lv_iload_n hx hb dX5_init_42 rfl (lv_at hl 0 rfl) ?_
  refine r_new X.1 hV hS kX3 rfl nw_RX5_15 (Nat.le_of_ble_eq_true rfl) (Nat.le_of_ble_eq_true rfl) dX5_init_43 (fun H hV hS => ?_)
  replace hV : HV G layX B _ 32 H := hV
  refine lv_dup hx hb dX5_init_46 rfl ?_
  refine lv_iload_n hx hb dX5_init_47 rfl (lv_at hl 0 rfl) ?_
  refine r_ctor (As := [.int (7 : Int32)]) X.1 X.2.2.2 hV (fun _ h => h) hS (ct_X3 l G B 31 (by decide) rfl (7 : Int32) (by decide) _ nV_at) kt_RX5_24 rfl ⟨by decide, by decide⟩ ⟨Nat.le_of_ble_eq_true rfl, Nat.le_of_ble_eq_true rfl⟩ rfl hl.1 (Nat.le_of_ble_eq_true rfl) rfl dX5_init_48 (fun V8 H locs hR8 hV hS _ _ => ?_)
  replace hV : HV G layX B _ 33 H := hV
  refine r_aast X.1 hV hS (by decide) (k := 15) (k2 := 31) ⟨by decide, rfl⟩ ⟨by decide, rfl⟩ kX3 (by decide) (jj := 7) (by decide) dX5_init_51 (fun H locs hV hS => ?_)
  refine lv_iinc (v := 8) (lv' := [(1, .int (8 : Int32)), (0, .ref (B + 13))]) hx hb dX5_init_52 hl (k := 0) rfl (by decide) (by decide) rfl (fun ls hl => ?_)
  refine lv_goto (tgt := 32) hx hb dX5_init_55 (by decide) ?_
  refine lv_iload_n hx hb dX5_init_32 rfl (lv_at hl 0 rfl) ?_
  refine lv_bipush (v := 8) hx hb dX5_init_33 (by decide) ?_
  refine lv_icmp_ge (tgt := 58) hx hb dX5_init_35 (by decide) (fun _ => ?_) (fun q => absurd (by decide) q)
  refine r_vret X hV hS rfl rfl rfl ?_ dX5_init_58
  refine ⟨fun i hi => ?_, fun i h1 h2 => ?_⟩
  · simp (disch := omega) only [uV_k, nV_k, hR1.1, hR2.1, hR3.1, hR4.1, hR5.1, hR6.1, hR7.1, hR8.1]
  · rcases (show i = 13 ∨ i = 14 ∨ i = 15 ∨ i = 16 ∨ i = 17 ∨ i = 18 ∨ i = 19 ∨ i = 20 ∨ i = 21 ∨ i = 22 ∨ i = 23 ∨ i = 24 ∨ i = 25 ∨ i = 26 ∨ i = 27 ∨ i = 28 ∨ i = 29 ∨ i = 30 ∨ i = 31 ∨ i = 32 by omega) with rfl | rfl | rfl | rfl | rfl | rfl | rfl | rfl | rfl | rfl | rfl | rfl | rfl | rfl | rfl | rfl | rfl | rfl | rfl | rfl
    · intro r hr j hj
      cases hr
      have hj : j < 9 := hj
      rcases (show j = 0 ∨ j = 1 ∨ j = 2 ∨ j = 3 ∨ j = 4 ∨ j = 5 ∨ j = 6 ∨ j = 7 ∨ j = 8 by omega) with rfl | rfl | rfl | rfl | rfl | rfl | rfl | rfl | rfl
      · simp (disch := omega) only [uV_at, uV_j, uV_k, nV_k, hR1.1, hR2.1, hR3.1, hR4.1, hR5.1, hR6.1, hR7.1, hR8.1]
        rfl
      · simp (disch := omega) only [uV_at, uV_j, uV_k, nV_k, hR1.1, hR2.1, hR3.1, hR4.1, hR5.1, hR6.1, hR7.1, hR8.1]
        rfl
      · simp (disch := omega) only [uV_at, uV_j, uV_k, nV_k, hR1.1, hR2.1, hR3.1, hR4.1, hR5.1, hR6.1, hR7.1, hR8.1]
        rfl
      · simp (disch := omega) only [uV_at, uV_j, uV_k, nV_k, hR1.1, hR2.1, hR3.1, hR4.1, hR5.1, hR6.1, hR7.1, hR8.1]
        rw [hV0]
        rfl
      · simp (disch := omega) only [uV_at, uV_j, uV_k, nV_k, hR1.1, hR2.1, hR3.1, hR4.1, hR5.1, hR6.1, hR7.1, hR8.1]
        rw [hV0]
        rfl
      · simp (disch := omega) only [uV_at, uV_j, uV_k, nV_k, hR1.1, hR2.1, hR3.1, hR4.1, hR5.1, hR6.1, hR7.1, hR8.1]
        rw [hV0]
        rfl
      · simp (disch := omega) only [uV_at, uV_j, uV_k, nV_k, hR1.1, hR2.1, hR3.1, hR4.1, hR5.1, hR6.1, hR7.1, hR8.1]
        rw [hV0]
        rfl
      · simp (disch := omega) only [uV_at, uV_j, uV_k, nV_k, hR1.1, hR2.1, hR3.1, hR4.1, hR5.1, hR6.1, hR7.1, hR8.1]
        rw [hV0]
        rfl
      · simp (disch := omega) only [uV_at, uV_j, uV_k, nV_k, hR1.1, hR2.1, hR3.1, hR4.1, hR5.1, hR6.1, hR7.1, hR8.1]
        rw [hV0]
        rfl
    · intro j hj
      simp (disch := omega) only [uV_k, nV_at, nV_k, hR1.1, hR2.1, hR3.1, hR4.1, hR5.1, hR6.1, hR7.1, hR8.1]
      rfl
    · intro j hj
      have hj : j < 8 := hj
      rcases (show j = 0 ∨ j = 1 ∨ j = 2 ∨ j = 3 ∨ j = 4 ∨ j = 5 ∨ j = 6 ∨ j = 7 by omega) with rfl | rfl | rfl | rfl | rfl | rfl | rfl | rfl
      · simp (disch := omega) only [uV_at, uV_j, uV_k, nV_k, hR1.1, hR2.1, hR3.1, hR4.1, hR5.1, hR6.1, hR7.1, hR8.1]
        rfl
      · simp (disch := omega) only [uV_at, uV_j, uV_k, nV_k, hR1.1, hR2.1, hR3.1, hR4.1, hR5.1, hR6.1, hR7.1, hR8.1]
        rfl
      · simp (disch := omega) only [uV_at, uV_j, uV_k, nV_k, hR1.1, hR2.1, hR3.1, hR4.1, hR5.1, hR6.1, hR7.1, hR8.1]
        rfl
      · simp (disch := omega) only [uV_at, uV_j, uV_k, nV_k, hR1.1, hR2.1, hR3.1, hR4.1, hR5.1, hR6.1, hR7.1, hR8.1]
        rfl
      · simp (disch := omega) only [uV_at, uV_j, uV_k, nV_k, hR1.1, hR2.1, hR3.1, hR4.1, hR5.1, hR6.1, hR7.1, hR8.1]
        rfl
      · simp (disch := omega) only [uV_at, uV_j, uV_k, nV_k, hR1.1, hR2.1, hR3.1, hR4.1, hR5.1, hR6.1, hR7.1, hR8.1]
        rfl
      · simp (disch := omega) only [uV_at, uV_j, uV_k, nV_k, hR1.1, hR2.1, hR3.1, hR4.1, hR5.1, hR6.1, hR7.1, hR8.1]
        rfl
      · simp (disch := omega) only [uV_at, uV_j, uV_k, nV_k, hR1.1, hR2.1, hR3.1, hR4.1, hR5.1, hR6.1, hR7.1, hR8.1]
        rfl
    · intro j hj
      simp (disch := omega) only [uV_k, nV_at, nV_k, hR1.1, hR2.1, hR3.1, hR4.1, hR5.1, hR6.1, hR7.1, hR8.1]
      rfl
    · exact (hR1.2 _ (by omega) (by omega)).of (by simp (disch := omega) only [uV_k, nV_k, hR2.1, hR3.1, hR4.1, hR5.1, hR6.1, hR7.1, hR8.1])
    · exact (hR1.2 _ (by omega) (by omega)).of (by simp (disch := omega) only [uV_k, nV_k, hR2.1, hR3.1, hR4.1, hR5.1, hR6.1, hR7.1, hR8.1])
    · exact (hR2.2 _ (by omega) (by omega)).of (by simp (disch := omega) only [uV_k, nV_k, hR3.1, hR4.1, hR5.1, hR6.1, hR7.1, hR8.1])
    · exact (hR2.2 _ (by omega) (by omega)).of (by simp (disch := omega) only [uV_k, nV_k, hR3.1, hR4.1, hR5.1, hR6.1, hR7.1, hR8.1])
    · exact (hR3.2 _ (by omega) (by omega)).of (by simp (disch := omega) only [uV_k, nV_k, hR4.1, hR5.1, hR6.1, hR7.1, hR8.1])
    · exact (hR3.2 _ (by omega) (by omega)).of (by simp (disch := omega) only [uV_k, nV_k, hR4.1, hR5.1, hR6.1, hR7.1, hR8.1])
    · exact (hR4.2 _ (by omega) (by omega)).of (by simp (disch := omega) only [uV_k, nV_k, hR5.1, hR6.1, hR7.1, hR8.1])
    · exact (hR4.2 _ (by omega) (by omega)).of (by simp (disch := omega) only [uV_k, nV_k, hR5.1, hR6.1, hR7.1, hR8.1])
    · exact (hR5.2 _ (by omega) (by omega)).of (by simp (disch := omega) only [uV_k, nV_k, hR6.1, hR7.1, hR8.1])
    · exact (hR5.2 _ (by omega) (by omega)).of (by simp (disch := omega) only [uV_k, nV_k, hR6.1, hR7.1, hR8.1])
    · exact (hR6.2 _ (by omega) (by omega)).of (by simp (disch := omega) only [uV_k, nV_k, hR7.1, hR8.1])
    · exact (hR6.2 _ (by omega) (by omega)).of (by simp (disch := omega) only [uV_k, nV_k, hR7.1, hR8.1])
    · exact (hR7.2 _ (by omega) (by omega)).of (by simp (disch := omega) only [uV_k, nV_k, hR8.1])
    · exact (hR7.2 _ (by omega) (by omega)).of (by simp (disch := omega) only [uV_k, nV_k, hR8.1])
    · exact (hR8.2 _ (by omega) (by omega)).of (by simp (disch := omega) only [uV_k, nV_k])
    · exact (hR8.2 _ (by omega) (by omega)).of (by simp (disch := omega) only [uV_k, nV_k])
set_option maxHeartbeats 4000000 in
set_option maxRecDepth 100000 in
theorem ct_X8 (l : Launch) (G : Gd) (B : Nat) (V : VS) (hV0 : V 0 = dfl 8) : Cn l G layM B yX8_init cX8_init 2 1 16 5634 [.ref (B + 0)] 1 V (fun V1 => ∀ i, i < 17 → okV layM B τM V1 i) := by
  refine Cn.ofW (by decide) (Nat.le_of_ble_eq_true rfl) (fun p e s m below meth c hin X hV hS ls hl => ?_)
  have hl : lv_has ls 2 [(0, .ref (B + 0))] := hl
  have hx := X.1.1
  have hb := X.1.2.1
  refine lv_aload_n hx hb dX8_init_0 rfl (lv_at hl 0 rfl) ?_
  refine r_obj X.1 hl ob_RX8_1 (by decide) dX8_init_1 ?_
  refine lv_aload_n hx hb dX8_init_4 rfl (lv_at hl 0 rfl) ?_
  refine lv_bipush (v := 8) hx hb dX8_init_5 (by decide) ?_
  refine r_newa (atype := .int) X.1 hV hS (by decide) rfl ac_int (by decide) (by decide) (by decide) (Nat.le_of_ble_eq_true rfl) (Nat.le_of_ble_eq_true rfl) dX8_init_7 (fun H hV hS => ?_)
  replace hV : HV G layM B _ 2 H := hV
  refine r_putF kX8 (by decide) fl_RX8_7 rfl rfl hin X.1 hV hS (k := 0) ⟨by decide, rfl⟩ rfl rfl dX8_init_9 (fun H locs hV hS => ?_)
  refine lv_aload_n hx hb dX8_init_12 rfl (lv_at hl 0 rfl) ?_
  refine lv_bipush (v := 8) hx hb dX8_init_13 (by decide) ?_
  refine r_newa (atype := .int) X.1 hV hS (by decide) rfl ac_int (by decide) (by decide) (by decide) (Nat.le_of_ble_eq_true rfl) (Nat.le_of_ble_eq_true rfl) dX8_init_15 (fun H hV hS => ?_)
  replace hV : HV G layM B _ 3 H := hV
  refine r_putF kX8 (by decide) fl_RX8_13 rfl rfl hin X.1 hV hS (k := 0) ⟨by decide, rfl⟩ rfl rfl dX8_init_17 (fun H locs hV hS => ?_)
  refine lv_aload_n hx hb dX8_init_20 rfl (lv_at hl 0 rfl) ?_
  refine lv_sipush (v := 320) hx hb dX8_init_21 (by decide) ?_
  refine r_newa (atype := .int) X.1 hV hS (by decide) rfl ac_int (by decide) (by decide) (by decide) (Nat.le_of_ble_eq_true rfl) (Nat.le_of_ble_eq_true rfl) dX8_init_24 (fun H hV hS => ?_)
  replace hV : HV G layM B _ 4 H := hV
  refine r_putF kX8 (by decide) fl_RX8_16 rfl rfl hin X.1 hV hS (k := 0) ⟨by decide, rfl⟩ rfl rfl dX8_init_26 (fun H locs hV hS => ?_)
  refine lv_aload_n hx hb dX8_init_29 rfl (lv_at hl 0 rfl) ?_
  refine lv_bipush (v := 40) hx hb dX8_init_30 (by decide) ?_
  refine r_newa (atype := .int) X.1 hV hS (by decide) rfl ac_int (by decide) (by decide) (by decide) (Nat.le_of_ble_eq_true rfl) (Nat.le_of_ble_eq_true rfl) dX8_init_32 (fun H hV hS => ?_)
  replace hV : HV G layM B _ 5 H := hV
  refine r_putF kX8 (by decide) fl_RX8_19 rfl rfl hin X.1 hV hS (k := 0) ⟨by decide, rfl⟩ rfl rfl dX8_init_34 (fun H locs hV hS => ?_)
  refine lv_aload_n hx hb dX8_init_37 rfl (lv_at hl 0 rfl) ?_
  refine lv_sipush (v := 200) hx hb dX8_init_38 (by decide) ?_
  refine r_newa (atype := .int) X.1 hV hS (by decide) rfl ac_int (by decide) (by decide) (by decide) (Nat.le_of_ble_eq_true rfl) (Nat.le_of_ble_eq_true rfl) dX8_init_41 (fun H hV hS => ?_)
  replace hV : HV G layM B _ 6 H := hV
  refine r_putF kX8 (by decide) fl_RX8_22 rfl rfl hin X.1 hV hS (k := 0) ⟨by decide, rfl⟩ rfl rfl dX8_init_43 (fun H locs hV hS => ?_)
  refine lv_aload_n hx hb dX8_init_46 rfl (lv_at hl 0 rfl) ?_
  refine lv_sipush (v := 312) hx hb dX8_init_47 (by decide) ?_
  refine r_newa (atype := .long) X.1 hV hS (by decide) rfl ac_long (by decide) (by decide) (by decide) (Nat.le_of_ble_eq_true rfl) (Nat.le_of_ble_eq_true rfl) dX8_init_50 (fun H hV hS => ?_)
  replace hV : HV G layM B _ 7 H := hV
  refine r_putF kX8 (by decide) fl_RX8_25 rfl rfl hin X.1 hV hS (k := 0) ⟨by decide, rfl⟩ rfl rfl dX8_init_52 (fun H locs hV hS => ?_)
  refine lv_aload_n hx hb dX8_init_55 rfl (lv_at hl 0 rfl) ?_
  refine lv_sipush (v := 312) hx hb dX8_init_56 (by decide) ?_
  refine r_newa (atype := .long) X.1 hV hS (by decide) rfl ac_long (by decide) (by decide) (by decide) (Nat.le_of_ble_eq_true rfl) (Nat.le_of_ble_eq_true rfl) dX8_init_59 (fun H hV hS => ?_)
  replace hV : HV G layM B _ 8 H := hV
  refine r_putF kX8 (by decide) fl_RX8_29 rfl rfl hin X.1 hV hS (k := 0) ⟨by decide, rfl⟩ rfl rfl dX8_init_61 (fun H locs hV hS => ?_)
  refine lv_aload_n hx hb dX8_init_64 rfl (lv_at hl 0 rfl) ?_
  refine lv_sipush (v := 3744) hx hb dX8_init_65 (by decide) ?_
  refine r_newa (atype := .long) X.1 hV hS (by decide) rfl ac_long (by decide) (by decide) (by decide) (Nat.le_of_ble_eq_true rfl) (Nat.le_of_ble_eq_true rfl) dX8_init_68 (fun H hV hS => ?_)
  replace hV : HV G layM B _ 9 H := hV
  refine r_putF kX8 (by decide) fl_RX8_32 rfl rfl hin X.1 hV hS (k := 0) ⟨by decide, rfl⟩ rfl rfl dX8_init_70 (fun H locs hV hS => ?_)
  refine lv_aload_n hx hb dX8_init_73 rfl (lv_at hl 0 rfl) ?_
  refine lv_sipush (v := 624) hx hb dX8_init_74 (by decide) ?_
  refine r_newa (atype := .long) X.1 hV hS (by decide) rfl ac_long (by decide) (by decide) (by decide) (Nat.le_of_ble_eq_true rfl) (Nat.le_of_ble_eq_true rfl) dX8_init_77 (fun H hV hS => ?_)
  replace hV : HV G layM B _ 10 H := hV
  refine r_putF kX8 (by decide) fl_RX8_35 rfl rfl hin X.1 hV hS (k := 0) ⟨by decide, rfl⟩ rfl rfl dX8_init_79 (fun H locs hV hS => ?_)
  refine lv_aload_n hx hb dX8_init_82 rfl (lv_at hl 0 rfl) ?_
  refine lv_iconst (v := 2) hx hb dX8_init_83 (by decide) ?_
  refine r_newa (atype := .boolean) X.1 hV hS (by decide) rfl ac_boolean (by decide) (by decide) (by decide) (Nat.le_of_ble_eq_true rfl) (Nat.le_of_ble_eq_true rfl) dX8_init_84 (fun H hV hS => ?_)
  replace hV : HV G layM B _ 11 H := hV
  refine r_putF kX8 (by decide) fl_RX8_38 rfl rfl hin X.1 hV hS (k := 0) ⟨by decide, rfl⟩ rfl rfl dX8_init_86 (fun H locs hV hS => ?_)
  refine lv_aload_n hx hb dX8_init_89 rfl (lv_at hl 0 rfl) ?_
  refine lv_bipush (v := 10) hx hb dX8_init_90 (by decide) ?_
  refine r_newa (atype := .long) X.1 hV hS (by decide) rfl ac_long (by decide) (by decide) (by decide) (Nat.le_of_ble_eq_true rfl) (Nat.le_of_ble_eq_true rfl) dX8_init_92 (fun H hV hS => ?_)
  replace hV : HV G layM B _ 12 H := hV
  refine r_putF kX8 (by decide) fl_RX8_42 rfl rfl hin X.1 hV hS (k := 0) ⟨by decide, rfl⟩ rfl rfl dX8_init_94 (fun H locs hV hS => ?_)
  refine lv_aload_n hx hb dX8_init_97 rfl (lv_at hl 0 rfl) ?_
  refine lv_bipush (v := 10) hx hb dX8_init_98 (by decide) ?_
  refine r_newa (atype := .long) X.1 hV hS (by decide) rfl ac_long (by decide) (by decide) (by decide) (Nat.le_of_ble_eq_true rfl) (Nat.le_of_ble_eq_true rfl) dX8_init_100 (fun H hV hS => ?_)
  replace hV : HV G layM B _ 13 H := hV
  refine r_putF kX8 (by decide) fl_RX8_45 rfl rfl hin X.1 hV hS (k := 0) ⟨by decide, rfl⟩ rfl rfl dX8_init_102 (fun H locs hV hS => ?_)
  refine lv_aload_n hx hb dX8_init_105 rfl (lv_at hl 0 rfl) ?_
  refine lv_bipush (v := 10) hx hb dX8_init_106 (by decide) ?_
  refine r_newa (atype := .long) X.1 hV hS (by decide) rfl ac_long (by decide) (by decide) (by decide) (Nat.le_of_ble_eq_true rfl) (Nat.le_of_ble_eq_true rfl) dX8_init_108 (fun H hV hS => ?_)
  replace hV : HV G layM B _ 14 H := hV
  refine r_putF kX8 (by decide) fl_RX8_48 rfl rfl hin X.1 hV hS (k := 0) ⟨by decide, rfl⟩ rfl rfl dX8_init_110 (fun H locs hV hS => ?_)
  refine lv_aload_n hx hb dX8_init_113 rfl (lv_at hl 0 rfl) ?_
  refine lv_bipush (v := 10) hx hb dX8_init_114 (by decide) ?_
  refine r_newa (atype := .long) X.1 hV hS (by decide) rfl ac_long (by decide) (by decide) (by decide) (Nat.le_of_ble_eq_true rfl) (Nat.le_of_ble_eq_true rfl) dX8_init_116 (fun H hV hS => ?_)
  replace hV : HV G layM B _ 15 H := hV
  refine r_putF kX8 (by decide) fl_RX8_51 rfl rfl hin X.1 hV hS (k := 0) ⟨by decide, rfl⟩ rfl rfl dX8_init_118 (fun H locs hV hS => ?_)
  refine lv_aload_n hx hb dX8_init_121 rfl (lv_at hl 0 rfl) ?_
  refine lv_bipush (v := 8) hx hb dX8_init_122 (by decide) ?_
  refine r_newa (atype := .long) X.1 hV hS (by decide) rfl ac_long (by decide) (by decide) (by decide) (Nat.le_of_ble_eq_true rfl) (Nat.le_of_ble_eq_true rfl) dX8_init_124 (fun H hV hS => ?_)
  replace hV : HV G layM B _ 16 H := hV
  refine r_putF kX8 (by decide) fl_RX8_54 rfl rfl hin X.1 hV hS (k := 0) ⟨by decide, rfl⟩ rfl rfl dX8_init_126 (fun H locs hV hS => ?_)
  refine lv_aload_n hx hb dX8_init_129 rfl (lv_at hl 0 rfl) ?_
  refine lv_bipush (v := 16) hx hb dX8_init_130 (by decide) ?_
  refine r_newa (atype := .int) X.1 hV hS (by decide) rfl ac_int (by decide) (by decide) (by decide) (Nat.le_of_ble_eq_true rfl) (Nat.le_of_ble_eq_true rfl) dX8_init_132 (fun H hV hS => ?_)
  replace hV : HV G layM B _ 17 H := hV
  refine r_putF kX8 (by decide) fl_RX8_57 rfl rfl hin X.1 hV hS (k := 0) ⟨by decide, rfl⟩ rfl rfl dX8_init_134 (fun H locs hV hS => ?_)
  refine lv_iconst (v := 0) hx hb dX8_init_137 (by decide) ?_
  refine lv_istore_n (lv' := [(1, .int (0 : Int32)), (0, .ref (B + 0))]) hx hb dX8_init_138 rfl hl (by decide) rfl (fun ls hl => ?_)
  refine lv_iload_n hx hb dX8_init_139 rfl (lv_at hl 0 rfl) ?_
  refine lv_bipush (v := 8) hx hb dX8_init_140 (by decide) ?_
  refine lv_icmp_ge (tgt := 159) hx hb dX8_init_142 (by decide) (fun q => absurd q (by decide)) (fun _ => ?_)
  refine lv_aload_n hx hb dX8_init_145 rfl (lv_at hl 1 rfl) ?_
  refine r_get (v := .ref (B + 1)) kX8 (by decide) fl_RX8_7 X.1 hV (k := 0) ⟨by decide, rfl⟩ (by simp (disch := omega) only [uV_at, uV_j, uV_k, nV_k]) dX8_init_146 ?_
  refine lv_iload_n hx hb dX8_init_149 rfl (lv_at hl 0 rfl) ?_
  refine lv_ldc (v := -1000000) hx hb X.1.2.2.2.1 (X.1.2.2.2.2.1 _ kc_RX8_60) dX8_init_150 ?_
  refine r_iast X.1 hV hS (k := 1) ⟨by decide, rfl⟩ (by decide) (jj := 0) (by decide) dX8_init_152 (fun H locs hV hS => ?_)
  refine lv_iinc (v := 1) (lv' := [(1, .int (1 : Int32)), (0, .ref (B + 0))]) hx hb dX8_init_153 hl (k := 0) rfl (by decide) (by decide) rfl (fun ls hl => ?_)
  refine lv_goto (tgt := 139) hx hb dX8_init_156 (by decide) ?_
  refine lv_iload_n hx hb dX8_init_139 rfl (lv_at hl 0 rfl) ?_
  refine lv_bipush (v := 8) hx hb dX8_init_140 (by decide) ?_
  refine lv_icmp_ge (tgt := 159) hx hb dX8_init_142 (by decide) (fun q => absurd q (by decide)) (fun _ => ?_)
  refine lv_aload_n hx hb dX8_init_145 rfl (lv_at hl 1 rfl) ?_
  refine r_get (v := .ref (B + 1)) kX8 (by decide) fl_RX8_7 X.1 hV (k := 0) ⟨by decide, rfl⟩ (by simp (disch := omega) only [uV_at, uV_j, uV_k, nV_k]) dX8_init_146 ?_
  refine lv_iload_n hx hb dX8_init_149 rfl (lv_at hl 0 rfl) ?_
  refine lv_ldc (v := -1000000) hx hb X.1.2.2.2.1 (X.1.2.2.2.2.1 _ kc_RX8_60) dX8_init_150 ?_
  refine r_iast X.1 hV hS (k := 1) ⟨by decide, rfl⟩ (by decide) (jj := 1) (by decide) dX8_init_152 (fun H locs hV hS => ?_)
  refine lv_iinc (v := 2) (lv' := [(1, .int (2 : Int32)), (0, .ref (B + 0))]) hx hb dX8_init_153 hl (k := 0) rfl (by decide) (by decide) rfl (fun ls hl => ?_)
  refine lv_goto (tgt := 139) hx hb dX8_init_156 (by decide) ?_
  refine lv_iload_n hx hb dX8_init_139 rfl (lv_at hl 0 rfl) ?_
  refine lv_bipush (v := 8) hx hb dX8_init_140 (by decide) ?_
  refine lv_icmp_ge (tgt := 159) hx hb dX8_init_142 (by decide) (fun q => absurd q (by decide)) (fun _ => ?_)
  refine lv_aload_n hx hb dX8_init_145 rfl (lv_at hl 1 rfl) ?_
  refine r_get (v := .ref (B + 1)) kX8 (by decide) fl_RX8_7 X.1 hV (k := 0) ⟨by decide, rfl⟩ (by simp (disch := omega) only [uV_at, uV_j, uV_k, nV_k]) dX8_init_146 ?_
  refine lv_iload_n hx hb dX8_init_149 rfl (lv_at hl 0 rfl) ?_
  refine lv_ldc (v := -1000000) hx hb X.1.2.2.2.1 (X.1.2.2.2.2.1 _ kc_RX8_60) dX8_init_150 ?_
  refine r_iast X.1 hV hS (k := 1) ⟨by decide, rfl⟩ (by decide) (jj := 2) (by decide) dX8_init_152 (fun H locs hV hS => ?_)
  refine lv_iinc (v := 3) (lv' := [(1, .int (3 : Int32)), (0, .ref (B + 0))]) hx hb dX8_init_153 hl (k := 0) rfl (by decide) (by decide) rfl (fun ls hl => ?_)
  refine lv_goto (tgt := 139) hx hb dX8_init_156 (by decide) ?_
  refine lv_iload_n hx hb dX8_init_139 rfl (lv_at hl 0 rfl) ?_
  refine lv_bipush (v := 8) hx hb dX8_init_140 (by decide) ?_
  refine lv_icmp_ge (tgt := 159) hx hb dX8_init_142 (by decide) (fun q => absurd q (by decide)) (fun _ => ?_)
  refine lv_aload_n hx hb dX8_init_145 rfl (lv_at hl 1 rfl) ?_
  refine r_get (v := .ref (B + 1)) kX8 (by decide) fl_RX8_7 X.1 hV (k := 0) ⟨by decide, rfl⟩ (by simp (disch := omega) only [uV_at, uV_j, uV_k, nV_k]) dX8_init_146 ?_
  refine lv_iload_n hx hb dX8_init_149 rfl (lv_at hl 0 rfl) ?_
  refine lv_ldc (v := -1000000) hx hb X.1.2.2.2.1 (X.1.2.2.2.2.1 _ kc_RX8_60) dX8_init_150 ?_
  refine r_iast X.1 hV hS (k := 1) ⟨by decide, rfl⟩ (by decide) (jj := 3) (by decide) dX8_init_152 (fun H locs hV hS => ?_)
  refine lv_iinc (v := 4) (lv' := [(1, .int (4 : Int32)), (0, .ref (B + 0))]) hx hb dX8_init_153 hl (k := 0) rfl (by decide) (by decide) rfl (fun ls hl => ?_)
  refine lv_goto (tgt := 139) hx hb dX8_init_156 (by decide) ?_
  refine lv_iload_n hx hb dX8_init_139 rfl (lv_at hl 0 rfl) ?_
  refine lv_bipush (v := 8) hx hb dX8_init_140 (by decide) ?_
  refine lv_icmp_ge (tgt := 159) hx hb dX8_init_142 (by decide) (fun q => absurd q (by decide)) (fun _ => ?_)
  refine lv_aload_n hx hb dX8_init_145 rfl (lv_at hl 1 rfl) ?_
  refine r_get (v := .ref (B + 1)) kX8 (by decide) fl_RX8_7 X.1 hV (k := 0) ⟨by decide, rfl⟩ (by simp (disch := omega) only [uV_at, uV_j, uV_k, nV_k]) dX8_init_146 ?_
  refine lv_iload_n hx hb dX8_init_149 rfl (lv_at hl 0 rfl) ?_
  refine lv_ldc (v := -1000000) hx hb X.1.2.2.2.1 (X.1.2.2.2.2.1 _ kc_RX8_60) dX8_init_150 ?_
  refine r_iast X.1 hV hS (k := 1) ⟨by decide, rfl⟩ (by decide) (jj := 4) (by decide) dX8_init_152 (fun H locs hV hS => ?_)
  refine lv_iinc (v := 5) (lv' := [(1, .int (5 : Int32)), (0, .ref (B + 0))]) hx hb dX8_init_153 hl (k := 0) rfl (by decide) (by decide) rfl (fun ls hl => ?_)
  refine lv_goto (tgt := 139) hx hb dX8_init_156 (by decide) ?_
  refine lv_iload_n hx hb dX8_init_139 rfl (lv_at hl 0 rfl) ?_
  refine lv_bipush (v := 8) hx hb dX8_init_140 (by decide) ?_
  refine lv_icmp_ge (tgt := 159) hx hb dX8_init_142 (by decide) (fun q => absurd q (by decide)) (fun _ => ?_)
  refine lv_aload_n hx hb dX8_init_145 rfl (lv_at hl 1 rfl) ?_
  refine r_get (v := .ref (B + 1)) kX8 (by decide) fl_RX8_7 X.1 hV (k := 0) ⟨by decide, rfl⟩ (by simp (disch := omega) only [uV_at, uV_j, uV_k, nV_k]) dX8_init_146 ?_
  refine lv_iload_n hx hb dX8_init_149 rfl (lv_at hl 0 rfl) ?_
  refine lv_ldc (v := -1000000) hx hb X.1.2.2.2.1 (X.1.2.2.2.2.1 _ kc_RX8_60) dX8_init_150 ?_
  refine r_iast X.1 hV hS (k := 1) ⟨by decide, rfl⟩ (by decide) (jj := 5) (by decide) dX8_init_152 (fun H locs hV hS => ?_)
  refine lv_iinc (v := 6) (lv' := [(1, .int (6 : Int32)), (0, .ref (B + 0))]) hx hb dX8_init_153 hl (k := 0) rfl (by decide) (by decide) rfl (fun ls hl => ?_)
  refine lv_goto (tgt := 139) hx hb dX8_init_156 (by decide) ?_
  refine lv_iload_n hx hb dX8_init_139 rfl (lv_at hl 0 rfl) ?_
  refine lv_bipush (v := 8) hx hb dX8_init_140 (by decide) ?_
  refine lv_icmp_ge (tgt := 159) hx hb dX8_init_142 (by decide) (fun q => absurd q (by decide)) (fun _ => ?_)
  refine lv_aload_n hx hb dX8_init_145 rfl (lv_at hl 1 rfl) ?_
  refine r_get (v := .ref (B + 1)) kX8 (by decide) fl_RX8_7 X.1 hV (k := 0) ⟨by decide, rfl⟩ (by simp (disch := omega) only [uV_at, uV_j, uV_k, nV_k]) dX8_init_146 ?_
  refine lv_iload_n hx hb dX8_init_149 rfl (lv_at hl 0 rfl) ?_
  refine lv_ldc (v := -1000000) hx hb X.1.2.2.2.1 (X.1.2.2.2.2.1 _ kc_RX8_60) dX8_init_150 ?_
  refine r_iast X.1 hV hS (k := 1) ⟨by decide, rfl⟩ (by decide) (jj := 6) (by decide) dX8_init_152 (fun H locs hV hS => ?_)
  refine lv_iinc (v := 7) (lv' := [(1, .int (7 : Int32)), (0, .ref (B + 0))]) hx hb dX8_init_153 hl (k := 0) rfl (by decide) (by decide) rfl (fun ls hl => ?_)
  refine lv_goto (tgt := 139) hx hb dX8_init_156 (by decide) ?_
  refine lv_iload_n hx hb dX8_init_139 rfl (lv_at hl 0 rfl) ?_
  refine lv_bipush (v := 8) hx hb dX8_init_140 (by decide) ?_
  refine lv_icmp_ge (tgt := 159) hx hb dX8_init_142 (by decide) (fun q => absurd q (by decide)) (fun _ => ?_)
  refine lv_aload_n hx hb dX8_init_145 rfl (lv_at hl 1 rfl) ?_
  refine r_get (v := .ref (B + 1)) kX8 (by decide) fl_RX8_7 X.1 hV (k := 0) ⟨by decide, rfl⟩ (by simp (disch := omega) only [uV_at, uV_j, uV_k, nV_k]) dX8_init_146 ?_
  refine lv_iload_n hx hb dX8_init_149 rfl (lv_at hl 0 rfl) ?_
  refine lv_ldc (v := -1000000) hx hb X.1.2.2.2.1 (X.1.2.2.2.2.1 _ kc_RX8_60) dX8_init_150 ?_
  refine r_iast X.1 hV hS (k := 1) ⟨by decide, rfl⟩ (by decide) (jj := 7) (by decide) dX8_init_152 (fun H locs hV hS => ?_)
  refine lv_iinc (v := 8) (lv' := [(1, .int (8 : Int32)), (0, .ref (B + 0))]) hx hb dX8_init_153 hl (k := 0) rfl (by decide) (by decide) rfl (fun ls hl => ?_)
  refine lv_goto (tgt := 139) hx hb dX8_init_156 (by decide) ?_
  refine lv_iload_n hx hb dX8_init_139 rfl (lv_at hl 0 rfl) ?_
  refine lv_bipush (v := 8) hx hb dX8_init_140 (by decide) ?_
  refine lv_icmp_ge (tgt := 159) hx hb dX8_init_142 (by decide) (fun _ => ?_) (fun q => absurd (by decide) q)
  refine lv_aload_n hx hb dX8_init_159 rfl (lv_at hl 1 rfl) ?_
  refine r_get (v := .ref (B + 6)) kX8 (by decide) fl_RX8_25 X.1 hV (k := 0) ⟨by decide, rfl⟩ (by simp (disch := omega) only [uV_at, uV_j, uV_k, nV_k]) dX8_init_160 ?_
  refine lv_bipush (v := 8) hx hb dX8_init_163 (by decide) ?_
  refine lv_ldc2 (v := -1000000) hx hb X.1.2.2.2.1 (X.1.2.2.2.2.1 _ kc_RX8_61) dX8_init_165 ?_
  refine r_last X.1 hV hS (k := 6) ⟨by decide, rfl⟩ (by decide) (jj := 8) (by decide) dX8_init_168 (fun H locs hV hS => ?_)
  refine r_vret X hV hS rfl rfl rfl ?_ dX8_init_169
  intro i h2
  rcases (show i = 0 ∨ i = 1 ∨ i = 2 ∨ i = 3 ∨ i = 4 ∨ i = 5 ∨ i = 6 ∨ i = 7 ∨ i = 8 ∨ i = 9 ∨ i = 10 ∨ i = 11 ∨ i = 12 ∨ i = 13 ∨ i = 14 ∨ i = 15 ∨ i = 16 by omega) with rfl | rfl | rfl | rfl | rfl | rfl | rfl | rfl | rfl | rfl | rfl | rfl | rfl | rfl | rfl | rfl | rfl
  · intro r hr j hj
    cases hr
    have hj : j < 28 := hj
    rcases (show j = 0 ∨ j = 1 ∨ j = 2 ∨ j = 3 ∨ j = 4 ∨ j = 5 ∨ j = 6 ∨ j = 7 ∨ j = 8 ∨ j = 9 ∨ j = 10 ∨ j = 11 ∨ j = 12 ∨ j = 13 ∨ j = 14 ∨ j = 15 ∨ j = 16 ∨ j = 17 ∨ j = 18 ∨ j = 19 ∨ j = 20 ∨ j = 21 ∨ j = 22 ∨ j = 23 ∨ j = 24 ∨ j = 25 ∨ j = 26 ∨ j = 27 by omega) with rfl | rfl | rfl | rfl | rfl | rfl | rfl | rfl | rfl | rfl | rfl | rfl | rfl | rfl | rfl | rfl | rfl | rfl | rfl | rfl | rfl | rfl | rfl | rfl | rfl | rfl | rfl | rfl
    · simp (disch := omega) only [uV_at, uV_j, uV_k, nV_k]
      rfl
    · simp (disch := omega) only [uV_at, uV_j, uV_k, nV_k]
      rfl
    · simp (disch := omega) only [uV_at, uV_j, uV_k, nV_k]
      rfl
    · simp (disch := omega) only [uV_at, uV_j, uV_k, nV_k]
      rfl
    · simp (disch := omega) only [uV_at, uV_j, uV_k, nV_k]
      rw [hV0]
      rfl
    · simp (disch := omega) only [uV_at, uV_j, uV_k, nV_k]
      rfl
    · simp (disch := omega) only [uV_at, uV_j, uV_k, nV_k]
      rw [hV0]
      rfl
    · simp (disch := omega) only [uV_at, uV_j, uV_k, nV_k]
      rw [hV0]
      rfl
    · simp (disch := omega) only [uV_at, uV_j, uV_k, nV_k]
      rw [hV0]
      rfl
    · simp (disch := omega) only [uV_at, uV_j, uV_k, nV_k]
      rw [hV0]
      rfl
    · simp (disch := omega) only [uV_at, uV_j, uV_k, nV_k]
      rw [hV0]
      rfl
    · simp (disch := omega) only [uV_at, uV_j, uV_k, nV_k]
      rw [hV0]
      rfl
    · simp (disch := omega) only [uV_at, uV_j, uV_k, nV_k]
      rw [hV0]
      rfl
    · simp (disch := omega) only [uV_at, uV_j, uV_k, nV_k]
      rfl
    · simp (disch := omega) only [uV_at, uV_j, uV_k, nV_k]
      rfl
    · simp (disch := omega) only [uV_at, uV_j, uV_k, nV_k]
      rfl
    · simp (disch := omega) only [uV_at, uV_j, uV_k, nV_k]
      rw [hV0]
      rfl
    · simp (disch := omega) only [uV_at, uV_j, uV_k, nV_k]
      rfl
    · simp (disch := omega) only [uV_at, uV_j, uV_k, nV_k]
      rfl
    · simp (disch := omega) only [uV_at, uV_j, uV_k, nV_k]
      rfl
    · simp (disch := omega) only [uV_at, uV_j, uV_k, nV_k]
      rfl
    · simp (disch := omega) only [uV_at, uV_j, uV_k, nV_k]
      rfl
    · simp (disch := omega) only [uV_at, uV_j, uV_k, nV_k]
      rfl
    · simp (disch := omega) only [uV_at, uV_j, uV_k, nV_k]
      rfl
    · simp (disch := omega) only [uV_at, uV_j, uV_k, nV_k]
      rw [hV0]
      rfl
    · simp (disch := omega) only [uV_at, uV_j, uV_k, nV_k]
      rw [hV0]
      rfl
    · simp (disch := omega) only [uV_at, uV_j, uV_k, nV_k]
      rfl
    · simp (disch := omega) only [uV_at, uV_j, uV_k, nV_k]
      rw [hV0]
      rfl
  · intro j hj
    have hj : j < 8 := hj
    rcases (show j = 0 ∨ j = 1 ∨ j = 2 ∨ j = 3 ∨ j = 4 ∨ j = 5 ∨ j = 6 ∨ j = 7 by omega) with rfl | rfl | rfl | rfl | rfl | rfl | rfl | rfl
    · simp (disch := omega) only [uV_at, uV_j, uV_k, nV_k]
      rfl
    · simp (disch := omega) only [uV_at, uV_j, uV_k, nV_k]
      rfl
    · simp (disch := omega) only [uV_at, uV_j, uV_k, nV_k]
      rfl
    · simp (disch := omega) only [uV_at, uV_j, uV_k, nV_k]
      rfl
    · simp (disch := omega) only [uV_at, uV_j, uV_k, nV_k]
      rfl
    · simp (disch := omega) only [uV_at, uV_j, uV_k, nV_k]
      rfl
    · simp (disch := omega) only [uV_at, uV_j, uV_k, nV_k]
      rfl
    · simp (disch := omega) only [uV_at, uV_j, uV_k, nV_k]
      rfl
  · intro j hj
    simp (disch := omega) only [uV_k, nV_at, nV_k]
    rfl
  · intro j hj
    simp (disch := omega) only [uV_k, nV_at, nV_k]
    rfl
  · intro j hj
    simp (disch := omega) only [uV_k, nV_at, nV_k]
    rfl
  · intro j hj
    simp (disch := omega) only [uV_k, nV_at, nV_k]
    rfl
  · intro j hj
    have hj : j < 312 := hj
    by_cases q : j = 8
    · subst q
      simp (disch := omega) only [uV_at, uV_j, uV_k, nV_k]
      rfl
    · simp (disch := omega) only [uV_j, uV_k, nV_at, nV_k]
      show Value.long 0 = Value.long (if 6 = 6 ∧ j = 8 then -1000000 else 0)
      simp [q]
  · intro j hj
    simp (disch := omega) only [uV_k, nV_at, nV_k]
    rfl
  · intro j hj
    simp (disch := omega) only [uV_k, nV_at, nV_k]
    rfl
  · intro j hj
    simp (disch := omega) only [uV_k, nV_at, nV_k]
    rfl
  · intro j hj
    simp (disch := omega) only [uV_k, nV_at, nV_k]
    rfl
  · intro j hj
    simp (disch := omega) only [uV_k, nV_at, nV_k]
    rfl
  · intro j hj
    simp (disch := omega) only [uV_k, nV_at, nV_k]
    rfl
  · intro j hj
    simp (disch := omega) only [uV_k, nV_at, nV_k]
    rfl
  · intro j hj
    simp (disch := omega) only [uV_k, nV_at, nV_k]
    rfl
  · intro j hj
    simp (disch := omega) only [uV_k, nV_at, nV_k]
    rfl
  · intro j hj
    simp (disch := omega) only [uV_k, nV_at, nV_k]
    rfl
