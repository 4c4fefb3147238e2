theorem ob_RX2_3 : Cond.methodLink RX2 3 objectInit ∈ tb ∧ Cond.instanceMethod objectInit ∈ tb ∧ Cond.code objectInit ⟨#[0xb1]⟩ 1 none ∈ tb := ⟨tb_in 170 (by decide +kernel) (by decide +kernel), tb_in 66 (by decide +kernel) (by decide +kernel), tb_in 67 (by decide +kernel) (by decide +kernel)⟩
theorem nw_RX2_9 : Cond.classLink RX2 9 RX3 ∈ tb ∧ Cond.instantiable RX3 4 ∈ tb ∧ Cond.initialized RX3 ∈ tb := ⟨tb_in 171 (by decide +kernel) (by decide +kernel), tb_in 101 (by decide +kernel) (by decide +kernel), tb_in 51 (by decide +kernel) (by decide +kernel)⟩
theorem kt_RX2_26 : CwB RX2 26 yX3_init cX3_init 2 none 1 ∧ Cond.instanceMethod yX3_init ∈ tb := ⟨⟨tb_in 173 (by decide +kernel) (by decide +kernel), cq_X3_init.1⟩, cq_X3_init.2⟩
theorem σX_nm (k a : Nat) (hk : k = 33 ∨ k = 97 ∨ k = 160) (ha : a < 30) : nI a = σX.1 (k + 3 + 2 * a) 1 := by
  obtain ⟨⟨a1, -⟩, ⟨b1, -⟩, c1, -⟩ := layX_bc a ha
  rcases hk with rfl | rfl | rfl
  · have e : (σX.1 (33 + 3 + 2 * a) 1) = nmc (36 + 2 * a) := by
      show (if 33 + 3 + 2 * a = 12 then _ else _) = _
      rw [if_neg (by omega), if_pos ⟨a1, rfl⟩]
    rw [e]
    unfold nmc
    rw [if_neg (by omega), if_pos (by omega), show (36 + 2 * a - 36) / 2 = a by omega]
  · have e : (σX.1 (97 + 3 + 2 * a) 1) = nmc (97 + 3 + 2 * a) := by
      show (if 97 + 3 + 2 * a = 12 then _ else _) = _
      rw [if_neg (by omega), if_pos ⟨b1, rfl⟩]
    rw [e]
    unfold nmc
    rw [if_neg (by omega), if_neg (by omega), if_pos (by omega), show (97 + 3 + 2 * a - 100) / 2 = a by omega]
  · have e : (σX.1 (160 + 3 + 2 * a) 1) = nmc (160 + 3 + 2 * a) := by
      show (if 160 + 3 + 2 * a = 12 then _ else _) = _
      rw [if_neg (by omega), if_pos ⟨c1, rfl⟩]
    rw [e]
    unfold nmc
    rw [if_neg (by omega), if_neg (by omega), if_neg (by omega), if_pos (by omega), show (160 + 3 + 2 * a - 163) / 2 = a by omega]
def BInv (B k a : Nat) (V0 V : VS) : Prop := (∀ i, i < k → V i = V0 i) ∧ okV layX B σX V k ∧ V k 0 = .ref (B + (k + 1)) ∧ okV layX B σX V (k + 2) ∧ (∀ j, j < a → V (k + 1) j = .ref (B + (k + 3 + 2 * j))) ∧ ∀ i, k + 3 ≤ i → i < k + 3 + 2 * a → okV layX B σX V i
set_option maxHeartbeats 4000000 in
set_option maxRecDepth 100000 in
theorem bk_loop (l : Launch) (G : Gd) (B k : Nat) (hk : k < 238) (hkd : kdX k = .inl 2) (V0 : VS) {p : Program} {e : Env} {s : State} {m : MethodId} {below : List Frame} {meth : Method} {c : Code} (X : Cv p s m #[.ref (B + k)] meth c cX2_init 2 RX2 G) :
    ∀ (j a : Nat), a + j = 30 → ∀ (V : VS) (H : Heap) (locs : List Loc) (ls : Array Slot), HV G layX B V (k + 3 + 2 * a) H → BInv B k a V0 V → va_S (fun q => B ≤ q) s.heap H locs → lv_has ls 2 [(0, .ref (B + k)), (1, .int (nI a))] → WV p l e 2 62 398 s m #[.ref (B + k)] below meth c H locs (2 + 2 * a) (38 + 12 * a) G layX B (k + 1 + 62) (Blk B k 63 V0) (F0 m 29 ls []) := by
  have hx := X.1.1
  have hb := X.1.2.1
  have hk3 := layX_bk k hk hkd
  intro j
  induction j with
  | zero =>
    intro a ha V H locs ls hV hI hS hl
    have ea : a = 30 := by omega
    subst ea
    refine lv_iload_n hx hb dX2_init_29 rfl (lv_at hl 1 rfl) ?_
    refine lv_bipush (v := 30) hx hb dX2_init_30 (by decide) ?_
    refine lv_icmp_ge (tgt := 55) hx hb dX2_init_32 (by decide) (fun _ => ?_) (fun q => absurd (by decide) q)
    refine r_vret X hV hS (by omega) (by omega) (by omega) ?_ dX2_init_55
    obtain ⟨i1, i2, i3, i4, i5, i6⟩ := hI
    refine ⟨i1, fun i h1 h2 => ?_⟩
    by_cases e0 : i = k
    · subst e0
      exact i2
    by_cases e1 : i = k + 1
    · subst e1
      have hka : layX.1 (k + 1) = .inr (.object "SlackProofs$Clause", 30) := (bArr (k := k) ⟨hk, hkd⟩).2
      unfold okV
      simp only [hka]
      intro q hq
      rw [i5 q hq]
      show _ = Value.ref (B + layX.2.1 (k + 1) q)
      rw [bRf (i := 0) (n := q) ⟨hk, hkd⟩ (by rintro (h | h); exact absurd h (by decide); omega)]
    by_cases e2 : i = k + 2
    · subst e2
      exact i4
    · exact i6 i (by omega) (by omega)
  | succ j ih =>
    intro a ha V H locs ls hV hI hS hl
    obtain ⟨i1, i2, i3, i4, i5, i6⟩ := hI
    have hcl := bCl (i := 0) (n := a) (k := k) ⟨hk, hkd⟩ (by rintro (h | h); exact absurd h (by decide); omega)
    have hcl2 := layX_cl _ hcl.1 hcl.2
    refine lv_iload_n hx hb dX2_init_29 rfl (lv_at hl 1 rfl) ?_
    refine lv_bipush (v := 30) hx hb dX2_init_30 (by decide) ?_
    refine lv_icmp_ge (tgt := 55) hx hb dX2_init_32 (by decide) (fun q => absurd q (nI_ge (a := a) (b := 30) (by omega) (by omega))) (fun _ => ?_)
    refine lv_aload_n hx hb dX2_init_35 rfl (lv_at hl 0 rfl) ?_
    refine r_get (v := .ref (B + (k + 1))) kX2 (by decide) fl_RX2_11 X.1 hV (k := k) ⟨by omega, hkd⟩ i3 dX2_init_36 ?_
    refine lv_iload_n hx hb dX2_init_39 rfl (lv_at hl 1 rfl) ?_
    refine r_new X.1 hV hS kX3 hcl.2 nw_RX2_9 (by show 2 + 2 * a + 1 ≤ 62; omega) (by show 38 + 12 * a + 4 ≤ 398; omega) dX2_init_40 (fun H hV hS => ?_)
    refine lv_dup hx hb dX2_init_43 rfl ?_
    refine lv_iload_n hx hb dX2_init_44 rfl (lv_at hl 1 rfl) ?_
    refine r_ctor (As := [.int (nI a)]) X.1 X.2.2.2 hV (fun _ h => h) hS (ct_X3 l G B (k + 3 + 2 * a) hcl.1 hcl.2 (nI a) (σX_nm k a hk3 (by omega)) _ nV_at) kt_RX2_26 rfl ⟨by decide, by decide⟩ ⟨by show 2 + 2 * a + 1 + 1 ≤ 62; omega, by show 38 + 12 * a + 4 + 8 ≤ 398; omega⟩ rfl hl.1 (Nat.le_of_ble_eq_true rfl) rfl dX2_init_45 (fun V1 H locs hR1 hV hS _ _ => ?_)
    refine r_aast X.1 hV hS (by decide) (k := k + 1) (k2 := k + 3 + 2 * a) ⟨by omega, (bArr (k := k) ⟨hk, hkd⟩).2⟩ ⟨by omega, hcl.2⟩ kX3 (fun q => ?_) (jj := a) (nI_clamp (by omega)) dX2_init_48 (fun H locs hV hS => ?_)
    · exact nI_in (c := a) (N := 30) (by omega) (by omega) q
    refine lv_iinc (v := nI (a + 1)) (lv' := [(1, .int (nI (a + 1))), (0, .ref (B + k))]) hx hb dX2_init_49 hl (k := 1) rfl (nI_add a 1) (by decide) rfl (fun ls hl => ?_)
    refine lv_goto (tgt := 29) hx hb dX2_init_52 (by decide) ?_
    refine W.cs (cells' := 2 + 2 * (a + 1)) (slots' := 38 + 12 * (a + 1)) (by omega) (by omega) ?_
    refine ih (a + 1) (by omega) _ H locs ls (by rw [show k + 3 + 2 * (a + 1) = k + 3 + 2 * a + 1 + 1 by omega]; exact hV) ?_ hS (lv_sub hl [1, 0] rfl)
    have hlow : ∀ i, i < k + 3 + 2 * a → V1 i = V i := fun i hi => by rw [hR1.1 i hi, nV_k (by omega)]
    refine ⟨fun i hi => ?_, ?_, ?_, ?_, fun q hq => ?_, fun i h1 h2 => ?_⟩
    · rw [uV_k (by omega), hlow i (by omega), i1 i hi]
    · exact i2.of (by rw [uV_k (by omega), hlow k (by omega)])
    · rw [uV_k (by omega), hlow k (by omega), i3]
    · exact i4.of (by rw [uV_k (by omega), hlow _ (by omega)])
    · by_cases eq : q = a
      · subst eq
        rw [uV_at]
      · rw [uV_j eq, hlow _ (by omega), i5 q (by omega)]
    · by_cases hi : i < k + 3 + 2 * a
      · exact (i6 i h1 hi).of (by rw [uV_k (by omega), hlow i hi])
      · exact (hR1.2 i (by omega) (by omega)).of (by rw [uV_k (by omega)])
set_option maxHeartbeats 4000000 in
set_option maxRecDepth 100000 in
theorem ct_X2 (l : Launch) (G : Gd) (B k : Nat) (hk : k < 238) (hkd : kdX k = .inl 2) (V : VS) (hV0 : V k = dfl 2) : Cn l G layX B yX2_init cX2_init 2 2 62 398 [.ref (B + k)] (k + 1) V (Blk B k 63 V) := by
  refine Cn.ofW (by decide) (Nat.le_of_ble_eq_true rfl) (fun p e s m below meth c hin X hV hS ls hl => ?_)
  have hl : lv_has ls 2 [(0, .ref (B + k))] := hl
  have hx := X.1.1
  have hb := X.1.2.1
  have hba := bArr (k := k) ⟨hk, hkd⟩
  have hbp := bPrc (k := k) ⟨hk, hkd⟩
  refine lv_aload_n hx hb dX2_init_0 rfl (lv_at hl 0 rfl) ?_
  refine r_obj X.1 hl ob_RX2_3 (by decide) dX2_init_1 ?_
  refine lv_aload_n hx hb dX2_init_4 rfl (lv_at hl 0 rfl) ?_
  refine lv_bipush (v := 30) hx hb dX2_init_5 (by decide) ?_
  refine r_anew X.1 hV hS (by decide) hba.2 nw_RX2_9.1 X.2.2.2.2.1 (by decide) (by decide) (by decide) (Nat.le_of_ble_eq_true rfl) (Nat.le_of_ble_eq_true rfl) dX2_init_7 (fun H hV hS => ?_)
  refine r_putF kX2 (by decide) fl_RX2_11 rfl rfl hin X.1 hV hS (k := k) ⟨by omega, hkd⟩ rfl rfl dX2_init_10 (fun H locs hV hS => ?_)
  refine lv_aload_n hx hb dX2_init_13 rfl (lv_at hl 0 rfl) ?_
  refine lv_bipush (v := 8) hx hb dX2_init_14 (by decide) ?_
  refine r_newa (atype := .int) X.1 hV hS (by decide) hbp.2 ac_int (by decide) (by decide) (by decide) (Nat.le_of_ble_eq_true rfl) (Nat.le_of_ble_eq_true rfl) dX2_init_16 (fun H hV hS => ?_)
  refine r_putF kX2 (by decide) fl_RX2_17 rfl rfl hin X.1 hV hS (k := k) ⟨by omega, hkd⟩ rfl rfl dX2_init_18 (fun H locs hV hS => ?_)
  refine lv_aload_n hx hb dX2_init_21 rfl (lv_at hl 0 rfl) ?_
  refine lv_ldc (v := -1000000) hx hb X.1.2.2.2.1 (X.1.2.2.2.2.1 _ kc_RX2_21) dX2_init_22 ?_
  refine r_put kX2 (by decide) fl_RX2_22 rfl X.1 hV hS (k := k) ⟨by omega, hkd⟩ rfl rfl dX2_init_24 (fun H locs hV hS => ?_)
  refine lv_iconst (v := 0) hx hb dX2_init_27 (by decide) ?_
  refine lv_istore_n (lv' := [(1, .int 0), (0, .ref (B + k))]) hx hb dX2_init_28 rfl hl (by decide) rfl (fun ls hl => ?_)
  refine bk_loop l G B k hk hkd V X 30 0 rfl _ H locs ls hV ?_ hS (lv_sub hl [1, 0] rfl)
  refine ⟨fun i hi => ?_, ?_, ?_, ?_, fun q hq => absurd hq (Nat.not_lt_zero q), fun i h1 h2 => absurd h2 (by omega)⟩
  · simp (disch := omega) only [uV_k, nV_k]
  · have hk9 : layX.1 k = .inl 2 := hkd
    have hk3 := layX_bk k hk hkd
    unfold okV
    simp only [hk9]
    intro r hr j hj
    cases hr
    have hj : j < 6 := hj
    rcases (show j = 0 ∨ j = 1 ∨ j = 2 ∨ j = 3 ∨ j = 4 ∨ j = 5 by omega) with rfl | rfl | rfl | rfl | rfl | rfl
    · simp (disch := omega) only [uV_at, uV_j, uV_k, nV_k]
      exact (bRef0 ⟨hk, hkd⟩).symm
    · simp (disch := omega) only [uV_at, uV_j, uV_k, nV_k]
      exact (bRef1 ⟨hk, hkd⟩).symm
    · simp (disch := omega) only [uV_at, uV_j, uV_k, nV_k]
      rw [hV0]
      rcases hk3 with rfl | rfl | rfl <;> rfl
    · simp (disch := omega) only [uV_at, uV_j, uV_k, nV_k]
      rw [hV0]
      rcases hk3 with rfl | rfl | rfl <;> rfl
    · simp (disch := omega) only [uV_at, uV_j, uV_k, nV_k]
      rw [hV0]
      rcases hk3 with rfl | rfl | rfl <;> rfl
    · simp (disch := omega) only [uV_at, uV_j, uV_k, nV_k]
      rcases hk3 with rfl | rfl | rfl <;> rfl
  · simp (disch := omega) only [uV_at, uV_j, uV_k, nV_k]
  · have hk9 : layX.1 (k + 2) = .inr (.int, 8) := hbp.2
    have hk3 := layX_bk k hk hkd
    unfold okV
    simp only [hk9]
    intro j hj
    simp (disch := omega) only [uV_k, nV_k, show k + 2 = k + 1 + 1 from rfl, nV_at]
    rcases hk3 with rfl | rfl | rfl <;> rfl
