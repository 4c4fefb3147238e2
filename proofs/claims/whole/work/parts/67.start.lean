theorem nw_RL_7 : Cond.classLink RL 7 RX7 ∈ tb ∧ Cond.instantiable RX7 8 ∈ tb ∧ Cond.initialized RX7 ∈ tb := ⟨tb_in 60 (by decide +kernel) (by decide +kernel), tb_in 61 (by decide +kernel) (by decide +kernel), tb_in 47 (by decide +kernel) (by decide +kernel)⟩
theorem nw_RL_10 : Cond.classLink RL 10 RX8 ∈ tb ∧ Cond.instantiable RX8 28 ∈ tb ∧ Cond.initialized RX8 ∈ tb := ⟨tb_in 843 (by decide +kernel) (by decide +kernel), tb_in 844 (by decide +kernel) (by decide +kernel), tb_in 56 (by decide +kernel) (by decide +kernel)⟩
theorem cq_X7_init : (Cond.initialized yX7_init.cls ∈ tb ∧ Cond.code yX7_init cX7_init 2 none ∈ tb ∧ (yX7_init.cls ≠ "java/lang/invoke/MethodHandle" ∧ yX7_init.cls ≠ "java/lang/invoke/VarHandle" ∧ (parseMethodDescriptor yX7_init.desc).map (fun d => d.parameters.length) = some 0)) ∧ Cond.instanceMethod yX7_init ∈ tb := ⟨⟨tb_in 47 (by decide +kernel) (by decide +kernel), tb_in 64 (by decide +kernel) (by decide +kernel), by decide +kernel, by decide +kernel, by decide +kernel⟩, tb_in 63 (by decide +kernel) (by decide +kernel)⟩
theorem kt_RL_9 : CwB RL 9 yX7_init cX7_init 2 none 0 ∧ Cond.instanceMethod yX7_init ∈ tb := ⟨⟨tb_in 62 (by decide +kernel) (by decide +kernel), cq_X7_init.1⟩, cq_X7_init.2⟩
theorem cq_X8_init : (Cond.initialized yX8_init.cls ∈ tb ∧ Cond.code yX8_init cX8_init 2 none ∈ tb ∧ (yX8_init.cls ≠ "java/lang/invoke/MethodHandle" ∧ yX8_init.cls ≠ "java/lang/invoke/VarHandle" ∧ (parseMethodDescriptor yX8_init.desc).map (fun d => d.parameters.length) = some 0)) ∧ Cond.instanceMethod yX8_init ∈ tb := ⟨⟨tb_in 56 (by decide +kernel) (by decide +kernel), tb_in 847 (by decide +kernel) (by decide +kernel), by decide +kernel, by decide +kernel, by decide +kernel⟩, tb_in 846 (by decide +kernel) (by decide +kernel)⟩
theorem kt_RL_12 : CwB RL 12 yX8_init cX8_init 2 none 0 ∧ Cond.instanceMethod yX8_init ∈ tb := ⟨⟨tb_in 845 (by decide +kernel) (by decide +kernel), cq_X8_init.1⟩, cq_X8_init.2⟩
theorem arrP {s : State} {A : Array Value} {ty : FieldType} (h : (Cond.arrayClass ty).before A s = true) (hr : ty.isReference = false) : ∃ cA, ArrOfT s cA ty ∧ va_RA s cA ty := by
  obtain ⟨c, k, comp, h1, h2, h3⟩ := Cond.arrayClass_spec h
  refine ⟨c, fun n z => ⟨(fun q h => by cases h), k, h2, comp, h3⟩, ?_⟩
  cases ty <;> first | exact h1 | (simp [FieldType.isReference] at hr)
theorem arrO {s : State} {A : Array Value} {C : String} (h : (Cond.arrayOver (.object C)).before A s = true) : ∃ cA, ArrOfT s cA (.object C) ∧ va_RA s cA (.object C) := by
  obtain ⟨comp, c, k, h1, h2, h3, h4, h5⟩ := Cond.arrayOver_spec h
  exact ⟨c, fun n z => ⟨(fun q h => by cases h), k, h3, comp, h4⟩, k, comp, h3, h4, h1, h5⟩
theorem arrI {s : State} {A : Array Value} (h : (Cond.arrayOver (.array .int)).before A s = true) : ∃ cA, ArrOfT s cA (.array .int) ∧ va_RA s cA (.array .int) := by
  obtain ⟨comp, c, k, h1, h2, h3, h4, h5⟩ := arrayOverA_spec h
  exact ⟨c, fun n z => ⟨(fun q h => by cases h), k, h3, comp, h4⟩, h5⟩
set_option maxHeartbeats 4000000 in
set_option maxRecDepth 100000 in
theorem KK_start {s : State} {A : Array Value} (hts0 : ∀ w ∈ lw_tbl, w.before A s = true) : ∃ G : Gd, KX G s := by
  have hts := tb_hts hts0
  obtain ⟨c0, i0, hK0⟩ := u_known (C := RX0) (T := TX0) (N := 5) (n := 5) hts inX0 (hts0 _ (List.mem_of_getElem? (i := 208) (by decide +kernel)))
  obtain ⟨c1, i1, hK1⟩ := u_known (C := RX1) (T := TX1) (N := 2) (n := 2) hts inX1 (hts0 _ (List.mem_of_getElem? (i := 263) (by decide +kernel)))
  obtain ⟨c2, i2, hK2⟩ := u_known (C := RX2) (T := TX2) (N := 6) (n := 6) hts inX2 (hts0 _ (List.mem_of_getElem? (i := 166) (by decide +kernel)))
  obtain ⟨c3, i3, hK3⟩ := u_known (C := RX3) (T := TX3) (N := 4) (n := 4) hts inX3 (hts0 _ (List.mem_of_getElem? (i := 101) (by decide +kernel)))
  obtain ⟨c4, i4, hK4⟩ := u_known (C := RX4) (T := TX4) (N := 7) (n := 7) hts inX4 (hts0 _ (List.mem_of_getElem? (i := 231) (by decide +kernel)))
  obtain ⟨c5, i5, hK5⟩ := u_known (C := RX5) (T := TX5) (N := 9) (n := 9) hts inX5 (hts0 _ (List.mem_of_getElem? (i := 94) (by decide +kernel)))
  obtain ⟨c6, i6, hK6⟩ := u_known (C := RX6) (T := TX6) (N := 3) (n := 3) hts inX6 (hts0 _ (List.mem_of_getElem? (i := 69) (by decide +kernel)))
  obtain ⟨c7, i7, hK7⟩ := u_known (C := RX7) (T := TX7) (N := 8) (n := 8) hts inX7 (hts0 _ (List.mem_of_getElem? (i := 61) (by decide +kernel)))
  obtain ⟨c8, i8, hK8⟩ := u_known (C := RX8) (T := TX8) (N := 28) (n := 28) hts inX8 (hts0 _ (List.mem_of_getElem? (i := 844) (by decide +kernel)))
  obtain ⟨a0, ha0⟩ := arrP (ty := .int) (hts0 _ (List.mem_of_getElem? (i := 92) (by decide +kernel))) rfl
  obtain ⟨a1, ha1⟩ := arrP (ty := .long) (hts0 _ (List.mem_of_getElem? (i := 130) (by decide +kernel))) rfl
  obtain ⟨a2, ha2⟩ := arrP (ty := .boolean) (hts0 _ (List.mem_of_getElem? (i := 936) (by decide +kernel))) rfl
  have o3 : (Cond.arrayOver (.object "SlackProofs$Clause")).before A s = true := (hts0 _ (List.mem_of_getElem? (i := 100) (by decide +kernel)))
  have o4 : (Cond.arrayOver (.object "SlackProofs$Book")).before A s = true := (hts0 _ (List.mem_of_getElem? (i := 206) (by decide +kernel)))
  have o5 : (Cond.arrayOver (.array .int)).before A s = true := (hts0 _ (List.mem_of_getElem? (i := 75) (by decide +kernel)))
  have n1 : nest1.before A s = true := (hts0 _ (List.mem_of_getElem? (i := 209) (by decide +kernel)))
  have n2 : nest2.before A s = true := (hts0 _ (List.mem_of_getElem? (i := 264) (by decide +kernel)))
  obtain ⟨a3, ha3⟩ := arrO o3
  obtain ⟨a4, ha4⟩ := arrO o4
  obtain ⟨a5, ha5⟩ := arrI o5
  refine ⟨(fun k => [c0, c1, c2, c3, c4, c5, c6, c7, c8].getD k c0, fun k => [i0, i1, i2, i3, i4, i5, i6, i7, i8].getD k i0, fun ty => if ty = .int then a0 else if ty = .long then a1 else if ty = .boolean then a2 else if ty = .object "SlackProofs$Clause" then a3 else if ty = .object "SlackProofs$Book" then a4 else a5), ⟨fun k q hq => ?_, fun ty ht => ?_⟩, va_AO.of o3, va_AO.of o4, o5, va_Nw.of rfl n1, va_Nw.of rfl n2⟩
  · match k, hq with
    | 0, hq => cases hq; exact hK0
    | 1, hq => cases hq; exact hK1
    | 2, hq => cases hq; exact hK2
    | 3, hq => cases hq; exact hK3
    | 4, hq => cases hq; exact hK4
    | 5, hq => cases hq; exact hK5
    | 6, hq => cases hq; exact hK6
    | 7, hq => cases hq; exact hK7
    | 8, hq => cases hq; exact hK8
    | k + 9, hq => simp [vwCl] at hq
  · have ht : ty = .int ∨ ty = .long ∨ ty = .boolean ∨ ty = .object "SlackProofs$Clause" ∨ ty = .object "SlackProofs$Book" ∨ ty = .array .int := by simpa [eTys] using ht
    rcases ht with rfl | rfl | rfl | rfl | rfl | rfl
    · exact ha0
    · exact ha1
    · exact ha2
    · exact ha3
    · exact ha4
    · exact ha5
set_option maxHeartbeats 4000000 in
set_option maxRecDepth 100000 in
theorem start_R {R : Sto → Sto → Prop} (E : EqAll R) (hR0 : R σX τM) {p : Program} {e : Env} {s : State} {m : MethodId} {below : List Frame} {meth : Method} {c : Code} (l : Launch) {b L : Nat} {xs : Nat → Int32} (hL : L ≤ 3072) (C0 : lw_At p s m meth c b L xs) : W p l e room_1 s m #[Value.ref b] below meth c s.heap [] 0 0 (lw_Z below #[Value.ref b] s) (entryFrame m ([Value.ref b] : List Value).toArray 4) := by
  obtain ⟨hx, hb, hr, hml, hown, hts0, hX, hbl, hlocks, hgv⟩ := C0
  obtain ⟨G, hKX⟩ := KK_start hts0
  have X : Cx p s m #[Value.ref b] c cL_law 4 RL G := ⟨hx, hb, hml, hown, tb_hts hts0, hKX.1⟩
  have hl := lv_entry ([.ref b]) (n := 4) (Nat.le_of_ble_eq_true rfl)
  rw [lg_entry_eq]
  generalize (lg_sl ([.ref b]) ++ List.replicate (4 - (lg_sl ([.ref b])).length) Slot.unset).toArray = ls at hl ⊢
  have hl : lv_has ls 4 [(0, .ref b)] := hl
  obtain ⟨B, hB⟩ : ∃ B, B = s.heap.size := ⟨_, rfl⟩
  have hV : HV G layX B (fun _ _ => .null) 0 s.heap := ⟨hB.symm, fun k hk => absurd hk (Nat.not_lt_zero k)⟩
  have hS : va_S (fun q => B ≤ q) s.heap s.heap [] := va_S.rf
  refine r_new X hV hS kX7 rfl nw_RL_7 (Nat.le_of_ble_eq_true rfl) (Nat.le_of_ble_eq_true rfl) dL_law_0 (fun H hV hS => ?_)
  refine lv_dup hx hb dL_law_3 rfl ?_
  refine r_ctor (As := []) X hKX hV (fun _ h => h) hS (ct_X7 l G B _ nV_at) kt_RL_9 rfl ⟨by decide, by decide⟩ ⟨Nat.le_of_ble_eq_true rfl, Nat.le_of_ble_eq_true rfl⟩ rfl hl.1 (Nat.le_of_ble_eq_true rfl) rfl dL_law_4 (fun V1 H locs hR1 hV hS _ _ => ?_)
  have hH : HX G layX B σX H := HV.toHX (L := layX) hV (fun k hk => hR1.2 k (Nat.zero_le _) (by show k < 0 + 238; have h9 : k < 238 := hk; omega))
  have hsz : H.size = B + 238 := hV.1
  have hlow : ∀ q, q < B → H[q]? = s.heap[q]? := fun q hq => hS.2.1 q (by omega) (by show ¬ B ≤ q; omega)
  refine lv_astore_n (lv' := [(1, .ref (B + 0)), (0, .ref b)]) hx hb dL_law_7 rfl hl (by decide) rfl (fun ls hl => ?_)
  refine va_forget (fun q hq => by have := hS.2.2 q hq; omega) ?_
  have hV2 : HV G layM (B + 238) (fun _ _ => .null) 0 H := ⟨hsz, fun k hk => absurd hk (Nat.not_lt_zero k)⟩
  have hS2 : va_S (fun q => B + 238 ≤ q) H H [] := va_S.rf
  refine r_new X hV2 hS2 kX8 rfl nw_RL_10 (Nat.le_of_ble_eq_true rfl) (Nat.le_of_ble_eq_true rfl) dL_law_8 (fun H2 hV2 hS2 => ?_)
  refine lv_dup hx hb dL_law_11 rfl ?_
  refine r_ctor (As := []) X hKX hV2 (fun _ h => h) hS2 (ct_X8 l G (B + 238) _ nV_at) kt_RL_12 rfl ⟨by decide, by decide⟩ ⟨Nat.le_of_ble_eq_true rfl, Nat.le_of_ble_eq_true rfl⟩ rfl hl.1 (Nat.le_of_ble_eq_true rfl) rfl dL_law_12 (fun V2 H3 locs2 hR2 hV2 hS2 _ _ => ?_)
  have hM : HX G layM (B + 238) τM H3 := HV.toHX (L := layM) hV2 (fun k hk => hR2 k hk)
  have hH3 : HX G layX B σX H3 := hH.kept (fun q h1 h2 => hS2.2.1 q (by rw [hsz]; exact h2) (by show ¬ B + 238 ≤ q; have h9 : q < B + 238 := h2; omega))
  have hS3 : va_S (fun q => s.heap.size ≤ q) s.heap H3 locs2 := ⟨by have := hS2.1; omega, fun q h1 h2 => by rw [hS2.2.1 q (by omega) (by show ¬ B + 238 ≤ q; omega)]; exact hlow q (by omega), fun q hq => by have := hS2.2.2 q hq; show s.heap.size ≤ q.base; omega⟩
  refine lv_astore_n (lv' := [(2, .ref (B + 238 + 0)), (1, .ref (B + 0)), (0, .ref b)]) hx hb dL_law_15 rfl hl (by decide) rfl (fun ls hl => ?_)
  refine lv_iconst (v := 0) hx hb dL_law_16 (by decide) ?_
  refine lv_istore_n (lv' := [(3, .int 0), (2, .ref (B + 238 + 0)), (1, .ref (B + 0)), (0, .ref b)]) hx hb dL_law_17 rfl hl (by decide) rfl (fun ls hl => ?_)
  refine W.widen (k := 600000) (n := 7302250) (Nat.le_of_ble_eq_true rfl) (Nat.le_of_ble_eq_true rfl) ?_
  exact law_loop X hr hlocks hX hbl (by omega) hL E (L + 6) 0 (by omega) (by omega) σX τM H3 locs2 hR0 hH3 hM hS3 ls (lv_sub hl [3, 2, 1, 0] rfl)
