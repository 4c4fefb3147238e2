theorem ob_RX6_3 : Cond.methodLink RX6 3 objectInit ∈ tb ∧ Cond.instanceMethod objectInit ∈ tb ∧ Cond.code objectInit ⟨#[0xb1]⟩ 1 none ∈ tb := ⟨tb_in 73 (by decide +kernel) (by decide +kernel), tb_in 66 (by decide +kernel) (by decide +kernel), tb_in 67 (by decide +kernel) (by decide +kernel)⟩
theorem cl_rows : Cond.classLink RX6 9 "[[I" ∈ tb := tb_in 74 (by decide +kernel) (by decide +kernel)
theorem kf_rows : CwB RX6 23 yJ7_fill_53178 cJ7_fill_53178 4 none 2 ∧ Cond.static yJ7_fill_53178 ∈ tb := ⟨⟨tb_in 76 (by decide +kernel) (by decide +kernel), tb_in 49 (by decide +kernel) (by decide +kernel), tb_in 78 (by decide +kernel) (by decide +kernel), by decide +kernel, by decide +kernel, by decide +kernel⟩, tb_in 77 (by decide +kernel) (by decide +kernel)⟩
/-! new int[8][40] -/
theorem outV (c : ClassId) (N h0 : Nat) : ∀ i : Nat, Jvm.Free.Multi.outerC c N h0 i = arrV c N (fun j => if j < i then .ref (h0 + 1 + j) else .null)
  | 0 => by
    show ({ cls := c, slots := Array.replicate N .null, vm := .none } : Cell) = _
    rw [arrV_new]
    refine congrArg (arrV c N) (funext fun j => ?_)
    simp
  | i + 1 => by
    show (Jvm.Free.Multi.outerC c N h0 i).setSlot i (.ref (h0 + 1 + i)) = _
    rw [outV c N h0 i, arrV_store]
    refine congrArg (arrV c N) (funext fun j => ?_)
    by_cases e : j = i
    · subst e
      simp [updV]
    · by_cases h : j < i
      · simp [updV, e, h, Nat.lt_succ_of_lt h]
      · simp [updV, e, h, show ¬ j < i + 1 by omega]
def gV (B n : Nat) (V : VS) : VS := fun a b => if a = n then (if b < 8 then .ref (B + (n + 1 + b)) else .null) else if n < a ∧ a < n + 9 then .int 0 else V a b
section MNA
variable {p : Program} {l : Launch} {e : Env} {R : Room} {s : State} {m : MethodId} {args : Array Value} {below : List Frame} {meth : Method} {c : Code} {H : Heap} {locs : List Loc} {cells slots : Nat} {Q : State → Prop}
variable {cc : ByteArray} {pc nL : Nat} {ls : Array Slot} {rest st0 : List Value} {own : String} {G : Gd} {L : Lay} {B : Nat} {V : VS} {H0 : Heap} {n : Nat}
theorem r_mna (X : Cx p s m args c cc nL own G) (hV : HV G L B V n H) (hS : va_S (fun q => B ≤ q) H0 H locs) {idx : Nat} (hw : Cond.classLink own idx "[[I" ∈ tb) (hover : va_AI s) (hk : L.1 n = .inr (.array .int, 8)) (hk2 : ∀ i, i < 8 → L.1 (n + 1 + i) = .inr (.int, 40)) (hcells : cells + 9 ≤ R.cells) (hslots : slots + 328 ≤ R.slots) (hdg : decode cc pc = .ok (.multianewarray idx 2, 4))
    (kk : ∀ H1 : Heap, HV G L B (gV B n V) (n + 9) H1 → va_S (fun q => B ≤ q) H0 H1 locs → W p l e R s m args below meth c H1 locs (cells + 9) (slots + 328) Q (F0 m (pc + 4) ls (.ref (B + n) :: rest))) : W p l e R s m args below meth c H locs cells slots Q (F0 m pc ls (.int 40 :: .int 8 :: rest)) := by
  obtain ⟨hx, hb, hml, hown, hts, hK⟩ := X
  intro T hT Xs
  obtain ⟨vm₁, cA, comp, -, fA, fC, hO, -, X', step⟩ := Jvm.Stand.multianewarray2F Xs hx (own := own) (index := idx) (ty := .int) hown (hts _ hw) hover (hts _ ac_int) (g := F0 m pc ls (.int 40 :: .int 8 :: rest)) rfl (by rw [hb]; exact hdg) (n := 8) (k := 40) (rest := rest) rfl (by decide) (by decide) (by decide) (by decide) (by decide) rfl rfl (by show cells + (1 + 8) ≤ R.cells; omega) (by show slots + (8 + 8 * 40) ≤ R.slots; omega)
  have hcA : cA = G.2.2 (.array .int) := Option.some.inj (fA.symm.trans (hK.2 (.array .int) (by decide)).2)
  have hcm : comp = G.2.2 .int := Option.some.inj (fC.symm.trans (hK.2 .int (by decide)).2)
  subst hcA
  subst hcm
  have e8 : (8 : Int32).toNatClampNeg = 8 := by decide
  have e40 : (40 : Int32).toNatClampNeg = 40 := by decide
  rw [e8, e40] at X' step
  generalize hF : Jvm.Free.Multi.fill (T.setVm vm₁) (G.2.2 (.array .int)) (G.2.2 .int) 8 40 (defaultValue .int) 8 = F at X' step
  have hTh : (T.setVm vm₁).heap = H := hT
  obtain ⟨f1, f2, -, -⟩ := Jvm.Free.Multi.fill_facts (T.setVm vm₁) (G.2.2 (.array .int)) (G.2.2 .int) 8 40 (defaultValue .int) 8
  rw [hF, hTh] at f1 f2
  have hold : ∀ x : Nat, x < H.size → F.heap[x]? = H[x]? := fun x hx => by
    have := Jvm.Free.Multi.fill_old (T.setVm vm₁) (G.2.2 (.array .int)) (G.2.2 .int) 8 40 (defaultValue .int) (a := x) (by rw [hTh]; exact hx) 8
    rw [hF, hTh] at this
    exact this
  have hrow : ∀ j : Nat, j < 8 → F.heap[H.size + 1 + j]? = some (arrV (G.2.2 .int) 40 (fun _ => .int 0)) := fun j hj => by
    have := Jvm.Free.Multi.fill_inner (T.setVm vm₁) (G.2.2 (.array .int)) (G.2.2 .int) 8 40 (defaultValue .int) 8 j hj
    rw [hF, hTh] at this
    rw [this]
    show some ({ cls := G.2.2 .int, slots := Array.replicate 40 (.int 0), vm := .none } : Cell) = _
    rw [arrV_new]
  rw [outV] at f2
  have hsz := hV.1
  have hHV : HV G L B (gV B n V) (n + 9) F.heap := by
    refine ⟨by rw [f1, hsz]; omega, fun k hk9 => ?_⟩
    by_cases h1 : k < n
    · refine (hV.2 k h1).kept ?_ (hold _ (by omega))
      funext b
      unfold gV
      rw [if_neg (by omega), if_neg (by omega)]
    · by_cases h2 : k = n
      · subst h2
        refine vAt.arr (W := fun j => if j < 8 then .ref (B + k + 1 + j) else .null) hk (by rw [← hsz]; exact f2) (funext fun b => ?_)
        unfold gV
        rw [if_pos rfl, show B + k + 1 + b = B + (k + 1 + b) by omega]
      · have hq := hk2 (k - (n + 1)) (by omega)
        rw [show n + 1 + (k - (n + 1)) = k by omega] at hq
        have hr := hrow (k - (n + 1)) (by omega)
        rw [hsz, show B + n + 1 + (k - (n + 1)) = B + k by omega] at hr
        refine vAt.arr (W := fun _ => .int 0) hq hr (funext fun b => ?_)
        unfold gV
        rw [if_neg (by omega), if_pos (by omega)]
  obtain ⟨t, a1, b1⟩ := kk F.heap hHV (hS.grow (by rw [f1]; omega) hold) F rfl X'
  refine ⟨t, step t ?_, b1⟩
  have e9 : T.heap.size = B + n := by rw [hT, hsz]
  rw [e9]
  exact a1
end MNA
set_option maxHeartbeats 4000000 in
set_option maxRecDepth 100000 in
theorem ct_fill (l : Launch) (G : Gd) (B : Nat) (V : VS) : Cn l G layX B yJ7_fill_53178 cJ7_fill_53178 4 0 0 0 [.ref (B + 12), .int (-1)] 13 V (fun V1 => (∀ i, i ≠ 12 → V1 i = V i) ∧ ∀ j, j < 8 → V1 12 j = .int (-1)) := by
  refine Cn.ofW (by decide) (Nat.le_of_ble_eq_true rfl) (fun p e s m below meth c hin X hV hS ls hl => ?_)
  have hl : lv_has ls 4 [(0, .ref (B + 12)), (1, .int (-1))] := hl
  have hx := X.1.1
  have hb := X.1.2.1
  refine lv_iconst (v := 0) hx hb dJ7_fill_53178_0 (by decide) ?_
  refine lv_istore_n (lv' := [(2, .int 0), (0, .ref (B + 12)), (1, .int (-1))]) hx hb dJ7_fill_53178_1 rfl hl (by decide) rfl (fun ls hl => ?_)
  refine lv_aload_n hx hb dJ7_fill_53178_2 rfl (lv_at hl 1 rfl) ?_
  refine r_alen X.1 hV (k := 12) ⟨by decide, rfl⟩ (by decide) dJ7_fill_53178_3 ?_
  refine lv_istore_n (lv' := [(3, .int (nI 8)), (2, .int 0), (0, .ref (B + 12)), (1, .int (-1))]) hx hb dJ7_fill_53178_4 rfl hl (by decide) rfl (fun ls hl => ?_)
  refine lv_iload_n hx hb dJ7_fill_53178_5 rfl (lv_at hl 1 rfl) ?_
  refine lv_iload_n hx hb dJ7_fill_53178_6 rfl (lv_at hl 0 rfl) ?_
  refine lv_icmp_ge (tgt := 20) hx hb dJ7_fill_53178_7 (by decide) (fun q => absurd q (by decide)) (fun _ => ?_)
  refine lv_aload_n hx hb dJ7_fill_53178_10 rfl (lv_at hl 2 rfl) ?_
  refine lv_iload_n hx hb dJ7_fill_53178_11 rfl (lv_at hl 1 rfl) ?_
  refine lv_iload_n hx hb dJ7_fill_53178_12 rfl (lv_at hl 3 rfl) ?_
  refine r_iast X.1 hV hS (k := 12) ⟨by decide, rfl⟩ (by decide) (jj := 0) (by decide) dJ7_fill_53178_13 (fun H locs hV hS => ?_)
  refine lv_iinc (v := 1) (lv' := [(2, .int 1), (3, .int (nI 8)), (0, .ref (B + 12)), (1, .int (-1))]) hx hb dJ7_fill_53178_14 hl (k := 1) rfl (by decide) (by decide) rfl (fun ls hl => ?_)
  refine lv_goto (tgt := 5) hx hb dJ7_fill_53178_17 (by decide) ?_
  refine lv_iload_n hx hb dJ7_fill_53178_5 rfl (lv_at hl 0 rfl) ?_
  refine lv_iload_n hx hb dJ7_fill_53178_6 rfl (lv_at hl 1 rfl) ?_
  refine lv_icmp_ge (tgt := 20) hx hb dJ7_fill_53178_7 (by decide) (fun q => absurd q (by decide)) (fun _ => ?_)
  refine lv_aload_n hx hb dJ7_fill_53178_10 rfl (lv_at hl 2 rfl) ?_
  refine lv_iload_n hx hb dJ7_fill_53178_11 rfl (lv_at hl 0 rfl) ?_
  refine lv_iload_n hx hb dJ7_fill_53178_12 rfl (lv_at hl 3 rfl) ?_
  refine r_iast X.1 hV hS (k := 12) ⟨by decide, rfl⟩ (by decide) (jj := 1) (by decide) dJ7_fill_53178_13 (fun H locs hV hS => ?_)
  refine lv_iinc (v := 2) (lv' := [(2, .int 2), (3, .int (nI 8)), (0, .ref (B + 12)), (1, .int (-1))]) hx hb dJ7_fill_53178_14 hl (k := 0) rfl (by decide) (by decide) rfl (fun ls hl => ?_)
  refine lv_goto (tgt := 5) hx hb dJ7_fill_53178_17 (by decide) ?_
  refine lv_iload_n hx hb dJ7_fill_53178_5 rfl (lv_at hl 0 rfl) ?_
  refine lv_iload_n hx hb dJ7_fill_53178_6 rfl (lv_at hl 1 rfl) ?_
  refine lv_icmp_ge (tgt := 20) hx hb dJ7_fill_53178_7 (by decide) (fun q => absurd q (by decide)) (fun _ => ?_)
  refine lv_aload_n hx hb dJ7_fill_53178_10 rfl (lv_at hl 2 rfl) ?_
  refine lv_iload_n hx hb dJ7_fill_53178_11 rfl (lv_at hl 0 rfl) ?_
  refine lv_iload_n hx hb dJ7_fill_53178_12 rfl (lv_at hl 3 rfl) ?_
  refine r_iast X.1 hV hS (k := 12) ⟨by decide, rfl⟩ (by decide) (jj := 2) (by decide) dJ7_fill_53178_13 (fun H locs hV hS => ?_)
  refine lv_iinc (v := 3) (lv' := [(2, .int 3), (3, .int (nI 8)), (0, .ref (B + 12)), (1, .int (-1))]) hx hb dJ7_fill_53178_14 hl (k := 0) rfl (by decide) (by decide) rfl (fun ls hl => ?_)
  refine lv_goto (tgt := 5) hx hb dJ7_fill_53178_17 (by decide) ?_
  refine lv_iload_n hx hb dJ7_fill_53178_5 rfl (lv_at hl 0 rfl) ?_
  refine lv_iload_n hx hb dJ7_fill_53178_6 rfl (lv_at hl 1 rfl) ?_
  refine lv_icmp_ge (tgt := 20) hx hb dJ7_fill_53178_7 (by decide) (fun q => absurd q (by decide)) (fun _ => ?_)
  refine lv_aload_n hx hb dJ7_fill_53178_10 rfl (lv_at hl 2 rfl) ?_
  refine lv_iload_n hx hb dJ7_fill_53178_11 rfl (lv_at hl 0 rfl) ?_
  refine lv_iload_n hx hb dJ7_fill_53178_12 rfl (lv_at hl 3 rfl) ?_
  refine r_iast X.1 hV hS (k := 12) ⟨by decide, rfl⟩ (by decide) (jj := 3) (by decide) dJ7_fill_53178_13 (fun H locs hV hS => ?_)
  refine lv_iinc (v := 4) (lv' := [(2, .int 4), (3, .int (nI 8)), (0, .ref (B + 12)), (1, .int (-1))]) hx hb dJ7_fill_53178_14 hl (k := 0) rfl (by decide) (by decide) rfl (fun ls hl => ?_)
  refine lv_goto (tgt := 5) hx hb dJ7_fill_53178_17 (by decide) ?_
  refine lv_iload_n hx hb dJ7_fill_53178_5 rfl (lv_at hl 0 rfl) ?_
  refine lv_iload_n hx hb dJ7_fill_53178_6 rfl (lv_at hl 1 rfl) ?_
  refine lv_icmp_ge (tgt := 20) hx hb dJ7_fill_53178_7 (by decide) (fun q => absurd q (by decide)) (fun _ => ?_)
  refine lv_aload_n hx hb dJ7_fill_53178_10 rfl (lv_at hl 2 rfl) ?_
  refine lv_iload_n hx hb dJ7_fill_53178_11 rfl (lv_at hl 0 rfl) ?_
  refine lv_iload_n hx hb dJ7_fill_53178_12 rfl (lv_at hl 3 rfl) ?_
  refine r_iast X.1 hV hS (k := 12) ⟨by decide, rfl⟩ (by decide) (jj := 4) (by decide) dJ7_fill_53178_13 (fun H locs hV hS => ?_)
  refine lv_iinc (v := 5) (lv' := [(2, .int 5), (3, .int (nI 8)), (0, .ref (B + 12)), (1, .int (-1))]) hx hb dJ7_fill_53178_14 hl (k := 0) rfl (by decide) (by decide) rfl (fun ls hl => ?_)
  refine lv_goto (tgt := 5) hx hb dJ7_fill_53178_17 (by decide) ?_
  refine lv_iload_n hx hb dJ7_fill_53178_5 rfl (lv_at hl 0 rfl) ?_
  refine lv_iload_n hx hb dJ7_fill_53178_6 rfl (lv_at hl 1 rfl) ?_
  refine lv_icmp_ge (tgt := 20) hx hb dJ7_fill_53178_7 (by decide) (fun q => absurd q (by decide)) (fun _ => ?_)
  refine lv_aload_n hx hb dJ7_fill_53178_10 rfl (lv_at hl 2 rfl) ?_
  refine lv_iload_n hx hb dJ7_fill_53178_11 rfl (lv_at hl 0 rfl) ?_
  refine lv_iload_n hx hb dJ7_fill_53178_12 rfl (lv_at hl 3 rfl) ?_
  refine r_iast X.1 hV hS (k := 12) ⟨by decide, rfl⟩ (by decide) (jj := 5) (by decide) dJ7_fill_53178_13 (fun H locs hV hS => ?_)
  refine lv_iinc (v := 6) (lv' := [(2, .int 6), (3, .int (nI 8)), (0, .ref (B + 12)), (1, .int (-1))]) hx hb dJ7_fill_53178_14 hl (k := 0) rfl (by decide) (by decide) rfl (fun ls hl => ?_)
  refine lv_goto (tgt := 5) hx hb dJ7_fill_53178_17 (by decide) ?_
  refine lv_iload_n hx hb dJ7_fill_53178_5 rfl (lv_at hl 0 rfl) ?_
  refine lv_iload_n hx hb dJ7_fill_53178_6 rfl (lv_at hl 1 rfl) ?_
  refine lv_icmp_ge (tgt := 20) hx hb dJ7_fill_53178_7 (by decide) (fun q => absurd q (by decide)) (fun _ => ?_)
  refine lv_aload_n hx hb dJ7_fill_53178_10 rfl (lv_at hl 2 rfl) ?_
  refine lv_iload_n hx hb dJ7_fill_53178_11 rfl (lv_at hl 0 rfl) ?_
  refine lv_iload_n hx hb dJ7_fill_53178_12 rfl (lv_at hl 3 rfl) ?_
  refine r_iast X.1 hV hS (k := 12) ⟨by decide, rfl⟩ (by decide) (jj := 6) (by decide) dJ7_fill_53178_13 (fun H locs hV hS => ?_)
  refine lv_iinc (v := 7) (lv' := [(2, .int 7), (3, .int (nI 8)), (0, .ref (B + 12)), (1, .int (-1))]) hx hb dJ7_fill_53178_14 hl (k := 0) rfl (by decide) (by decide) rfl (fun ls hl => ?_)
  refine lv_goto (tgt := 5) hx hb dJ7_fill_53178_17 (by decide) ?_
  refine lv_iload_n hx hb dJ7_fill_53178_5 rfl (lv_at hl 0 rfl) ?_
  refine lv_iload_n hx hb dJ7_fill_53178_6 rfl (lv_at hl 1 rfl) ?_
  refine lv_icmp_ge (tgt := 20) hx hb dJ7_fill_53178_7 (by decide) (fun q => absurd q (by decide)) (fun _ => ?_)
  refine lv_aload_n hx hb dJ7_fill_53178_10 rfl (lv_at hl 2 rfl) ?_
  refine lv_iload_n hx hb dJ7_fill_53178_11 rfl (lv_at hl 0 rfl) ?_
  refine lv_iload_n hx hb dJ7_fill_53178_12 rfl (lv_at hl 3 rfl) ?_
  refine r_iast X.1 hV hS (k := 12) ⟨by decide, rfl⟩ (by decide) (jj := 7) (by decide) dJ7_fill_53178_13 (fun H locs hV hS => ?_)
  refine lv_iinc (v := 8) (lv' := [(2, .int 8), (3, .int (nI 8)), (0, .ref (B + 12)), (1, .int (-1))]) hx hb dJ7_fill_53178_14 hl (k := 0) rfl (by decide) (by decide) rfl (fun ls hl => ?_)
  refine lv_goto (tgt := 5) hx hb dJ7_fill_53178_17 (by decide) ?_
  refine lv_iload_n hx hb dJ7_fill_53178_5 rfl (lv_at hl 0 rfl) ?_
  refine lv_iload_n hx hb dJ7_fill_53178_6 rfl (lv_at hl 1 rfl) ?_
  refine lv_icmp_ge (tgt := 20) hx hb dJ7_fill_53178_7 (by decide) (fun _ => ?_) (fun q => absurd (by decide) q)
  refine r_vret X hV hS rfl rfl rfl ?_ dJ7_fill_53178_20
  refine ⟨fun i hi => ?_, fun j hj => ?_⟩
  · simp (disch := omega) only [uV_k]
  · rcases (show j = 0 ∨ j = 1 ∨ j = 2 ∨ j = 3 ∨ j = 4 ∨ j = 5 ∨ j = 6 ∨ j = 7 by omega) with rfl | rfl | rfl | rfl | rfl | rfl | rfl | rfl <;> simp (disch := omega) only [uV_at, uV_j]
set_option maxHeartbeats 4000000 in
set_option maxRecDepth 100000 in
theorem ct_X6 (l : Launch) (G : Gd) (B : Nat) (V : VS) (hV0 : V 1 = dfl 6) : Cn l G layX B yX6_init cX6_init 1 2 11 344 [.ref (B + 1)] 2 V (Blk B 1 12 V) := by
  refine Cn.ofW (by decide) (Nat.le_of_ble_eq_true rfl) (fun p e s m below meth c hin X hV hS ls hl => ?_)
  have hl : lv_has ls 1 [(0, .ref (B + 1))] := hl
  have hx := X.1.1
  have hb := X.1.2.1
  refine lv_aload_n hx hb dX6_init_0 rfl (lv_at hl 0 rfl) ?_
  refine r_obj X.1 hl ob_RX6_3 (by decide) dX6_init_1 ?_
  refine lv_aload_n hx hb dX6_init_4 rfl (lv_at hl 0 rfl) ?_
  refine lv_bipush (v := 8) hx hb dX6_init_5 (by decide) ?_
  refine lv_bipush (v := 40) hx hb dX6_init_7 (by decide) ?_
  refine r_mna X.1 hV hS cl_rows X.2.2.2.2.2.2.1 rfl (fun i hi => ?_) (Nat.le_of_ble_eq_true rfl) (Nat.le_of_ble_eq_true rfl) dX6_init_9 (fun H hV hS => ?_)
  · show kdX (2 + 1 + i) = _
    rw [show 2 + 1 + i = 3 + i by omega]
    exact (layX_rw i hi).1.2
  replace hV : HV G layX B _ 11 H := hV
  refine r_putF kX6 (by decide) fl_RX6_11 rfl rfl hin X.1 hV hS (k := 1) ⟨by decide, rfl⟩ rfl rfl dX6_init_13 (fun H locs hV hS => ?_)
  refine lv_aload_n hx hb dX6_init_16 rfl (lv_at hl 0 rfl) ?_
  refine lv_bipush (v := 8) hx hb dX6_init_17 (by decide) ?_
  refine r_newa (atype := .int) X.1 hV hS (by decide) rfl ac_int (by decide) (by decide) (by decide) (Nat.le_of_ble_eq_true rfl) (Nat.le_of_ble_eq_true rfl) dX6_init_19 (fun H hV hS => ?_)
  replace hV : HV G layX B _ 12 H := hV
  refine r_putF kX6 (by decide) fl_RX6_16 rfl rfl hin X.1 hV hS (k := 1) ⟨by decide, rfl⟩ rfl rfl dX6_init_21 (fun H locs hV hS => ?_)
  refine lv_aload_n hx hb dX6_init_24 rfl (lv_at hl 0 rfl) ?_
  refine lv_bipush (v := 8) hx hb dX6_init_25 (by decide) ?_
  refine r_newa (atype := .int) X.1 hV hS (by decide) rfl ac_int (by decide) (by decide) (by decide) (Nat.le_of_ble_eq_true rfl) (Nat.le_of_ble_eq_true rfl) dX6_init_27 (fun H hV hS => ?_)
  replace hV : HV G layX B _ 13 H := hV
  refine r_putF kX6 (by decide) fl_RX6_20 rfl rfl hin X.1 hV hS (k := 1) ⟨by decide, rfl⟩ rfl rfl dX6_init_29 (fun H locs hV hS => ?_)
  refine lv_aload_n hx hb dX6_init_32 rfl (lv_at hl 0 rfl) ?_
  refine r_get (v := .ref (B + 12)) kX6 (by decide) fl_RX6_20 X.1 hV (k := 1) ⟨by decide, rfl⟩ (by simp (disch := omega) only [uV_at]) dX6_init_33 ?_
  refine lv_iconst (v := -1) hx hb dX6_init_36 (by decide) ?_
  refine r_stat (As := [.ref (B + 12), .int (-1)]) X.1 X.2.2.2 hV (fun _ h => h) hS (ct_fill l G B _) kf_rows ⟨by decide, by decide⟩ ⟨Nat.le_of_ble_eq_true rfl, Nat.le_of_ble_eq_true rfl⟩ rfl hl.1 (Nat.le_of_ble_eq_true rfl) rfl dX6_init_37 (fun V1 H locs hR1 hV hS _ _ => ?_)
  refine r_vret X hV hS rfl rfl rfl ?_ dX6_init_40
  refine ⟨fun i hi => ?_, fun i h1 h2 => ?_⟩
  · rw [hR1.1 i (by omega)]
    simp (disch := omega) only [uV_k, nV_k]
    funext b
    unfold gV
    rw [if_neg (by omega), if_neg (by omega)]
  · by_cases e12 : i = 12
    · subst e12
      intro j hj
      rw [hR1.2 j hj]
      rfl
    · have hz : V1 i = _ := hR1.1 i e12
      refine okV.of ?_ hz
      by_cases e1 : i = 1
      · subst e1
        intro r hr j hj
        cases hr
        have hj : j < 3 := hj
        rcases (show j = 0 ∨ j = 1 ∨ j = 2 by omega) with rfl | rfl | rfl <;> (simp (disch := omega) only [uV_at, uV_j, uV_k, nV_k]; rfl)
      by_cases e11 : i = 11
      · subst e11
        intro j hj
        simp (disch := omega) only [uV_k, nV_k, nV_at]
        rfl
      by_cases e2 : i = 2
      · subst e2
        intro j hj
        have hj : j < 8 := hj
        simp (disch := omega) only [uV_k, nV_k]
        unfold gV
        rw [if_pos rfl, if_pos hj]
        rfl
      · obtain ⟨w, rfl⟩ : ∃ w, i = 3 + w := ⟨i - 3, by omega⟩
        have hk9 : layX.1 (3 + w) = .inr (.int, 40) := (layX_rw w (by omega)).1.2
        unfold okV
        simp only [hk9]
        intro j hj
        simp (disch := omega) only [uV_k, nV_k]
        unfold gV
        rw [if_neg (by omega), if_pos (by omega)]
        show Value.int 0 = Value.int (σX.1 (3 + w) j)
        have q1 : ¬ (kdX (3 + w) = .inl 3 ∧ j = 1) := fun q => by rw [(layX_rw w (by omega)).1.2] at q; cases q.1
        have q2 : ¬ (kdX (3 + w) = .inl 2 ∧ j = 5) := fun q => by rw [(layX_rw w (by omega)).1.2] at q; cases q.1
        show _ = Value.int (if 3 + w = 12 then -1 else if kdX (3 + w) = .inl 3 ∧ j = 1 then _ else if kdX (3 + w) = .inl 2 ∧ j = 5 then _ else 0)
        rw [if_neg (by omega), if_neg q1, if_neg q2]
