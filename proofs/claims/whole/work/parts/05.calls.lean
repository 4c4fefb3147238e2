/-! ===== contracts and calls over the picture ===== -/
def rmk (d : Nat) : Room := { frames := d, cells := 0, slots := 0, locals := 40 * d }
def Qt (G : Gd) (L : Lay) (B : Nat) (res : Option Value) (σ' : Sto) : Array Value → State → Outcome → State → Prop := fun _ st oc t => oc = .returned res ∧ HX G L B σ' t.heap ∧ va_F (inW L B) st t
def Ct (l : Launch) (G : Gd) (L : Lay) (B : Nat) (y : MethodName) (cc : ByteArray) (maxL : Nat) (ret : Option FieldType) (d : Nat) (as : List Value) (res : Option Value) (σ σ' : Sto) : Prop :=
  Met l y (.code y cc maxL ret :: tb) (rmk d) (va_Pc as (fun U => HX G L B σ U.heap ∧ KK G U)) (Qt G L B res σ') 0 0 (inW L B)
/-- the W that a method's walk is about -/
abbrev WM (p : Program) (l : Launch) (e : Env) (d : Nat) (s : State) (m : MethodId) (args : Array Value) (below : List Frame) (meth : Method) (c : Code) (H : Heap) (locs : List Loc) (G : Gd) (L : Lay) (B : Nat) (res : Option Value) (σ' : Sto) (g : JFrame) : Prop :=
  W p l e (rmk d) s m args below meth c H locs 0 0 (MQ below (Qt G L B res σ') args s 0 0 (inW L B)) g
/-- what a walk stands on: the machine, the code, the tables, the return's type -/
def Cm (p : Program) (s : State) (m : MethodId) (args : Array Value) (meth : Method) (c : Code) (cc : ByteArray) (nL : Nat) (own : String) (G : Gd) (ret : Option FieldType) : Prop :=
  Cx p s m args c cc nL own G ∧ meth.sig.returnType = ret ∧ meth.locks = false
theorem Ct.ofW {l : Launch} {G : Gd} {L : Lay} {B : Nat} {y : MethodName} {cc : ByteArray} {maxL : Nat} {ret : Option FieldType} {d : Nat} {as : List Value} {res : Option Value} {σ σ' : Sto} (hy : plainName y.cls = true) (hlen : (lg_sl as).length ≤ maxL)
    (body : ∀ (p : Program) (e : Env) (s : State) (m : MethodId) (below : List Frame) (meth : Method) (c : Code), Cm p s m as.toArray meth c cc maxL y.cls G ret → HX G L B σ s.heap → va_S (inW L B) s.heap s.heap [] → ∀ ls : Array Slot, lv_has ls maxL (lv_args 0 as) → WM p l e d s m as.toArray below meth c s.heap [] G L B res σ' (F0 m 0 ls [])) : Ct l G L B y cc maxL ret d as res σ σ' := by
  refine Met.ofW (cc := cc) (maxL := maxL) (ret := ret) hy rfl ?_
  intro p e s m args below meth c s₁ Bd hml hv
  obtain ⟨rfl, hH, hK⟩ := hv
  have hts := atoms_spec (ws := Cond.code y cc maxL ret :: tb) Bd.pre
  have hown : s.vm.findClass y.cls = some m.cls := findClass_of_methodNamed Bd.named
  have hl := lv_entry as (n := maxL) hlen
  rw [lg_entry_eq]
  exact body p e s m below meth c ⟨⟨Bd.exec, Bd.bytes, hml, hown, fun w hw => hts w (List.mem_cons_of_mem _ hw), hK⟩, Bd.returns, Bd.notSynchronized⟩ hH va_S.rf _ hl
section HXC
variable {p : Program} {l : Launch} {e : Env} {R : Room} {s : State} {m : MethodId} {args : Array Value} {below : List Frame} {meth : Method} {c : Code} {H : Heap} {locs : List Loc} {cells slots : Nat} {Q : State → Prop}
variable {cc : ByteArray} {pc nL : Nat} {ls : Array Slot} {rest st0 : List Value} {own : String} {G : Gd} {L : Lay} {B : Nat} {σ σ' : Sto} {A : Nat → Prop} {H0 : Heap} {res : Option Value} {ret : Option FieldType} {d D : Nat} {lv : List (Nat × Value)}
theorem g_iret (X : Cm p s m args meth c cc nL own G (some .int)) (hH : HX G L B σ' H) (hS : va_S (inW L B) s.heap H locs) {v : Int32} (hdg : decode cc pc = .ok (.ireturn, 1)) : WM p l e d s m args below meth c H locs G L B (some (.int v)) σ' (F0 m pc ls [.int v]) :=
  W.iret X.1.1 X.1.2.1 X.2.1 (fun t ht hW => ⟨rfl, by rw [ht]; exact hH, hS.F ht⟩) hS.2.2 hdg X.2.2
theorem g_zret (X : Cm p s m args meth c cc nL own G (some .boolean)) (hH : HX G L B σ' H) (hS : va_S (inW L B) s.heap H locs) {v : Int32} (hv : v = 0 ∨ v = 1) (hdg : decode cc pc = .ok (.ireturn, 1)) : WM p l e d s m args below meth c H locs G L B (some (.int v)) σ' (F0 m pc ls [.int v]) :=
  W.zret X.1.1 X.1.2.1 X.2.1 (by rcases hv with rfl | rfl <;> rfl) (fun t ht hW => ⟨rfl, by rw [ht]; exact hH, hS.F ht⟩) hS.2.2 hdg X.2.2
theorem g_lret (X : Cm p s m args meth c cc nL own G (some .long)) (hH : HX G L B σ' H) (hS : va_S (inW L B) s.heap H locs) {v : Int64} (hdg : decode cc pc = .ok (.lreturn, 1)) : WM p l e d s m args below meth c H locs G L B (some (.long v)) σ' (F0 m pc ls [.long v]) :=
  W.lret X.1.1 X.1.2.1 X.2.1 (fun t ht hW => ⟨rfl, by rw [ht]; exact hH, hS.F ht⟩) hS.2.2 hdg X.2.2
theorem g_vret (X : Cm p s m args meth c cc nL own G none) (hH : HX G L B σ' H) (hS : va_S (inW L B) s.heap H locs) (hdg : decode cc pc = .ok (.return_, 1)) : WM p l e d s m args below meth c H locs G L B none σ' (F0 m pc ls []) :=
  W.vret X.1.1 X.1.2.1 X.2.1 (fun t ht hW => ⟨rfl, by rw [ht]; exact hH, hS.F ht⟩) hS.2.2 hdg X.2.2
theorem g_aret {C : String} (X : Cm p s m args meth c cc nL own G (some (.object C))) (hH : HX G L B σ' H) (hS : va_S (inW L B) s.heap H locs) {a : Nat} (hdg : decode cc pc = .ok (.areturn, 1)) : WM p l e d s m args below meth c H locs G L B (some (.ref a)) σ' (F0 m pc ls [.ref a]) :=
  W.aret X.1.1 X.1.2.1 X.2.1 (Or.inl ⟨_, rfl⟩) (Or.inr ⟨_, rfl⟩) (fun t ht hW => ⟨rfl, by rw [ht]; exact hH, hS.F ht⟩) hS.2.2 hdg X.2.2
def CwB (own : String) (idx : Nat) (y : MethodName) (cc : ByteArray) (maxL : Nat) (ret : Option FieldType) (n : Nat) : Prop := Cond.methodLink own idx y ∈ tb ∧ Cond.initialized y.cls ∈ tb ∧ Cond.code y cc maxL ret ∈ tb ∧ (y.cls ≠ "java/lang/invoke/MethodHandle" ∧ y.cls ≠ "java/lang/invoke/VarHandle" ∧ (parseMethodDescriptor y.desc).map (fun d => d.parameters.length) = some n)
theorem CwB.to {idx : Nat} {y : MethodName} {bytes : ByteArray} {maxL n : Nat} (h : CwB own idx y bytes maxL ret n) (hts : ∀ w ∈ tb, w.before args s = true) (hR : d + 1 ≤ R.frames ∧ 8 + (maxL + 11) + 40 * d ≤ R.locals) : CallB R s args own idx y bytes maxL ret (Cond.code y bytes maxL ret :: tb) (rmk d) 0 0 n :=
  callB_of n hts (fun w hw => by
    rcases List.mem_cons.mp hw with rfl | hw
    · exact ⟨h.2.2.1, tbl_good _ h.2.2.1⟩
    · exact ⟨hw, tbl_good _ hw⟩) rfl rfl rfl (hts _ h.2.1) (hts _ h.1) h.2.2.2 hR
theorem blindP {as : List Value} : FrameBlind (va_Pc as (fun U => HX G L B σ U.heap ∧ KK G U)) := fun a U g mk q => by
  obtain ⟨q0, q1, q2⟩ := q
  exact ⟨q0, q1, KK.moved (u := U) (U := U.calling g mk a) (Vm.Alike.refl U.vm) q2⟩
theorem g_go (hr : va_Run p l e R s m args below meth c H locs cells slots 0 0 (F0 m pc ls st0) rest (fun st oc t => oc = .returned res ∧ HX G L B σ' t.heap ∧ va_F (inW L B) st t) (inW L B)) (hS : va_S A H0 H locs) (hA : ∀ q, inW L B q → A q)
    (kk : ∀ (H1 : Heap) (locs1 : List Loc), HX G L B σ' H1 → va_S A H0 H1 locs1 → H.size ≤ H1.size → (∀ q : Nat, q < H.size → ¬ inW L B q → H1[q]? = H[q]?) → W p l e R s m args below meth c H1 locs1 cells slots Q (F0 m (pc + 3) ls (res.toList ++ rest))) : W p l e R s m args below meth c H locs cells slots Q (F0 m pc ls st0) := by
  intro T hT X
  obtain ⟨v, st₀, t, T', Lc, h0, X', hL, e1, e2, ⟨hv, hX, hz, hk⟩, st⟩ := hr T hT X
  cases hv
  rw [h0] at hz hk
  obtain ⟨t2, a1, b1⟩ := kk T'.heap (locs ++ Lc) (by rw [e1]; exact hX)
    ⟨Nat.le_trans hS.1 (by rw [e1]; exact hz), fun q h1 h2 => by rw [e1, hk q (Nat.lt_of_lt_of_le h1 hS.1) (fun z => h2 (hA q z))]; exact hS.2.1 q h1 h2, fun q hq => by
      rcases List.mem_append.mp hq with h | h
      · exact hS.2.2 q h
      · exact hA _ (hL q h)⟩ (by rw [e1]; exact hz) (fun q h1 h2 => by rw [e1]; exact hk q h1 h2) T' rfl X'
  exact ⟨t2, st t2 a1, b1⟩
theorem g_virt {idx k n maxL ci N : Nat} {y : MethodName} {bytes : ByteArray} {As : List Value} {T : u_T} {C : String} (X : Cx p s m args c cc nL own G) (hH : HX G L B σ H) (hS : va_S A H0 H locs) (hA : ∀ q, inW L B q → A q) (hM : Ct l G L B y bytes maxL ret d (.ref (B + k) :: As) res σ σ') (hw : CwB own idx y bytes maxL ret n) (hw2 : Cond.instanceMethod y ∈ tb ∧ Cond.selects C y y ∈ tb) (hC : vwCl[ci]? = some (C, T, N)) (hk : k < L.2.2 ∧ L.1 k = .inl ci) (hR : d + 1 ≤ R.frames ∧ 8 + (maxL + 11) + 40 * d ≤ R.locals) (hcs : cells ≤ R.cells ∧ slots ≤ R.slots) (hn : As.length = n) (hls : ls.size = nL) (hcat : (rest.map fun v => v.category).sum ≤ 8) (hst : st0 = As.reverse ++ .ref (B + k) :: rest) (hdg : decode cc pc = .ok (.invokevirtual idx, 3))
    (kk : ∀ (H1 : Heap) (locs1 : List Loc), HX G L B σ' H1 → va_S A H0 H1 locs1 → H.size ≤ H1.size → (∀ q : Nat, q < H.size → ¬ inW L B q → H1[q]? = H[q]?) → W p l e R s m args below meth c H1 locs1 cells slots Q (F0 m (pc + 3) ls (res.toList ++ rest))) : W p l e R s m args below meth c H locs cells slots Q (F0 m pc ls st0) := by
  obtain ⟨hx, hb, hml, hown, hts, hK⟩ := X
  obtain ⟨cell, q1, q2, q3, q4⟩ := hH.toObj hk.1 hk.2 hC
  obtain ⟨-, hfc, -⟩ := hK.1 ci _ hC
  exact g_go (va_runV (As := As) (rest := rest) (g := F0 m pc ls st0) ⟨hx, hb, hml, hown, hts⟩ hM ⟨hw.to hts hR, hts _ hw2.1, hts _ hw2.2⟩ ⟨blindP, ⟨cell, q1, by rw [q3]; rfl, by rw [q2]; exact hfc⟩, fun U hU hW => ⟨rfl, by rw [hU]; exact hH, KK.moved hW.alike hK⟩⟩ rfl hn hls hst (lv_room hcat) hdg hcs) hS hA kk
theorem g_stat {idx n maxL : Nat} {y : MethodName} {bytes : ByteArray} {As : List Value} (X : Cx p s m args c cc nL own G) (hH : HX G L B σ H) (hS : va_S A H0 H locs) (hA : ∀ q, inW L B q → A q) (hM : Ct l G L B y bytes maxL ret d As res σ σ') (hw : CwB own idx y bytes maxL ret n) (hw2 : Cond.static y ∈ tb) (hR : d + 1 ≤ R.frames ∧ 8 + (maxL + 11) + 40 * d ≤ R.locals) (hcs : cells ≤ R.cells ∧ slots ≤ R.slots) (hn : As.length = n) (hls : ls.size = nL) (hcat : (rest.map fun v => v.category).sum ≤ 8) (hst : st0 = As.reverse ++ rest) (hdg : decode cc pc = .ok (.invokestatic idx, 3))
    (kk : ∀ (H1 : Heap) (locs1 : List Loc), HX G L B σ' H1 → va_S A H0 H1 locs1 → H.size ≤ H1.size → (∀ q : Nat, q < H.size → ¬ inW L B q → H1[q]? = H[q]?) → W p l e R s m args below meth c H1 locs1 cells slots Q (F0 m (pc + 3) ls (res.toList ++ rest))) : W p l e R s m args below meth c H locs cells slots Q (F0 m pc ls st0) := by
  obtain ⟨hx, hb, hml, hown, hts, hK⟩ := X
  exact g_go (va_runS (As := As) (rest := rest) (g := F0 m pc ls st0) ⟨hx, hb, hml, hown, hts⟩ hM ⟨hw.to hts hR, hts _ hw2⟩ ⟨blindP, fun U hU hW => ⟨rfl, by rw [hU]; exact hH, KK.moved hW.alike hK⟩⟩ rfl hn hls hst (lv_room hcat) hdg hcs) hS hA kk
/-- calls inside a method's walk -/
theorem g_cV {idx k n maxL ci N : Nat} {y : MethodName} {bytes : ByteArray} {As : List Value} {T : u_T} {C : String} (X : Cx p s m args c cc nL own G) (hH : HX G L B σ H) (hS : va_S (inW L B) s.heap H locs) (hM : Ct l G L B y bytes maxL ret d (.ref (B + k) :: As) res σ σ') (hw : CwB own idx y bytes maxL ret n ∧ Cond.instanceMethod y ∈ tb ∧ Cond.selects C y y ∈ tb) (hC : Cls ci C T N) (hk : k < L.2.2 ∧ L.1 k = .inl ci) (hR : d < D ∧ maxL ≤ 21) (hn : As.length = n) (hl : lv_has ls nL lv) (hcat : (rest.map fun v => v.category).sum ≤ 8) (hst : st0 = As.reverse ++ .ref (B + k) :: rest) (hdg : decode cc pc = .ok (.invokevirtual idx, 3))
    (kk : ∀ (H1 : Heap) (locs1 : List Loc), HX G L B σ' H1 → va_S (inW L B) s.heap H1 locs1 → W p l e (rmk D) s m args below meth c H1 locs1 0 0 Q (F0 m (pc + 3) ls (res.toList ++ rest))) : W p l e (rmk D) s m args below meth c H locs 0 0 Q (F0 m pc ls st0) :=
  g_virt X hH hS (fun _ h => h) hM hw.1 hw.2 hC.1 hk ⟨by show d + 1 ≤ D; omega, by show 8 + (maxL + 11) + 40 * d ≤ 40 * D; omega⟩ ⟨Nat.le_refl 0, Nat.le_refl 0⟩ hn hl.1 hcat hst hdg (fun H1 locs1 h1 h2 _ _ => kk H1 locs1 h1 h2)
theorem g_cS {idx n maxL : Nat} {y : MethodName} {bytes : ByteArray} {As : List Value} (X : Cx p s m args c cc nL own G) (hH : HX G L B σ H) (hS : va_S (inW L B) s.heap H locs) (hM : Ct l G L B y bytes maxL ret d As res σ σ') (hw : CwB own idx y bytes maxL ret n ∧ Cond.static y ∈ tb) (hR : d < D ∧ maxL ≤ 21) (hn : As.length = n) (hl : lv_has ls nL lv) (hcat : (rest.map fun v => v.category).sum ≤ 8) (hst : st0 = As.reverse ++ rest) (hdg : decode cc pc = .ok (.invokestatic idx, 3))
    (kk : ∀ (H1 : Heap) (locs1 : List Loc), HX G L B σ' H1 → va_S (inW L B) s.heap H1 locs1 → W p l e (rmk D) s m args below meth c H1 locs1 0 0 Q (F0 m (pc + 3) ls (res.toList ++ rest))) : W p l e (rmk D) s m args below meth c H locs 0 0 Q (F0 m pc ls st0) :=
  g_stat X hH hS (fun _ h => h) hM hw.1 hw.2 ⟨by show d + 1 ≤ D; omega, by show 8 + (maxL + 11) + 40 * d ≤ 40 * D; omega⟩ ⟨Nat.le_refl 0, Nat.le_refl 0⟩ hn hl.1 hcat hst hdg (fun H1 locs1 h1 h2 _ _ => kk H1 locs1 h1 h2)
/-! Math of longs -/
def mabs (x : Int64) : Int64 := if 0 < x then x else -x
def mmax (x y : Int64) : Int64 := if y < x then x else y
def mmin (x y : Int64) : Int64 := if y < x then y else x
theorem g_abs {idx : Nat} {x : Int64} (X : Cx p s m args c cc nL own G) (hw : Cond.methodLink own idx Lib.MathLoose.abs_long.x ∈ tb ∧ Cond.static Lib.MathLoose.abs_long.x ∈ tb ∧ Cond.initialized "java/lang/Math" ∈ tb ∧ Cond.code Lib.MathLoose.abs_long.x Lib.MathLoose.abs_long.code 2 (some .long) ∈ tb) (hR : 0 < D) (hl : lv_has ls nL lv) (hcat : (rest.map fun v => v.category).sum ≤ 8) (hdg : decode cc pc = .ok (.invokestatic idx, 3))
    (kk : W p l e (rmk D) s m args below meth c H locs 0 0 Q (F0 m (pc + 3) ls (.long (mabs x) :: rest))) : W p l e (rmk D) s m args below meth c H locs 0 0 Q (F0 m pc ls (.long x :: rest)) :=
  va_mabs_long X.1 X.2.1 (X.2.2.1.trans hl.1.symm) X.2.2.2.1 (X.2.2.2.2.1 _ hw.1) (X.2.2.2.2.1 _ hw.2.1) (X.2.2.2.2.1 _ hw.2.2.1) (X.2.2.2.2.1 _ hw.2.2.2) (by show 1 ≤ D; omega) (by show _ ≤ 40 * D; omega) (Nat.zero_le _) (Nat.zero_le _) hdg kk
theorem g_max {idx : Nat} {x y : Int64} (X : Cx p s m args c cc nL own G) (hw : Cond.methodLink own idx Lib.MathLoose.max_long.x ∈ tb ∧ Cond.static Lib.MathLoose.max_long.x ∈ tb ∧ Cond.initialized "java/lang/Math" ∈ tb ∧ Cond.code Lib.MathLoose.max_long.x Lib.MathLoose.max_long.code 4 (some .long) ∈ tb) (hR : 0 < D) (hl : lv_has ls nL lv) (hcat : (rest.map fun v => v.category).sum ≤ 8) (hdg : decode cc pc = .ok (.invokestatic idx, 3))
    (kk : W p l e (rmk D) s m args below meth c H locs 0 0 Q (F0 m (pc + 3) ls (.long (mmax x y) :: rest))) : W p l e (rmk D) s m args below meth c H locs 0 0 Q (F0 m pc ls (.long y :: .long x :: rest)) :=
  va_mmax_long X.1 X.2.1 (X.2.2.1.trans hl.1.symm) X.2.2.2.1 (X.2.2.2.2.1 _ hw.1) (X.2.2.2.2.1 _ hw.2.1) (X.2.2.2.2.1 _ hw.2.2.1) (X.2.2.2.2.1 _ hw.2.2.2) (by show 1 ≤ D; omega) (by show _ ≤ 40 * D; omega) (Nat.zero_le _) (Nat.zero_le _) hdg kk
theorem g_min {idx : Nat} {x y : Int64} (X : Cx p s m args c cc nL own G) (hw : Cond.methodLink own idx Lib.MathLoose.min_long.x ∈ tb ∧ Cond.static Lib.MathLoose.min_long.x ∈ tb ∧ Cond.initialized "java/lang/Math" ∈ tb ∧ Cond.code Lib.MathLoose.min_long.x Lib.MathLoose.min_long.code 4 (some .long) ∈ tb) (hR : 0 < D) (hl : lv_has ls nL lv) (hcat : (rest.map fun v => v.category).sum ≤ 8) (hdg : decode cc pc = .ok (.invokestatic idx, 3))
    (kk : W p l e (rmk D) s m args below meth c H locs 0 0 Q (F0 m (pc + 3) ls (.long (mmin x y) :: rest))) : W p l e (rmk D) s m args below meth c H locs 0 0 Q (F0 m pc ls (.long y :: .long x :: rest)) :=
  va_mmin_long X.1 X.2.1 (X.2.2.1.trans hl.1.symm) X.2.2.2.1 (X.2.2.2.2.1 _ hw.1) (X.2.2.2.2.1 _ hw.2.1) (X.2.2.2.2.1 _ hw.2.2.1) (X.2.2.2.2.1 _ hw.2.2.2) (by show 1 ≤ D; omega) (by show _ ≤ 40 * D; omega) (Nat.zero_le _) (Nat.zero_le _) hdg kk
/-! compares of longs with their branch -/
theorem g_leq (X : Cx p s m args c cc nL own G) {x y : Int64} {off : Int} {tgt : Nat} (hd1 : decode cc pc = .ok (.lcmp, 1)) (hdg : decode cc (pc + 1) = .ok (.ifCond .eq off, 3)) (ht : ((pc + 1 : Nat) : Int) + off = (tgt : Int))
    (kt : x = y → W p l e R s m args below meth c H locs cells slots Q (F0 m tgt ls rest)) (kf : ¬ x = y → W p l e R s m args below meth c H locs cells slots Q (F0 m (pc + 4) ls rest)) : W p l e R s m args below meth c H locs cells slots Q (F0 m pc ls (.long y :: .long x :: rest)) :=
  W.lcmp X.1 X.2.1 hd1 (lv_if_eq X.1 X.2.1 hdg ht (fun h => kt ((lg_cmp_eq x y).mp h)) (fun h => kf (fun q => h ((lg_cmp_eq x y).mpr q))))
theorem g_lne (X : Cx p s m args c cc nL own G) {x y : Int64} {off : Int} {tgt : Nat} (hd1 : decode cc pc = .ok (.lcmp, 1)) (hdg : decode cc (pc + 1) = .ok (.ifCond .ne off, 3)) (ht : ((pc + 1 : Nat) : Int) + off = (tgt : Int))
    (kt : ¬ x = y → W p l e R s m args below meth c H locs cells slots Q (F0 m tgt ls rest)) (kf : x = y → W p l e R s m args below meth c H locs cells slots Q (F0 m (pc + 4) ls rest)) : W p l e R s m args below meth c H locs cells slots Q (F0 m pc ls (.long y :: .long x :: rest)) :=
  W.lcmp X.1 X.2.1 hd1 (lv_if_ne X.1 X.2.1 hdg ht (fun h => kt (fun q => h ((lg_cmp_eq x y).mpr q))) (fun h => kf ((lg_cmp_eq x y).mp h)))
theorem g_llt (X : Cx p s m args c cc nL own G) {x y : Int64} {off : Int} {tgt : Nat} (hd1 : decode cc pc = .ok (.lcmp, 1)) (hdg : decode cc (pc + 1) = .ok (.ifCond .lt off, 3)) (ht : ((pc + 1 : Nat) : Int) + off = (tgt : Int))
    (kt : x < y → W p l e R s m args below meth c H locs cells slots Q (F0 m tgt ls rest)) (kf : ¬ x < y → W p l e R s m args below meth c H locs cells slots Q (F0 m (pc + 4) ls rest)) : W p l e R s m args below meth c H locs cells slots Q (F0 m pc ls (.long y :: .long x :: rest)) :=
  W.lcmp X.1 X.2.1 hd1 (lv_if_lt X.1 X.2.1 hdg ht (fun h => kt ((lg_cmp_lt x y).mp h)) (fun h => kf (fun q => h ((lg_cmp_lt x y).mpr q))))
theorem g_lge (X : Cx p s m args c cc nL own G) {x y : Int64} {off : Int} {tgt : Nat} (hd1 : decode cc pc = .ok (.lcmp, 1)) (hdg : decode cc (pc + 1) = .ok (.ifCond .ge off, 3)) (ht : ((pc + 1 : Nat) : Int) + off = (tgt : Int))
    (kt : y ≤ x → W p l e R s m args below meth c H locs cells slots Q (F0 m tgt ls rest)) (kf : ¬ y ≤ x → W p l e R s m args below meth c H locs cells slots Q (F0 m (pc + 4) ls rest)) : W p l e R s m args below meth c H locs cells slots Q (F0 m pc ls (.long y :: .long x :: rest)) :=
  W.lcmp X.1 X.2.1 hd1 (lv_if_ge X.1 X.2.1 hdg ht (fun h => kt ((lg_cmp_ge x y).mp h)) (fun h => kf (fun q => h ((lg_cmp_ge x y).mpr q))))
theorem g_lgt (X : Cx p s m args c cc nL own G) {x y : Int64} {off : Int} {tgt : Nat} (hd1 : decode cc pc = .ok (.lcmp, 1)) (hdg : decode cc (pc + 1) = .ok (.ifCond .gt off, 3)) (ht : ((pc + 1 : Nat) : Int) + off = (tgt : Int))
    (kt : y < x → W p l e R s m args below meth c H locs cells slots Q (F0 m tgt ls rest)) (kf : ¬ y < x → W p l e R s m args below meth c H locs cells slots Q (F0 m (pc + 4) ls rest)) : W p l e R s m args below meth c H locs cells slots Q (F0 m pc ls (.long y :: .long x :: rest)) :=
  W.lcmp X.1 X.2.1 hd1 (lv_if_gt X.1 X.2.1 hdg ht (fun h => kt ((lg_cmp_gt x y).mp h)) (fun h => kf (fun q => h ((lg_cmp_gt x y).mpr q))))
theorem g_lle (X : Cx p s m args c cc nL own G) {x y : Int64} {off : Int} {tgt : Nat} (hd1 : decode cc pc = .ok (.lcmp, 1)) (hdg : decode cc (pc + 1) = .ok (.ifCond .le off, 3)) (ht : ((pc + 1 : Nat) : Int) + off = (tgt : Int))
    (kt : x ≤ y → W p l e R s m args below meth c H locs cells slots Q (F0 m tgt ls rest)) (kf : ¬ x ≤ y → W p l e R s m args below meth c H locs cells slots Q (F0 m (pc + 4) ls rest)) : W p l e R s m args below meth c H locs cells slots Q (F0 m pc ls (.long y :: .long x :: rest)) :=
  W.lcmp X.1 X.2.1 hd1 (lv_if_le X.1 X.2.1 hdg ht (fun h => kt ((lg_cmp_le x y).mp h)) (fun h => kf (fun q => h ((lg_cmp_le x y).mpr q))))
theorem nneg (z : Int32) (hz : ¬ z < 0) : z.toInt = (z.toNatClampNeg : Int) := by
  have hz0 : (0 : Int) ≤ z.toInt := by
    have := Int32.not_lt.mp hz
    simpa using Int32.le_iff_toInt_le.mp this
  show z.toInt = ((z.toInt.toNat : Nat) : Int)
  omega
def CwC (own : String) (idx : Nat) : Prop := Cond.methodLink own idx arraycopyName ∈ tb ∧ Cond.native arraycopyName ∈ tb ∧ Cond.static arraycopyName ∈ tb ∧ Cond.initialized "java/lang/System" ∈ tb
theorem g_copy {α : Type} (mk : α → Value) {ty : FieldType} (hty : ty ∈ eTys ∧ refKind ty = false) (hfit : ∀ x : α, fits ty (mk x) = true) (hne : ∀ (x : α) (a : Addr), mk x ≠ .ref a) {f g : Nat → α} {k1 k2 n1 n2 : Nat} (X : Cx p s m args c cc nL own G) {idx : Nat} (hw : CwC own idx) (hc0 : H[B + k1]? = some (arrV (G.2.2 ty) n1 (fun j => mk (f j)))) (hc1 : H[B + k2]? = some (arrV (G.2.2 ty) n2 (fun j => mk (g j)))) (hS0 : va_S A H0 H locs) (hA : A (B + k2))
    {sp dp n : Int32} (hin : ¬ (sp < 0 ∨ dp < 0 ∨ n < 0 ∨ n1 < sp.toNatClampNeg + n.toNatClampNeg ∨ n2 < dp.toNatClampNeg + n.toNatClampNeg)) (hls : ls.size = nL) (hframes : 1 ≤ R.frames) (hlocals : (rest.map fun v => v.category).sum + (nativeFrameWords "java/lang/System" "arraycopy" 5 + 11) ≤ R.locals) (hdg : decode cc pc = .ok (.invokestatic idx, 3))
    (kk : ∀ (H1 : Heap) (locs1 : List Loc), H1[B + k2]? = some (arrV (G.2.2 ty) n2 (fun j => mk (va_cpy f g sp.toNatClampNeg dp.toNatClampNeg n.toNatClampNeg j))) → (∀ q, q ≠ B + k2 → H1[q]? = H[q]?) → va_S A H0 H1 locs1 → W p l e R s m args below meth c H1 locs1 cells slots Q (F0 m (pc + 3) ls rest)) : W p l e R s m args below meth c H locs cells slots Q (F0 m pc ls (.int n :: .int dp :: .ref (B + k2) :: .int sp :: .ref (B + k1) :: rest)) := by
  obtain ⟨hx, hb, hml, hown, hts, hK⟩ := X
  simp only [not_or, Nat.not_lt] at hin
  obtain ⟨h1, h2, h3, h4, h5⟩ := hin
  intro T hT X
  obtain ⟨-, q0, hk0, cm0, hkk0⟩ := (hK.2 ty hty.1).1 n1 (fun j => mk (f j))
  obtain ⟨-, q1, hk1, cm1, hkk1⟩ := (hK.2 ty hty.1).1 n2 (fun j => mk (g j))
  obtain ⟨vm', X', step⟩ := X.arraycopy hx hown (hts _ hw.1) (hts _ hw.2.1) (hts _ hw.2.2.1) (hts _ hw.2.2.2) (src := B + k1) (dst := B + k2) (cs := arrV (G.2.2 ty) n1 (fun j => mk (f j))) (cd := arrV (G.2.2 ty) n2 (fun j => mk (g j))) (srcPos := sp) (destPos := dp) (n := n) (by rw [hT]; exact hc0) (by rw [hT]; exact hc1)
    (fun _ h => by cases h) (fun _ h => by cases h) (fun h => by cases h) (fun h => by cases h) hk0 hk1 hkk0 hkk1 (by simp [hty.2]) h1 h2 h3
    (by rw [nneg sp h1, nneg n h3, arrV_size]; omega)
    (by rw [nneg dp h2, nneg n h3, arrV_size]; omega)
    (fun vm₁ _ i hi => by
      have e : (arrV (G.2.2 ty) n1 (fun j => mk (f j))).slots.getD (sp.toNatClampNeg + i) .null = mk (f (sp.toNatClampNeg + i)) := by
        rw [Array.getD_eq_getD_getElem?, arrV_read _ _ (by omega)]
        rfl
      refine ⟨?_, ?_⟩
      · rw [e]
        exact hfit _
      · rw [e]
        cases h9 : mk (f (sp.toNatClampNeg + i)) <;> first | exact trivial | exact absurd h9 (hne _ _))
    (g := F0 m pc ls (.int n :: .int dp :: .ref (B + k2) :: .int sp :: .ref (B + k1) :: rest)) rfl (by rw [hml]; exact hls) (rest := rest) rfl (by rw [hb]; exact hdg) hframes (by show 2 * 0 + _ + _ ≤ _; omega)
  have e1 : copied (arrV (G.2.2 ty) n1 (fun j => mk (f j))) (arrV (G.2.2 ty) n2 (fun j => mk (g j))) sp dp n = arrV (G.2.2 ty) n2 (fun j => mk (va_cpy f g sp.toNatClampNeg dp.toNatClampNeg n.toNatClampNeg j)) := va_copied mk (G.2.2 ty) (G.2.2 ty) f g h4
  rw [e1] at X' step
  have hl : B + k2 < H.size := (Array.getElem?_eq_some_iff.mp hc1).1
  have oq : ∀ q : Nat, q ≠ B + k2 → (H.setIfInBounds (B + k2) (arrV (G.2.2 ty) n2 (fun j => mk (va_cpy f g sp.toNatClampNeg dp.toNatClampNeg n.toNatClampNeg j))))[q]? = H[q]? := fun q hq => by simp [Array.getElem?_setIfInBounds, Ne.symm hq]
  have hheap : ((T.setVm vm').setCell (B + k2) (arrV (G.2.2 ty) n2 (fun j => mk (va_cpy f g sp.toNatClampNeg dp.toNatClampNeg n.toNatClampNeg j)))).heap = H.setIfInBounds (B + k2) (arrV (G.2.2 ty) n2 (fun j => mk (va_cpy f g sp.toNatClampNeg dp.toNatClampNeg n.toNatClampNeg j))) := by rw [← hT]; rfl
  obtain ⟨t, a1, b1⟩ := kk _ _ (by simp [Array.getElem?_setIfInBounds, hl]) oq ⟨by simp; exact hS0.1, fun q g1 g2 => by
      rw [oq q (fun e => g2 (by rw [e]; exact hA))]
      exact hS0.2.1 q g1 g2, fun q hq => by
      rcases List.mem_append.mp hq with h | h
      · exact hS0.2.2 q h
      · obtain ⟨z, -, hz⟩ := List.mem_map.mp h
        rw [← hz]
        exact hA⟩ _ hheap X'
  exact ⟨t, step t a1, b1⟩
theorem nfw : nativeFrameWords "java/lang/System" "arraycopy" 5 ≤ 20 := by decide
theorem g_cpI {k1 k2 n1 n2 idx : Nat} (X : Cx p s m args c cc nL own G) (hw : CwC own idx) (hH : HX G L B σ H) (hS0 : va_S (inW L B) H0 H locs) (hk1 : k1 < L.2.2 ∧ L.1 k1 = .inr (.int, n1)) (hk2 : k2 < L.2.2 ∧ L.1 k2 = .inr (.int, n2)) {sp dp n : Int32} (hin : ¬ (sp < 0 ∨ dp < 0 ∨ n < 0 ∨ n1 < sp.toNatClampNeg + n.toNatClampNeg ∨ n2 < dp.toNatClampNeg + n.toNatClampNeg)) (hl : lv_has ls nL lv) (hR : 1 < D) (hcat : (rest.map fun v => v.category).sum ≤ 8) (hdg : decode cc pc = .ok (.invokestatic idx, 3))
    (kk : ∀ (H1 : Heap) (locs1 : List Loc), HX G L B (cpI σ k1 sp.toNatClampNeg k2 dp.toNatClampNeg n.toNatClampNeg) H1 → va_S (inW L B) H0 H1 locs1 → W p l e (rmk D) s m args below meth c H1 locs1 cells slots Q (F0 m (pc + 3) ls rest)) : W p l e (rmk D) s m args below meth c H locs cells slots Q (F0 m pc ls (.int n :: .int dp :: .ref (B + k2) :: .int sp :: .ref (B + k1) :: rest)) := by
  refine g_copy (fun z => Value.int z) (ty := .int) ⟨by decide, rfl⟩ (fun _ => rfl) (fun _ _ h => by cases h) (f := σ.1 k1) (g := σ.1 k2) X hw (hH.toArr hk1.1 hk1.2) (hH.toArr hk2.1 hk2.2) hS0 ⟨by omega, by omega⟩ hin hl.1 (by show 1 ≤ D; omega) (by show _ ≤ 40 * D; have := nfw; omega) hdg (fun H1 locs1 e1 oq hS => kk H1 locs1 (hH.set (cAt.arr hk2.2 e1 (fun j => ?_)) (fun k' h ty j => ?_) oq) hS)
  · simp only [va_cpy, vl, cpI, true_and]
  · cases ty <;> simp [vl, cpI, h]
theorem g_cpL {k1 k2 n1 n2 idx : Nat} (X : Cx p s m args c cc nL own G) (hw : CwC own idx) (hH : HX G L B σ H) (hS0 : va_S (inW L B) H0 H locs) (hk1 : k1 < L.2.2 ∧ L.1 k1 = .inr (.long, n1)) (hk2 : k2 < L.2.2 ∧ L.1 k2 = .inr (.long, n2)) {sp dp n : Int32} (hin : ¬ (sp < 0 ∨ dp < 0 ∨ n < 0 ∨ n1 < sp.toNatClampNeg + n.toNatClampNeg ∨ n2 < dp.toNatClampNeg + n.toNatClampNeg)) (hl : lv_has ls nL lv) (hR : 1 < D) (hcat : (rest.map fun v => v.category).sum ≤ 8) (hdg : decode cc pc = .ok (.invokestatic idx, 3))
    (kk : ∀ (H1 : Heap) (locs1 : List Loc), HX G L B (cpL σ k1 sp.toNatClampNeg k2 dp.toNatClampNeg n.toNatClampNeg) H1 → va_S (inW L B) H0 H1 locs1 → W p l e (rmk D) s m args below meth c H1 locs1 cells slots Q (F0 m (pc + 3) ls rest)) : W p l e (rmk D) s m args below meth c H locs cells slots Q (F0 m pc ls (.int n :: .int dp :: .ref (B + k2) :: .int sp :: .ref (B + k1) :: rest)) := by
  refine g_copy (fun z => Value.long z) (ty := .long) ⟨by decide, rfl⟩ (fun _ => rfl) (fun _ _ h => by cases h) (f := σ.2 k1) (g := σ.2 k2) X hw (hH.toArr hk1.1 hk1.2) (hH.toArr hk2.1 hk2.2) hS0 ⟨by omega, by omega⟩ hin hl.1 (by show 1 ≤ D; omega) (by show _ ≤ 40 * D; have := nfw; omega) hdg (fun H1 locs1 e1 oq hS => kk H1 locs1 (hH.set (cAt.arr hk2.2 e1 (fun j => ?_)) (fun k' h ty j => ?_) oq) hS)
  · simp only [va_cpy, vl, cpL, true_and]
  · cases ty <;> simp [vl, cpL, h]
end HXC
/-! reading the functions -/
theorem chk {c : Prop} [Decidable c] {α : Type} {x : Option α} {r : α} (h : (if c then none else x) = some r) : ¬ c ∧ x = some r := by
  by_cases hc : c
  · rw [if_pos hc] at h
    cases h
  · rw [if_neg hc] at h
    exact ⟨hc, h⟩
theorem brT {c : Prop} [Decidable c] {α : Type} {x y : Option α} {r : α} (h : (if c then x else y) = some r) (hc : c) : x = some r := by rw [if_pos hc] at h; exact h
theorem brF {c : Prop} [Decidable c] {α : Type} {x y : Option α} {r : α} (h : (if c then x else y) = some r) (hc : ¬ c) : y = some r := by rw [if_neg hc] at h; exact h
theorem bnd {α β : Type} {x : Option α} {f : α → Option β} {r : β} (h : x.bind f = some r) : ∃ a, x = some a ∧ f a = some r := Option.bind_eq_some_iff.mp h
