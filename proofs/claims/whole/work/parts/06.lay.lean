/-! ===== the layouts: the component's 238 cells, the model's 17 ===== -/
def kdX (k : Nat) : Kind :=
  if k = 0 then .inl 7 else if k = 1 then .inl 6 else if k = 2 then .inr (.array .int, 8) else if k ≤ 10 then .inr (.int, 40) else if k ≤ 12 then .inr (.int, 8)
  else if k = 13 then .inl 5 else if k = 14 then .inr (.int, 200) else if k = 15 then .inr (.object "SlackProofs$Clause", 8) else if k = 16 then .inr (.int, 8)
  else if k ≤ 32 then (if k % 2 = 1 then .inl 3 else .inr (.long, 8))
  else if k = 33 ∨ k = 97 ∨ k = 160 then .inl 2 else if k = 34 ∨ k = 98 ∨ k = 161 then .inr (.object "SlackProofs$Clause", 30) else if k = 35 ∨ k = 99 ∨ k = 162 then .inr (.int, 8)
  else if k ≤ 95 then (if k % 2 = 0 then .inl 3 else .inr (.long, 8)) else if k = 96 then .inr (.object "SlackProofs$Book", 2)
  else if k ≤ 159 then (if k % 2 = 0 then .inl 3 else .inr (.long, 8)) else if k ≤ 222 then (if k % 2 = 1 then .inl 3 else .inr (.long, 8))
  else if k = 223 then .inl 0 else if k ≤ 226 then .inr (.int, 12) else if k = 227 then .inl 4 else if k ≤ 235 then (if k % 2 = 0 then .inl 3 else .inr (.long, 8))
  else if k = 236 then .inl 1 else .inr (.int, 16)
def imgC (n : Nat) : Nat := if n = 0 then 97 else 160
def rfX (k j : Nat) : Nat :=
  if k = 0 then [1, 13, 33, 96, 223, 227, 236].getD j 0 else if k = 1 then [2, 11, 12].getD j 0 else if k = 2 then 3 + j else if k = 13 then 14 + j else if k = 15 then 17 + 2 * j
  else if k = 96 then imgC j else if k = 223 then 224 + j else if k = 227 then [33, 228, 230, 232, 234].getD j 0 else if k = 236 then 237
  else if k = 33 ∨ k = 97 ∨ k = 160 then k + 1 + j else if k = 34 ∨ k = 98 ∨ k = 161 then k + 2 + 2 * j else k + 1
def layX : Lay := (kdX, rfX, 238)
def kdM (k : Nat) : Kind := ([.inl 8, .inr (.int, 8), .inr (.int, 8), .inr (.int, 320), .inr (.int, 40), .inr (.int, 200), .inr (.long, 312), .inr (.long, 312), .inr (.long, 3744), .inr (.long, 624), .inr (.boolean, 2), .inr (.long, 10), .inr (.long, 10), .inr (.long, 10), .inr (.long, 10), .inr (.long, 8), .inr (.int, 16)] : List Kind).getD k (.inl 8)
def rfM (_k j : Nat) : Nat := ([1, 2, 3, 4, 0, 5, 0, 0, 0, 0, 0, 0, 0, 6, 7, 8, 0, 9, 10, 11, 12, 13, 14, 15, 0, 0, 16, 0] : List Nat).getD j 0
def layM : Lay := (kdM, rfM, 17)
/-! a clause k, its numbers at k + 1; a book k, its clauses' row at k + 1, prices at k + 2, clause a at k + 3 + 2 a -/
theorem layX_cl : ∀ k, k < 238 → kdX k = .inl 3 → k + 1 < 238 ∧ kdX (k + 1) = .inr (.long, 8) ∧ rfX k 0 = k + 1 := by decide +kernel
theorem layX_bk : ∀ k, k < 238 → kdX k = .inl 2 → k = 33 ∨ k = 97 ∨ k = 160 := by decide +kernel
theorem layX_bc : ∀ a, a < 30 → (kdX (36 + 2 * a) = .inl 3 ∧ 36 + 2 * a < 238) ∧ (kdX (97 + 3 + 2 * a) = .inl 3 ∧ 97 + 3 + 2 * a < 238) ∧ (kdX (160 + 3 + 2 * a) = .inl 3 ∧ 160 + 3 + 2 * a < 238) := by decide +kernel
theorem layX_rw : ∀ a, a < 8 → (3 + a < 238 ∧ kdX (3 + a) = .inr (.int, 40)) ∧ (17 + 2 * a < 238 ∧ kdX (17 + 2 * a) = .inl 3) := by decide +kernel
theorem layX_im : ∀ a, a < 2 → imgC a < 238 ∧ kdX (imgC a) = .inl 2 := by decide +kernel
section LAYX
variable {k : Nat} {B : Nat} {σ : Sto}
theorem cArr (h : k < layX.2.2 ∧ layX.1 k = .inl 3) : k + 1 < layX.2.2 ∧ layX.1 (k + 1) = .inr (.long, 8) := ⟨(layX_cl k h.1 h.2).1, (layX_cl k h.1 h.2).2.1⟩
theorem cRef (h : k < layX.2.2 ∧ layX.1 k = .inl 3) : vl layX B σ (tyOf 3 0) k 0 = .ref (B + (k + 1)) := by
  show Value.ref (B + rfX k 0) = _
  rw [(layX_cl k h.1 h.2).2.2]
theorem bArr (h : k < layX.2.2 ∧ layX.1 k = .inl 2) : k + 1 < layX.2.2 ∧ layX.1 (k + 1) = .inr (.object "SlackProofs$Clause", 30) := by
  rcases layX_bk k h.1 h.2 with rfl | rfl | rfl <;> exact ⟨by decide, rfl⟩
theorem bPrc (h : k < layX.2.2 ∧ layX.1 k = .inl 2) : k + 2 < layX.2.2 ∧ layX.1 (k + 2) = .inr (.int, 8) := by
  rcases layX_bk k h.1 h.2 with rfl | rfl | rfl <;> exact ⟨by decide, rfl⟩
theorem bRef0 (h : k < layX.2.2 ∧ layX.1 k = .inl 2) : vl layX B σ (tyOf 2 0) k 0 = .ref (B + (k + 1)) := by
  rcases layX_bk k h.1 h.2 with rfl | rfl | rfl <;> rfl
theorem bRef1 (h : k < layX.2.2 ∧ layX.1 k = .inl 2) : vl layX B σ (tyOf 2 1) k 1 = .ref (B + (k + 2)) := by
  rcases layX_bk k h.1 h.2 with rfl | rfl | rfl <;> rfl
theorem bRf {i : Int32} {n : Nat} (h : k < layX.2.2 ∧ layX.1 k = .inl 2) (_hi : ¬ (i < 0 ∨ 30 ≤ n)) : layX.2.1 (k + 1) n = k + 3 + 2 * n := by
  rcases layX_bk k h.1 h.2 with rfl | rfl | rfl <;> rfl
theorem bCl {i : Int32} {n : Nat} (h : k < layX.2.2 ∧ layX.1 k = .inl 2) (hi : ¬ (i < 0 ∨ 30 ≤ n)) : k + 3 + 2 * n < layX.2.2 ∧ layX.1 (k + 3 + 2 * n) = .inl 3 := by
  have hn : n < 30 := Nat.not_le.mp fun q => hi (Or.inr q)
  obtain ⟨⟨a1, a2⟩, ⟨b1, b2⟩, c1, c2⟩ := layX_bc n hn
  rcases layX_bk k h.1 h.2 with rfl | rfl | rfl
  · exact ⟨a2, a1⟩
  · exact ⟨b2, b1⟩
  · exact ⟨c2, c1⟩
theorem kB33 {i : Int32} {n : Nat} (hi : ¬ (i < 0 ∨ 30 ≤ n)) : 36 + 2 * n < layX.2.2 ∧ layX.1 (36 + 2 * n) = .inl 3 := ⟨(layX_bc n (Nat.not_le.mp fun q => hi (Or.inr q))).1.2, (layX_bc n (Nat.not_le.mp fun q => hi (Or.inr q))).1.1⟩
theorem kRow {i : Int32} {n : Nat} (hi : ¬ (i < 0 ∨ 8 ≤ n)) : 3 + n < layX.2.2 ∧ layX.1 (3 + n) = .inr (.int, 40) := (layX_rw n (Nat.not_le.mp fun q => hi (Or.inr q))).1
theorem kRd {i : Int32} {n : Nat} (hi : ¬ (i < 0 ∨ 8 ≤ n)) : 17 + 2 * n < layX.2.2 ∧ layX.1 (17 + 2 * n) = .inl 3 := (layX_rw n (Nat.not_le.mp fun q => hi (Or.inr q))).2
theorem kImg {i : Int32} {n : Nat} (hi : ¬ (i < 0 ∨ 2 ≤ n)) : imgC n < layX.2.2 ∧ layX.1 (imgC n) = .inl 2 := layX_im n (Nat.not_le.mp fun q => hi (Or.inr q))
end LAYX
/-! naming, and calls one after another -/
def nmS {α β : Type} (a : α) (f : α → Option β) : Option β := f a
theorem nmU {α β : Type} {a x : α} {f : α → Option β} {r : β} (h : nmS a f = some r) (e : x = a) : f x = some r := by
  subst e
  exact h
theorem nmX {G : Gd} {L : Lay} {B : Nat} {S : Sto} {H : Heap} (h : HX G L B S H) : ∃ z, z = S ∧ HX G L B z H := ⟨_, rfl, h⟩
theorem rt1 {α : Type} {a c : α} (h : some a = some c) : c = a := (Option.some.inj h).symm
theorem rt2 {α β : Type} {a c : α} {b d : β} (h : some (a, b) = some (c, d)) : c = a ∧ d = b := ⟨(congrArg Prod.fst (Option.some.inj h)).symm, (congrArg Prod.snd (Option.some.inj h)).symm⟩
def bd1 {β : Type} (x : Option Sto) (f : Sto → Option β) : Option β := match x with
  | none => none
  | some s => f s
def bd2 {α β : Type} (x : Option (α × Sto)) (f : α → Sto → Option β) : Option β := match x with
  | none => none
  | some q => f q.1 q.2
theorem bnd1 {β : Type} {x : Option Sto} {f : Sto → Option β} {r : β} (h : bd1 x f = some r) : ∃ s, x = some s ∧ f s = some r := by
  cases x with
  | none => cases h
  | some s => exact ⟨s, rfl, h⟩
theorem bnd2 {α β : Type} {x : Option (α × Sto)} {f : α → Sto → Option β} {r : β} (h : bd2 x f = some r) : ∃ a s, x = some (a, s) ∧ f a s = some r := by
  cases x with
  | none => cases h
  | some q => exact ⟨q.1, q.2, rfl, h⟩
section HXD
variable {p : Program} {l : Launch} {e : Env} {R : Room} {s : State} {m : MethodId} {args : Array Value} {below : List Frame} {meth : Method} {c : Code} {H : Heap} {locs : List Loc} {cells slots : Nat} {Q : State → Prop}
variable {cc : ByteArray} {pc nL : Nat} {ls : Array Slot} {rest st0 : List Value} {own : String} {G : Gd} {L : Lay} {B : Nat} {σ σ' : Sto} {ret : Option FieldType} {d D : Nat} {lv : List (Nat × Value)}
theorem g_cVi {r : Int32} {idx k n maxL ci N : Nat} {y : MethodName} {bytes : ByteArray} {As : List Value} {T : u_T} {C : String} (X : Cx p s m args c cc nL own G) (hH : HX G L B σ H) (hS : va_S (inW L B) s.heap H locs) (hM : Ct l G L B y bytes maxL ret d (.ref (B + k) :: As) (some (.int r)) σ σ') (hw : CwB own idx y bytes maxL ret n ∧ Cond.instanceMethod y ∈ tb ∧ Cond.selects C y y ∈ tb) (hC : Cls ci C T N) (hk : k < L.2.2 ∧ L.1 k = .inl ci) (hR : d < D ∧ maxL ≤ 21) (hn : As.length = n) (hl : lv_has ls nL lv) (hcat : (rest.map fun v => v.category).sum ≤ 8) (hst : st0 = As.reverse ++ .ref (B + k) :: rest) (hdg : decode cc pc = .ok (.invokevirtual idx, 3))
    (kk : ∀ (H1 : Heap) (locs1 : List Loc), HX G L B σ' H1 → va_S (inW L B) s.heap H1 locs1 → W p l e (rmk D) s m args below meth c H1 locs1 0 0 Q (F0 m (pc + 3) ls (.int r :: rest))) : W p l e (rmk D) s m args below meth c H locs 0 0 Q (F0 m pc ls st0) :=
  g_cV X hH hS hM hw hC hk hR hn hl hcat hst hdg kk
theorem g_cSi {r : Int32} {idx n maxL : Nat} {y : MethodName} {bytes : ByteArray} {As : List Value} (X : Cx p s m args c cc nL own G) (hH : HX G L B σ H) (hS : va_S (inW L B) s.heap H locs) (hM : Ct l G L B y bytes maxL ret d As (some (.int r)) σ σ') (hw : CwB own idx y bytes maxL ret n ∧ Cond.static y ∈ tb) (hR : d < D ∧ maxL ≤ 21) (hn : As.length = n) (hl : lv_has ls nL lv) (hcat : (rest.map fun v => v.category).sum ≤ 8) (hst : st0 = As.reverse ++ rest) (hdg : decode cc pc = .ok (.invokestatic idx, 3))
    (kk : ∀ (H1 : Heap) (locs1 : List Loc), HX G L B σ' H1 → va_S (inW L B) s.heap H1 locs1 → W p l e (rmk D) s m args below meth c H1 locs1 0 0 Q (F0 m (pc + 3) ls (.int r :: rest))) : W p l e (rmk D) s m args below meth c H locs 0 0 Q (F0 m pc ls st0) :=
  g_cS X hH hS hM hw hR hn hl hcat hst hdg kk
theorem g_cVl {r : Int64} {idx k n maxL ci N : Nat} {y : MethodName} {bytes : ByteArray} {As : List Value} {T : u_T} {C : String} (X : Cx p s m args c cc nL own G) (hH : HX G L B σ H) (hS : va_S (inW L B) s.heap H locs) (hM : Ct l G L B y bytes maxL ret d (.ref (B + k) :: As) (some (.long r)) σ σ') (hw : CwB own idx y bytes maxL ret n ∧ Cond.instanceMethod y ∈ tb ∧ Cond.selects C y y ∈ tb) (hC : Cls ci C T N) (hk : k < L.2.2 ∧ L.1 k = .inl ci) (hR : d < D ∧ maxL ≤ 21) (hn : As.length = n) (hl : lv_has ls nL lv) (hcat : (rest.map fun v => v.category).sum ≤ 8) (hst : st0 = As.reverse ++ .ref (B + k) :: rest) (hdg : decode cc pc = .ok (.invokevirtual idx, 3))
    (kk : ∀ (H1 : Heap) (locs1 : List Loc), HX G L B σ' H1 → va_S (inW L B) s.heap H1 locs1 → W p l e (rmk D) s m args below meth c H1 locs1 0 0 Q (F0 m (pc + 3) ls (.long r :: rest))) : W p l e (rmk D) s m args below meth c H locs 0 0 Q (F0 m pc ls st0) :=
  g_cV X hH hS hM hw hC hk hR hn hl hcat hst hdg kk
theorem g_cSl {r : Int64} {idx n maxL : Nat} {y : MethodName} {bytes : ByteArray} {As : List Value} (X : Cx p s m args c cc nL own G) (hH : HX G L B σ H) (hS : va_S (inW L B) s.heap H locs) (hM : Ct l G L B y bytes maxL ret d As (some (.long r)) σ σ') (hw : CwB own idx y bytes maxL ret n ∧ Cond.static y ∈ tb) (hR : d < D ∧ maxL ≤ 21) (hn : As.length = n) (hl : lv_has ls nL lv) (hcat : (rest.map fun v => v.category).sum ≤ 8) (hst : st0 = As.reverse ++ rest) (hdg : decode cc pc = .ok (.invokestatic idx, 3))
    (kk : ∀ (H1 : Heap) (locs1 : List Loc), HX G L B σ' H1 → va_S (inW L B) s.heap H1 locs1 → W p l e (rmk D) s m args below meth c H1 locs1 0 0 Q (F0 m (pc + 3) ls (.long r :: rest))) : W p l e (rmk D) s m args below meth c H locs 0 0 Q (F0 m pc ls st0) :=
  g_cS X hH hS hM hw hR hn hl hcat hst hdg kk
theorem g_cVr {r : Nat} {idx k n maxL ci N : Nat} {y : MethodName} {bytes : ByteArray} {As : List Value} {T : u_T} {C : String} (X : Cx p s m args c cc nL own G) (hH : HX G L B σ H) (hS : va_S (inW L B) s.heap H locs) (hM : Ct l G L B y bytes maxL ret d (.ref (B + k) :: As) (some (.ref (B + r))) σ σ') (hw : CwB own idx y bytes maxL ret n ∧ Cond.instanceMethod y ∈ tb ∧ Cond.selects C y y ∈ tb) (hC : Cls ci C T N) (hk : k < L.2.2 ∧ L.1 k = .inl ci) (hR : d < D ∧ maxL ≤ 21) (hn : As.length = n) (hl : lv_has ls nL lv) (hcat : (rest.map fun v => v.category).sum ≤ 8) (hst : st0 = As.reverse ++ .ref (B + k) :: rest) (hdg : decode cc pc = .ok (.invokevirtual idx, 3))
    (kk : ∀ (H1 : Heap) (locs1 : List Loc), HX G L B σ' H1 → va_S (inW L B) s.heap H1 locs1 → W p l e (rmk D) s m args below meth c H1 locs1 0 0 Q (F0 m (pc + 3) ls (.ref (B + r) :: rest))) : W p l e (rmk D) s m args below meth c H locs 0 0 Q (F0 m pc ls st0) :=
  g_cV X hH hS hM hw hC hk hR hn hl hcat hst hdg kk
theorem g_cSr {r : Nat} {idx n maxL : Nat} {y : MethodName} {bytes : ByteArray} {As : List Value} (X : Cx p s m args c cc nL own G) (hH : HX G L B σ H) (hS : va_S (inW L B) s.heap H locs) (hM : Ct l G L B y bytes maxL ret d As (some (.ref (B + r))) σ σ') (hw : CwB own idx y bytes maxL ret n ∧ Cond.static y ∈ tb) (hR : d < D ∧ maxL ≤ 21) (hn : As.length = n) (hl : lv_has ls nL lv) (hcat : (rest.map fun v => v.category).sum ≤ 8) (hst : st0 = As.reverse ++ rest) (hdg : decode cc pc = .ok (.invokestatic idx, 3))
    (kk : ∀ (H1 : Heap) (locs1 : List Loc), HX G L B σ' H1 → va_S (inW L B) s.heap H1 locs1 → W p l e (rmk D) s m args below meth c H1 locs1 0 0 Q (F0 m (pc + 3) ls (.ref (B + r) :: rest))) : W p l e (rmk D) s m args below meth c H locs 0 0 Q (F0 m pc ls st0) :=
  g_cS X hH hS hM hw hR hn hl hcat hst hdg kk
theorem g_cVv {idx k n maxL ci N : Nat} {y : MethodName} {bytes : ByteArray} {As : List Value} {T : u_T} {C : String} (X : Cx p s m args c cc nL own G) (hH : HX G L B σ H) (hS : va_S (inW L B) s.heap H locs) (hM : Ct l G L B y bytes maxL ret d (.ref (B + k) :: As) none σ σ') (hw : CwB own idx y bytes maxL ret n ∧ Cond.instanceMethod y ∈ tb ∧ Cond.selects C y y ∈ tb) (hC : Cls ci C T N) (hk : k < L.2.2 ∧ L.1 k = .inl ci) (hR : d < D ∧ maxL ≤ 21) (hn : As.length = n) (hl : lv_has ls nL lv) (hcat : (rest.map fun v => v.category).sum ≤ 8) (hst : st0 = As.reverse ++ .ref (B + k) :: rest) (hdg : decode cc pc = .ok (.invokevirtual idx, 3))
    (kk : ∀ (H1 : Heap) (locs1 : List Loc), HX G L B σ' H1 → va_S (inW L B) s.heap H1 locs1 → W p l e (rmk D) s m args below meth c H1 locs1 0 0 Q (F0 m (pc + 3) ls (rest))) : W p l e (rmk D) s m args below meth c H locs 0 0 Q (F0 m pc ls st0) :=
  g_cV X hH hS hM hw hC hk hR hn hl hcat hst hdg kk
theorem g_cSv {idx n maxL : Nat} {y : MethodName} {bytes : ByteArray} {As : List Value} (X : Cx p s m args c cc nL own G) (hH : HX G L B σ H) (hS : va_S (inW L B) s.heap H locs) (hM : Ct l G L B y bytes maxL ret d As none σ σ') (hw : CwB own idx y bytes maxL ret n ∧ Cond.static y ∈ tb) (hR : d < D ∧ maxL ≤ 21) (hn : As.length = n) (hl : lv_has ls nL lv) (hcat : (rest.map fun v => v.category).sum ≤ 8) (hst : st0 = As.reverse ++ rest) (hdg : decode cc pc = .ok (.invokestatic idx, 3))
    (kk : ∀ (H1 : Heap) (locs1 : List Loc), HX G L B σ' H1 → va_S (inW L B) s.heap H1 locs1 → W p l e (rmk D) s m args below meth c H1 locs1 0 0 Q (F0 m (pc + 3) ls (rest))) : W p l e (rmk D) s m args below meth c H locs 0 0 Q (F0 m pc ls st0) :=
  g_cS X hH hS hM hw hR hn hl hcat hst hdg kk
end HXD
