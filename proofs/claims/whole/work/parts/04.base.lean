/-! ===== the words that a call may hand on ===== -/
def tb : List Cond := lw_tbl.filter goodWord
theorem tb_in {w : Cond} (i : Nat) (h : lw_tbl[i]? = some w) (hg : goodWord w = true) : w ∈ tb := List.mem_filter.mpr ⟨List.mem_of_getElem? h, hg⟩
theorem tb_hts {args : Array Value} {s : State} (h : ∀ w ∈ lw_tbl, w.before args s = true) : ∀ w ∈ tb, w.before args s = true := fun w hw => h w (List.mem_filter.mp hw).1
theorem inX0 : ∀ w ∈ u_ws RX0 TX0 5, w ∈ tb := by decide +kernel
theorem inX1 : ∀ w ∈ u_ws RX1 TX1 2, w ∈ tb := by decide +kernel
theorem inX2 : ∀ w ∈ u_ws RX2 TX2 6, w ∈ tb := by decide +kernel
theorem inX3 : ∀ w ∈ u_ws RX3 TX3 4, w ∈ tb := by decide +kernel
theorem inX4 : ∀ w ∈ u_ws RX4 TX4 7, w ∈ tb := by decide +kernel
theorem inX5 : ∀ w ∈ u_ws RX5 TX5 9, w ∈ tb := by decide +kernel
theorem inX6 : ∀ w ∈ u_ws RX6 TX6 3, w ∈ tb := by decide +kernel
theorem inX7 : ∀ w ∈ u_ws RX7 TX7 8, w ∈ tb := by decide +kernel
theorem inX8 : ∀ w ∈ u_ws RX8 TX8 28, w ∈ tb := by decide +kernel
/-! ===== the store: ints and longs by cell and place; the layout: what each cell is; the picture of the heap ===== -/
abbrev Sto : Type := (Nat → Nat → Int32) × (Nat → Nat → Int64)
def pI (σ : Sto) (k j : Nat) (x : Int32) : Sto := (fun a b => if a = k ∧ b = j then x else σ.1 a b, σ.2)
def pL (σ : Sto) (k j : Nat) (x : Int64) : Sto := (σ.1, fun a b => if a = k ∧ b = j then x else σ.2 a b)
def cpI (σ : Sto) (k1 sp k2 dp n : Nat) : Sto := (fun a b => if a = k2 ∧ dp ≤ b ∧ b < dp + n then σ.1 k1 (sp + (b - dp)) else σ.1 a b, σ.2)
def cpL (σ : Sto) (k1 sp k2 dp n : Nat) : Sto := (σ.1, fun a b => if a = k2 ∧ dp ≤ b ∧ b < dp + n then σ.2 k1 (sp + (b - dp)) else σ.2 a b)
abbrev Kind : Type := Nat ⊕ (FieldType × Nat)
abbrev Lay : Type := (Nat → Kind) × (Nat → Nat → Nat) × Nat
abbrev Gd : Type := (Nat → ClassId) × (Nat → Nat → Nat) × (FieldType → ClassId)
def tyOf (ci : Nat) : Nat → FieldType := match ci with
  | 0 => tyX0
  | 1 => tyX1
  | 2 => tyX2
  | 3 => tyX3
  | 4 => tyX4
  | 5 => tyX5
  | 6 => tyX6
  | 7 => tyX7
  | _ => tyX8
def eTys : List FieldType := [.int, .long, .boolean, .object "SlackProofs$Clause", .object "SlackProofs$Book", .array .int]
def vl (L : Lay) (B : Nat) (σ : Sto) (ty : FieldType) (k j : Nat) : Value := match ty with
  | .int => .int (σ.1 k j)
  | .boolean => .int (σ.1 k j)
  | .long => .long (σ.2 k j)
  | _ => .ref (B + L.2.1 k j)
def cAt (G : Gd) (L : Lay) (B : Nat) (σ : Sto) (k : Nat) (H : Heap) : Prop := match L.1 k with
  | .inl ci => ∃ r : vw_C, vwCl[ci]? = some r ∧ t_OB (B + k) (G.1 ci) r.2.2 (G.2.1 ci) H (fun j => vl L B σ (tyOf ci j) k j)
  | .inr a => H[B + k]? = some (arrV (G.2.2 a.1) a.2 (fun j => vl L B σ a.1 k j))
def HX (G : Gd) (L : Lay) (B : Nat) (σ : Sto) (H : Heap) : Prop := ∀ k, k < L.2.2 → cAt G L B σ k H
def KK (G : Gd) (U : State) : Prop := (∀ (ci : Nat) (q : vw_C), vwCl[ci]? = some q → u_Kn U q.1 q.2.1 q.2.2 (G.1 ci) (G.2.1 ci)) ∧ ∀ ty ∈ eTys, ArrOfT U (G.2.2 ty) ty ∧ va_RA U (G.2.2 ty) ty
theorem KK.moved {G : Gd} {u U : State} (hvm : u.vm.Alike U.vm) (h : KK G u) : KK G U := ⟨fun c q hq => u_Kn_moved hvm (h.1 c q hq), fun ty ht => ⟨arrOfT_moved hvm (h.2 ty ht).1, va_RA.moved hvm (h.2 ty ht).2⟩⟩
def inW (L : Lay) (B q : Nat) : Prop := B ≤ q ∧ q < B + L.2.2
def Cx (p : Program) (s : State) (m : MethodId) (args : Array Value) (c : Code) (cc : ByteArray) (nL : Nat) (own : String) (G : Gd) : Prop :=
  p.tables.exec = Jvm.exec ∧ c.code = cc ∧ c.maxLocals = nL ∧ s.vm.findClass own = some m.cls ∧ (∀ w ∈ tb, w.before args s = true) ∧ KK G s
/-- a class of the tables: its number, its row, its fields' types -/
def Cls (ci : Nat) (C : String) (T : u_T) (N : Nat) : Prop := vwCl[ci]? = some (C, T, N) ∧ (∀ w ∈ u_ws C T N, w ∈ tb) ∧ (∀ k, k < N → parseFieldDescriptor (T k).2.2.1 = some (tyOf ci k)) ∧ ∀ a, a < N → ∀ b, b < N → a ≠ b → (T a).2.1 ≠ (T b).2.1
theorem kX0 : Cls 0 RX0 TX0 5 := ⟨rfl, inX0, tyX0_ok, nmX0⟩
theorem kX1 : Cls 1 RX1 TX1 2 := ⟨rfl, inX1, tyX1_ok, nmX1⟩
theorem kX2 : Cls 2 RX2 TX2 6 := ⟨rfl, inX2, tyX2_ok, nmX2⟩
theorem kX3 : Cls 3 RX3 TX3 4 := ⟨rfl, inX3, tyX3_ok, nmX3⟩
theorem kX4 : Cls 4 RX4 TX4 7 := ⟨rfl, inX4, tyX4_ok, nmX4⟩
theorem kX5 : Cls 5 RX5 TX5 9 := ⟨rfl, inX5, tyX5_ok, nmX5⟩
theorem kX6 : Cls 6 RX6 TX6 3 := ⟨rfl, inX6, tyX6_ok, nmX6⟩
theorem kX7 : Cls 7 RX7 TX7 8 := ⟨rfl, inX7, tyX7_ok, nmX7⟩
theorem kX8 : Cls 8 RX8 TX8 28 := ⟨rfl, inX8, tyX8_ok, nmX8⟩
theorem tbl_good : ∀ w ∈ tb, ((w.onTables && w.keeps) = true ∨ ∃ ty, w = .arrayClass ty) := fun _ hw => good_of_word (List.mem_filter.mp hw).2
section HXP
variable {G : Gd} {L : Lay} {B : Nat} {σ σ' : Sto} {H H1 : Heap} {k k' j j' : Nat} {ty : FieldType}
theorem vl_pI_k {x : Int32} (h : k' ≠ k) : vl L B (pI σ k j x) ty k' j' = vl L B σ ty k' j' := by
  cases ty <;> simp [vl, pI, h]
theorem vl_pI_j {x : Int32} (h : j' ≠ j) : vl L B (pI σ k j x) ty k j' = vl L B σ ty k j' := by
  cases ty <;> simp [vl, pI, h]
theorem vl_pI_at {x : Int32} (h : ty = .int ∨ ty = .boolean) : vl L B (pI σ k j x) ty k j = .int x := by
  rcases h with rfl | rfl <;> simp [vl, pI]
theorem vl_pL_k {x : Int64} (h : k' ≠ k) : vl L B (pL σ k j x) ty k' j' = vl L B σ ty k' j' := by
  cases ty <;> simp [vl, pL, h]
theorem vl_pL_j {x : Int64} (h : j' ≠ j) : vl L B (pL σ k j x) ty k j' = vl L B σ ty k j' := by
  cases ty <;> simp [vl, pL, h]
theorem vl_pL_at {x : Int64} : vl L B (pL σ k j x) .long k j = .long x := by
  simp [vl, pL]
theorem cAt.kept (h : cAt G L B σ k H) (hv : ∀ ty j, vl L B σ' ty k j = vl L B σ ty k j) (hq : H1[B + k]? = H[B + k]?) : cAt G L B σ' k H1 := by
  unfold cAt at h ⊢
  cases hk : L.1 k with
  | inl ci =>
    simp only [hk] at h ⊢
    obtain ⟨r, h1, h2⟩ := h
    exact ⟨r, h1, (h2.kept hq).to (fun j _ => (hv _ _).symm)⟩
  | inr a =>
    simp only [hk] at h ⊢
    rw [hq, h, show (fun j => vl L B σ' a.1 k j) = fun j => vl L B σ a.1 k j from funext (hv _)]
theorem HX.set (h : HX G L B σ H) (hk : cAt G L B σ' k H1) (hv : ∀ k', k' ≠ k → ∀ ty j, vl L B σ' ty k' j = vl L B σ ty k' j) (oq : ∀ q, q ≠ B + k → H1[q]? = H[q]?) : HX G L B σ' H1 := by
  intro k' hk'
  by_cases e : k' = k
  · subst e
    exact hk
  · exact (h k' hk').kept (hv k' e) (oq _ (by omega))
theorem HX.kept (h : HX G L B σ H) (oq : ∀ q, B ≤ q → q < B + L.2.2 → H1[q]? = H[q]?) : HX G L B σ H1 := fun k hk => (h k hk).kept (fun _ _ => rfl) (oq _ (by omega) (by omega))
theorem cAt.obj {ci : Nat} {r : vw_C} {V : Nat → Value} (hkd : L.1 k = .inl ci) (hc : vwCl[ci]? = some r) (h : t_OB (B + k) (G.1 ci) r.2.2 (G.2.1 ci) H V) (hV : ∀ j, j < r.2.2 → V j = vl L B σ (tyOf ci j) k j) : cAt G L B σ k H := by
  unfold cAt
  simp only [hkd]
  exact ⟨r, hc, h.to hV⟩
theorem cAt.arr {a : FieldType × Nat} {V : Nat → Value} (hkd : L.1 k = .inr a) (h : H[B + k]? = some (arrV (G.2.2 a.1) a.2 V)) (hV : ∀ j, V j = vl L B σ a.1 k j) : cAt G L B σ k H := by
  unfold cAt
  simp only [hkd]
  rw [h, show V = fun j => vl L B σ a.1 k j from funext hV]
theorem HX.toObj {ci : Nat} {C : String} {T : u_T} {N : Nat} (h : HX G L B σ H) (hk : k < L.2.2) (hkd : L.1 k = .inl ci) (hc : vwCl[ci]? = some (C, T, N)) : t_OB (B + k) (G.1 ci) N (G.2.1 ci) H (fun j => vl L B σ (tyOf ci j) k j) := by
  have h1 := h k hk
  unfold cAt at h1
  simp only [hkd] at h1
  obtain ⟨r, hr, h2⟩ := h1
  have hr : r = (C, T, N) := Option.some.inj (hr.symm.trans hc)
  subst hr
  exact h2
theorem HX.toArr {a : FieldType × Nat} (h : HX G L B σ H) (hk : k < L.2.2) (hkd : L.1 k = .inr a) : H[B + k]? = some (arrV (G.2.2 a.1) a.2 (fun j => vl L B σ a.1 k j)) := by
  have h1 := h k hk
  unfold cAt at h1
  simp only [hkd] at h1
  exact h1
end HXP
section HXS
variable {p : Program} {l : Launch} {e : Env} {R : Room} {s : State} {m : MethodId} {args : Array Value} {below : List Frame} {meth : Method} {c : Code} {H : Heap} {locs : List Loc} {cells slots : Nat} {Q : State → Prop}
variable {cc : ByteArray} {pc nL : Nat} {ls : Array Slot} {rest : List Value} {own : String} {G : Gd} {L : Lay} {B : Nat} {σ : Sto} {A : Nat → Prop} {H0 : Heap}
theorem g_get {C : String} {T : u_T} {N ci : Nat} (hC : Cls ci C T N) {j index : Nat} (hj : j < N) (hl : Cond.fieldLink own index (T j).1 (T j).2.1 (T j).2.2.1 ∈ tb) (X : Cx p s m args c cc nL own G) (hH : HX G L B σ H) {k : Nat} (hk : k < L.2.2 ∧ L.1 k = .inl ci) {v : Value} (hv : vl L B σ (tyOf ci j) k j = v) (hdg : decode cc pc = .ok (.getfield index, 3))
    (kk : W p l e R s m args below meth c H locs cells slots Q (F0 m (pc + 3) ls (v :: rest))) : W p l e R s m args below meth c H locs cells slots Q (F0 m pc ls (.ref (B + k) :: rest)) := by
  obtain ⟨hx, hb, hml, hown, hts, hK⟩ := X
  obtain ⟨hc, hin, hty, hnm⟩ := hC
  obtain ⟨cell, q1, q2, q3, q4⟩ := hH.toObj hk.1 hk.2 hc
  obtain ⟨hS, hfc, kC, hkC, hkind⟩ := hK.1 ci _ hc
  obtain ⟨cf, kf, fi, f, hi, hsl⟩ := hS j hj
  refine W.getf hx hb hown (hts _ hl) hi (u_facts hfc hkC (u_lays hts hin hj) hi).1 q1 (by rw [q3]; exact fun h => by cases h) (v := v) ?_ rfl rfl hdg kk
  rw [hsl, q4 j hj]
  exact congrArg some hv
theorem g_put {C : String} {T : u_T} {N ci : Nat} (hC : Cls ci C T N) {j index : Nat} (hj : j < N) (hl : Cond.fieldLink own index (T j).1 (T j).2.1 (T j).2.2.1 ∈ tb) (hfin : (T j).2.2.2 = false) (X : Cx p s m args c cc nL own G) (hH : HX G L B σ H) (hS0 : va_S A H0 H locs) {k : Nat} (hk : k < L.2.2 ∧ L.1 k = .inl ci) (hA : A (B + k)) {v : Value} (hn : narrow (tyOf ci j) v = v) (hfit : fits (tyOf ci j) v = true) {σ' : Sto} (hv1 : vl L B σ' (tyOf ci j) k j = v) (hv2 : ∀ (ty : FieldType) (j' : Nat), j' ≠ j → vl L B σ' ty k j' = vl L B σ ty k j') (hv3 : ∀ k', k' ≠ k → ∀ (ty : FieldType) (j' : Nat), vl L B σ' ty k' j' = vl L B σ ty k' j') (hdg : decode cc pc = .ok (.putfield index, 3))
    (kk : ∀ (H1 : Heap) (locs1 : List Loc), HX G L B σ' H1 → va_S A H0 H1 locs1 → W p l e R s m args below meth c H1 locs1 cells slots Q (F0 m (pc + 3) ls rest)) : W p l e R s m args below meth c H locs cells slots Q (F0 m pc ls (v :: .ref (B + k) :: rest)) := by
  obtain ⟨hx, hb, hml, hown, hts, hK⟩ := X
  obtain ⟨hc, hin, hty, hnm⟩ := hC
  have hap := va_apart (own := own) (D := (G.1, G.2.1)) (cl := vwCl) (tys := []) hts hin (tyOf ci) hty hnm ⟨hK.1, fun k q h => by simp at h⟩ hc
  obtain ⟨cell, q1, q2, q3, q4⟩ := hH.toObj hk.1 hk.2 hc
  obtain ⟨hS, hfc, kC, hkC, hkind⟩ := hK.1 ci _ hc
  obtain ⟨cf, kf, fi, f, hi, hsl⟩ := hS j hj
  have hlay := hts _ (hin _ (u_in_lay hj))
  unfold u_lay at hlay
  rw [if_neg (by rw [hfin]; decide)] at hlay
  have hst := (u_facts hfc hkC (u_lays hts hin hj) hi).1
  have h6 := u_store hfc hkC hkind hlay hi (hty j hj) hn hfit
  refine W.putK hx hb (f := f) ⟨hown, hts _ hl, ⟨_, _, _, hi⟩, hst⟩ (by rw [q2]; exact h6) q1 q3 (by rw [hsl]; exact k2_hasslot (q4 j hj)) rfl rfl hdg fun H' e1 e2 e3 => ?_
  rw [hsl] at e1 ⊢
  refine kk H' _ (hH.set (cAt.obj (V := updV (fun j => vl L B σ (tyOf ci j) k j) j v) hk.2 hc ⟨_, e1, q2, q3, t_set q4 hap hj v⟩ (fun j' _ => ?_)) hv3 e3) (hS0.put e2 e3 hA)
  by_cases e : j' = j
  · subst e
    simp only [updV, if_true]
    exact hv1.symm
  · simp only [updV, if_neg e]
    exact (hv2 _ _ e).symm
theorem g_putI {C : String} {T : u_T} {N ci : Nat} (hC : Cls ci C T N) {j index : Nat} (hj : j < N) (hl : Cond.fieldLink own index (T j).1 (T j).2.1 (T j).2.2.1 ∈ tb) (hfin : (T j).2.2.2 = false) (hti : tyOf ci j = .int) (X : Cx p s m args c cc nL own G) (hH : HX G L B σ H) (hS0 : va_S (inW L B) H0 H locs) {k : Nat} (hk : k < L.2.2 ∧ L.1 k = .inl ci) {x : Int32} (hdg : decode cc pc = .ok (.putfield index, 3))
    (kk : ∀ (H1 : Heap) (locs1 : List Loc), HX G L B (pI σ k j x) H1 → va_S (inW L B) H0 H1 locs1 → W p l e R s m args below meth c H1 locs1 cells slots Q (F0 m (pc + 3) ls rest)) : W p l e R s m args below meth c H locs cells slots Q (F0 m pc ls (.int x :: .ref (B + k) :: rest)) :=
  g_put hC hj hl hfin X hH hS0 hk ⟨by omega, by omega⟩ (by rw [hti]; rfl) (by rw [hti]; rfl) (vl_pI_at (Or.inl hti)) (fun _ _ h => vl_pI_j h) (fun _ h _ _ => vl_pI_k h) hdg kk
theorem g_putZ {C : String} {T : u_T} {N ci : Nat} (hC : Cls ci C T N) {j index : Nat} (hj : j < N) (hl : Cond.fieldLink own index (T j).1 (T j).2.1 (T j).2.2.1 ∈ tb) (hfin : (T j).2.2.2 = false) (hti : tyOf ci j = .boolean) (X : Cx p s m args c cc nL own G) (hH : HX G L B σ H) (hS0 : va_S (inW L B) H0 H locs) {k : Nat} (hk : k < L.2.2 ∧ L.1 k = .inl ci) {x : Int32} (hx : narrow .boolean (.int x) = .int x ∧ fits .boolean (.int x) = true) (hdg : decode cc pc = .ok (.putfield index, 3))
    (kk : ∀ (H1 : Heap) (locs1 : List Loc), HX G L B (pI σ k j x) H1 → va_S (inW L B) H0 H1 locs1 → W p l e R s m args below meth c H1 locs1 cells slots Q (F0 m (pc + 3) ls rest)) : W p l e R s m args below meth c H locs cells slots Q (F0 m pc ls (.int x :: .ref (B + k) :: rest)) :=
  g_put hC hj hl hfin X hH hS0 hk ⟨by omega, by omega⟩ (by rw [hti]; exact hx.1) (by rw [hti]; exact hx.2) (vl_pI_at (Or.inr hti)) (fun _ _ h => vl_pI_j h) (fun _ h _ _ => vl_pI_k h) hdg kk
theorem g_putL {C : String} {T : u_T} {N ci : Nat} (hC : Cls ci C T N) {j index : Nat} (hj : j < N) (hl : Cond.fieldLink own index (T j).1 (T j).2.1 (T j).2.2.1 ∈ tb) (hfin : (T j).2.2.2 = false) (hti : tyOf ci j = .long) (X : Cx p s m args c cc nL own G) (hH : HX G L B σ H) (hS0 : va_S (inW L B) H0 H locs) {k : Nat} (hk : k < L.2.2 ∧ L.1 k = .inl ci) {x : Int64} (hdg : decode cc pc = .ok (.putfield index, 3))
    (kk : ∀ (H1 : Heap) (locs1 : List Loc), HX G L B (pL σ k j x) H1 → va_S (inW L B) H0 H1 locs1 → W p l e R s m args below meth c H1 locs1 cells slots Q (F0 m (pc + 3) ls rest)) : W p l e R s m args below meth c H locs cells slots Q (F0 m pc ls (.long x :: .ref (B + k) :: rest)) :=
  g_put hC hj hl hfin X hH hS0 hk ⟨by omega, by omega⟩ (by rw [hti]; rfl) (by rw [hti]; rfl) (by rw [hti]; exact vl_pL_at) (fun _ _ h => vl_pL_j h) (fun _ h _ _ => vl_pL_k h) hdg kk
theorem g_iald (X : Cx p s m args c cc nL own G) (hH : HX G L B σ H) {k n : Nat} (hk : k < L.2.2 ∧ L.1 k = .inr (.int, n)) {i : Int32} (hin : ¬ (i < 0 ∨ n ≤ i.toNatClampNeg)) {j : Nat} (hj : i.toNatClampNeg = j) (hdg : decode cc pc = .ok (.iaload, 1))
    (kk : W p l e R s m args below meth c H locs cells slots Q (F0 m (pc + 1) ls (.int (σ.1 k j) :: rest))) : W p l e R s m args below meth c H locs cells slots Q (F0 m pc ls (.int i :: .ref (B + k) :: rest))   := by
  subst hj
  obtain ⟨hx, hb, hml, hown, hts, hK⟩ := X
  have hlt : i.toNatClampNeg < n := Nat.not_le.mp fun q => hin (Or.inr q)
  exact W.iald (v := .int (σ.1 k i.toNatClampNeg)) hx hb (hH.toArr hk.1 hk.2) ((hK.2 .int (by decide)).1 n _) (fun q => by cases q) (by rw [arrV_size]; exact hin) (by rw [arrV_read _ _ hlt]; rfl) rfl rfl hdg kk
theorem g_lald (X : Cx p s m args c cc nL own G) (hH : HX G L B σ H) {k n : Nat} (hk : k < L.2.2 ∧ L.1 k = .inr (.long, n)) {i : Int32} (hin : ¬ (i < 0 ∨ n ≤ i.toNatClampNeg)) {j : Nat} (hj : i.toNatClampNeg = j) (hdg : decode cc pc = .ok (.laload, 1))
    (kk : W p l e R s m args below meth c H locs cells slots Q (F0 m (pc + 1) ls (.long (σ.2 k j) :: rest))) : W p l e R s m args below meth c H locs cells slots Q (F0 m pc ls (.int i :: .ref (B + k) :: rest))   := by
  subst hj
  obtain ⟨hx, hb, hml, hown, hts, hK⟩ := X
  have hlt : i.toNatClampNeg < n := Nat.not_le.mp fun q => hin (Or.inr q)
  exact W.lald (v := .long (σ.2 k i.toNatClampNeg)) hx hb (hH.toArr hk.1 hk.2) ((hK.2 .long (by decide)).1 n _) (fun q => by cases q) (by rw [arrV_size]; exact hin) (by rw [arrV_read _ _ hlt]; rfl) rfl rfl hdg kk
theorem g_zald (X : Cx p s m args c cc nL own G) (hH : HX G L B σ H) {k n : Nat} (hk : k < L.2.2 ∧ L.1 k = .inr (.boolean, n)) {i : Int32} (hin : ¬ (i < 0 ∨ n ≤ i.toNatClampNeg)) {j : Nat} (hj : i.toNatClampNeg = j) (hdg : decode cc pc = .ok (.baload, 1))
    (kk : W p l e R s m args below meth c H locs cells slots Q (F0 m (pc + 1) ls (.int (σ.1 k j) :: rest))) : W p l e R s m args below meth c H locs cells slots Q (F0 m pc ls (.int i :: .ref (B + k) :: rest))   := by
  subst hj
  obtain ⟨hx, hb, hml, hown, hts, hK⟩ := X
  have hlt : i.toNatClampNeg < n := Nat.not_le.mp fun q => hin (Or.inr q)
  exact W.zald (v := .int (σ.1 k i.toNatClampNeg)) hx hb (hH.toArr hk.1 hk.2) ((hK.2 .boolean (by decide)).1 n _) (fun q => by cases q) (by rw [arrV_size]; exact hin) (by rw [arrV_read _ _ hlt]; rfl) rfl rfl hdg kk
theorem g_aald (X : Cx p s m args c cc nL own G) (hH : HX G L B σ H) {k n : Nat} {ty : FieldType} (hk : k < L.2.2 ∧ L.1 k = .inr (ty, n)) (hty : ty ∈ eTys ∧ ty.isReference = true) {i : Int32} (hin : ¬ (i < 0 ∨ n ≤ i.toNatClampNeg)) {b : Nat} (hr : L.2.1 k i.toNatClampNeg = b) (hdg : decode cc pc = .ok (.aaload, 1))
    (kk : W p l e R s m args below meth c H locs cells slots Q (F0 m (pc + 1) ls (.ref (B + b) :: rest))) : W p l e R s m args below meth c H locs cells slots Q (F0 m pc ls (.int i :: .ref (B + k) :: rest)) := by
  obtain ⟨hx, hb, hml, hown, hts, hK⟩ := X
  have hlt : i.toNatClampNeg < n := Nat.not_le.mp fun q => hin (Or.inr q)
  subst hr
  refine W.aald (v := .ref (B + L.2.1 k i.toNatClampNeg)) (ty := ty) hx hb (hH.toArr hk.1 hk.2) ((hK.2 ty hty.1).1 n _) hty.2 (fun q => by cases q) (by rw [arrV_size]; exact hin) (by
    rw [arrV_read _ _ hlt]
    have h2 := hty.2
    cases ty <;> first | rfl | (exact absurd h2 (by decide))) rfl rfl hdg kk
theorem g_alen (X : Cx p s m args c cc nL own G) (hH : HX G L B σ H) {k n : Nat} {ty : FieldType} (hk : k < L.2.2 ∧ L.1 k = .inr (ty, n)) (hty : ty ∈ eTys) (hdg : decode cc pc = .ok (.arraylength, 1))
    (kk : W p l e R s m args below meth c H locs cells slots Q (F0 m (pc + 1) ls (.int (nI n) :: rest))) : W p l e R s m args below meth c H locs cells slots Q (F0 m pc ls (.ref (B + k) :: rest)) := by
  obtain ⟨hx, hb, hml, hown, hts, hK⟩ := X
  exact W.alen (n := nI n) hx hb (hH.toArr hk.1 hk.2) ((hK.2 ty hty).1 n _) (by rw [arrV_size]; rfl) rfl rfl hdg kk
theorem g_iast (X : Cx p s m args c cc nL own G) (hH : HX G L B σ H) (hS0 : va_S (inW L B) H0 H locs) {k n : Nat} (hk : k < L.2.2 ∧ L.1 k = .inr (.int, n)) {i x : Int32} (hin : ¬ (i < 0 ∨ n ≤ i.toNatClampNeg)) {j : Nat} (hj : i.toNatClampNeg = j) (hdg : decode cc pc = .ok (.iastore, 1))
    (kk : ∀ (H1 : Heap) (locs1 : List Loc), HX G L B (pI σ k j x) H1 → va_S (inW L B) H0 H1 locs1 → W p l e R s m args below meth c H1 locs1 cells slots Q (F0 m (pc + 1) ls rest)) : W p l e R s m args below meth c H locs cells slots Q (F0 m pc ls (.int x :: .int i :: .ref (B + k) :: rest))   := by
  subst hj
  obtain ⟨hx, hb, hml, hown, hts, hK⟩ := X
  refine W.iast hx hb (hH.toArr hk.1 hk.2) ((hK.2 .int (by decide)).1 n _) (fun q => by cases q) (by rw [arrV_size]; exact hin) rfl rfl hdg fun H1 e1 z oq => ?_
  rw [arrV_store] at e1
  refine kk H1 _ (hH.set (cAt.arr hk.2 e1 (fun j => ?_)) (fun _ h _ _ => vl_pI_k h) oq) (hS0.put z oq ⟨by omega, by omega⟩)
  by_cases hq : j = i.toNatClampNeg
  · subst hq
    simp only [updV, if_true]
    exact (vl_pI_at (Or.inl rfl)).symm
  · simp only [updV, if_neg hq]
    exact (vl_pI_j hq).symm
theorem g_zast (X : Cx p s m args c cc nL own G) (hH : HX G L B σ H) (hS0 : va_S (inW L B) H0 H locs) {k n : Nat} (hk : k < L.2.2 ∧ L.1 k = .inr (.boolean, n)) {i x : Int32} (hn : narrow .boolean (.int x) = .int x) (hin : ¬ (i < 0 ∨ n ≤ i.toNatClampNeg)) {j : Nat} (hj : i.toNatClampNeg = j) (hdg : decode cc pc = .ok (.bastore, 1))
    (kk : ∀ (H1 : Heap) (locs1 : List Loc), HX G L B (pI σ k j x) H1 → va_S (inW L B) H0 H1 locs1 → W p l e R s m args below meth c H1 locs1 cells slots Q (F0 m (pc + 1) ls rest)) : W p l e R s m args below meth c H locs cells slots Q (F0 m pc ls (.int x :: .int i :: .ref (B + k) :: rest))   := by
  subst hj
  obtain ⟨hx, hb, hml, hown, hts, hK⟩ := X
  refine W.zast hx hb (hH.toArr hk.1 hk.2) ((hK.2 .boolean (by decide)).1 n _) (fun q => by cases q) (by rw [arrV_size]; exact hin) rfl rfl hdg fun H1 e1 z oq => ?_
  rw [hn, arrV_store] at e1
  refine kk H1 _ (hH.set (cAt.arr hk.2 e1 (fun j => ?_)) (fun _ h _ _ => vl_pI_k h) oq) (hS0.put z oq ⟨by omega, by omega⟩)
  by_cases hq : j = i.toNatClampNeg
  · subst hq
    simp only [updV, if_true]
    exact (vl_pI_at (Or.inr rfl)).symm
  · simp only [updV, if_neg hq]
    exact (vl_pI_j hq).symm
theorem g_last (X : Cx p s m args c cc nL own G) (hH : HX G L B σ H) (hS0 : va_S (inW L B) H0 H locs) {k n : Nat} (hk : k < L.2.2 ∧ L.1 k = .inr (.long, n)) {i : Int32} {x : Int64} (hin : ¬ (i < 0 ∨ n ≤ i.toNatClampNeg)) {j : Nat} (hj : i.toNatClampNeg = j) (hdg : decode cc pc = .ok (.lastore, 1))
    (kk : ∀ (H1 : Heap) (locs1 : List Loc), HX G L B (pL σ k j x) H1 → va_S (inW L B) H0 H1 locs1 → W p l e R s m args below meth c H1 locs1 cells slots Q (F0 m (pc + 1) ls rest)) : W p l e R s m args below meth c H locs cells slots Q (F0 m pc ls (.long x :: .int i :: .ref (B + k) :: rest))   := by
  subst hj
  obtain ⟨hx, hb, hml, hown, hts, hK⟩ := X
  refine W.last hx hb (hH.toArr hk.1 hk.2) ((hK.2 .long (by decide)).1 n _) (fun q => by cases q) (by rw [arrV_size]; exact hin) rfl rfl hdg fun H1 e1 z oq => ?_
  rw [arrV_store] at e1
  refine kk H1 _ (hH.set (cAt.arr hk.2 e1 (fun j => ?_)) (fun _ h _ _ => vl_pL_k h) oq) (hS0.put z oq ⟨by omega, by omega⟩)
  by_cases hq : j = i.toNatClampNeg
  · subst hq
    simp only [updV, if_true]
    exact vl_pL_at.symm
  · simp only [updV, if_neg hq]
    exact (vl_pL_j hq).symm
end HXS
