/-! ===== the heap while it is made: cells below n, their contents any values ===== -/
abbrev VS : Type := Nat → Nat → Value
def uV (V : VS) (k j : Nat) (v : Value) : VS := fun a b => if a = k ∧ b = j then v else V a b
def nV (V : VS) (k : Nat) (f : Nat → Value) : VS := fun a b => if a = k then f b else V a b
def vAt (G : Gd) (L : Lay) (B : Nat) (V : VS) (k : Nat) (H : Heap) : Prop := match L.1 k with
  | .inl ci => ∃ r : vw_C, vwCl[ci]? = some r ∧ t_OB (B + k) (G.1 ci) r.2.2 (G.2.1 ci) H (V k)
  | .inr a => H[B + k]? = some (arrV (G.2.2 a.1) a.2 (V k))
def HV (G : Gd) (L : Lay) (B : Nat) (V : VS) (n : Nat) (H : Heap) : Prop := H.size = B + n ∧ ∀ k, k < n → vAt G L B V k H
def nest1 : Cond := .methodLinkNest RX7 36 yX0_init "SlackProofs"
def nest2 : Cond := .methodLinkNest RX7 52 yX1_init "SlackProofs"
def va_AI (U : State) : Prop := (Cond.arrayOver (.array .int)).before #[] U = true
def KX (G : Gd) (U : State) : Prop := KK G U ∧ va_AO "SlackProofs$Clause" U ∧ va_AO "SlackProofs$Book" U ∧ va_AI U ∧ va_Nw nest1 U ∧ va_Nw nest2 U
theorem va_AI.moved {u U : State} (hvm : u.vm.Alike U.vm) (h : va_AI u) : va_AI U := by
  obtain ⟨comp, c, k, h1, h2, h3, h4, h5⟩ := arrayOverA_spec h
  obtain ⟨k', hk', he⟩ := hvm.2.2 _ _ h3
  have hi : (U.vm.classes.findIdx? fun (x : Class) => match x.kind with | .array component _ => component == comp | _ => false) = some c := by
    refine (va_idx_bare U.vm comp).symm.trans ?_
    first | rw [hvm.bare_eq] | rw [← hvm.bare_eq]
    exact (va_idx_bare u.vm comp).trans h2
  have hkind : k'.kind = .array comp (.array .int) := by rw [he]; exact h4
  have f1 : U.vm.findClass (FieldType.array .int).toString = some comp := by rw [hvm.findClass]; exact h1
  have f2 : U.vm.findClass ("[" ++ (FieldType.array .int).toString) = some c := by rw [hvm.findClass]; exact h5
  unfold va_AI Cond.before Cond.holds
  simp only [Cond.value]
  rw [f1, Option.bind_some]
  refine (congrArg (fun o : Option Nat => (o.bind (fun c => (U.vm.classes[c]?).map fun (k : Class) => match k.kind with | .array _ ty => decide (ty = FieldType.array .int) && decide (U.vm.findClass ("[" ++ (FieldType.array .int).toString) = some c) | _ => false) == some true)) hi).trans ?_
  simp [hk', hkind, f2]
theorem KX.warm {G : Gd} {u U : State} (hW : u.WarmedH U.vm) (h : KX G u) : KX G U := ⟨h.1.moved hW.alike, h.2.1.moved hW.alike, h.2.2.1.moved hW.alike, h.2.2.2.1.moved hW.alike, va_Nw.warmM hW h.2.2.2.2.1, va_Nw.warmM hW h.2.2.2.2.2⟩
theorem KX.same {G : Gd} {u U : State} (hvm : u.vm = U.vm) (h : KX G u) : KX G U := ⟨h.1.moved (by rw [hvm]; exact Vm.Alike.refl _), h.2.1.moved (by rw [hvm]; exact Vm.Alike.refl _), h.2.2.1.moved (by rw [hvm]; exact Vm.Alike.refl _), h.2.2.2.1.moved (by rw [hvm]; exact Vm.Alike.refl _), va_Nw.same rfl hvm h.2.2.2.2.1, va_Nw.same rfl hvm h.2.2.2.2.2⟩
section HVP
variable {G : Gd} {L : Lay} {B : Nat} {V V' : VS} {H H1 : Heap} {k n : Nat}
theorem vAt.kept (h : vAt G L B V k H) (hv : V' k = V k) (hq : H1[B + k]? = H[B + k]?) : vAt G L B V' k H1 := by
  unfold vAt at h ⊢
  cases hk : L.1 k with
  | inl ci =>
    simp only [hk] at h ⊢
    obtain ⟨r, h1, h2⟩ := h
    exact ⟨r, h1, (h2.kept hq).to (fun j _ => by rw [hv])⟩
  | inr a =>
    simp only [hk] at h ⊢
    rw [hq, h, hv]
theorem HV.set (h : HV G L B V n H) (hk : vAt G L B V' k H1) (hv : ∀ k', k' ≠ k → V' k' = V k') (hz : H1.size = H.size) (oq : ∀ q, q ≠ B + k → H1[q]? = H[q]?) : HV G L B V' n H1 := by
  refine ⟨by rw [hz]; exact h.1, fun k' hk' => ?_⟩
  by_cases e : k' = k
  · subst e
    exact hk
  · exact (h.2 k' hk').kept (hv k' e) (oq _ (by omega))
theorem HV.push (h : HV G L B V n H) (hk : vAt G L B V' n H1) (hv : ∀ k', k' ≠ n → V' k' = V k') (hz : H1.size = B + n + 1) (oq : ∀ q, q < B + n → H1[q]? = H[q]?) : HV G L B V' (n + 1) H1 := by
  refine ⟨by rw [hz]; omega, fun k' hk' => ?_⟩
  by_cases e : k' = n
  · subst e
    exact hk
  · exact (h.2 k' (by omega)).kept (hv k' e) (oq _ (by omega))
theorem uV_at {v : Value} {j : Nat} : uV V k j v k j = v := by simp [uV]
theorem uV_j {v : Value} {j j' : Nat} (h : j' ≠ j) : uV V k j v k j' = V k j' := by simp [uV, h]
theorem uV_k {v : Value} {j k' : Nat} (h : k' ≠ k) : uV V k j v k' = V k' := by funext b; simp [uV, h]
theorem nV_at {f : Nat → Value} : nV V k f k = f := by funext b; simp [nV]
theorem nV_k {f : Nat → Value} {k' : Nat} (h : k' ≠ k) : nV V k f k' = V k' := by funext b; simp [nV, h]
theorem HV.toObj {ci : Nat} {C : String} {T : u_T} {N : Nat} (h : HV G L B V n H) (hk : k < n) (hkd : L.1 k = .inl ci) (hc : vwCl[ci]? = some (C, T, N)) : t_OB (B + k) (G.1 ci) N (G.2.1 ci) H (V k) := by
  have h1 := h.2 k hk
  unfold vAt at h1
  simp only [hkd] at h1
  obtain ⟨r, hr, h2⟩ := h1
  have hr : r = (C, T, N) := Option.some.inj (hr.symm.trans hc)
  subst hr
  exact h2
theorem HV.toArr {a : FieldType × Nat} (h : HV G L B V n H) (hk : k < n) (hkd : L.1 k = .inr a) : H[B + k]? = some (arrV (G.2.2 a.1) a.2 (V k)) := by
  have h1 := h.2 k hk
  unfold vAt at h1
  simp only [hkd] at h1
  exact h1
theorem vAt.obj {ci : Nat} {r : vw_C} {W : Nat → Value} (hkd : L.1 k = .inl ci) (hc : vwCl[ci]? = some r) (h : t_OB (B + k) (G.1 ci) r.2.2 (G.2.1 ci) H W) (hV : ∀ j, j < r.2.2 → W j = V k j) : vAt G L B V k H := by
  unfold vAt
  simp only [hkd]
  exact ⟨r, hc, h.to hV⟩
theorem vAt.arr {a : FieldType × Nat} {W : Nat → Value} (hkd : L.1 k = .inr a) (h : H[B + k]? = some (arrV (G.2.2 a.1) a.2 W)) (hV : W = V k) : vAt G L B V k H := by
  unfold vAt
  simp only [hkd]
  rw [h, hV]
theorem arrV_cong {c : ClassId} {N : Nat} {f g : Nat → Value} (h : ∀ j, j < N → f j = g j) : arrV c N f = arrV c N g := by
  unfold arrV
  congr 1
  apply Array.ext
  · simp
  · intro i h1 h2
    simp at h1
    simp [h i h1]
end HVP
section HVR
variable {p : Program} {l : Launch} {e : Env} {R : Room} {s : State} {m : MethodId} {args : Array Value} {below : List Frame} {meth : Method} {c : Code} {H : Heap} {locs : List Loc} {cells slots : Nat} {Q : State → Prop}
variable {cc : ByteArray} {pc nL : Nat} {ls : Array Slot} {rest st0 : List Value} {own : String} {G : Gd} {L : Lay} {B : Nat} {V : VS} {H0 : Heap} {n : Nat}
theorem va_S.grow (h : va_S (fun q => B ≤ q) H0 H locs) {H1 : Heap} (hz : H.size ≤ H1.size) (oq : ∀ q, q < H.size → H1[q]? = H[q]?) : va_S (fun q => B ≤ q) H0 H1 locs := ⟨Nat.le_trans h.1 hz, fun q h1 h2 => by rw [oq q (Nat.lt_of_lt_of_le h1 h.1)]; exact h.2.1 q h1 h2, h.2.2⟩
theorem r_new (X : Cx p s m args c cc nL own G) (hV : HV G L B V n H) (hS : va_S (fun q => B ≤ q) H0 H locs) {C : String} {T : u_T} {N ci idx nw : Nat} (hC : Cls ci C T N) (hk : L.1 n = .inl ci) (hw : Cond.classLink own idx C ∈ tb ∧ Cond.instantiable C nw ∈ tb ∧ Cond.initialized C ∈ tb) (hcells : cells + 1 ≤ R.cells) (hslots : slots + nw ≤ R.slots) (hdg : decode cc pc = .ok (.new idx, 3))
    (kk : ∀ H1 : Heap, HV G L B (nV V n (fun j => defaultValue (tyOf ci j))) (n + 1) H1 → va_S (fun q => B ≤ q) H0 H1 locs → W p l e R s m args below meth c H1 locs (cells + 1) (slots + nw) Q (F0 m (pc + 3) ls (.ref (B + n) :: rest))) : W p l e R s m args below meth c H locs cells slots Q (F0 m pc ls rest) := by
  obtain ⟨hx, hb, hml, hown, hts, hK⟩ := X
  obtain ⟨hc, hin, hty, hnm⟩ := hC
  have hKn := hK.1 ci _ hc
  refine W.newcK hx hb hown (hts _ hw.1) (hts _ hw.2.1) (hts _ hw.2.2) rfl hdg hcells hslots hKn.2.1 hV.1 fun H1 kC hkC e1 z oq => ?_
  refine kk H1 (hV.push (vAt.obj hk hc (u_born (tyOf ci) hts hin hKn hkC e1 hty) (fun j _ => by rw [nV_at])) (fun k' h => nV_k h) z oq) (hS.grow (by rw [z, hV.1]; omega) (by rw [hV.1]; exact oq))
theorem r_newa (X : Cx p s m args c cc nL own G) (hV : HV G L B V n H) (hS : va_S (fun q => B ≤ q) H0 H locs) {atype : ArrayType} {N : Nat} (hty : newarray.typeOf atype ∈ eTys ∧ (newarray.typeOf atype).isReference = false) (hk : L.1 n = .inr (newarray.typeOf atype, N)) (hw : Cond.arrayClass (newarray.typeOf atype) ∈ tb) {k : Int32} (hn : ¬ k < 0) (hN : k.toNatClampNeg = N) (hbytes : N * componentBytes (newarray.typeOf atype) ≤ 536870912) (hcells : cells + 1 ≤ R.cells) (hslots : slots + N ≤ R.slots) (hdg : decode cc pc = .ok (.newarray atype, 2))
    (kk : ∀ H1 : Heap, HV G L B (nV V n (fun _ => defaultValue (newarray.typeOf atype))) (n + 1) H1 → va_S (fun q => B ≤ q) H0 H1 locs → W p l e R s m args below meth c H1 locs (cells + 1) (slots + N) Q (F0 m (pc + 2) ls (.ref (B + n) :: rest))) : W p l e R s m args below meth c H locs cells slots Q (F0 m pc ls (.int k :: rest)) := by
  obtain ⟨hx, hb, hml, hown, hts, hK⟩ := X
  subst hN
  refine W.newa hx hb (hts _ hw) rfl hdg rfl hn hbytes hcells hslots fun cA kA comp h1 h2 h3 => ?_
  have hra := (hK.2 _ hty.1).2
  have hcA : cA = G.2.2 (newarray.typeOf atype) := by
    have h4 : s.vm.findClass ("[" ++ (newarray.typeOf atype).toString) = some (G.2.2 (newarray.typeOf atype)) := by
      have h5 := hty.2
      revert hra h5
      cases newarray.typeOf atype <;> intro hra h5 <;> first | exact hra | (simp [FieldType.isReference] at h5)
    exact Option.some.inj (h1.symm.trans h4)
  subst hcA
  rw [show H.size = B + n from hV.1]
  rw [arrV_new]
  generalize hH1 : H.push (arrV (G.2.2 (newarray.typeOf atype)) k.toNatClampNeg (fun _ => defaultValue (newarray.typeOf atype))) = H1
  have z1 : H1.size = B + n + 1 := by rw [← hH1, Array.size_push, hV.1]
  have e1 : H1[B + n]? = some (arrV (G.2.2 (newarray.typeOf atype)) k.toNatClampNeg (fun _ => defaultValue (newarray.typeOf atype))) := by rw [← hH1, ← hV.1, Array.getElem?_push_size]
  have o1 : ∀ q : Nat, q < B + n → H1[q]? = H[q]? := fun q hq => by rw [← hH1, Array.getElem?_push, if_neg (by rw [hV.1]; omega)]
  exact kk H1 (hV.push (vAt.arr hk e1 (by rw [nV_at])) (fun k' h => nV_k h) z1 o1) (hS.grow (by rw [z1, hV.1]; omega) (by rw [hV.1]; exact o1))
theorem r_anew (X : Cx p s m args c cc nL own G) (hV : HV G L B V n H) (hS : va_S (fun q => B ≤ q) H0 H locs) {C : String} {idx N : Nat} (hty : FieldType.object C ∈ eTys) (hk : L.1 n = .inr (.object C, N)) (hw : Cond.classLink own idx C ∈ tb) (hover : va_AO C s) {k : Int32} (hn : ¬ k < 0) (hN : k.toNatClampNeg = N) (hbytes : N * 4 ≤ 536870912) (hcells : cells + 1 ≤ R.cells) (hslots : slots + N ≤ R.slots) (hdg : decode cc pc = .ok (.anewarray idx, 3))
    (kk : ∀ H1 : Heap, HV G L B (nV V n (fun _ => .null)) (n + 1) H1 → va_S (fun q => B ≤ q) H0 H1 locs → W p l e R s m args below meth c H1 locs (cells + 1) (slots + N) Q (F0 m (pc + 3) ls (.ref (B + n) :: rest))) : W p l e R s m args below meth c H locs cells slots Q (F0 m pc ls (.int k :: rest)) := by
  obtain ⟨hx, hb, hml, hown, hts, hK⟩ := X
  subst hN
  refine W.anew hx hb hown (hts _ hw) (va_AO.use hover) rfl hdg rfl hn hbytes hcells hslots fun cA kA comp h1 h2 h3 h4 => ?_
  obtain ⟨kA', comp', -, -, -, hra⟩ := (hK.2 _ hty).2
  have hcA : cA = G.2.2 (.object C) := Option.some.inj (h1.symm.trans hra)
  subst hcA
  rw [show H.size = B + n from hV.1]
  rw [arrV_new]
  generalize hH1 : H.push (arrV (G.2.2 (.object C)) k.toNatClampNeg (fun _ => .null)) = H1
  have z1 : H1.size = B + n + 1 := by rw [← hH1, Array.size_push, hV.1]
  have e1 : H1[B + n]? = some (arrV (G.2.2 (.object C)) k.toNatClampNeg (fun _ => .null)) := by rw [← hH1, ← hV.1, Array.getElem?_push_size]
  have o1 : ∀ q : Nat, q < B + n → H1[q]? = H[q]? := fun q hq => by rw [← hH1, Array.getElem?_push, if_neg (by rw [hV.1]; omega)]
  exact kk H1 (hV.push (vAt.arr hk e1 (by rw [nV_at])) (fun k' h => nV_k h) z1 o1) (hS.grow (by rw [z1, hV.1]; omega) (by rw [hV.1]; exact o1))
theorem r_get {C : String} {T : u_T} {N ci : Nat} (hC : Cls ci C T N) {j index : Nat} (hj : j < N) (hl : Cond.fieldLink own index (T j).1 (T j).2.1 (T j).2.2.1 ∈ tb) (X : Cx p s m args c cc nL own G) (hV : HV G L B V n H) {k : Nat} (hk : k < n ∧ L.1 k = .inl ci) {v : Value} (hv : V k j = v) (hdg : decode cc pc = .ok (.getfield index, 3))
    (kk : W p l e R s m args below meth c H locs cells slots Q (F0 m (pc + 3) ls (v :: rest))) : W p l e R s m args below meth c H locs cells slots Q (F0 m pc ls (.ref (B + k) :: rest)) := by
  obtain ⟨hx, hb, hml, hown, hts, hK⟩ := X
  obtain ⟨hc, hin, hty, hnm⟩ := hC
  obtain ⟨cell, q1, q2, q3, q4⟩ := hV.toObj hk.1 hk.2 hc
  obtain ⟨hS, hfc, kC, hkC, hkind⟩ := hK.1 ci _ hc
  obtain ⟨cf, kf, fi, f, hi, hsl⟩ := hS j hj
  refine W.getf hx hb hown (hts _ hl) hi (u_facts hfc hkC (u_lays hts hin hj) hi).1 q1 (by rw [q3]; exact fun h => by cases h) (v := v) ?_ rfl rfl hdg kk
  rw [hsl, q4 j hj]
  exact congrArg some hv
theorem r_put {C : String} {T : u_T} {N ci : Nat} (hC : Cls ci C T N) {j index : Nat} (hj : j < N) (hl : Cond.fieldLink own index (T j).1 (T j).2.1 (T j).2.2.1 ∈ tb) (hfin : (T j).2.2.2 = false) (X : Cx p s m args c cc nL own G) (hV : HV G L B V n H) (hS0 : va_S (fun q => B ≤ q) H0 H locs) {k : Nat} (hk : k < n ∧ L.1 k = .inl ci) {v : Value} (hn : narrow (tyOf ci j) v = v) (hfit : fits (tyOf ci j) v = true) (hdg : decode cc pc = .ok (.putfield index, 3))
    (kk : ∀ (H1 : Heap) (locs1 : List Loc), HV G L B (uV V k j v) n H1 → va_S (fun q => B ≤ q) H0 H1 locs1 → W p l e R s m args below meth c H1 locs1 cells slots Q (F0 m (pc + 3) ls rest)) : W p l e R s m args below meth c H locs cells slots Q (F0 m pc ls (v :: .ref (B + k) :: rest)) := by
  obtain ⟨hx, hb, hml, hown, hts, hK⟩ := X
  obtain ⟨hc, hin, hty, hnm⟩ := hC
  have hap := va_apart (own := own) (D := (G.1, G.2.1)) (cl := vwCl) (tys := []) hts hin (tyOf ci) hty hnm ⟨hK.1, fun k q h => by simp at h⟩ hc
  obtain ⟨cell, q1, q2, q3, q4⟩ := hV.toObj hk.1 hk.2 hc
  obtain ⟨hS, hfc, kC, hkC, hkind⟩ := hK.1 ci _ hc
  obtain ⟨cf, kf, fi, f, hi, hsl⟩ := hS j hj
  have hlay := hts _ (hin _ (u_in_lay hj))
  unfold u_lay at hlay
  rw [if_neg (by rw [hfin]; decide)] at hlay
  have hst := (u_facts hfc hkC (u_lays hts hin hj) hi).1
  have h6 := u_store hfc hkC hkind hlay hi (hty j hj) hn hfit
  refine W.putK hx hb (f := f) ⟨hown, hts _ hl, ⟨_, _, _, hi⟩, hst⟩ (by rw [q2]; exact h6) q1 q3 (by rw [hsl]; exact k2_hasslot (q4 j hj)) rfl rfl hdg fun H' e1 e2 e3 => ?_
  rw [hsl] at e1 ⊢
  refine kk H' _ (hV.set (vAt.obj (W := updV (V k) j v) hk.2 hc ⟨_, e1, q2, q3, t_set q4 hap hj v⟩ (fun j' _ => ?_)) (fun k' h => uV_k h) e2 e3) (hS0.put e2 e3 (by show B ≤ B + k; omega))
  by_cases e : j' = j
  · subst e
    simp [updV, uV]
  · simp [updV, uV, e]
theorem r_putF {C : String} {T : u_T} {N ci : Nat} (hC : Cls ci C T N) {j index : Nat} (hj : j < N) (hl : Cond.fieldLink own index (T j).1 (T j).2.1 (T j).2.2.1 ∈ tb) (hfin : (T j).2.2.2 = true) (hdecl : (T j).1 = own) (hin2 : meth.name = "<init>") (X : Cx p s m args c cc nL own G) (hV : HV G L B V n H) (hS0 : va_S (fun q => B ≤ q) H0 H locs) {k : Nat} (hk : k < n ∧ L.1 k = .inl ci) {v : Value} (hn : narrow (tyOf ci j) v = v) (hfit : fits (tyOf ci j) v = true) (hdg : decode cc pc = .ok (.putfield index, 3))
    (kk : ∀ (H1 : Heap) (locs1 : List Loc), HV G L B (uV V k j v) n H1 → va_S (fun q => B ≤ q) H0 H1 locs1 → W p l e R s m args below meth c H1 locs1 cells slots Q (F0 m (pc + 3) ls rest)) : W p l e R s m args below meth c H locs cells slots Q (F0 m pc ls (v :: .ref (B + k) :: rest)) := by
  obtain ⟨hx, hb, hml, hown, hts, hK⟩ := X
  obtain ⟨hc, hin, hty, hnm⟩ := hC
  have hap := va_apart (own := own) (D := (G.1, G.2.1)) (cl := vwCl) (tys := []) hts hin (tyOf ci) hty hnm ⟨hK.1, fun k q h => by simp at h⟩ hc
  obtain ⟨cell, q1, q2, q3, q4⟩ := hV.toObj hk.1 hk.2 hc
  obtain ⟨hS, hfc, kC, hkC, hkind⟩ := hK.1 ci _ hc
  obtain ⟨cf, kf, fi, f, hi, hsl⟩ := hS j hj
  have hlay := hts _ (hin _ (u_in_lay hj))
  unfold u_lay at hlay
  rw [if_pos hfin] at hlay
  have hst := (u_facts hfc hkC (u_lays hts hin hj) hi).1
  have hcf : m.cls = cf := by
    obtain ⟨_, _, c', _, _, _, -, -, hf', -, -, -, hown2, -⟩ := Cond.laysFinal_spec hlay
    have e1 : c' = cf := by have := hi.symm.trans hf'; simp at this; exact this.1.symm
    rw [hdecl] at hown2
    rw [← e1]; exact Option.some.inj (hown.symm.trans hown2)
  have h6 := u_fits hfc hkC hkind (Or.inr hlay) hi (hty j hj) hn hfit
  refine W.putFinK hx hb hown (hts _ hl) hi hst hcf hin2 (by rw [q2]; exact h6) q1 q3 (by rw [hsl]; exact k2_hasslot (q4 j hj)) rfl rfl hdg fun H' e1 e2 e3 => ?_
  rw [hsl] at e1 ⊢
  refine kk H' _ (hV.set (vAt.obj (W := updV (V k) j v) hk.2 hc ⟨_, e1, q2, q3, t_set q4 hap hj v⟩ (fun j' _ => ?_)) (fun k' h => uV_k h) e2 e3) (hS0.put e2 e3 (by show B ≤ B + k; omega))
  by_cases e : j' = j
  · subst e
    simp [updV, uV]
  · simp [updV, uV, e]
theorem r_aast (X : Cx p s m args c cc nL own G) (hV : HV G L B V n H) (hS0 : va_S (fun q => B ≤ q) H0 H locs) {k k2 ci N : Nat} {C : String} {T : u_T} {M : Nat} (hty : FieldType.object C ∈ eTys) (hk : k < n ∧ L.1 k = .inr (.object C, N)) (hk2 : k2 < n ∧ L.1 k2 = .inl ci) (hC : Cls ci C T M) {i : Int32} (hin : ¬ (i < 0 ∨ N ≤ i.toNatClampNeg)) {jj : Nat} (hjj : i.toNatClampNeg = jj) (hdg : decode cc pc = .ok (.aastore, 1))
    (kk : ∀ (H1 : Heap) (locs1 : List Loc), HV G L B (uV V k jj (.ref (B + k2))) n H1 → va_S (fun q => B ≤ q) H0 H1 locs1 → W p l e R s m args below meth c H1 locs1 cells slots Q (F0 m (pc + 1) ls rest)) : W p l e R s m args below meth c H locs cells slots Q (F0 m pc ls (.ref (B + k2) :: .int i :: .ref (B + k) :: rest)) := by
  subst hjj
  obtain ⟨hx, hb, hml, hown, hts, hK⟩ := X
  obtain ⟨hc, -⟩ := hC
  have hlt : i.toNatClampNeg < N := Nat.not_le.mp fun q => hin (Or.inr q)
  have h0 : ¬ i < 0 := fun q => hin (Or.inl q)
  obtain ⟨cellV, g1, g2, g3, -⟩ := hV.toObj hk2.1 hk2.2 hc
  have hcls := (hK.1 ci _ hc).2
  obtain ⟨kA, comp, k1, k2', k3, -⟩ := (hK.2 _ hty).2
  have hcomp : comp = G.1 ci := Option.some.inj (k3.symm.trans hcls.1)
  subst hcomp
  obtain ⟨kC, hkC, -⟩ := hcls.2
  refine W.aast hx hb (hV.toArr hk.1 hk.2) (fun q h => by cases h) (fun h => by cases h) k1 k2' rfl hkC ⟨h0, by rw [arrV_size]; exact hlt⟩ g1 (fun q h => by rw [g3] at h; cases h) (by rw [g2]; exact hkC) (by rw [g2]; exact va_assign hcls) rfl rfl hdg fun H1 e1 z oq => ?_
  rw [arrV_store] at e1
  refine kk H1 _ (hV.set (vAt.arr hk.2 e1 (funext fun j => ?_)) (fun k' h => uV_k h) z oq) (hS0.put z oq (by show B ≤ B + k; omega))
  by_cases hq : j = i.toNatClampNeg
  · subst hq
    simp [updV, uV]
  · simp [updV, uV, hq]
theorem r_iast (X : Cx p s m args c cc nL own G) (hV : HV G L B V n H) (hS0 : va_S (fun q => B ≤ q) H0 H locs) {k N : Nat} (hk : k < n ∧ L.1 k = .inr (.int, N)) {i x : Int32} (hin : ¬ (i < 0 ∨ N ≤ i.toNatClampNeg)) {jj : Nat} (hjj : i.toNatClampNeg = jj) (hdg : decode cc pc = .ok (.iastore, 1))
    (kk : ∀ (H1 : Heap) (locs1 : List Loc), HV G L B (uV V k jj (.int x)) n H1 → va_S (fun q => B ≤ q) H0 H1 locs1 → W p l e R s m args below meth c H1 locs1 cells slots Q (F0 m (pc + 1) ls rest)) : W p l e R s m args below meth c H locs cells slots Q (F0 m pc ls (.int x :: .int i :: .ref (B + k) :: rest)) := by
  subst hjj
  obtain ⟨hx, hb, hml, hown, hts, hK⟩ := X
  refine W.iast hx hb (hV.toArr hk.1 hk.2) ((hK.2 .int (by decide)).1 N _) (fun q => by cases q) (by rw [arrV_size]; exact hin) rfl rfl hdg fun H1 e1 z oq => ?_
  rw [arrV_store] at e1
  refine kk H1 _ (hV.set (vAt.arr hk.2 e1 (funext fun j => ?_)) (fun k' h => uV_k h) z oq) (hS0.put z oq (by show B ≤ B + k; omega))
  by_cases hq : j = i.toNatClampNeg
  · subst hq
    simp [updV, uV]
  · simp [updV, uV, hq]
theorem r_last (X : Cx p s m args c cc nL own G) (hV : HV G L B V n H) (hS0 : va_S (fun q => B ≤ q) H0 H locs) {k N : Nat} (hk : k < n ∧ L.1 k = .inr (.long, N)) {i : Int32} {x : Int64} (hin : ¬ (i < 0 ∨ N ≤ i.toNatClampNeg)) {jj : Nat} (hjj : i.toNatClampNeg = jj) (hdg : decode cc pc = .ok (.lastore, 1))
    (kk : ∀ (H1 : Heap) (locs1 : List Loc), HV G L B (uV V k jj (.long x)) n H1 → va_S (fun q => B ≤ q) H0 H1 locs1 → W p l e R s m args below meth c H1 locs1 cells slots Q (F0 m (pc + 1) ls rest)) : W p l e R s m args below meth c H locs cells slots Q (F0 m pc ls (.long x :: .int i :: .ref (B + k) :: rest)) := by
  subst hjj
  obtain ⟨hx, hb, hml, hown, hts, hK⟩ := X
  refine W.last hx hb (hV.toArr hk.1 hk.2) ((hK.2 .long (by decide)).1 N _) (fun q => by cases q) (by rw [arrV_size]; exact hin) rfl rfl hdg fun H1 e1 z oq => ?_
  rw [arrV_store] at e1
  refine kk H1 _ (hV.set (vAt.arr hk.2 e1 (funext fun j => ?_)) (fun k' h => uV_k h) z oq) (hS0.put z oq (by show B ≤ B + k; omega))
  by_cases hq : j = i.toNatClampNeg
  · subst hq
    simp [updV, uV]
  · simp [updV, uV, hq]
theorem r_alen (X : Cx p s m args c cc nL own G) (hV : HV G L B V n H) {k N : Nat} {ty : FieldType} (hk : k < n ∧ L.1 k = .inr (ty, N)) (hty : ty ∈ eTys) (hdg : decode cc pc = .ok (.arraylength, 1))
    (kk : W p l e R s m args below meth c H locs cells slots Q (F0 m (pc + 1) ls (.int (nI N) :: rest))) : W p l e R s m args below meth c H locs cells slots Q (F0 m pc ls (.ref (B + k) :: rest)) := by
  obtain ⟨hx, hb, hml, hown, hts, hK⟩ := X
  exact W.alen (n := nI N) hx hb (hV.toArr hk.1 hk.2) ((hK.2 ty hty).1 N _) (by rw [arrV_size]; rfl) rfl rfl hdg kk
def rmc (d mc ms : Nat) : Room := { frames := d, cells := mc, slots := ms, locals := 40 * d }
def QV (G : Gd) (L : Lay) (B n : Nat) (Rl : VS → Prop) : Array Value → State → Outcome → State → Prop := fun _ st oc t => oc = .returned none ∧ (∃ V', Rl V' ∧ HV G L B V' n t.heap) ∧ va_F (fun q => B ≤ q) st t
def Cn (l : Launch) (G : Gd) (L : Lay) (B : Nat) (y : MethodName) (cc : ByteArray) (maxL d mc ms : Nat) (as : List Value) (n : Nat) (V : VS) (Rl : VS → Prop) : Prop :=
  Met l y (.code y cc maxL none :: tb) (rmc d mc ms) (va_Pc as (fun U => HV G L B V n U.heap ∧ KX G U)) (QV G L B (n + mc) Rl) mc ms (fun q => B ≤ q)
abbrev WV (p : Program) (l : Launch) (e : Env) (d mc ms : Nat) (s : State) (m : MethodId) (args : Array Value) (below : List Frame) (meth : Method) (c : Code) (H : Heap) (locs : List Loc) (cells slots : Nat) (G : Gd) (L : Lay) (B n : Nat) (Rl : VS → Prop) (g : JFrame) : Prop :=
  W p l e (rmc d mc ms) s m args below meth c H locs cells slots (MQ below (QV G L B n Rl) args s mc ms (fun q => B ≤ q)) g
def Cv (p : Program) (s : State) (m : MethodId) (args : Array Value) (meth : Method) (c : Code) (cc : ByteArray) (nL : Nat) (own : String) (G : Gd) : Prop :=
  Cx p s m args c cc nL own G ∧ meth.sig.returnType = none ∧ meth.locks = false ∧ KX G s
theorem Cn.ofW {y : MethodName} {maxL d mc ms : Nat} {as : List Value} {Rl : VS → Prop} (hy : plainName y.cls = true) (hlen : (lg_sl as).length ≤ maxL)
    (body : ∀ (p : Program) (e : Env) (s : State) (m : MethodId) (below : List Frame) (meth : Method) (c : Code), meth.name = y.name → Cv p s m as.toArray meth c cc maxL y.cls G → HV G L B V n s.heap → va_S (fun q => B ≤ q) s.heap s.heap [] → ∀ ls : Array Slot, lv_has ls maxL (lv_args 0 as) → WV p l e d mc ms s m as.toArray below meth c s.heap [] 0 0 G L B (n + mc) Rl (F0 m 0 ls [])) : Cn l G L B y cc maxL d mc ms as n V Rl := by
  refine Met.ofW (cc := cc) (maxL := maxL) (ret := none) hy rfl ?_
  intro p e s m args below meth c s₁ Bd hml hv
  obtain ⟨rfl, hH, hK⟩ := hv
  have hts := atoms_spec (ws := Cond.code y cc maxL none :: tb) Bd.pre
  have hown : s.vm.findClass y.cls = some m.cls := findClass_of_methodNamed Bd.named
  have hl := lv_entry as (n := maxL) hlen
  rw [lg_entry_eq]
  exact body p e s m below meth c (name_of_methodNamed Bd.named Bd.method).1 ⟨⟨Bd.exec, Bd.bytes, hml, hown, fun w hw => hts w (List.mem_cons_of_mem _ hw), hK.1⟩, Bd.returns, Bd.notSynchronized, hK⟩ hH va_S.rf _ hl
theorem r_vret {d mc ms n' : Nat} {Rl : VS → Prop} (X : Cv p s m args meth c cc nL own G) (hV : HV G L B V n H) (hS : va_S (fun q => B ≤ q) s.heap H locs) (hn : n = n') (hc : cells = mc) (hs : slots = ms) (hR : Rl V) (hdg : decode cc pc = .ok (.return_, 1)) : WV p l e d mc ms s m args below meth c H locs cells slots G L B n' Rl (F0 m pc ls []) := by
  subst hn
  subst hc
  subst hs
  exact W.vret X.1.1 X.1.2.1 X.2.1 (fun t ht hW => ⟨rfl, ⟨V, hR, by rw [ht]; exact hV⟩, hS.F ht⟩) hS.2.2 hdg X.2.2.1
theorem r_obj {lv : List (Nat × Value)} {idx d mc ms a : Nat} (X : Cx p s m args c cc nL own G) (hl : lv_has ls nL lv) (hw : Cond.methodLink own idx objectInit ∈ tb ∧ Cond.instanceMethod objectInit ∈ tb ∧ Cond.code objectInit ⟨#[0xb1]⟩ 1 none ∈ tb) (hd : 0 < d) (hdg : decode cc pc = .ok (.invokespecial idx, 3))
    (kk : W p l e (rmc d mc ms) s m args below meth c H locs cells slots Q (F0 m (pc + 3) ls [])) : W p l e (rmc d mc ms) s m args below meth c H locs cells slots Q (F0 m pc ls [.ref a]) :=
  W.objInit (g := F0 m pc ls [.ref a]) X.1 X.2.1 X.2.2.2.1 (X.2.2.2.2.1 _ hw.1) (X.2.2.2.2.1 _ hw.2.1) (X.2.2.2.2.1 _ hw.2.2) rfl (by rw [X.2.2.1]; exact hl.1) rfl hdg (by show 1 ≤ d; omega) (by show 2 * 0 + 0 + 12 ≤ 40 * d; omega) kk
theorem blindV {as : List Value} : FrameBlind (va_Pc as (fun U => HV G L B V n U.heap ∧ KX G U)) := fun a U g mk q => by
  obtain ⟨q0, q1, q2⟩ := q
  exact ⟨q0, q1, KX.same (u := U) (U := U.calling g mk a) rfl q2⟩
theorem r_go {mc ms n' : Nat} {Rl : VS → Prop} (hr : va_Run p l e R s m args below meth c H locs cells slots mc ms (F0 m pc ls st0) rest (fun st oc t => oc = .returned none ∧ (∃ V', Rl V' ∧ HV G L B V' n' t.heap) ∧ va_F (fun q => B ≤ q) st t) (fun q => B ≤ q)) {A : Nat → Prop} (hA : ∀ q, B ≤ q → A q) (hS : va_S A H0 H locs)
    (kk : ∀ (V' : VS) (H1 : Heap) (locs1 : List Loc), Rl V' → HV G L B V' n' H1 → va_S A H0 H1 locs1 → H.size ≤ H1.size → (∀ q : Nat, q < H.size → ¬ B ≤ q → H1[q]? = H[q]?) → W p l e R s m args below meth c H1 locs1 (cells + mc) (slots + ms) Q (F0 m (pc + 3) ls rest)) : W p l e R s m args below meth c H locs cells slots Q (F0 m pc ls st0) := by
  intro T hT X
  obtain ⟨v, st₀, t, T', Lc, h0, X', hL, e1, e2, ⟨hv, ⟨V', hR, hX⟩, hz, hk⟩, st⟩ := hr T hT X
  cases hv
  rw [h0] at hz hk
  obtain ⟨t2, a1, b1⟩ := kk V' T'.heap (locs ++ Lc) hR (by rw [e1]; exact hX)
    ⟨Nat.le_trans hS.1 (by rw [e1]; exact hz), fun q h1 h2 => by rw [e1, hk q (Nat.lt_of_lt_of_le h1 hS.1) (fun z => h2 (hA q z))]; exact hS.2.1 q h1 h2, fun q hq => by
      rcases List.mem_append.mp hq with h | h
      · exact hS.2.2 q h
      · exact hA _ (hL q h)⟩ (by rw [e1]; exact hz) (fun q h1 h2 => by rw [e1]; exact hk q h1 h2) T' rfl X'
  exact ⟨t2, st t2 a1, b1⟩
theorem CwB.toV {idx : Nat} {y : MethodName} {bytes : ByteArray} {maxL k d mc ms : Nat} (h : CwB own idx y bytes maxL none k) (hts : ∀ w ∈ tb, w.before args s = true) (hR : d + 1 ≤ R.frames ∧ 8 + (maxL + 11) + 40 * d ≤ R.locals) : CallB R s args own idx y bytes maxL none (Cond.code y bytes maxL none :: tb) (rmc d mc ms) mc ms k :=
  callB_of k hts (fun w hw => by
    rcases List.mem_cons.mp hw with rfl | hw
    · exact ⟨h.2.2.1, tbl_good _ h.2.2.1⟩
    · exact ⟨hw, tbl_good _ hw⟩) rfl rfl rfl (hts _ h.2.1) (hts _ h.1) h.2.2.2 hR
theorem r_ctor {idx k nn maxL d mc ms : Nat} {y : MethodName} {bytes : ByteArray} {As : List Value} {Rl : VS → Prop} {A : Nat → Prop} (X : Cx p s m args c cc nL own G) (hK : KX G s) (hV : HV G L B V n H) (hA : ∀ q, B ≤ q → A q) (hS : va_S A H0 H locs) (hM : Cn l G L B y bytes maxL d mc ms (.ref (B + k) :: As) n V Rl) (hw : CwB own idx y bytes maxL none nn ∧ Cond.instanceMethod y ∈ tb) (hy : y.name = "<init>") (hR : d + 1 ≤ R.frames ∧ 8 + (maxL + 11) + 40 * d ≤ R.locals) (hcs : cells + mc ≤ R.cells ∧ slots + ms ≤ R.slots) (hn : As.length = nn) (hls : ls.size = nL) (hcat : (rest.map fun v => v.category).sum ≤ 8) (hst : st0 = As.reverse ++ .ref (B + k) :: rest) (hdg : decode cc pc = .ok (.invokespecial idx, 3))
    (kk : ∀ (V' : VS) (H1 : Heap) (locs1 : List Loc), Rl V' → HV G L B V' (n + mc) H1 → va_S A H0 H1 locs1 → H.size ≤ H1.size → (∀ q : Nat, q < H.size → ¬ B ≤ q → H1[q]? = H[q]?) → W p l e R s m args below meth c H1 locs1 (cells + mc) (slots + ms) Q (F0 m (pc + 3) ls rest)) : W p l e R s m args below meth c H locs cells slots Q (F0 m pc ls st0) := by
  obtain ⟨hx, hb, hml, hown, hts, hK0⟩ := X
  exact r_go (va_runI (As := As) (rest := rest) (g := F0 m pc ls st0) ⟨hx, hb, hml, hown, hts⟩ hM ⟨hw.1.toV hts hR, hy, hts _ hw.2⟩ ⟨blindV, fun U hU hW => ⟨rfl, by rw [hU]; exact hV, KX.warm hW hK⟩⟩ rfl hn hls hst (lv_room hcat) hdg hcs) hA hS kk
theorem r_ctorN {idx k nn maxL d mc ms : Nat} {y : MethodName} {bytes : ByteArray} {As : List Value} {Rl : VS → Prop} {A : Nat → Prop} {host : String} (X : Cx p s m args c cc nL own G) (hK : KX G s) (hV : HV G L B V n H) (hA : ∀ q, B ≤ q → A q) (hS : va_S A H0 H locs) (hM : Cn l G L B y bytes maxL d mc ms (.ref (B + k) :: As) n V Rl) (hN : va_Nw (.methodLinkNest own idx y host) s) (hw : (Cond.initialized y.cls ∈ tb ∧ Cond.code y bytes maxL none ∈ tb ∧ (y.cls ≠ "java/lang/invoke/MethodHandle" ∧ y.cls ≠ "java/lang/invoke/VarHandle" ∧ (parseMethodDescriptor y.desc).map (fun d => d.parameters.length) = some nn)) ∧ Cond.instanceMethod y ∈ tb) (hy : y.name = "<init>") (hR : d + 1 ≤ R.frames ∧ 8 + (maxL + 11) + 40 * d ≤ R.locals) (hcs : cells + mc ≤ R.cells ∧ slots + ms ≤ R.slots) (hn : As.length = nn) (hls : ls.size = nL) (hcat : (rest.map fun v => v.category).sum ≤ 8) (hst : st0 = As.reverse ++ .ref (B + k) :: rest) (hdg : decode cc pc = .ok (.invokespecial idx, 3))
    (kk : ∀ (V' : VS) (H1 : Heap) (locs1 : List Loc), Rl V' → HV G L B V' (n + mc) H1 → va_S A H0 H1 locs1 → H.size ≤ H1.size → (∀ q : Nat, q < H.size → ¬ B ≤ q → H1[q]? = H[q]?) → W p l e R s m args below meth c H1 locs1 (cells + mc) (slots + ms) Q (F0 m (pc + 3) ls rest)) : W p l e R s m args below meth c H locs cells slots Q (F0 m pc ls st0) := by
  obtain ⟨hx, hb, hml, hown, hts, hK0⟩ := X
  have hG : GoodIn tb (Cond.code y bytes maxL none :: tb) := fun w hw' => by
    rcases List.mem_cons.mp hw' with rfl | hw'
    · exact ⟨hw.1.2.1, tbl_good _ hw.1.2.1⟩
    · exact ⟨hw', tbl_good _ hw'⟩
  exact r_go (va_runIN (As := As) (rest := rest) (g := F0 m pc ls st0) ⟨hx, hb, hml, hown, hts⟩ hM ⟨va_cnB nn hts hG rfl rfl rfl hN (hts _ hw.1.1) hw.1.2.2 hR, hy, hts _ hw.2⟩ ⟨blindV, fun U hU hW => ⟨rfl, by rw [hU]; exact hV, KX.warm hW hK⟩⟩ rfl hn hls hst (lv_room hcat) hdg hcs) hA hS kk
theorem r_stat {idx nn maxL d mc ms : Nat} {y : MethodName} {bytes : ByteArray} {As : List Value} {Rl : VS → Prop} {A : Nat → Prop} (X : Cx p s m args c cc nL own G) (hK : KX G s) (hV : HV G L B V n H) (hA : ∀ q, B ≤ q → A q) (hS : va_S A H0 H locs) (hM : Cn l G L B y bytes maxL d mc ms As n V Rl) (hw : CwB own idx y bytes maxL none nn ∧ Cond.static y ∈ tb) (hR : d + 1 ≤ R.frames ∧ 8 + (maxL + 11) + 40 * d ≤ R.locals) (hcs : cells + mc ≤ R.cells ∧ slots + ms ≤ R.slots) (hn : As.length = nn) (hls : ls.size = nL) (hcat : (rest.map fun v => v.category).sum ≤ 8) (hst : st0 = As.reverse ++ rest) (hdg : decode cc pc = .ok (.invokestatic idx, 3))
    (kk : ∀ (V' : VS) (H1 : Heap) (locs1 : List Loc), Rl V' → HV G L B V' (n + mc) H1 → va_S A H0 H1 locs1 → H.size ≤ H1.size → (∀ q : Nat, q < H.size → ¬ B ≤ q → H1[q]? = H[q]?) → W p l e R s m args below meth c H1 locs1 (cells + mc) (slots + ms) Q (F0 m (pc + 3) ls rest)) : W p l e R s m args below meth c H locs cells slots Q (F0 m pc ls st0) := by
  obtain ⟨hx, hb, hml, hown, hts, hK0⟩ := X
  exact r_go (va_runS (As := As) (rest := rest) (g := F0 m pc ls st0) ⟨hx, hb, hml, hown, hts⟩ hM ⟨hw.1.toV hts hR, hts _ hw.2⟩ ⟨blindV, fun U hU hW => ⟨rfl, by rw [hU]; exact hV, KX.warm hW hK⟩⟩ rfl hn hls hst (lv_room hcat) hdg hcs) hA hS kk
end HVR
