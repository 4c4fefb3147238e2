/-! ===== steps: what is made ===== -/
theorem pL_same {σ : Sto} {k j : Nat} {x : Int64} (h : σ.2 k j = x) : pL σ k j x = σ := by
  unfold pL
  apply Prod.ext
  · rfl
  · funext a b
    show (if a = k ∧ b = j then x else σ.2 a b) = σ.2 a b
    by_cases h2 : a = k ∧ b = j
    · rw [if_pos h2, h2.1, h2.2, h]
    · rw [if_neg h2]
theorem pL_no {σ : Sto} {k j : Nat} {x : Int64} {a b : Nat} (h : ¬ (a = k ∧ b = j)) : (pL σ k j x).2 a b = σ.2 a b := by
  show (if a = k ∧ b = j then x else σ.2 a b) = _
  rw [if_neg h]
theorem cpL_1 {σ : Sto} {k1 sp k2 dp n : Nat} : (cpL σ k1 sp k2 dp n).1 = σ.1 := Eq.trans (b := σ.1) (Eq.refl _) (Eq.refl _)
theorem cpL_k {σ : Sto} {k1 sp k2 dp n a b : Nat} (h : a < k2 ∨ k2 < a) : (cpL σ k1 sp k2 dp n).2 a b = σ.2 a b := by
  show (if a = k2 ∧ dp ≤ b ∧ b < dp + n then σ.2 k1 (sp + (b - dp)) else σ.2 a b) = _
  rw [if_neg (by omega)]
theorem cpL_at0 {σ : Sto} {k1 k2 n b : Nat} (h : b < n) : (cpL σ k1 0 k2 0 n).2 k2 b = σ.2 k1 b := by
  show (if k2 = k2 ∧ 0 ≤ b ∧ b < 0 + n then σ.2 k1 (0 + (b - 0)) else σ.2 k2 b) = _
  rw [if_pos ⟨rfl, by omega, by omega⟩, Nat.zero_add, Nat.sub_zero]
/-- only a clause of the component has changed -/
abbrev Nx (k : Nat) (σ σ' : Sto) : Prop := (σ'.1 = σ.1) ∧ (∀ c j, c ≠ k → c ≠ k + 1 → σ'.2 c j = σ.2 c j)
theorem Nx.i {k : Nat} {σ σ' : Sto} (h : Nx k σ σ') : σ'.1 = σ.1 := h.1
theorem Nx.l {k : Nat} {σ σ' : Sto} (h : Nx k σ σ') : ∀ c j, c ≠ k → c ≠ k + 1 → σ'.2 c j = σ.2 c j := h.2
/-- only a row of longs of the model has changed -/
abbrev Mx (w : Nat) (τ τ' : Sto) : Prop := (τ'.1 = τ.1) ∧ (∀ c j, c ≠ w → τ'.2 c j = τ.2 c j)
theorem Mx.i {w : Nat} {τ τ' : Sto} (h : Mx w τ τ') : τ'.1 = τ.1 := h.1
theorem Mx.l {w : Nat} {τ τ' : Sto} (h : Mx w τ τ') : ∀ c j, c ≠ w → τ'.2 c j = τ.2 c j := h.2
theorem Nx.rfl {k : Nat} {σ : Sto} : Nx k σ σ := ⟨Eq.refl _, fun _ _ _ _ => Eq.refl _⟩
theorem Mx.rfl {k : Nat} {σ : Sto} : Mx k σ σ := ⟨Eq.refl _, fun _ _ _ => Eq.refl _⟩
theorem Nx.trans {k : Nat} {σ σ1 σ2 : Sto} (h : Nx k σ σ1) (h2 : Nx k σ1 σ2) : Nx k σ σ2 := ⟨h2.i.trans h.i, fun c j q r => (h2.l c j q r).trans (h.l c j q r)⟩
theorem Mx.trans {k : Nat} {σ σ1 σ2 : Sto} (h : Mx k σ σ1) (h2 : Mx k σ1 σ2) : Mx k σ σ2 := ⟨h2.i.trans h.i, fun c j q => (h2.l c j q).trans (h.l c j q)⟩
theorem Nx.p0 {k : Nat} {σ : Sto} (j : Nat) (x : Int64) : Nx k σ (pL σ k j x) := ⟨pL_1 x, fun c _ q _ => pL_nk (by omega)⟩
theorem Nx.p1 {k : Nat} {σ : Sto} (j : Nat) (x : Int64) : Nx k σ (pL σ (k + 1) j x) := ⟨pL_1 x, fun c _ _ q => pL_nk (by omega)⟩
theorem Nx.w1 {k : Nat} {σ : Sto} (lo n : Nat) (g : Nat → Int64) : Nx k σ (wL σ (k + 1) lo n g) := ⟨wL_1, fun c _ _ q => wL_k (by omega)⟩
theorem Nx.c1 {k k1 sp dp n : Nat} {σ : Sto} : Nx k σ (cpL σ k1 sp (k + 1) dp n) := ⟨cpL_1, fun c _ _ q => cpL_k (by omega)⟩
theorem Mx.p {k : Nat} {σ : Sto} (j : Nat) (x : Int64) : Mx k σ (pL σ k j x) := ⟨pL_1 x, fun c _ q => pL_nk (by omega)⟩
theorem Mx.w {k : Nat} {σ : Sto} (lo n : Nat) (g : Nat → Int64) : Mx k σ (wL σ k lo n g) := ⟨wL_1, fun c _ q => wL_k (by omega)⟩
theorem Nx.ag {u : Nat} {σ σ' : Sto} (hu : u < 30) (h : Nx (36 + 2 * u) σ σ') : AgX u σ σ' := ⟨fun c j _ => by rw [h.i], fun c j q => h.l c j (by omega) (by omega)⟩
theorem Mx.ag {w : Nat} {τ τ' : Sto} (hw : w = 7 ∨ (11 ≤ w ∧ w ≤ 15)) (h : Mx w τ τ') : AgM τ τ' := ⟨fun c j _ => by rw [h.i], fun c j q => h.l c j (by omega)⟩
/-- the clause that is made in both comes -/
theorem RU.made {u lv : Nat} {σ τ σ' τ' : Sto} (h : RU u lv σ τ) (hu : u < 30) (hx : AgX u σ σ') (hm : AgM τ τ') {q : Nat} (q1 : 1 ≤ q) (q5 : q ≤ 5) {D : Int64} {C : Nat → Int64} (dn : 0 ≤ D.toInt) (okc : okC C) (dx : σ'.2 (36 + 2 * u) 2 = D) (cx : ∀ v, v < 8 → σ'.2 (36 + 2 * u + 1) v = C v) (dm : τ'.2 11 1 = D) (cm : ∀ v, v < 8 → τ'.2 11 (2 + v) = C v) :
    ∃ σ2 τ2, f_X7_comes (nI q) σ' = some (nI u, σ2) ∧ f_X8_comes (nI q) τ' = some (nI u, τ2) ∧ RU (u + 1) (lv + 2 ^ u) σ2 τ2 :=
  (h.ag hx hm).comes hu q1 q5 (by rw [dx]; exact dn) (by rw [dx, dm]) (fun v hv => ⟨by rw [cx v hv]; exact okc v hv, by rw [cx v hv, cm v hv]⟩)
/-! refusals -/
theorem RU.refuse0 {u lv : Nat} {σ τ : Sto} (h : RU u lv σ τ) : f_X7_stepRefusal (nI 0) σ = some (if σ.1 33 2 = nI 0 then -nI 1000002 else -nI 1000001, σ) := by
  rcases h.rd with q | q
  · simp (disch := omega) only [f_X7_stepRefusal, lit, pLeT, pLeF, pLtT, pLtF, pEqT, pEqF, nLeF, nLtF, nI_clamp, or_self, or_false, false_or, not_true_eq_false, not_false_eq_true, ↓reduceIte, nmS_eq, bd1_eq, bd2_eq, nI_add, pEqS, pk_mul, Nat.reduceAdd, Bool.false_eq_true, or_true, true_or, q]
  · simp (disch := omega) only [f_X7_stepRefusal, lit, pLeT, pLeF, pLtT, pLtF, pEqT, pEqF, nLeF, nLtF, nI_clamp, or_self, or_false, false_or, not_true_eq_false, not_false_eq_true, ↓reduceIte, nmS_eq, bd1_eq, bd2_eq, nI_add, pEqS, pk_mul, Nat.reduceAdd, Bool.false_eq_true, or_true, true_or, q]
theorem RU.refuse1 {u lv : Nat} {σ τ : Sto} (h : RU u lv σ τ) : f_X7_stepRefusal (nI 1) σ = some (if σ.1 33 2 = nI 0 then -nI 1000002 else (if u < 30 then nI 0 else -nI 1000003), σ) := by
  have hf := (e_X2_isFull h).1
  rcases h.rd with q | q
  · simp (disch := omega) only [f_X7_stepRefusal, lit, pLeT, pLeF, pLtT, pLtF, pEqT, pEqF, nLeF, nLtF, nI_clamp, or_self, or_false, false_or, not_true_eq_false, not_false_eq_true, ↓reduceIte, nmS_eq, bd1_eq, bd2_eq, nI_add, pEqS, pk_mul, Nat.reduceAdd, Bool.false_eq_true, or_true, true_or, q]
  · by_cases q2 : u < 30
    · rw [if_pos q2] at hf
      simp (disch := omega) only [f_X7_stepRefusal, b_X7_stepRefusal_36, lit, pLeT, pLeF, pLtT, pLtF, pEqT, pEqF, nLeF, nLtF, nI_clamp, or_self, or_false, false_or, not_true_eq_false, not_false_eq_true, ↓reduceIte, nmS_eq, bd1_eq, bd2_eq, nI_add, pEqS, pk_mul, Nat.reduceAdd, Bool.false_eq_true, or_true, true_or, q, hf, q2]
    · rw [if_neg q2] at hf
      simp (disch := omega) only [f_X7_stepRefusal, b_X7_stepRefusal_36, lit, pLeT, pLeF, pLtT, pLtF, pEqT, pEqF, nLeF, nLtF, nI_clamp, or_self, or_false, false_or, not_true_eq_false, not_false_eq_true, ↓reduceIte, nmS_eq, bd1_eq, bd2_eq, nI_add, pEqS, pk_mul, Nat.reduceAdd, Bool.false_eq_true, or_true, true_or, q, hf, q2]
theorem neB : (-nI 1000001 = nI 0) = False := eq_false (by decide)
theorem neS : (-nI 1000002 = nI 0) = False := eq_false (by decide)
theorem neF : (-nI 1000003 = nI 0) = False := eq_false (by decide)
theorem RU.next {u lv : Nat} {σ τ : Sto} (h : RU u lv σ τ) (hu : u < 30) : f_X2_next 33 σ = some (36 + 2 * u, σ) := by
  simp (disch := omega) only [f_X2_next, lit, pLeT, pLeF, pLtT, pLtF, pEqT, pEqF, nLeF, nLtF, nI_clamp, or_self, or_false, false_or, not_true_eq_false, not_false_eq_true, ↓reduceIte, nmS_eq, bd1_eq, bd2_eq, nI_add, pEqS, pk_mul, Nat.reduceAdd, Bool.false_eq_true, or_true, true_or, h.us]
theorem layC {a : Nat} (ha : a < 30) : (¬ (36 + 2 * a < layX.2.2 ∧ layX.1 (36 + 2 * a) = .inl 3)) = False := eq_false (fun q => q ⟨(layX_bc a ha).1.2, (layX_bc a ha).1.1⟩)
theorem RU.takes {u lv : Nat} {σ τ : Sto} (h : RU u lv σ τ) {a : Nat} (ha : a < u) : ∃ τ', f_X8_takesClause (nI a) τ = some τ' ∧ Mx 11 τ τ' ∧ τ'.2 11 1 = σ.2 (36 + 2 * a) 2 ∧ ∀ v, v < 8 → τ'.2 11 (2 + v) = σ.2 (36 + 2 * a + 1) v := by
  have hu := h.bk.hu
  have cp := e_X8_copies 6 312 11 10 (12 + 10 * a) 0 10 τ (by omega) (by omega) (by omega) (by omega) (by omega) (by omega)
  refine ⟨wL τ 11 0 10 (fun t => τ.2 6 (12 + 10 * a + t)), ?_, Mx.w 0 10 _, ?_, fun v hv => ?_⟩
  · simp (disch := omega) only [f_X8_takesClause, lit, pLeT, pLeF, pLtT, pLtF, pEqT, pEqF, nLeF, nLtF, nI_clamp, or_self, or_false, false_or, not_true_eq_false, not_false_eq_true, ↓reduceIte, nmS_eq, bd1_eq, bd2_eq, nI_add, pEqS, pk_mul, Nat.reduceAdd, Bool.false_eq_true, or_true, true_or, cp]
  · rw [wL_at0 (by omega)]
    exact h.dgm ha
  · rw [wL_at0 (by omega)]
    exact ((h.clm ha).cf v hv).2
/-! literals that add up or cancel -/
theorem tri (x : Int64) : x = 0 ∨ (x < 0 ∧ ¬ x = 0 ∧ x ≤ 0 ∧ ¬ 0 ≤ x ∧ ¬ 0 < x) ∨ (0 < x ∧ ¬ x = 0 ∧ ¬ x ≤ 0 ∧ 0 ≤ x ∧ ¬ x < 0) := by
  simp only [ltL, leL, eqL, toI0]
  omega
def opp (x y : Int64) : Bool := decide ((x < 0 ∧ 0 < y) ∨ (0 < x ∧ y < 0))
def jnB (x y : Int64) : Bool := opp x y || decide (mabs x ≤ 9223372036854775807 - mabs y)
def jnD (d x y : Int64) : Int64 := if opp x y then mmax 0 (d - mmin (mabs x) (mabs y)) else d
theorem l00 : ¬ ((0 : Int64) < 0) := by decide
theorem l01 : ((0 : Int64) ≤ 0) := by decide
theorem e_X3_joins (k : Nat) {v : Nat} (hv : v < 8) (y : Int64) (σ : Sto) : f_X3_joins k (nI v) y σ = if jnB (σ.2 (k + 1) v) y then some (nI 1, pL (pL σ k 2 (jnD (σ.2 k 2) (σ.2 (k + 1) v) y)) (k + 1) v (σ.2 (k + 1) v + y)) else some (nI 0, σ) := by
  generalize hx : σ.2 (k + 1) v = x
  have h75 : opp x y = false → b_X3_joins_75 k (nI v) y x σ = if jnB x y then some (nI 1, pL (pL σ k 2 (jnD (σ.2 k 2) x y)) (k + 1) v (x + y)) else some (nI 0, σ) := by
    intro ho
    unfold jnB jnD
    rw [ho]
    by_cases q : mabs x ≤ 9223372036854775807 - mabs y <;> simp (disch := omega) only [b_X3_joins_75, b_X3_joins_94, lit, pLeT, pLeF, pLtT, pLtF, pEqT, pEqF, nLeF, nLtF, nI_clamp, or_self, or_false, false_or, not_true_eq_false, not_false_eq_true, ↓reduceIte, nmS_eq, bd1_eq, bd2_eq, nI_add, pEqS, pk_mul, Nat.reduceAdd, Bool.false_eq_true, or_true, true_or, q, decide_true, decide_false, Bool.or_true, Bool.or_false, pL_same (σ := σ) (k := k) (j := 2) rfl]
  have h44 : opp x y = true → (nmS (pL σ k 2 (mmax (0 : Int64) ((σ.2 k 2) - (mmin (mabs x) (mabs y))))) fun s => b_X3_joins_94 k (nI v) y x s) = if jnB x y then some (nI 1, pL (pL σ k 2 (jnD (σ.2 k 2) x y)) (k + 1) v (x + y)) else some (nI 0, σ) := by
    intro ho
    unfold jnB jnD
    rw [ho]
    simp (disch := omega) only [b_X3_joins_94, lit, pLeT, pLeF, pLtT, pLtF, pEqT, pEqF, nLeF, nLtF, nI_clamp, or_self, or_false, false_or, not_true_eq_false, not_false_eq_true, ↓reduceIte, nmS_eq, bd1_eq, bd2_eq, nI_add, pEqS, pk_mul, Nat.reduceAdd, Bool.false_eq_true, or_true, true_or, Bool.true_or]
  rcases tri x with a | ⟨a1, a2, a3, a4, a5⟩ | ⟨a1, a2, a3, a4, a5⟩
  · rw [← h75 (by unfold opp; rw [a]; simp only [l00, false_and, or_self, decide_false])]
    simp (disch := omega) only [f_X3_joins, lit, pLeT, pLeF, pLtT, pLtF, pEqT, pEqF, nLeF, nLtF, nI_clamp, or_self, or_false, false_or, not_true_eq_false, not_false_eq_true, ↓reduceIte, nmS_eq, bd1_eq, bd2_eq, nI_add, pEqS, pk_mul, Nat.reduceAdd, Bool.false_eq_true, or_true, true_or, hx, a]
  · rcases tri y with b | ⟨b1, b2, b3, b4, b5⟩ | ⟨b1, b2, b3, b4, b5⟩
    · rw [← h75 (by unfold opp; rw [b]; simp only [l00, and_false, or_self, decide_false])]
      simp (disch := omega) only [f_X3_joins, lit, pLeT, pLeF, pLtT, pLtF, pEqT, pEqF, nLeF, nLtF, nI_clamp, or_self, or_false, false_or, not_true_eq_false, not_false_eq_true, ↓reduceIte, nmS_eq, bd1_eq, bd2_eq, nI_add, pEqS, pk_mul, Nat.reduceAdd, Bool.false_eq_true, or_true, true_or, hx, a2, b]
    · rw [← h75 (by unfold opp; simp only [b5, a5, and_false, false_and, or_self, decide_false])]
      simp (disch := omega) only [f_X3_joins, b_X3_joins_33, b_X3_joins_44, lit, pLeT, pLeF, pLtT, pLtF, pEqT, pEqF, nLeF, nLtF, nI_clamp, or_self, or_false, false_or, not_true_eq_false, not_false_eq_true, ↓reduceIte, nmS_eq, bd1_eq, bd2_eq, nI_add, pEqS, pk_mul, Nat.reduceAdd, Bool.false_eq_true, or_true, true_or, hx, a2, a3, b2, b3]
    · rw [← h44 (by unfold opp; simp only [b1, a1, and_self, true_or, decide_true])]
      simp (disch := omega) only [f_X3_joins, b_X3_joins_33, b_X3_joins_44, lit, pLeT, pLeF, pLtT, pLtF, pEqT, pEqF, nLeF, nLtF, nI_clamp, or_self, or_false, false_or, not_true_eq_false, not_false_eq_true, ↓reduceIte, nmS_eq, bd1_eq, bd2_eq, nI_add, pEqS, pk_mul, Nat.reduceAdd, Bool.false_eq_true, or_true, true_or, hx, a2, a3, b2, b3]
  · rcases tri y with b | ⟨b1, b2, b3, b4, b5⟩ | ⟨b1, b2, b3, b4, b5⟩
    · rw [← h75 (by unfold opp; rw [b]; simp only [l00, and_false, or_self, decide_false])]
      simp (disch := omega) only [f_X3_joins, lit, pLeT, pLeF, pLtT, pLtF, pEqT, pEqF, nLeF, nLtF, nI_clamp, or_self, or_false, false_or, not_true_eq_false, not_false_eq_true, ↓reduceIte, nmS_eq, bd1_eq, bd2_eq, nI_add, pEqS, pk_mul, Nat.reduceAdd, Bool.false_eq_true, or_true, true_or, hx, a2, b]
    · rw [← h44 (by unfold opp; simp only [b1, a1, and_self, or_true, decide_true])]
      simp (disch := omega) only [f_X3_joins, b_X3_joins_33, b_X3_joins_44, lit, pLeT, pLeF, pLtT, pLtF, pEqT, pEqF, nLeF, nLtF, nI_clamp, or_self, or_false, false_or, not_true_eq_false, not_false_eq_true, ↓reduceIte, nmS_eq, bd1_eq, bd2_eq, nI_add, pEqS, pk_mul, Nat.reduceAdd, Bool.false_eq_true, or_true, true_or, hx, a2, a3, b2, b3]
    · rw [← h75 (by unfold opp; simp only [b5, a5, and_false, false_and, or_self, decide_false])]
      simp (disch := omega) only [f_X3_joins, b_X3_joins_33, b_X3_joins_44, lit, pLeT, pLeF, pLtT, pLtF, pEqT, pEqF, nLeF, nLtF, nI_clamp, or_self, or_false, false_or, not_true_eq_false, not_false_eq_true, ↓reduceIte, nmS_eq, bd1_eq, bd2_eq, nI_add, pEqS, pk_mul, Nat.reduceAdd, Bool.false_eq_true, or_true, true_or, hx, a2, a3, b2, b3]
theorem mx0 {d m : Int64} (hd : 0 ≤ d.toInt) (hm : 0 ≤ m.toInt) : mmax 0 (d - m) = if m ≤ d then d - m else 0 := by
  have := rngL d
  have := rngL m
  have e : (d - m).toInt = d.toInt - m.toInt := subL (by omega) (by omega)
  unfold mmax
  by_cases q : m ≤ d
  · rw [if_pos q, if_neg]
    rw [leL] at q
    rw [ltL, e, toI0]
    omega
  · rw [if_neg q, if_pos]
    rw [leL] at q
    rw [ltL, e, toI0]
    omega
theorem mx0_nn {d m : Int64} (hd : 0 ≤ d.toInt) (hm : 0 ≤ m.toInt) : 0 ≤ (mmax 0 (d - m)).toInt ∧ (mmax 0 (d - m)).toInt ≤ d.toInt := by
  have := rngL d
  have := rngL m
  have e : (d - m).toInt = d.toInt - m.toInt := subL (by omega) (by omega)
  rw [mx0 hd hm]
  split
  · rename_i q
    rw [leL] at q
    rw [e]
    omega
  · rw [toI0]
    omega
theorem mmin_nn {x y : Int64} (hx : 0 ≤ x.toInt) (hy : 0 ≤ y.toInt) : 0 ≤ (mmin x y).toInt := by
  unfold mmin
  split <;> assumption
theorem mmin_le (x y : Int64) : (if y ≤ x then y else x) = mmin x y := by
  unfold mmin
  by_cases q : y < x
  · rw [if_pos q, if_pos (Int64.le_of_lt q)]
  · rw [if_neg q]
    by_cases q2 : y ≤ x
    · rw [if_pos q2]
      exact Int64.le_antisymm q2 (Int64.not_lt.mp q)
    · rw [if_neg q2]
theorem jnD_nn {d x y : Int64} (hd : 0 ≤ d.toInt) (hx : ok x) (hy : ok y) : 0 ≤ (jnD d x y).toInt ∧ (jnD d x y).toInt ≤ d.toInt := by
  unfold jnD
  split
  · exact mx0_nn hd (mmin_nn (mabs_nn hx).1 (mabs_nn hy).1)
  · omega
theorem jnB_ok {x y : Int64} (hx : ok x) (hy : ok y) (h : jnB x y = true) : (x + y).toInt = x.toInt + y.toInt ∧ ok (x + y) := by
  have rx := rngL x
  have ry := rngL y
  have ox : x.toInt ≠ -9223372036854775808 := hx
  have oy : y.toInt ≠ -9223372036854775808 := hy
  have key : -9223372036854775807 ≤ x.toInt + y.toInt ∧ x.toInt + y.toInt ≤ 9223372036854775807 := by
    unfold jnB at h
    cases ho : opp x y
    · rw [ho, Bool.false_or] at h
      have h2 := (le_room (mabs_nn hy).1).mp (of_decide_eq_true h)
      rw [mabs_int hx, mabs_int hy] at h2
      split at h2 <;> split at h2 <;> omega
    · have h2 := of_decide_eq_true ho
      rw [ltL, ltL, ltL, ltL, toI0] at h2
      omega
  have e := addL (x := x) (y := y) (by omega) (by omega)
  refine ⟨e, ?_⟩
  show (x + y).toInt ≠ _
  omega
/-! plus -/
def plA (x y : Nat → Int64) : Nat → Nat → Int64 → Option Int64
  | 0, _, d => some d
  | j + 1, i, d => if jnB (x i) (y i) then plA x y j (i + 1) (jnD d (x i) (y i)) else none
theorem plA_nn {x y : Nat → Int64} (hx : okC x) (hy : okC y) (j : Nat) : ∀ i d d', i + j ≤ 8 → 0 ≤ d.toInt → plA x y j i d = some d' → 0 ≤ d'.toInt ∧ ∀ v, i ≤ v → v < i + j → jnB (x v) (y v) = true := by
  induction j with
  | zero =>
    intro i d d' _ hd e
    cases e
    exact ⟨hd, fun v h1 h2 => by omega⟩
  | succ j ih =>
    intro i d d' hi hd e
    unfold plA at e
    by_cases q : jnB (x i) (y i) = true
    · rw [if_pos q] at e
      have h2 := ih (i + 1) _ d' (by omega) (jnD_nn hd (hx i (by omega)) (hy i (by omega))).1 e
      refine ⟨h2.1, fun v h3 h4 => ?_⟩
      by_cases e2 : v = i
      · rw [e2]; exact q
      · exact h2.2 v (by omega) (by omega)
    · rw [if_neg q] at e
      cases e
theorem l_X3_becomePlus (k k1 k2 : Nat) (σ0 : Sto) (x y : Nat → Int64) (hk2 : k2 + 1 < k ∨ k + 1 < k2) (hy : ∀ v, v < 8 → σ0.2 (k2 + 1) v = y v) (n : Nat) (j : Nat) : ∀ i (σ : Sto), i + j = 8 → Nx k σ0 σ → (∀ v, v < i → σ.2 (k + 1) v = x v + y v) → (∀ v, i ≤ v → v < 8 → σ.2 (k + 1) v = x v) →
    (match plA x y j i (σ.2 k 2) with
    | none => ∃ σ', l_X3_becomePlus_48 k k1 k2 (n + 1 + j) (nI i) σ = some (nI 0, σ') ∧ Nx k σ0 σ'
    | some d => ∃ σ', l_X3_becomePlus_48 k k1 k2 (n + 1 + j) (nI i) σ = some (nI 1, σ') ∧ Nx k σ0 σ' ∧ σ'.2 k 2 = d ∧ ∀ v, v < 8 → σ'.2 (k + 1) v = x v + y v) := by
  induction j with
  | zero =>
    intro i σ hi hn h1 h2
    have e : i = 8 := by omega
    subst e
    refine ⟨σ, ?_, hn, rfl, h1⟩
    show b_X3_becomePlus_48 _ k k1 k2 (nI 8) σ = _
    simp (disch := omega) only [b_X3_becomePlus_48, lit, pLeT, pLeF, pLtT, pLtF, pEqT, pEqF, nLeF, nLtF, nI_clamp, or_self, or_false, false_or, not_true_eq_false, not_false_eq_true, ↓reduceIte, nmS_eq, bd1_eq, bd2_eq, nI_add, pEqS, pk_mul, Nat.reduceAdd, Bool.false_eq_true, or_true, true_or]
  | succ j ih =>
    intro i σ hi hn h1 h2
    have e1 : σ.2 (k + 1) i = x i := h2 i (Nat.le_refl _) (by omega)
    have e2 : σ.2 (k2 + 1) i = y i := by rw [hn.l _ _ (by omega) (by omega)]; exact hy i (by omega)
    have hj := e_X3_joins k (v := i) (by omega) (y i) σ
    rw [e1] at hj
    have hl : l_X3_becomePlus_48 k k1 k2 (n + 1 + (j + 1)) (nI i) σ = b_X3_becomePlus_48 (l_X3_becomePlus_48 k k1 k2 (n + 1 + j)) k k1 k2 (nI i) σ := rfl
    unfold plA
    by_cases q : jnB (x i) (y i) = true
    · rw [if_pos q]
      rw [if_pos q] at hj
      have h9 : l_X3_becomePlus_48 k k1 k2 (n + 1 + (j + 1)) (nI i) σ = l_X3_becomePlus_48 k k1 k2 (n + 1 + j) (nI (i + 1)) (pL (pL σ k 2 (jnD (σ.2 k 2) (x i) (y i))) (k + 1) i (x i + y i)) := by
        rw [hl]
        simp (disch := omega) only [b_X3_becomePlus_48, lit, pLeT, pLeF, pLtT, pLtF, pEqT, pEqF, nLeF, nLtF, nI_clamp, or_self, or_false, false_or, not_true_eq_false, not_false_eq_true, ↓reduceIte, nmS_eq, bd1_eq, bd2_eq, nI_add, pEqS, pk_mul, Nat.reduceAdd, Bool.false_eq_true, or_true, true_or, e2, hj]
      rw [h9]
      have h3 := ih (i + 1) (pL (pL σ k 2 (jnD (σ.2 k 2) (x i) (y i))) (k + 1) i (x i + y i)) (by omega) ((hn.trans (Nx.p0 _ _)).trans (Nx.p1 _ _)) (fun v hv => by
        by_cases e : v = i
        · subst e; rw [pL_at]
        · rw [pL_nj (by omega), pL_nk (by omega)]; exact h1 v (by omega)) (fun v hv hv2 => by rw [pL_nj (by omega), pL_nk (by omega)]; exact h2 v (by omega) hv2)
      rw [pL_nk (by omega), pL_at] at h3
      exact h3
    · rw [if_neg q]
      rw [if_neg q] at hj
      refine ⟨σ, ?_, hn⟩
      rw [hl]
      simp (disch := omega) only [b_X3_becomePlus_48, lit, pLeT, pLeF, pLtT, pLtF, pEqT, pEqF, nLeF, nLtF, nI_clamp, or_self, or_false, false_or, not_true_eq_false, not_false_eq_true, ↓reduceIte, nmS_eq, bd1_eq, bd2_eq, nI_add, pEqS, pk_mul, Nat.reduceAdd, Bool.false_eq_true, or_true, true_or, e2, hj]
theorem e_X3_becomePlus (k k1 k2 : Nat) (σ : Sto) (hk1 : k1 + 1 < k ∨ k + 1 < k1) (hk2 : k2 + 1 < k ∨ k + 1 < k2) (q : σ.2 k1 2 ≤ 9223372036854775807 - σ.2 k2 2) :
    (match plA (σ.2 (k1 + 1)) (σ.2 (k2 + 1)) 8 0 (σ.2 k1 2 + σ.2 k2 2) with
    | none => ∃ σ', f_X3_becomePlus k k1 k2 σ = some (nI 0, σ') ∧ Nx k σ σ'
    | some d => ∃ σ', f_X3_becomePlus k k1 k2 σ = some (nI 1, σ') ∧ Nx k σ σ' ∧ σ'.2 k 2 = d ∧ ∀ v, v < 8 → σ'.2 (k + 1) v = σ.2 (k1 + 1) v + σ.2 (k2 + 1) v) := by
  have hn : Nx k σ (pL (cpL σ (k1 + 1) 0 (k + 1) 0 8) k 2 (σ.2 k1 2 + σ.2 k2 2)) := Nx.c1.trans (Nx.p0 _ _)
  have h9 : f_X3_becomePlus k k1 k2 σ = l_X3_becomePlus_48 k k1 k2 (391 + 1 + 8) (nI 0) (pL (cpL σ (k1 + 1) 0 (k + 1) 0 8) k 2 (σ.2 k1 2 + σ.2 k2 2)) := by
    simp (disch := omega) only [f_X3_becomePlus, lit, pLeT, pLeF, pLtT, pLtF, pEqT, pEqF, nLeF, nLtF, nI_clamp, or_self, or_false, false_or, not_true_eq_false, not_false_eq_true, ↓reduceIte, nmS_eq, bd1_eq, bd2_eq, nI_add, pEqS, pk_mul, Nat.reduceAdd, Bool.false_eq_true, or_true, true_or, q, cpL_k]
  rw [h9]
  have h3 := l_X3_becomePlus k k1 k2 σ (σ.2 (k1 + 1)) (σ.2 (k2 + 1)) hk2 (fun v _ => rfl) 391 8 0 _ (by omega) hn (fun v hv => by omega) (fun v _ hv => by rw [pL_nk (by omega), cpL_at0 hv])
  rw [pL_at] at h3
  exact h3
theorem l_X8_plus {p : Nat} (hp : p + 10 ≤ 312) (τ0 : Sto) (x y : Nat → Int64) (hx : okC x) (hy : okC y) (hyv : ∀ v, v < 8 → τ0.2 6 (p + 2 + v) = y v) (n : Nat) (j : Nat) : ∀ i (d : Int64) (τ : Sto), i + j = 8 → 0 ≤ d.toInt → Mx 11 τ0 τ → (∀ v, v < i → τ.2 11 (2 + v) = x v + y v) → (∀ v, i ≤ v → v < 8 → τ.2 11 (2 + v) = x v) →
    (match plA x y j i d with
    | none => ∃ τ', l_X8_plus_101 (n + 1 + j) (nI p) d (nI i) τ = some (-nI 1000010 - nI 6, pI τ' 0 4 (nI 6)) ∧ Mx 11 τ0 τ'
    | some d' => ∃ τ', l_X8_plus_101 (n + 1 + j) (nI p) d (nI i) τ = (bd2 (f_X8_comes (nI 4) τ') fun r s => bd2 (f_X8_well r s) fun r s => some (r, s)) ∧ Mx 11 τ0 τ' ∧ τ'.2 11 1 = d' ∧ ∀ v, v < 8 → τ'.2 11 (2 + v) = x v + y v) := by
  induction j with
  | zero =>
    intro i d τ hi hd hn h1 h2
    have e : i = 8 := by omega
    subst e
    refine ⟨pL τ 11 1 d, ?_, hn.trans (Mx.p _ _), pL_at _, fun v hv => by rw [pL_nj (by omega)]; exact h1 v hv⟩
    show b_X8_plus_101 _ (nI p) d (nI 8) τ = _
    simp (disch := omega) only [b_X8_plus_101, lit, pLeT, pLeF, pLtT, pLtF, pEqT, pEqF, nLeF, nLtF, nI_clamp, or_self, or_false, false_or, not_true_eq_false, not_false_eq_true, ↓reduceIte, nmS_eq, bd1_eq, bd2_eq, nI_add, pEqS, pk_mul, Nat.reduceAdd, Bool.false_eq_true, or_true, true_or]
  | succ j ih =>
    intro i d τ hi hd hn h1 h2
    have e1 : τ.2 11 (2 + i) = x i := h2 i (Nat.le_refl _) (by omega)
    have e2 : τ.2 6 (p + 2 + i) = y i := by rw [hn.l _ _ (by omega)]; exact hyv i (by omega)
    have ox := hx i (by omega)
    have oy := hy i (by omega)
    have hl : l_X8_plus_101 (n + 1 + (j + 1)) (nI p) d (nI i) τ = b_X8_plus_101 (l_X8_plus_101 (n + 1 + j)) (nI p) d (nI i) τ := rfl
    have m0 : 0 ≤ (mmin (mabs (x i)) (mabs (y i))).toInt := mmin_nn (mabs_nn ox).1 (mabs_nn oy).1
    have c211 : opp (x i) (y i) = false → b_X8_plus_211 (l_X8_plus_101 (n + 1 + j)) (nI p) d (nI i) (x i) (y i) τ = if jnB (x i) (y i) then l_X8_plus_101 (n + 1 + j) (nI p) (jnD d (x i) (y i)) (nI (i + 1)) (pL τ 11 (2 + i) (x i + y i)) else some (-nI 1000010 - nI 6, pI τ 0 4 (nI 6)) := by
      intro ho
      unfold jnB jnD
      rw [ho]
      by_cases q : mabs (x i) ≤ 9223372036854775807 - mabs (y i) <;> simp (disch := omega) only [b_X8_plus_211, b_X8_plus_236, lit, pLeT, pLeF, pLtT, pLtF, pEqT, pEqF, nLeF, nLtF, nI_clamp, or_self, or_false, false_or, not_true_eq_false, not_false_eq_true, ↓reduceIte, nmS_eq, bd1_eq, bd2_eq, nI_add, pEqS, pk_mul, Nat.reduceAdd, Bool.false_eq_true, or_true, true_or, e_X8_size, e_X8_found, q, decide_true, decide_false, Bool.or_true, Bool.or_false]
    have c160 : opp (x i) (y i) = true → b_X8_plus_160 (l_X8_plus_101 (n + 1 + j)) (nI p) d (nI i) (x i) (y i) τ = if jnB (x i) (y i) then l_X8_plus_101 (n + 1 + j) (nI p) (jnD d (x i) (y i)) (nI (i + 1)) (pL τ 11 (2 + i) (x i + y i)) else some (-nI 1000010 - nI 6, pI τ 0 4 (nI 6)) := by
      intro ho
      unfold jnB jnD
      rw [ho, mx0 hd m0, ← mmin_le]
      by_cases q : mabs (y i) ≤ mabs (x i)
      · by_cases q2 : mabs (y i) ≤ d <;> simp (disch := omega) only [b_X8_plus_160, b_X8_plus_187, b_X8_plus_206, b_X8_plus_236, lit, pLeT, pLeF, pLtT, pLtF, pEqT, pEqF, nLeF, nLtF, nI_clamp, or_self, or_false, false_or, not_true_eq_false, not_false_eq_true, ↓reduceIte, nmS_eq, bd1_eq, bd2_eq, nI_add, pEqS, pk_mul, Nat.reduceAdd, Bool.false_eq_true, or_true, true_or, e_X8_size, q, q2, Bool.true_or]
      · by_cases q2 : mabs (x i) ≤ d <;> simp (disch := omega) only [b_X8_plus_160, b_X8_plus_187, b_X8_plus_206, b_X8_plus_236, lit, pLeT, pLeF, pLtT, pLtF, pEqT, pEqF, nLeF, nLtF, nI_clamp, or_self, or_false, false_or, not_true_eq_false, not_false_eq_true, ↓reduceIte, nmS_eq, bd1_eq, bd2_eq, nI_add, pEqS, pk_mul, Nat.reduceAdd, Bool.false_eq_true, or_true, true_or, e_X8_size, q, q2, Bool.true_or]
    have key : l_X8_plus_101 (n + 1 + (j + 1)) (nI p) d (nI i) τ = if jnB (x i) (y i) then l_X8_plus_101 (n + 1 + j) (nI p) (jnD d (x i) (y i)) (nI (i + 1)) (pL τ 11 (2 + i) (x i + y i)) else some (-nI 1000010 - nI 6, pI τ 0 4 (nI 6)) := by
      rw [hl]
      rcases tri (x i) with a | ⟨a1, a2, a3, a4, a5⟩ | ⟨a1, a2, a3, a4, a5⟩
      · rw [← c211 (by unfold opp; rw [a]; simp only [l00, false_and, or_self, decide_false])]
        simp (disch := omega) only [b_X8_plus_101, b_X8_plus_146, lit, pLeT, pLeF, pLtT, pLtF, pEqT, pEqF, nLeF, nLtF, nI_clamp, or_self, or_false, false_or, not_true_eq_false, not_false_eq_true, ↓reduceIte, nmS_eq, bd1_eq, bd2_eq, nI_add, pEqS, pk_mul, Nat.reduceAdd, Bool.false_eq_true, or_true, true_or, e1, e2, a, l01]
      · rcases tri (y i) with b | ⟨b1, b2, b3, b4, b5⟩ | ⟨b1, b2, b3, b4, b5⟩
        · rw [← c211 (by unfold opp; rw [b]; simp only [l00, and_false, or_self, decide_false])]
          simp (disch := omega) only [b_X8_plus_101, b_X8_plus_146, lit, pLeT, pLeF, pLtT, pLtF, pEqT, pEqF, nLeF, nLtF, nI_clamp, or_self, or_false, false_or, not_true_eq_false, not_false_eq_true, ↓reduceIte, nmS_eq, bd1_eq, bd2_eq, nI_add, pEqS, pk_mul, Nat.reduceAdd, Bool.false_eq_true, or_true, true_or, e1, e2, a4, a3, b, l00, l01]
        · rw [← c211 (by unfold opp; simp only [b5, a5, and_false, false_and, or_self, decide_false])]
          simp (disch := omega) only [b_X8_plus_101, b_X8_plus_146, lit, pLeT, pLeF, pLtT, pLtF, pEqT, pEqF, nLeF, nLtF, nI_clamp, or_self, or_false, false_or, not_true_eq_false, not_false_eq_true, ↓reduceIte, nmS_eq, bd1_eq, bd2_eq, nI_add, pEqS, pk_mul, Nat.reduceAdd, Bool.false_eq_true, or_true, true_or, e1, e2, a4, a3, b5, b4]
        · rw [← c160 (by unfold opp; simp only [b1, a1, and_self, true_or, decide_true])]
          simp (disch := omega) only [b_X8_plus_101, b_X8_plus_146, lit, pLeT, pLeF, pLtT, pLtF, pEqT, pEqF, nLeF, nLtF, nI_clamp, or_self, or_false, false_or, not_true_eq_false, not_false_eq_true, ↓reduceIte, nmS_eq, bd1_eq, bd2_eq, nI_add, pEqS, pk_mul, Nat.reduceAdd, Bool.false_eq_true, or_true, true_or, e1, e2, a4, a3, b1, b4]
      · rcases tri (y i) with b | ⟨b1, b2, b3, b4, b5⟩ | ⟨b1, b2, b3, b4, b5⟩
        · rw [← c211 (by unfold opp; rw [b]; simp only [l00, and_false, or_self, decide_false])]
          simp (disch := omega) only [b_X8_plus_101, b_X8_plus_146, lit, pLeT, pLeF, pLtT, pLtF, pEqT, pEqF, nLeF, nLtF, nI_clamp, or_self, or_false, false_or, not_true_eq_false, not_false_eq_true, ↓reduceIte, nmS_eq, bd1_eq, bd2_eq, nI_add, pEqS, pk_mul, Nat.reduceAdd, Bool.false_eq_true, or_true, true_or, e1, e2, a4, a3, b, l00, l01]
        · rw [← c160 (by unfold opp; simp only [b1, a1, and_self, or_true, decide_true])]
          simp (disch := omega) only [b_X8_plus_101, b_X8_plus_146, lit, pLeT, pLeF, pLtT, pLtF, pEqT, pEqF, nLeF, nLtF, nI_clamp, or_self, or_false, false_or, not_true_eq_false, not_false_eq_true, ↓reduceIte, nmS_eq, bd1_eq, bd2_eq, nI_add, pEqS, pk_mul, Nat.reduceAdd, Bool.false_eq_true, or_true, true_or, e1, e2, a4, a3, b5, b4]
        · rw [← c211 (by unfold opp; simp only [b5, a5, and_false, false_and, or_self, decide_false])]
          simp (disch := omega) only [b_X8_plus_101, b_X8_plus_146, lit, pLeT, pLeF, pLtT, pLtF, pEqT, pEqF, nLeF, nLtF, nI_clamp, or_self, or_false, false_or, not_true_eq_false, not_false_eq_true, ↓reduceIte, nmS_eq, bd1_eq, bd2_eq, nI_add, pEqS, pk_mul, Nat.reduceAdd, Bool.false_eq_true, or_true, true_or, e1, e2, a4, a3, b1, b4]
    unfold plA
    by_cases q : jnB (x i) (y i) = true
    · rw [if_pos q]
      rw [if_pos q] at key
      rw [key]
      exact ih (i + 1) _ _ (by omega) (jnD_nn hd ox oy).1 (hn.trans (Mx.p _ _)) (fun v hv => by
        by_cases e : v = i
        · subst e; rw [pL_at]
        · rw [pL_nj (by omega)]; exact h1 v (by omega)) (fun v hv hv2 => by rw [pL_nj (by omega)]; exact h2 v (by omega) hv2)
    · rw [if_neg q]
      rw [if_neg q] at key
      exact ⟨τ, key, hn⟩
theorem s_plus (x y : Int32) : Sim RR (f_X7_plus x y) (f_X8_plus x y) := by
  intro σ τ ⟨u, lv, h⟩
  have r0 := h.refuse0
  have r1 := h.refuse1
  have hF := e_X8_isFormula h
  have hfu := (e_X2_isFull h).2
  obtain ⟨h1, h2, h3⟩ := h.has x
  obtain ⟨g1, g2, g3⟩ := h.has y
  rcases h.rd with q | q
  · rw [q] at r0 r1 hF
    refine ⟨-nI 1000002, σ, τ, ?_, ?_, u, lv, h⟩
    · cases hx : hs lv x
      · rw [hx] at h1
        simp (disch := omega) only [f_X7_plus, b_X7_plus_27, b_X7_plus_28, lit, pLeT, pLeF, pLtT, pLtF, pEqT, pEqF, nLeF, nLtF, nI_clamp, or_self, or_false, false_or, not_true_eq_false, not_false_eq_true, ↓reduceIte, nmS_eq, bd1_eq, bd2_eq, nI_add, pEqS, pk_mul, Nat.reduceAdd, Bool.false_eq_true, or_true, true_or, h1, r0, neS]
      · rw [hx] at h1
        cases hy : hs lv y
        · rw [hy] at g1
          simp (disch := omega) only [f_X7_plus, b_X7_plus_27, b_X7_plus_28, lit, pLeT, pLeF, pLtT, pLtF, pEqT, pEqF, nLeF, nLtF, nI_clamp, or_self, or_false, false_or, not_true_eq_false, not_false_eq_true, ↓reduceIte, nmS_eq, bd1_eq, bd2_eq, nI_add, pEqS, pk_mul, Nat.reduceAdd, Bool.false_eq_true, or_true, true_or, h1, g1, r0, neS]
        · rw [hy] at g1
          simp (disch := omega) only [f_X7_plus, b_X7_plus_27, b_X7_plus_28, lit, pLeT, pLeF, pLtT, pLtF, pEqT, pEqF, nLeF, nLtF, nI_clamp, or_self, or_false, false_or, not_true_eq_false, not_false_eq_true, ↓reduceIte, nmS_eq, bd1_eq, bd2_eq, nI_add, pEqS, pk_mul, Nat.reduceAdd, Bool.false_eq_true, or_true, true_or, h1, g1, r1, neS]
    · simp (disch := omega) only [f_X8_plus, lit, pLeT, pLeF, pLtT, pLtF, pEqT, pEqF, nLeF, nLtF, nI_clamp, or_self, or_false, false_or, not_true_eq_false, not_false_eq_true, ↓reduceIte, nmS_eq, bd1_eq, bd2_eq, nI_add, pEqS, pk_mul, Nat.reduceAdd, Bool.false_eq_true, or_true, true_or, hF]
  · rw [q, if_neg (show ¬ nI 1 = nI 0 by decide)] at r0 r1
    rw [q] at hF
    cases hx : hs lv x
    · rw [hx] at h1 h2
      refine ⟨-nI 1000001, σ, τ, ?_, ?_, u, lv, h⟩
      · simp (disch := omega) only [f_X7_plus, b_X7_plus_27, b_X7_plus_28, lit, pLeT, pLeF, pLtT, pLtF, pEqT, pEqF, nLeF, nLtF, nI_clamp, or_self, or_false, false_or, not_true_eq_false, not_false_eq_true, ↓reduceIte, nmS_eq, bd1_eq, bd2_eq, nI_add, pEqS, pk_mul, Nat.reduceAdd, Bool.false_eq_true, or_true, true_or, h1, r0, neB]
      · simp (disch := omega) only [f_X8_plus, b_X8_plus_26, lit, pLeT, pLeF, pLtT, pLtF, pEqT, pEqF, nLeF, nLtF, nI_clamp, or_self, or_false, false_or, not_true_eq_false, not_false_eq_true, ↓reduceIte, nmS_eq, bd1_eq, bd2_eq, nI_add, pEqS, pk_mul, Nat.reduceAdd, Bool.false_eq_true, or_true, true_or, hF, h2]
    · rw [hx] at h1 h2
      obtain ⟨a, ha, ha2, e, -⟩ := h3 hx
      subst e
      cases hy : hs lv y
      · rw [hy] at g1 g2
        refine ⟨-nI 1000001, σ, τ, ?_, ?_, u, lv, h⟩
        · simp (disch := omega) only [f_X7_plus, b_X7_plus_27, b_X7_plus_28, lit, pLeT, pLeF, pLtT, pLtF, pEqT, pEqF, nLeF, nLtF, nI_clamp, or_self, or_false, false_or, not_true_eq_false, not_false_eq_true, ↓reduceIte, nmS_eq, bd1_eq, bd2_eq, nI_add, pEqS, pk_mul, Nat.reduceAdd, Bool.false_eq_true, or_true, true_or, h1, g1, r0, neB]
        · simp (disch := omega) only [f_X8_plus, b_X8_plus_26, lit, pLeT, pLeF, pLtT, pLtF, pEqT, pEqF, nLeF, nLtF, nI_clamp, or_self, or_false, false_or, not_true_eq_false, not_false_eq_true, ↓reduceIte, nmS_eq, bd1_eq, bd2_eq, nI_add, pEqS, pk_mul, Nat.reduceAdd, Bool.false_eq_true, or_true, true_or, hF, h2, g2]
      · rw [hy] at g1 g2
        obtain ⟨b, hb, hb2, e, -⟩ := g3 hy
        subst e
        by_cases hu : u < 30
        · rw [if_pos hu] at r1
          rw [if_pos hu] at hfu
          have hnx := h.next hu
          obtain ⟨τ1, t1, t2, t3, t4⟩ := h.takes ha
          have e6 : τ1.2 6 (12 + 10 * b + 1) = σ.2 (36 + 2 * b) 2 := by rw [t2.l _ _ (by omega)]; exact h.dgm hb
          have da := (h.clm ha).dn
          have db := (h.clm hb).dn
          by_cases q2 : σ.2 (36 + 2 * a) 2 ≤ 9223372036854775807 - σ.2 (36 + 2 * b) 2
          · have hX := e_X3_becomePlus (36 + 2 * u) (36 + 2 * a) (36 + 2 * b) σ (by omega) (by omega) q2
            have q3 := (le_room db).mp q2
            have dd : 0 ≤ (σ.2 (36 + 2 * a) 2 + σ.2 (36 + 2 * b) 2).toInt := by rw [addL (by omega) (by omega)]; omega
            have hM := l_X8_plus (p := 12 + 10 * b) (by omega) τ1 (σ.2 (36 + 2 * a + 1)) (σ.2 (36 + 2 * b + 1)) (h.okX ha) (h.okX hb) (fun v hv => by rw [t2.l _ _ (by omega)]; exact h.cfm hb hv) 391 8 0 (σ.2 (36 + 2 * a) 2 + σ.2 (36 + 2 * b) 2) τ1 (by omega) dd Mx.rfl (fun v hv => by omega) (fun v _ hv => t4 v hv)
            cases hp : plA (σ.2 (36 + 2 * a + 1)) (σ.2 (36 + 2 * b + 1)) 8 0 (σ.2 (36 + 2 * a) 2 + σ.2 (36 + 2 * b) 2) with
            | none =>
              rw [hp] at hX hM
              obtain ⟨σ', x1, x2⟩ := hX
              obtain ⟨τ', y1, y2⟩ := hM
              refine ⟨-nI 1000010 - nI 6, pI σ' 0 7 (nI 6), pI τ' 0 4 (nI 6), ?_, ?_, u, lv, (h.ag (x2.ag hu) ((t2.trans y2).ag (by omega))).find _⟩
              · simp (disch := omega) only [f_X7_plus, b_X7_plus_28, lit, pLeT, pLeF, pLtT, pLtF, pEqT, pEqF, nLeF, nLtF, nI_clamp, or_self, or_false, false_or, not_true_eq_false, not_false_eq_true, ↓reduceIte, nmS_eq, bd1_eq, bd2_eq, nI_add, pEqS, pk_mul, Nat.reduceAdd, Bool.false_eq_true, or_true, true_or, h1, g1, r1, hnx, layC hu, x1, e_X7_found]
              · simp (disch := omega) only [f_X8_plus, lit, pLeT, pLeF, pLtT, pLtF, pEqT, pEqF, nLeF, nLtF, nI_clamp, or_self, or_false, false_or, not_true_eq_false, not_false_eq_true, ↓reduceIte, nmS_eq, bd1_eq, bd2_eq, nI_add, pEqS, pk_mul, Nat.reduceAdd, Bool.false_eq_true, or_true, true_or, hF, h2, g2, hfu, t1, t3, e6, q2]
                exact y1
            | some d =>
              rw [hp] at hX hM
              obtain ⟨σ', x1, x2, x3, x4⟩ := hX
              obtain ⟨τ', y1, y2, y3, y4⟩ := hM
              have hd := plA_nn (h.okX ha) (h.okX hb) 8 0 _ d (by omega) dd hp
              obtain ⟨σ2, τ2, k1, k2, k3⟩ := h.made hu (x2.ag hu) ((t2.trans y2).ag (by omega)) (q := 4) (by omega) (by omega) hd.1 (fun v hv => (jnB_ok (h.okX ha v hv) (h.okX hb v hv) (hd.2 v (by omega) (by omega))).2) x3 x4 y3 y4
              refine ⟨nI u, pI σ2 0 7 (nI 0), pI τ2 0 4 (nI 0), ?_, ?_, u + 1, _, k3.find _⟩
              · simp (disch := omega) only [f_X7_plus, b_X7_plus_28, lit, pLeT, pLeF, pLtT, pLtF, pEqT, pEqF, nLeF, nLtF, nI_clamp, or_self, or_false, false_or, not_true_eq_false, not_false_eq_true, ↓reduceIte, nmS_eq, bd1_eq, bd2_eq, nI_add, pEqS, pk_mul, Nat.reduceAdd, Bool.false_eq_true, or_true, true_or, h1, g1, r1, hnx, layC hu, x1, k1, e_X7_well]
              · rw [k2] at y1
                simp (disch := omega) only [f_X8_plus, lit, pLeT, pLeF, pLtT, pLtF, pEqT, pEqF, nLeF, nLtF, nI_clamp, or_self, or_false, false_or, not_true_eq_false, not_false_eq_true, ↓reduceIte, nmS_eq, bd1_eq, bd2_eq, nI_add, pEqS, pk_mul, Nat.reduceAdd, Bool.false_eq_true, or_true, true_or, hF, h2, g2, hfu, t1, t3, e6, q2]
                exact y1
          · refine ⟨-nI 1000010 - nI 6, pI σ 0 7 (nI 6), pI τ1 0 4 (nI 6), ?_, ?_, u, lv, (h.ag AgX.rfl (t2.ag (by omega))).find _⟩
            · simp (disch := omega) only [f_X7_plus, b_X7_plus_28, lit, pLeT, pLeF, pLtT, pLtF, pEqT, pEqF, nLeF, nLtF, nI_clamp, or_self, or_false, false_or, not_true_eq_false, not_false_eq_true, ↓reduceIte, nmS_eq, bd1_eq, bd2_eq, nI_add, pEqS, pk_mul, Nat.reduceAdd, Bool.false_eq_true, or_true, true_or, h1, g1, r1, hnx, layC hu, f_X3_becomePlus, q2, e_X7_found]
            · simp (disch := omega) only [f_X8_plus, lit, pLeT, pLeF, pLtT, pLtF, pEqT, pEqF, nLeF, nLtF, nI_clamp, or_self, or_false, false_or, not_true_eq_false, not_false_eq_true, ↓reduceIte, nmS_eq, bd1_eq, bd2_eq, nI_add, pEqS, pk_mul, Nat.reduceAdd, Bool.false_eq_true, or_true, true_or, hF, h2, g2, hfu, t1, t3, e6, q2, e_X8_found]
        · rw [if_neg hu] at r1
          rw [if_neg hu] at hfu
          refine ⟨-nI 1000003, σ, τ, ?_, ?_, u, lv, h⟩
          · simp (disch := omega) only [f_X7_plus, b_X7_plus_28, lit, pLeT, pLeF, pLtT, pLtF, pEqT, pEqF, nLeF, nLtF, nI_clamp, or_self, or_false, false_or, not_true_eq_false, not_false_eq_true, ↓reduceIte, nmS_eq, bd1_eq, bd2_eq, nI_add, pEqS, pk_mul, Nat.reduceAdd, Bool.false_eq_true, or_true, true_or, h1, g1, r1, neF]
          · simp (disch := omega) only [f_X8_plus, lit, pLeT, pLeF, pLtT, pLtF, pEqT, pEqF, nLeF, nLtF, nI_clamp, or_self, or_false, false_or, not_true_eq_false, not_false_eq_true, ↓reduceIte, nmS_eq, bd1_eq, bd2_eq, nI_add, pEqS, pk_mul, Nat.reduceAdd, Bool.false_eq_true, or_true, true_or, hF, h2, g2, hfu]
