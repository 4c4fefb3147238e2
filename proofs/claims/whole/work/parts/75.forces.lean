/-! ===== reading through writes ===== -/
section STO
variable {σ : Sto} {k j a b : Nat}
theorem pI_2 (x : Int32) : (pI σ k j x).2 = σ.2 := Eq.trans (b := σ.2) (Eq.refl _) (Eq.refl _)
theorem pL_1 (x : Int64) : (pL σ k j x).1 = σ.1 := Eq.trans (b := σ.1) (Eq.refl _) (Eq.refl _)
theorem pI_at (x : Int32) : (pI σ k j x).1 k j = x := by simp [pI]
theorem pI_nk {x : Int32} (h : a < k ∨ k < a) : (pI σ k j x).1 a b = σ.1 a b := by
  show (if a = k ∧ b = j then x else σ.1 a b) = _
  rw [if_neg (by omega)]
theorem pI_nj {x : Int32} (h : b < j ∨ j < b) : (pI σ k j x).1 a b = σ.1 a b := by
  show (if a = k ∧ b = j then x else σ.1 a b) = _
  rw [if_neg (by omega)]
theorem pL_at (x : Int64) : (pL σ k j x).2 k j = x := by simp [pL]
theorem pL_nk {x : Int64} (h : a < k ∨ k < a) : (pL σ k j x).2 a b = σ.2 a b := by
  show (if a = k ∧ b = j then x else σ.2 a b) = _
  rw [if_neg (by omega)]
theorem pL_nj {x : Int64} (h : b < j ∨ j < b) : (pL σ k j x).2 a b = σ.2 a b := by
  show (if a = k ∧ b = j then x else σ.2 a b) = _
  rw [if_neg (by omega)]
theorem pI_pI (x y : Int32) : pI (pI σ k j x) k j y = pI σ k j y := by
  unfold pI
  simp only [Prod.mk.injEq, and_true]
  funext a b
  by_cases h : a = k ∧ b = j <;> simp [h]
theorem pI_same {x : Int32} (h : σ.1 k j = x) : pI σ k j x = σ := by
  unfold pI
  apply Prod.ext
  · funext a b
    show (if a = k ∧ b = j then x else σ.1 a b) = σ.1 a b
    by_cases h2 : a = k ∧ b = j
    · rw [if_pos h2, h2.1, h2.2, h]
    · rw [if_neg h2]
  · rfl
theorem pI_swap {k2 j2 : Nat} (x y : Int32) (h : ¬ (k = k2 ∧ j = j2)) : pI (pI σ k j x) k2 j2 y = pI (pI σ k2 j2 y) k j x := by
  unfold pI
  simp only [Prod.mk.injEq, and_true]
  funext a b
  by_cases h1 : a = k ∧ b = j <;> by_cases h2 : a = k2 ∧ b = j2
  · exact absurd ⟨h1.1.symm.trans h2.1, h1.2.symm.trans h2.2⟩ h
  · simp [h1, h2]
    intro q1 q2
    exact absurd ⟨q1, q2⟩ h
  · simp [h1, h2]
    intro q1 q2
    exact absurd ⟨q1.symm, q2.symm⟩ h
  · simp [h1, h2]
end STO
/-! ===== one bit ===== -/
theorem one_bt {i b : Nat} (hi : i < 32) (hb : b < 32) : bt (nI 1 <<< (nI i &&& nI 31)) b = decide (b = i) := by
  have h := b_shl i hi (nI 1) (i := b) hb
  rw [show (nI 1 <<< (nI i &&& nI 31)) = (nI 1 <<< (nI i &&& 31)) from rfl, h, nI1_bt]
  by_cases h1 : i ≤ b
  · by_cases h2 : b = i
    · subst h2
      simp
    · simp [h1, h2, show ¬ (b - i = 0) by omega]
  · simp [h1, show ¬ b = i by omega]
theorem or_one {x : Int32} {i b : Nat} (hi : i < 32) (hb : b < 32) : bt (x ||| (nI 1 <<< (nI i &&& nI 31))) b = (bt x b || decide (b = i)) := by
  rw [b_or, one_bt hi hb]
theorem or_0 (x : Int32) : x ||| nI 0 = x := by
  apply b_ext
  intro i _
  rw [b_or, show bt (nI 0) i = false from b_0 i, Bool.or_false]
/-! ===== what a clause forces ===== -/
def fcA (c : Nat → Int64) (sl : Int64) : Nat → Nat → Int32 → Int32 → Int32 × Int32
  | 0, _, kn, va => (kn, va)
  | j + 1, i, kn, va => if bt kn i = true ∨ mabs (c i) ≤ sl then fcA c sl j (i + 1) kn va else fcA c sl j (i + 1) (kn ||| (nI 1 <<< (nI i &&& nI 31))) (if 0 < c i then va ||| (nI 1 <<< (nI i &&& nI 31)) else va)
theorem fcA_bit (c : Nat → Int64) (sl : Int64) (b : Nat) (hb : b < 32) (j : Nat) : ∀ (i : Nat) (kn va : Int32), i + j ≤ 8 → bt kn b = true → bt (fcA c sl j i kn va).1 b = true := by
  induction j with
  | zero =>
    intro i kn va _ h
    exact h
  | succ j ih =>
    intro i kn va hi h
    unfold fcA
    split
    · exact ih _ _ _ (by omega) h
    · exact ih _ _ _ (by omega) (by rw [or_one (by omega) hb, h, Bool.true_or])
theorem fcA_new (c : Nat → Int64) (sl : Int64) (j i : Nat) (kn va : Int32) (hi : i + j < 8) (h : bt kn i = false) : (fcA c sl j (i + 1) (kn ||| (nI 1 <<< (nI i &&& nI 31))) va).1 ≠ kn := by
  intro q
  have h1 := fcA_bit c sl i (by omega) j (i + 1) (kn ||| (nI 1 <<< (nI i &&& nI 31))) va (by omega) (by rw [or_one (by omega) (by omega)]; simp)
  rw [q, h] at h1
  cases h1
theorem fcA_cong {c c' : Nat → Int64} (sl : Int64) (hc : ∀ v, v < 8 → c v = c' v) (j : Nat) : ∀ (i : Nat) (kn va : Int32), i + j ≤ 8 → fcA c sl j i kn va = fcA c' sl j i kn va := by
  induction j with
  | zero => intros; rfl
  | succ j ih =>
    intro i kn va h
    unfold fcA
    rw [hc i (by omega), ih _ _ _ (by omega), ih _ _ _ (by omega)]
theorem slkA_cong {c c' : Nat → Int64} (kn va : Int32) (hc : ∀ v, v < 8 → c v = c' v) (j : Nat) : ∀ (i : Nat) (s : Int64), i + j ≤ 8 → slkA c kn va j i s = slkA c' kn va j i s := by
  induction j with
  | zero => intros; rfl
  | succ j ih =>
    intro i s h
    unfold slkA
    rw [hc i (by omega), ih _ _ (by omega)]
theorem slk_cong {c c' : Nat → Int64} (d : Int64) (kn va : Int32) (hc : ∀ v, v < 8 → c v = c' v) : slk c d kn va = slk c' d kn va := by
  unfold slk
  rw [slkA_cong kn va hc 8 0 0 (by omega)]
/-- what becomes known by a clause; none: a conflict -/
def fc (c : Nat → Int64) (d : Int64) (q : Int32 × Int32) : Option (Int32 × Int32) := if 0 ≤ slk c d q.1 q.2 then some (fcA c (slk c d q.1 q.2) 8 0 q.1 q.2) else none
theorem fc_cong {c c' : Nat → Int64} (d : Int64) (q : Int32 × Int32) (hc : ∀ v, v < 8 → c v = c' v) : fc c d q = fc c' d q := by
  unfold fc
  rw [slk_cong d q.1 q.2 hc, fcA_cong _ hc 8 0 _ _ (by omega)]
def setX (σ : Sto) (q : Int32 × Int32) : Sto := pI (pI σ 227 5 q.1) 227 6 q.2
def setM (τ : Sto) (q : Int32 × Int32) : Sto := pI (pI τ 0 24 q.1) 0 25 q.2
theorem setX_2 (σ : Sto) (q : Int32 × Int32) : (setX σ q).2 = σ.2 := by
  unfold setX
  rw [pI_2, pI_2]
theorem setX_self (σ : Sto) : setX σ (σ.1 227 5, σ.1 227 6) = σ := by
  unfold setX
  rw [pI_same (σ := σ) rfl, pI_same rfl]
theorem setX_5 (σ : Sto) (x : Int32) (q : Int32 × Int32) : setX (pI σ 227 5 x) q = setX σ q := by
  unfold setX
  rw [pI_pI]
theorem setX_6 (σ : Sto) (x : Int32) (q : Int32 × Int32) : setX (pI σ 227 6 x) q = setX σ q := by
  unfold setX
  rw [pI_swap (σ := σ) (k := 227) (j := 6) (k2 := 227) (j2 := 5) x q.1 (by omega), pI_pI]
theorem setM_self (σ : Sto) : setM σ (σ.1 0 24, σ.1 0 25) = σ := by
  unfold setM
  rw [pI_same (σ := σ) rfl, pI_same rfl]
theorem setM_4 (σ : Sto) (x : Int32) (q : Int32 × Int32) : setM (pI σ 0 24 x) q = setM σ q := by
  unfold setM
  rw [pI_pI]
theorem setM_5 (σ : Sto) (x : Int32) (q : Int32 × Int32) : setM (pI σ 0 25 x) q = setM σ q := by
  unfold setM
  rw [pI_swap (σ := σ) (k := 0) (j := 25) (k2 := 0) (j2 := 24) x q.1 (by omega), pI_pI]
theorem l_X4_conflicts (k : Nat) (sl : Int64) (n : Nat) (j : Nat) : ∀ (i : Nat) (σ : Sto), i + j = 8 → l_X4_conflicts_24 k (n + 1 + j) sl (nI i) σ = some (nI 0, setX σ (fcA (σ.2 (k + 1)) sl j i (σ.1 227 5) (σ.1 227 6))) := by
  induction j with
  | zero =>
    intro i σ h
    have e : i = 8 := by omega
    subst e
    show b_X4_conflicts_24 _ k sl (nI 8) σ = _
    simp (disch := omega) only [b_X4_conflicts_24, lit, pLeT, pLeF, pLtT, pLtF, pEqT, pEqF, nLeF, nLtF, nI_clamp, or_self, or_false, false_or, not_true_eq_false, not_false_eq_true, ↓reduceIte, nmS_eq, bd1_eq, bd2_eq, nI_add, pEqS, fcA, setX_self]
  | succ j ih0 =>
    intro i σ h
    show b_X4_conflicts_24 (l_X4_conflicts_24 k (n + 1 + j)) k sl (nI i) σ = _
    have ih := fun σ => ih0 (i + 1) σ (by omega)
    cases h1 : bt (σ.1 227 5) i
    · by_cases h2 : mabs (σ.2 (k + 1) i) ≤ sl
      · simp (disch := omega) only [b_X4_conflicts_24, b_X4_conflicts_48, b_X4_conflicts_108, lit, pLeT, pLeF, pLtT, pLtF, pEqT, pEqF, nLeF, nLtF, nI_clamp, or_self, or_false, false_or, not_true_eq_false, not_false_eq_true, ↓reduceIte, nmS_eq, bd1_eq, bd2_eq, nI_add, pEqS, fcA, ub, iE0, h1, h2, ih, or_true, Bool.false_eq_true]
      · by_cases h3 : 0 < σ.2 (k + 1) i
        · have h4 : (σ.2 (k + 1) i ≤ 0) = False := eq_false (fun q => absurd h3 (Int64.not_lt.mpr q))
          simp (disch := omega) only [b_X4_conflicts_24, b_X4_conflicts_48, b_X4_conflicts_108, lit, pLeT, pLeF, pLtT, pLtF, pEqT, pEqF, nLeF, nLtF, nI_clamp, or_self, or_false, false_or, not_true_eq_false, not_false_eq_true, ↓reduceIte, nmS_eq, bd1_eq, bd2_eq, nI_add, pEqS, fcA, ub, iE0, h1, h2, h3, h4, ih, Bool.false_eq_true, pI_2, pI_at, pI_nj, setX_5, setX_6]
        · have h4 : (σ.2 (k + 1) i ≤ 0) = True := eq_true (Int64.not_lt.mp h3)
          simp (disch := omega) only [b_X4_conflicts_24, b_X4_conflicts_48, b_X4_conflicts_108, lit, pLeT, pLeF, pLtT, pLtF, pEqT, pEqF, nLeF, nLtF, nI_clamp, or_self, or_false, false_or, not_true_eq_false, not_false_eq_true, ↓reduceIte, nmS_eq, bd1_eq, bd2_eq, nI_add, pEqS, fcA, ub, iE0, h1, h2, h3, h4, ih, Bool.false_eq_true, pI_2, pI_at, pI_nj, setX_5, setX_6]
    · simp (disch := omega) only [b_X4_conflicts_24, b_X4_conflicts_48, b_X4_conflicts_108, lit, pLeT, pLeF, pLtT, pLtF, pEqT, pEqF, nLeF, nLtF, nI_clamp, or_self, or_false, false_or, not_true_eq_false, not_false_eq_true, ↓reduceIte, nmS_eq, bd1_eq, bd2_eq, nI_add, pEqS, fcA, ub, iE0, h1, ih, true_or, Bool.true_eq_false]
theorem e_X4_conflicts (k : Nat) (σ : Sto) : f_X4_conflicts k σ = match fc (σ.2 (k + 1)) (σ.2 k 2) (σ.1 227 5, σ.1 227 6) with
    | none => some (nI 1, σ)
    | some q => some (nI 0, setX σ q) := by
  unfold f_X4_conflicts fc
  by_cases h : 0 ≤ slk (σ.2 (k + 1)) (σ.2 k 2) (σ.1 227 5) (σ.1 227 6)
  · simp only [e_X3_slackBy, bd2_eq, h, ↓reduceIte]
    exact l_X4_conflicts k _ 391 8 0 σ rfl
  · simp only [e_X3_slackBy, bd2_eq, h, ↓reduceIte]
    rfl
theorem l_X8_forces (w N p : Nat) (hw : 0 < w) (sl : Int64) (n : Nat) (hN : p + 10 ≤ N) (hN2 : N < 2147483648) (j : Nat) : ∀ (i : Nat) (v5 : Int32) (τ : Sto), i + j = 8 → l_X8_forces_28 w N (n + 1 + j) (nI p) sl v5 (nI i) τ = some (if (fcA (fun v => τ.2 w (p + 2 + v)) sl j i (τ.1 0 24) (τ.1 0 25)).1 = τ.1 0 24 then v5 else nI 1, setM τ (fcA (fun v => τ.2 w (p + 2 + v)) sl j i (τ.1 0 24) (τ.1 0 25))) := by
  induction j with
  | zero =>
    intro i v5 τ h
    have e : i = 8 := by omega
    subst e
    show b_X8_forces_28 _ w N (nI p) sl v5 (nI 8) τ = _
    simp (disch := omega) only [b_X8_forces_28, lit, pLeT, pLeF, pLtT, pLtF, pEqT, pEqF, nLeF, nLtF, nI_clamp, or_self, or_false, false_or, not_true_eq_false, not_false_eq_true, ↓reduceIte, nmS_eq, bd1_eq, bd2_eq, nI_add, pEqS, fcA, setM_self]
  | succ j ih0 =>
    intro i v5 τ h
    show b_X8_forces_28 (l_X8_forces_28 w N (n + 1 + j)) w N (nI p) sl v5 (nI i) τ = _
    have ih := fun v5 τ => ih0 (i + 1) v5 τ (by omega)
    cases h1 : bt (τ.1 0 24) i
    · by_cases h2 : mabs (τ.2 w (p + 2 + i)) ≤ sl
      · simp (disch := omega) only [b_X8_forces_28, b_X8_forces_100, b_X8_forces_107, lit, pLeT, pLeF, pLtT, pLtF, pEqT, pEqF, nLeF, nLtF, nI_clamp, or_self, or_false, false_or, not_true_eq_false, not_false_eq_true, ↓reduceIte, nmS_eq, bd1_eq, bd2_eq, nI_add, pEqS, fcA, e_X8_has, e_X8_size, iE0, h1, h2, ih, or_true, Bool.false_eq_true]
      · have h5 := fun va => eq_false (fcA_new (fun v => τ.2 w (p + 2 + v)) sl j i (τ.1 0 24) va (by omega) h1)
        by_cases h3 : 0 < τ.2 w (p + 2 + i)
        · have h4 : (τ.2 w (p + 2 + i) ≤ 0) = False := eq_false (fun q => absurd h3 (Int64.not_lt.mpr q))
          simp (disch := omega) only [b_X8_forces_28, b_X8_forces_100, b_X8_forces_107, lit, pLeT, pLeF, pLtT, pLtF, pEqT, pEqF, nLeF, nLtF, nI_clamp, or_self, or_false, false_or, not_true_eq_false, not_false_eq_true, ↓reduceIte, nmS_eq, bd1_eq, bd2_eq, nI_add, pEqS, fcA, e_X8_has, e_X8_size, iE0, h1, h2, h3, h4, h5, ih, Bool.false_eq_true, pI_2, pI_at, pI_nj, setM_4, setM_5, ite_self]
        · have h4 : (τ.2 w (p + 2 + i) ≤ 0) = True := eq_true (Int64.not_lt.mp h3)
          simp (disch := omega) only [b_X8_forces_28, b_X8_forces_100, b_X8_forces_107, lit, pLeT, pLeF, pLtT, pLtF, pEqT, pEqF, nLeF, nLtF, nI_clamp, or_self, or_false, false_or, not_true_eq_false, not_false_eq_true, ↓reduceIte, nmS_eq, bd1_eq, bd2_eq, nI_add, pEqS, fcA, e_X8_has, e_X8_size, iE0, h1, h2, h3, h4, h5, ih, Bool.false_eq_true, pI_2, pI_at, pI_nj, setM_4, setM_5, or_0, ite_self]
    · simp (disch := omega) only [b_X8_forces_28, b_X8_forces_100, b_X8_forces_107, lit, pLeT, pLeF, pLtT, pLtF, pEqT, pEqF, nLeF, nLtF, nI_clamp, or_self, or_false, false_or, not_true_eq_false, not_false_eq_true, ↓reduceIte, nmS_eq, bd1_eq, bd2_eq, nI_add, pEqS, fcA, e_X8_has, iE0, h1, ih, true_or, Bool.true_eq_false]
theorem e_X8_forces (w N p : Nat) (hw : 0 < w) (τ : Sto) (hN : p + 10 ≤ N) (hN2 : N < 2147483648) : f_X8_forces w N (nI p) τ = match fc (fun v => τ.2 w (p + 2 + v)) (τ.2 w (p + 1)) (τ.1 0 24, τ.1 0 25) with
    | none => some (-1, τ)
    | some q => some (if q.1 = τ.1 0 24 then nI 0 else nI 1, setM τ q) := by
  unfold f_X8_forces fc
  rw [e_X8_slackOf w N p _ _ τ hN hN2]
  by_cases h : 0 ≤ slk (fun v => τ.2 w (p + 2 + v)) (τ.2 w (p + 1)) (τ.1 0 24) (τ.1 0 25)
  · simp only [bd2_eq, h, ↓reduceIte]
    exact l_X8_forces w N p hw _ 391 hN hN2 8 0 _ τ rfl
  · simp only [bd2_eq, h, ↓reduceIte]
