/-! ===== the slack of a clause ===== -/
def slkA (c : Nat → Int64) (kn va : Int32) : Nat → Nat → Int64 → Int64
  | 0, _, s => s
  | j + 1, i, s => slkA c kn va j (i + 1) (if bt kn i = false ∨ (bt va i = true ↔ 0 < c i) then s + mabs (c i) else s)
def slk (c : Nat → Int64) (d : Int64) (kn va : Int32) : Int64 := slkA c kn va 8 0 0 - d
theorem l_X3_slackBy (k : Nat) (kn va : Int32) (σ : Sto) (n : Nat) (j : Nat) : ∀ (i : Nat) (s : Int64), i + j = 8 → l_X3_slackBy_5 k (n + 1 + j) kn va s (nI i) σ = some (slkA (σ.2 (k + 1)) kn va j i s - σ.2 k 2, σ) := by
  induction j with
  | zero =>
    intro i s h
    have e : i = 8 := by omega
    subst e
    show b_X3_slackBy_5 _ k kn va s (nI 8) σ = _
    unfold b_X3_slackBy_5
    simp (disch := omega) only [lit, pLeT, pLeF, pLtT, pLtF, pEqT, pEqF, nLeF, nLtF, nI_clamp, or_self, or_false, false_or, not_true_eq_false, not_false_eq_true, ↓reduceIte, nmS_eq, bd1_eq, bd2_eq, nI_add, pEqS, slkA]
  | succ j ih0 =>
    intro i s h
    show b_X3_slackBy_5 (l_X3_slackBy_5 k (n + 1 + j)) k kn va s (nI i) σ = _
    have ih := fun s => ih0 (i + 1) s (by omega)
    cases h1 : bt va i <;> cases h2 : bt kn i <;> by_cases h3 : 0 < σ.2 (k + 1) i
    all_goals
      first
        | have h4 : (σ.2 (k + 1) i ≤ 0) = False := eq_false (fun q => absurd h3 (Int64.not_lt.mpr q))
          simp (disch := omega) only [b_X3_slackBy_5, b_X3_slackBy_27, b_X3_slackBy_43, b_X3_slackBy_69, b_X3_slackBy_72, b_X3_slackBy_85, lit, pLeT, pLeF, pLtT, pLtF, pEqT, pEqF, nLeF, nLtF, nI_clamp, or_self, or_false, false_or, not_true_eq_false, not_false_eq_true, ↓reduceIte, nmS_eq, bd1_eq, bd2_eq, nI_add, pEqS, slkA, ub, iE1, iE0, h1, h2, h3, h4, ih, Bool.false_eq_true, Bool.true_eq_false, eq_self, iff_self, iff_true, iff_false, true_iff, false_iff, or_true, true_or]
        | have h4 : (σ.2 (k + 1) i ≤ 0) = True := eq_true (Int64.not_lt.mp h3)
          simp (disch := omega) only [b_X3_slackBy_5, b_X3_slackBy_27, b_X3_slackBy_43, b_X3_slackBy_69, b_X3_slackBy_72, b_X3_slackBy_85, lit, pLeT, pLeF, pLtT, pLtF, pEqT, pEqF, nLeF, nLtF, nI_clamp, or_self, or_false, false_or, not_true_eq_false, not_false_eq_true, ↓reduceIte, nmS_eq, bd1_eq, bd2_eq, nI_add, pEqS, slkA, ub, iE1, iE0, h1, h2, h3, h4, ih, Bool.false_eq_true, Bool.true_eq_false, eq_self, iff_self, iff_true, iff_false, true_iff, false_iff, or_true, true_or, not_false_eq_true]
theorem e_X3_slackBy (k : Nat) (kn va : Int32) (σ : Sto) : f_X3_slackBy k kn va σ = some (slk (σ.2 (k + 1)) (σ.2 k 2) kn va, σ) := by
  show l_X3_slackBy_5 k (391 + 1 + 8) kn va 0 (nI 0) σ = _
  exact l_X3_slackBy k kn va σ 391 8 0 0 rfl
