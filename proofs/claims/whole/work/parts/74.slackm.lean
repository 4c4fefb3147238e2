theorem e_X8_has (x : Int32) {i : Nat} (h : i < 32) (τ : Sto) : f_X8_has x (nI i) τ = some (if bt x i then nI 1 else nI 0, τ) := by
  unfold f_X8_has b_X8_has_14
  cases hb : bt x i <;> simp (disch := omega) only [lit, pLeT, pLeF, pLtT, pLtF, pEqT, pEqF, nLeF, nLtF, nI_clamp, or_self, or_false, false_or, not_true_eq_false, not_false_eq_true, ↓reduceIte, nmS_eq, bd1_eq, bd2_eq, nI_add, pEqS, sb, iE1, hb, Bool.false_eq_true, or_true, true_or]
theorem addz (x : Int64) : x + 0 = x := Int64.add_zero x
theorem mabs0 : mabs 0 = 0 := by decide
theorem l_X8_slackOf (w N p : Nat) (kn va : Int32) (τ : Sto) (n : Nat) (hN : p + 10 ≤ N) (hN2 : N < 2147483648) (j : Nat) : ∀ (i : Nat) (s : Int64), i + j = 8 → l_X8_slackOf_6 w N (n + 1 + j) (nI p) kn va s (nI i) τ = some (slkA (fun v => τ.2 w (p + 2 + v)) kn va j i s - τ.2 w (p + 1), τ) := by
  induction j with
  | zero =>
    intro i s h
    have e : i = 8 := by omega
    subst e
    show b_X8_slackOf_6 _ w N (nI p) kn va s (nI 8) τ = _
    simp (disch := omega) only [b_X8_slackOf_6, lit, pLeT, pLeF, pLtT, pLtF, pEqT, pEqF, nLeF, nLtF, nI_clamp, or_self, or_false, false_or, not_true_eq_false, not_false_eq_true, ↓reduceIte, nmS_eq, bd1_eq, bd2_eq, nI_add, pEqS, slkA]
  | succ j ih0 =>
    intro i s h
    show b_X8_slackOf_6 (l_X8_slackOf_6 w N (n + 1 + j)) w N (nI p) kn va s (nI i) τ = _
    have ih := fun s => ih0 (i + 1) s (by omega)
    have h3 : 0 < τ.2 w (p + 2 + i) ∨ τ.2 w (p + 2 + i) = 0 ∨ τ.2 w (p + 2 + i) < 0 := by
      simp only [ltL, eqL, toI0]
      omega
    rcases h3 with h3 | h3 | h3
    · have h4 : (0 ≤ τ.2 w (p + 2 + i)) = True := eq_true (Int64.le_of_lt h3)
      cases h1 : bt va i <;> cases h2 : bt kn i <;> simp (disch := omega) only [b_X8_slackOf_6, b_X8_slackOf_50, b_X8_slackOf_57, b_X8_slackOf_58, b_X8_slackOf_76, lit, pLeT, pLeF, pLtT, pLtF, pEqT, pEqF, nLeF, nLtF, nI_clamp, or_self, or_false, false_or, not_true_eq_false, not_false_eq_true, ↓reduceIte, nmS_eq, bd1_eq, bd2_eq, nI_add, pEqS, slkA, e_X8_has, e_X8_size, iE1, iE0, h1, h2, h3, h4, ih, addz, Bool.false_eq_true, Bool.true_eq_false, eq_self, iff_self, iff_true, iff_false, true_iff, false_iff, or_true, true_or]
    · cases h1 : bt va i <;> cases h2 : bt kn i <;> simp (disch := omega) only [b_X8_slackOf_6, b_X8_slackOf_50, b_X8_slackOf_57, b_X8_slackOf_58, b_X8_slackOf_76, lit, pLeT, pLeF, pLtT, pLtF, pEqT, pEqF, nLeF, nLtF, nI_clamp, or_self, or_false, false_or, not_true_eq_false, not_false_eq_true, ↓reduceIte, nmS_eq, bd1_eq, bd2_eq, nI_add, pEqS, slkA, e_X8_has, e_X8_size, iE1, iE0, h1, h2, h3, Int64.le_refl, Int64.lt_irrefl, ih, addz, mabs0, Bool.false_eq_true, Bool.true_eq_false, eq_self, iff_self, iff_true, iff_false, true_iff, false_iff, or_true, true_or, ite_self]
    · have h4 : (0 ≤ τ.2 w (p + 2 + i)) = False := eq_false (Int64.not_le.mpr h3)
      have h5 : (0 < τ.2 w (p + 2 + i)) = False := eq_false (fun q => Int64.lt_irrefl (Int64.lt_trans q h3))
      cases h1 : bt va i <;> cases h2 : bt kn i <;> simp (disch := omega) only [b_X8_slackOf_6, b_X8_slackOf_50, b_X8_slackOf_57, b_X8_slackOf_58, b_X8_slackOf_76, lit, pLeT, pLeF, pLtT, pLtF, pEqT, pEqF, nLeF, nLtF, nI_clamp, or_self, or_false, false_or, not_true_eq_false, not_false_eq_true, ↓reduceIte, nmS_eq, bd1_eq, bd2_eq, nI_add, pEqS, slkA, e_X8_has, e_X8_size, iE1, iE0, h1, h2, h4, h5, ih, addz, Bool.false_eq_true, Bool.true_eq_false, eq_self, iff_self, iff_true, iff_false, true_iff, false_iff, or_true, true_or]
theorem e_X8_slackOf (w N p : Nat) (kn va : Int32) (τ : Sto) (hN : p + 10 ≤ N) (hN2 : N < 2147483648) : f_X8_slackOf w N (nI p) kn va τ = some (slk (fun v => τ.2 w (p + 2 + v)) (τ.2 w (p + 1)) kn va, τ) := by
  show l_X8_slackOf_6 w N (391 + 1 + 8) (nI p) kn va 0 (nI 0) τ = _
  exact l_X8_slackOf w N p kn va τ 391 hN hN2 8 0 0 rfl
