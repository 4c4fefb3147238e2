/-! the model's sum -/
theorem l_X8_sumOf (w N p : Nat) (τ : Sto) (n : Nat) (hN : p + 10 ≤ N) (hN2 : N < 2147483648) (hc : okC (fun v => τ.2 w (p + 2 + v))) (j : Nat) : ∀ (i : Nat) (s : Int64), i + j = 8 → 0 ≤ s.toInt → l_X8_sumOf_5 w N (n + 1 + j) (nI p) s (nI i) τ = some (totA (fun v => τ.2 w (p + 2 + v)) j i s, τ) := by
  induction j with
  | zero =>
    intro i s h _
    have e : i = 8 := by omega
    subst e
    show b_X8_sumOf_5 _ w N (nI p) s (nI 8) τ = _
    unfold b_X8_sumOf_5
    simp (disch := omega) only [lit, pLeT, pLeF, pLtT, pLtF, pEqT, pEqF, nLeF, nLtF, nI_clamp, or_self, or_false, false_or, not_true_eq_false, not_false_eq_true, ↓reduceIte, nmS_eq, bd1_eq, bd2_eq, nI_add, pEqS, totA]
  | succ j ih =>
    intro i s h hs
    show b_X8_sumOf_5 (l_X8_sumOf_5 w N (n + 1 + j)) w N (nI p) s (nI i) τ = _
    have hm : 0 ≤ (mabs (τ.2 w (p + 2 + i))).toInt ∧ (mabs (τ.2 w (p + 2 + i))).toInt ≤ 9223372036854775807 := mabs_nn (hc i (by omega))
    by_cases q : s ≤ 9223372036854775807 - mabs (τ.2 w (p + 2 + i))
    · have q1 := (le_room2 hs hm.1).mpr q
      have q2 := (le_room hm.1).mp q
      have ha : (s + mabs (τ.2 w (p + 2 + i))).toInt = s.toInt + (mabs (τ.2 w (p + 2 + i))).toInt := addL (by omega) (by omega)
      have hi := ih (i + 1) (s + mabs (τ.2 w (p + 2 + i))) (by omega) (by omega)
      simp (disch := omega) only [b_X8_sumOf_5, lit, pLeT, pLeF, pLtT, pLtF, pEqT, pEqF, nLeF, nLtF, nI_clamp, or_self, or_false, false_or, not_true_eq_false, not_false_eq_true, ↓reduceIte, nmS_eq, bd1_eq, bd2_eq, nI_add, pEqS, totA, e_X8_size, q, q1, hi]
    · have q1 : ¬ (mabs (τ.2 w (p + 2 + i)) ≤ 9223372036854775807 - s) := fun z => q ((le_room2 hs hm.1).mp z)
      simp (disch := omega) only [b_X8_sumOf_5, lit, pLeT, pLeF, pLtT, pLtF, pEqT, pEqF, nLeF, nLtF, nI_clamp, or_self, or_false, false_or, not_true_eq_false, not_false_eq_true, ↓reduceIte, nmS_eq, bd1_eq, bd2_eq, nI_add, pEqS, totA, e_X8_size, q, q1]
theorem e_X8_sumOf (w N p : Nat) (τ : Sto) (hN : p + 10 ≤ N) (hN2 : N < 2147483648) (hc : okC (fun v => τ.2 w (p + 2 + v))) : f_X8_sumOf w N (nI p) τ = some (tot (fun v => τ.2 w (p + 2 + v)), τ) := by
  show l_X8_sumOf_5 w N (391 + 1 + 8) (nI p) 0 (nI 0) τ = _
  exact l_X8_sumOf w N p τ 391 hN hN2 hc 8 0 0 rfl (by decide)
