/-! ===== copies of longs, what is kept for undo ===== -/
theorem l_X8_copies (k0 n0 k1 n1 p q m : Nat) (τ : Sto) (hk : k0 < k1 ∨ k1 < k0) (h0 : p + m ≤ n0) (h1 : q + m ≤ n1) (h2 : n0 < 2147483648) (h3 : n1 < 2147483648) (n : Nat) (j : Nat) : ∀ i, i + j = m → l_X8_copies_3 k0 n0 k1 n1 (n + 1 + j) (nI p) (nI q) (nI m) (nI i) (wL τ k1 q i (fun t => τ.2 k0 (p + t))) = some (wL τ k1 q m (fun t => τ.2 k0 (p + t))) := by
  induction j with
  | zero =>
    intro i hi
    have e : i = m := by omega
    subst e
    show b_X8_copies_3 _ k0 n0 k1 n1 (nI p) (nI q) (nI i) (nI i) _ = _
    simp (disch := omega) only [b_X8_copies_3, lit, pLeT, pLeF, pLtT, pLtF, pEqT, pEqF, nLeF, nLtF, nI_clamp, or_self, or_false, false_or, not_true_eq_false, not_false_eq_true, ↓reduceIte, nmS_eq, bd1_eq, bd2_eq, nI_add, pEqS, pk_mul, Nat.reduceAdd, Bool.false_eq_true, or_true, true_or]
  | succ j ih0 =>
    intro i hi
    have ih := ih0 (i + 1) (by omega)
    have e2 : (wL τ k1 q i (fun t => τ.2 k0 (p + t))).2 k0 (p + i) = τ.2 k0 (p + i) := wL_k (by omega)
    have e3 := wL_s (σ := τ) (k := k1) (lo := q) (n := i) (g := fun t => τ.2 k0 (p + t)) rfl
    show b_X8_copies_3 (l_X8_copies_3 k0 n0 k1 n1 (n + 1 + j)) k0 n0 k1 n1 (nI p) (nI q) (nI m) (nI i) (wL τ k1 q i (fun t => τ.2 k0 (p + t))) = _
    simp (disch := omega) only [b_X8_copies_3, lit, pLeT, pLeF, pLtT, pLtF, pEqT, pEqF, nLeF, nLtF, nI_clamp, or_self, or_false, false_or, not_true_eq_false, not_false_eq_true, ↓reduceIte, nmS_eq, bd1_eq, bd2_eq, nI_add, pEqS, pk_mul, Nat.reduceAdd, Bool.false_eq_true, or_true, true_or, e2, e3, ih]
theorem e_X8_copies (k0 n0 k1 n1 p q m : Nat) (τ : Sto) (hk : k0 < k1 ∨ k1 < k0) (h0 : p + m ≤ n0) (h1 : q + m ≤ n1) (h2 : n0 < 2147483648) (h3 : n1 < 2147483648) (hm : m ≤ 399) : f_X8_copies k0 n0 (nI p) k1 n1 (nI q) (nI m) τ = some (wL τ k1 q m (fun t => τ.2 k0 (p + t))) := by
  have h := l_X8_copies k0 n0 k1 n1 p q m τ hk h0 h1 h2 h3 (399 - m) m 0 (by omega)
  rw [wL_0, show 399 - m + 1 + m = 400 by omega] at h
  exact h
theorem l_X8_notes (τ : Sto) (n : Nat) (j : Nat) : ∀ i, i + j = 3432 → l_X8_notes_11 (n + 1 + j) (nI i) (wL τ 8 0 i (fun t => τ.2 8 (t + 312))) = b_X8_notes_50 (pI (wL τ 8 0 3432 (fun t => τ.2 8 (t + 312))) 0 16 (τ.1 0 16 - nI 1)) := by
  induction j with
  | zero =>
    intro i hi
    have e : i = 3432 := by omega
    subst e
    show b_X8_notes_11 _ (nI 3432) _ = _
    simp (disch := omega) only [b_X8_notes_11, lit, pLeT, pLeF, pLtT, pLtF, pEqT, pEqF, nLeF, nLtF, nI_clamp, or_self, or_false, false_or, not_true_eq_false, not_false_eq_true, ↓reduceIte, nmS_eq, bd1_eq, bd2_eq, nI_add, pEqS, pk_mul, Nat.reduceAdd, Bool.false_eq_true, or_true, true_or, wL_1]
  | succ j ih0 =>
    intro i hi
    have ih := ih0 (i + 1) (by omega)
    have e2 : (wL τ 8 0 i (fun t => τ.2 8 (t + 312))).2 8 (i + 312) = τ.2 8 (i + 312) := wL_out (by omega)
    have e3 := wL_s0 (σ := τ) (k := 8) (n := i) (g := fun t => τ.2 8 (t + 312)) rfl
    show b_X8_notes_11 (l_X8_notes_11 (n + 1 + j)) (nI i) (wL τ 8 0 i (fun t => τ.2 8 (t + 312))) = _
    simp (disch := omega) only [b_X8_notes_11, lit, pLeT, pLeF, pLtT, pLtF, pEqT, pEqF, nLeF, nLtF, nI_clamp, or_self, or_false, false_or, not_true_eq_false, not_false_eq_true, ↓reduceIte, nmS_eq, bd1_eq, bd2_eq, nI_add, pEqS, pk_mul, Nat.reduceAdd, Bool.false_eq_true, or_true, true_or, e2, e3, ih]
theorem e_X8_notes50 {s : Nat} (hs : s < 12) (τ : Sto) (h : τ.1 0 16 = nI s) : b_X8_notes_50 τ = some (pI (wL τ 8 (312 * s) 312 (fun t => τ.2 6 (0 + t))) 0 16 (nI (s + 1))) := by
  have e := e_X8_copies 6 312 8 3744 0 (312 * s) 312 τ (by omega) (by omega) (by omega) (by omega) (by omega) (by omega)
  simp (disch := omega) only [b_X8_notes_50, lit, pLeT, pLeF, pLtT, pLtF, pEqT, pEqF, nLeF, nLtF, nI_clamp, or_self, or_false, false_or, not_true_eq_false, not_false_eq_true, ↓reduceIte, nmS_eq, bd1_eq, bd2_eq, nI_add, pEqS, pk_mul, Nat.reduceAdd, Bool.false_eq_true, or_true, true_or, h, e, wL_1]
/-- what a call that keeps changes -/
abbrev Kp (σ τ σ' τ' : Sto) : Prop := (∀ c j, c < 223 ∨ 227 ≤ c → σ'.1 c j = σ.1 c j) ∧ (σ'.2 = σ.2) ∧ (∀ c j, ¬ (c = 0 ∧ j = 16) → τ'.1 c j = τ.1 c j) ∧ (∀ c j, c ≠ 8 → τ'.2 c j = τ.2 c j)
theorem Kp.i {σ τ σ' τ' : Sto} (h : Kp σ τ σ' τ') : ∀ c j, c < 223 ∨ 227 ≤ c → σ'.1 c j = σ.1 c j := h.1
theorem Kp.l {σ τ σ' τ' : Sto} (h : Kp σ τ σ' τ') : σ'.2 = σ.2 := h.2.1
theorem Kp.m {σ τ σ' τ' : Sto} (h : Kp σ τ σ' τ') : ∀ c j, ¬ (c = 0 ∧ j = 16) → τ'.1 c j = τ.1 c j := h.2.2.1
theorem Kp.n {σ τ σ' τ' : Sto} (h : Kp σ τ σ' τ') : ∀ c j, c ≠ 8 → τ'.2 c j = τ.2 c j := h.2.2.2
theorem RU.actch {u lv : Nat} {σ τ σ' τ' : Sto} (h : RU u lv σ τ) (hk : Kp σ τ σ' τ') (ac : ∃ (o s : Nat) (us ls : Nat → Nat), o < 12 ∧ s ≤ 12 ∧ σ'.1 223 3 = nI o ∧ σ'.1 223 4 = nI s ∧ τ'.1 0 16 = nI s ∧ (∀ i, i < s → us i ≤ u ∧ σ'.1 224 ((o + i) % 12) = nI (us i) ∧ σ'.1 225 ((o + i) % 12) = nI (ls i) ∧ Fm σ' 33 (us i) (ls i) (σ'.1 226 ((o + i) % 12)) (fun x => τ'.2 8 (312 * i + x))) ∧ ∀ i j, i ≤ j → j < s → us i ≤ us j) : RU u lv σ' τ' := by
  have hF : ∀ (b u' l' : Nat) (best : Int32) (w w' : Nat → Int64), Fm σ b u' l' best w → b ≤ 160 → (∀ i, i < 312 → w' i = w i) → Fm σ' b u' l' best w' := by
    intro b u' l' best w w' hF hb hw
    have hu' := hF.hu
    exact hF.cong (hk.i _ _ (by omega)) (fun v hv => hk.i _ _ (by omega)) (fun a ha => ⟨hk.i _ _ (by omega), by rw [hk.l], fun v hv => by rw [hk.l]⟩) hw
  refine ⟨?_, ?_, ?_, ?_, ?_, ?_, ?_, ?_, ?_, ac, ?_, ?_, ?_⟩
  · rw [hk.i _ _ (by omega), hk.m _ _ (by omega)]; exact h.st
  · intro r hr
    unfold Rw
    rw [hk.i 12 r (by omega), hk.i 11 r (by omega), hk.m 1 r (by omega), hk.m 2 r (by omega)]
    rcases h.rw r hr with q | ⟨n, l, q1, q2, q3, q4, q5, q6, q7⟩
    · exact Or.inl q
    · refine Or.inr ⟨n, l, q1, q2, q3, q4, q5, q6, fun i hi => ?_⟩
      rw [hk.i _ _ (by omega), hk.m _ _ (by omega)]
      exact q7 i hi
  · obtain ⟨L, l1, l2, l3, l4⟩ := h.tp
    refine ⟨L, l1, by rw [hk.i _ _ (by omega)]; exact l2, by rw [hk.m _ _ (by omega)]; exact l3, fun i hi => ?_⟩
    rw [hk.i _ _ (by omega), hk.m _ _ (by omega)]
    exact l4 i hi
  · rw [hk.i _ _ (by omega), hk.m _ _ (by omega)]; exact h.ft
  · rw [hk.i _ _ (by omega)]; exact h.rd
  · rw [hk.i _ _ (by omega)]; exact h.us
  · rw [hk.i _ _ (by omega)]; exact h.lv
  · rw [hk.i _ _ (by omega)]
    exact hF 33 u lv _ _ _ h.bk (by omega) (fun i _ => hk.n _ _ (by omega))
  · intro k hk2
    unfold Im
    rw [hk.i (97 + 63 * k) 2 (by omega), hk.i (97 + 63 * k) 3 (by omega), hk.i (97 + 63 * k) 4 (by omega), hk.i (97 + 63 * k) 5 (by omega), hk.m 10 k (by omega)]
    rcases h.im k hk2 with q | ⟨q1, q2, u', l', q3, q4, q5⟩
    · exact Or.inl q
    · exact Or.inr ⟨q1, q2, u', l', q3, q4, hF _ _ _ _ _ _ q5 (by omega) (fun i _ => hk.n _ _ (by omega))⟩
  · intro a ha
    rw [hk.i _ _ (by omega)]
    exact h.nm a ha
  · rw [hk.l]
    exact h.no
  · obtain ⟨t, t1, t2, t3, t4⟩ := h.tr
    refine ⟨t, t1, by rw [hk.i _ _ (by omega)]; exact t2, by rw [hk.m _ _ (by omega)]; exact t3, fun i hi => ?_⟩
    rw [hk.i _ _ (by omega), hk.m _ _ (by omega)]
    exact t4 i hi
theorem Fm.kp {σ τ σ' τ' : Sto} (hk : Kp σ τ σ' τ') {u lv : Nat} {best : Int32} {w w' : Nat → Int64} (h : Fm σ 33 u lv best w) (hw : ∀ i, i < 312 → w' i = w i) : Fm σ' 33 u lv best w' := by
  have hu' := h.hu
  exact h.cong (hk.i _ _ (by omega)) (fun v hv => hk.i _ _ (by omega)) (fun a ha => ⟨hk.i _ _ (by omega), by rw [hk.l], fun v hv => by rw [hk.l]⟩) hw
theorem RU.keep {u lv : Nat} {σ τ : Sto} (h : RU u lv σ τ) : ∃ σ' τ', f_X0_keep 33 σ = some σ' ∧ f_X8_notes τ = some τ' ∧ RU u lv σ' τ' ∧ Kp σ τ σ' τ' := by
  obtain ⟨o, s, us, ls, a1, a2, a3, a4, a5, a6, a7⟩ := h.ac
  have hus := h.us
  have hlv := h.lv
  by_cases q : s = 12
  · subst q
    have r1 : nI (o + 1) - nI (o + 1) / nI 12 * nI 12 = nI ((o + 1) % 12) := pk_rem (by omega) (by omega) (by omega)
    have r2 : nI ((o + 1) % 12 + 11) - nI ((o + 1) % 12 + 11) / nI 12 * nI 12 = nI (((o + 1) % 12 + 11) % 12) := pk_rem (by omega) (by omega) (by omega)
    have r3 : ((o + 1) % 12 + 11) % 12 = o := by omega
    rw [r3] at r2
    have m1 := l_X8_notes τ 567 3432 0 (by omega)
    rw [wL_0] at m1
    have m1 : l_X8_notes_11 4000 (nI 0) τ = _ := m1
    rw [a5, pk_sub (by omega)] at m1
    have m2 := e_X8_notes50 (s := 11) (by omega) (pI (wL τ 8 0 3432 (fun t => τ.2 8 (t + 312))) 0 16 (nI (12 - 1))) (pI_at _)
    have hkp : Kp σ τ (pI (pI (pI (pI (pI (pI σ 223 3 (nI ((o + 1) % 12))) 223 4 (nI 11)) 224 o (nI u)) 225 o (nI lv)) 226 o (σ.1 33 5)) 223 4 (nI 12)) (pI (wL (pI (wL τ 8 0 3432 (fun t => τ.2 8 (t + 312))) 0 16 (nI (12 - 1))) 8 (312 * 11) 312 (fun t => (pI (wL τ 8 0 3432 (fun t => τ.2 8 (t + 312))) 0 16 (nI (12 - 1))).2 6 (0 + t))) 0 16 (nI (11 + 1))) := by
      refine ⟨fun c j hc => ?_, ?_, fun c j hc => ?_, fun c j hc => ?_⟩
      · rw [pI_nk (by omega), pI_nk (by omega), pI_nk (by omega), pI_nk (by omega), pI_nk (by omega), pI_nk (by omega)]
      · rw [pI_2, pI_2, pI_2, pI_2, pI_2, pI_2]
      · rw [pI_no hc, wL_1, pI_no hc, wL_1]
      · rw [pI_2, wL_k (by omega), pI_2, wL_k (by omega)]
    refine ⟨_, _, ?_, ?_, h.actch hkp ?_, hkp⟩
    · simp (disch := omega) only [f_X0_keep, b_X0_keep_32, lit, pLeT, pLeF, pLtT, pLtF, pEqT, pEqF, nLeF, nLtF, nI_clamp, or_self, or_false, false_or, not_true_eq_false, not_false_eq_true, ↓reduceIte, nmS_eq, bd1_eq, bd2_eq, nI_add, pEqS, pk_mul, Nat.reduceAdd, Bool.false_eq_true, or_true, true_or, a3, a4, r1, r2, pI_at, pI_nj, pI_nk, pk_sub, hus, hlv, Nat.reduceSub]
    · simp (disch := omega) only [f_X8_notes, lit, pLeT, pLeF, pLtT, pLtF, pEqT, pEqF, nLeF, nLtF, nI_clamp, or_self, or_false, false_or, not_true_eq_false, not_false_eq_true, ↓reduceIte, nmS_eq, bd1_eq, bd2_eq, nI_add, pEqS, pk_mul, Nat.reduceAdd, Bool.false_eq_true, or_true, true_or, a5, m1, m2]
    · refine ⟨(o + 1) % 12, 12, fun i => if i < 11 then us (i + 1) else u, fun i => if i < 11 then ls (i + 1) else lv, by omega, by omega, ?_, pI_at _, pI_at _, fun i hi => ?_, fun i j hij hj => ?_⟩
      · rw [pI_nj (by omega), pI_nk (by omega), pI_nk (by omega), pI_nk (by omega), pI_nj (by omega), pI_at]
      · simp only
        by_cases q : i < 11
        · rw [if_pos q, if_pos q]
          obtain ⟨b1, b2, b3, b4⟩ := a6 (i + 1) (by omega)
          have e1 : ((o + 1) % 12 + i) % 12 = (o + (i + 1)) % 12 := by omega
          have e2 : (o + (i + 1)) % 12 < o ∨ o < (o + (i + 1)) % 12 := by omega
          rw [e1]
          refine ⟨b1, ?_, ?_, ?_⟩
          · rw [pI_nk (by omega), pI_nk (by omega), pI_nk (by omega), pI_nj e2, pI_nk (by omega), pI_nk (by omega)]; exact b2
          · rw [pI_nk (by omega), pI_nk (by omega), pI_nj e2, pI_nk (by omega), pI_nk (by omega), pI_nk (by omega)]; exact b3
          · have e3 : (pI (pI (pI (pI (pI (pI σ 223 3 (nI ((o + 1) % 12))) 223 4 (nI 11)) 224 o (nI u)) 225 o (nI lv)) 226 o (σ.1 33 5)) 223 4 (nI 12)).1 226 ((o + (i + 1)) % 12) = σ.1 226 ((o + (i + 1)) % 12) := by
              rw [pI_nk (by omega), pI_nj e2, pI_nk (by omega), pI_nk (by omega), pI_nk (by omega), pI_nk (by omega)]
            rw [e3]
            refine b4.kp hkp (fun x hx => ?_)
            have ei : 312 * i + x + 312 = 312 * (i + 1) + x := by omega
            rw [pI_2, wL_out (by omega), pI_2, wL_at0 (by omega), ei]
        · have e : i = 11 := by omega
          subst e
          rw [if_neg q, if_neg q]
          have e1 : ((o + 1) % 12 + 11) % 12 = o := r3
          rw [e1]
          refine ⟨Nat.le_refl _, ?_, ?_, ?_⟩
          · rw [pI_nk (by omega), pI_nk (by omega), pI_nk (by omega), pI_at]
          · rw [pI_nk (by omega), pI_nk (by omega), pI_at]
          · rw [pI_nk (by omega), pI_at]
            refine h.bk.kp hkp (fun x hx => ?_)
            rw [pI_2, wL_at hx, pI_2, wL_k (by omega), Nat.zero_add]
      · simp only
        by_cases q : j < 11
        · rw [if_pos q, if_pos (by omega)]
          exact a7 (i + 1) (j + 1) (by omega) (by omega)
        · rw [if_neg q]
          split
          · exact (a6 (i + 1) (by omega)).1
          · exact Nat.le_refl _
  · have r2 : nI (o + s) - nI (o + s) / nI 12 * nI 12 = nI ((o + s) % 12) := pk_rem (by omega) (by omega) (by omega)
    have hp : (o + s) % 12 < 12 := by omega
    have m2 := e_X8_notes50 (s := s) (by omega) τ a5
    have hkp : Kp σ τ (pI (pI (pI (pI σ 224 ((o + s) % 12) (nI u)) 225 ((o + s) % 12) (nI lv)) 226 ((o + s) % 12) (σ.1 33 5)) 223 4 (nI (s + 1))) (pI (wL τ 8 (312 * s) 312 (fun t => τ.2 6 (0 + t))) 0 16 (nI (s + 1))) := by
      refine ⟨fun c j hc => ?_, ?_, fun c j hc => ?_, fun c j hc => ?_⟩
      · rw [pI_nk (by omega), pI_nk (by omega), pI_nk (by omega), pI_nk (by omega)]
      · rw [pI_2, pI_2, pI_2, pI_2]
      · rw [pI_no hc, wL_1]
      · rw [pI_2, wL_k (by omega)]
    refine ⟨_, _, ?_, ?_, h.actch hkp ?_, hkp⟩
    · simp (disch := omega) only [f_X0_keep, b_X0_keep_32, lit, pLeT, pLeF, pLtT, pLtF, pEqT, pEqF, nLeF, nLtF, nI_clamp, or_self, or_false, false_or, not_true_eq_false, not_false_eq_true, ↓reduceIte, nmS_eq, bd1_eq, bd2_eq, nI_add, pEqS, pk_mul, Nat.reduceAdd, Bool.false_eq_true, or_true, true_or, a3, a4, r2, pI_at, pI_nj, pI_nk, hus, hlv]
    · simp (disch := omega) only [f_X8_notes, lit, pLeT, pLeF, pLtT, pLtF, pEqT, pEqF, nLeF, nLtF, nI_clamp, or_self, or_false, false_or, not_true_eq_false, not_false_eq_true, ↓reduceIte, nmS_eq, bd1_eq, bd2_eq, nI_add, pEqS, pk_mul, Nat.reduceAdd, Bool.false_eq_true, or_true, true_or, a5, m2]
    · refine ⟨o, s + 1, fun i => if i < s then us i else u, fun i => if i < s then ls i else lv, a1, by omega, ?_, pI_at _, pI_at _, fun i hi => ?_, fun i j hij hj => ?_⟩
      · rw [pI_nj (by omega), pI_nk (by omega), pI_nk (by omega), pI_nk (by omega)]
        exact a3
      · simp only
        by_cases q : i < s
        · rw [if_pos q, if_pos q]
          obtain ⟨b1, b2, b3, b4⟩ := a6 i (by omega)
          have e2 : (o + i) % 12 < (o + s) % 12 ∨ (o + s) % 12 < (o + i) % 12 := by omega
          refine ⟨b1, ?_, ?_, ?_⟩
          · rw [pI_nk (by omega), pI_nk (by omega), pI_nk (by omega), pI_nj e2]; exact b2
          · rw [pI_nk (by omega), pI_nk (by omega), pI_nj e2, pI_nk (by omega)]; exact b3
          · have e3 : (pI (pI (pI (pI σ 224 ((o + s) % 12) (nI u)) 225 ((o + s) % 12) (nI lv)) 226 ((o + s) % 12) (σ.1 33 5)) 223 4 (nI (s + 1))).1 226 ((o + i) % 12) = σ.1 226 ((o + i) % 12) := by
              rw [pI_nk (by omega), pI_nj e2, pI_nk (by omega), pI_nk (by omega)]
            rw [e3]
            refine b4.kp hkp (fun x hx => ?_)
            rw [pI_2, wL_out (by omega)]
        · have e : i = s := by omega
          subst e
          rw [if_neg q, if_neg q]
          refine ⟨Nat.le_refl _, ?_, ?_, ?_⟩
          · rw [pI_nk (by omega), pI_nk (by omega), pI_nk (by omega), pI_at]
          · rw [pI_nk (by omega), pI_nk (by omega), pI_at]
          · rw [pI_nk (by omega), pI_at]
            refine h.bk.kp hkp (fun x hx => ?_)
            rw [pI_2, wL_at hx, Nat.zero_add]
      · simp only
        by_cases q : j < s
        · rw [if_pos q, if_pos (by omega)]
          exact a7 i j hij q
        · rw [if_neg q]
          split
          · exact (a6 i (by omega)).1
          · exact Nat.le_refl _
