/-! ===== asks, kind by kind ===== -/
theorem ask_s1 {u lv : Nat} {σ0 τ0 σ τ : Sto} (h : Tr u lv σ0 τ0 σ τ) {a : Nat} (ha : a < u) (hq : σ0.1 (36 + 2 * a) 3 = nI 1) (hq2 : τ0.2 6 (12 + 10 * a) = lN 1) : ∃ r σ' τ', f_X1_sizeOf (36 + 2 * a) (nI 0) σ = some (r, σ') ∧ f_X8_givenSize (nI a) τ = some (r, τ') ∧ RU u lv σ' τ' := by
  have hu := h.r.bk.hu
  have f0 := h.facts ha hq hq2
  obtain ⟨σ1, τ1, x1, m1, h1⟩ := h.trc (nI 11)
  have f1 := h1.facts ha hq hq2
  obtain ⟨σ2, τ2, x2, m2, h2⟩ := h1.trc (nI 10)
  have f2 := h2.facts ha hq hq2
  obtain ⟨σ3, τ3, x3, m3, h3⟩ := h2.trc (nI 21)
  have f3 := h3.facts ha hq hq2
  obtain ⟨σ4, τ4, x4, m4, h4⟩ := h3.trc (nI 20)
  have f4 := h4.facts ha hq hq2
  have p1 : nI 12 + nI 10 * nI a = nI (12 + 10 * a) := by rw [pk_mul, nI_add]
  have p2 : nI 0 + nI 1 = nI 1 := nI_add 0 1
  refine ⟨nI (cvA (σ0.2 (36 + 2 * a + 1)) 8 0 0) + (nI a + nI (lvA (σ0.2 (36 + 2 * a + 1)) 8 0)), σ4, τ4, ?_, ?_, h4.r⟩
  · simp (disch := omega) only [f_X1_sizeOf, b_X1_sizeOf_48, f_X1_sizeOfGiven, f_X1_sizeOfAny, f_X1_markOf_0, f_X1_markOfGiven, f_X1_markOfAny, f_X1_markOfAxiom, f_X1_markOfBound, f_X1_sizeOfAxiom, f_X1_sizeOfDerived, f_X1_sizeOfClaimed, f_X1_markOf, b_X1_markOf_66, f_X1_markOfDerived, f_X1_sizeOf_0, lit, pLeT, pLeF, pLtT, pLtF, pEqT, pEqF, nLeF, nLtF, nI_clamp, or_self, or_false, false_or, not_true_eq_false, not_false_eq_true, ↓reduceIte, nmS_eq, bd1_eq, bd2_eq, pEqS, Bool.false_eq_true, or_true, true_or, p2, x1, x2, x3, x4, f0.1, f0.2.2.1, f1.1, f1.2.2.1, f2.1, f2.2.2.1, f3.1, f3.2.2.1, f4.1, f4.2.2.1, e_X3_countVariables, e_X3_leastVariable, h1.l, h2.l, h3.l, h4.l]
  · simp (disch := omega) only [f_X8_derivedSize, b_X8_derivedSize_14, b_X8_derivedSize_25, b_X8_derivedSize_57, f_X8_givenMark, b_X8_givenMark_24, b_X8_givenMark_27, b_X8_givenMark_72, f_X8_givenSize, b_X8_givenSize_14, b_X8_givenSize_25, b_X8_givenSize_59, f_X8_derivedMark, f_X8_kindIn, lit, pLeT, pLeF, pLtT, pLtF, pEqT, pEqF, nLeF, nLtF, nI_clamp, or_self, or_false, false_or, not_true_eq_false, not_false_eq_true, ↓reduceIte, nmS_eq, bd1_eq, bd2_eq, pEqS, Bool.false_eq_true, or_true, true_or, p1, m1, m2, m3, m4, f0.2.1, f0.2.2.2.1, f0.2.2.2.2, f1.2.1, f1.2.2.2.1, f1.2.2.2.2, f2.2.1, f2.2.2.2.1, f2.2.2.2.2, f3.2.1, f3.2.2.2.1, f3.2.2.2.2, f4.2.1, f4.2.2.2.1, f4.2.2.2.2, lN_i]
theorem ask_s2 {u lv : Nat} {σ0 τ0 σ τ : Sto} (h : Tr u lv σ0 τ0 σ τ) {a : Nat} (ha : a < u) (hq : σ0.1 (36 + 2 * a) 3 = nI 2) (hq2 : τ0.2 6 (12 + 10 * a) = lN 2) : ∃ r σ' τ', f_X1_sizeOf (36 + 2 * a) (nI 0) σ = some (r, σ') ∧ f_X8_givenSize (nI a) τ = some (r, τ') ∧ RU u lv σ' τ' := by
  have hu := h.r.bk.hu
  have f0 := h.facts ha hq hq2
  obtain ⟨σ1, τ1, x1, m1, h1⟩ := h.trc (nI 12)
  have f1 := h1.facts ha hq hq2
  obtain ⟨σ2, τ2, x2, m2, h2⟩ := h1.trc (nI 11)
  have f2 := h2.facts ha hq hq2
  obtain ⟨σ3, τ3, x3, m3, h3⟩ := h2.trc (nI 10)
  have f3 := h3.facts ha hq hq2
  obtain ⟨σ4, τ4, x4, m4, h4⟩ := h3.trc (nI 24)
  have f4 := h4.facts ha hq hq2
  obtain ⟨σ5, τ5, x5, m5, h5⟩ := h4.trc (nI 21)
  have f5 := h5.facts ha hq hq2
  obtain ⟨σ6, τ6, x6, m6, h6⟩ := h5.trc (nI 20)
  have f6 := h6.facts ha hq hq2
  have p1 : nI 12 + nI 10 * nI a = nI (12 + 10 * a) := by rw [pk_mul, nI_add]
  have p2 : nI 0 + nI 1 = nI 1 := nI_add 0 1
  refine ⟨-(nI (cvA (σ0.2 (36 + 2 * a + 1)) 8 0 0) + nI 2 * (nI a + nI (lvA (σ0.2 (36 + 2 * a + 1)) 8 0))), σ6, τ6, ?_, ?_, h6.r⟩
  · simp (disch := omega) only [f_X1_sizeOf, b_X1_sizeOf_48, f_X1_sizeOfGiven, f_X1_sizeOfAny, f_X1_markOf_0, f_X1_markOfGiven, f_X1_markOfAny, f_X1_markOfAxiom, f_X1_markOfBound, f_X1_sizeOfAxiom, f_X1_sizeOfDerived, f_X1_sizeOfClaimed, f_X1_markOf, b_X1_markOf_66, f_X1_markOfDerived, f_X1_sizeOf_0, lit, pLeT, pLeF, pLtT, pLtF, pEqT, pEqF, nLeF, nLtF, nI_clamp, or_self, or_false, false_or, not_true_eq_false, not_false_eq_true, ↓reduceIte, nmS_eq, bd1_eq, bd2_eq, pEqS, Bool.false_eq_true, or_true, true_or, p2, x1, x2, x3, x4, x5, x6, f0.1, f0.2.2.1, f1.1, f1.2.2.1, f2.1, f2.2.2.1, f3.1, f3.2.2.1, f4.1, f4.2.2.1, f5.1, f5.2.2.1, f6.1, f6.2.2.1, e_X3_countVariables, e_X3_leastVariable, h1.l, h2.l, h3.l, h4.l, h5.l, h6.l]
  · simp (disch := omega) only [f_X8_derivedSize, b_X8_derivedSize_14, b_X8_derivedSize_25, b_X8_derivedSize_57, f_X8_givenMark, b_X8_givenMark_24, b_X8_givenMark_27, b_X8_givenMark_72, f_X8_givenSize, b_X8_givenSize_14, b_X8_givenSize_25, b_X8_givenSize_59, f_X8_derivedMark, f_X8_kindIn, lit, pLeT, pLeF, pLtT, pLtF, pEqT, pEqF, nLeF, nLtF, nI_clamp, or_self, or_false, false_or, not_true_eq_false, not_false_eq_true, ↓reduceIte, nmS_eq, bd1_eq, bd2_eq, pEqS, Bool.false_eq_true, or_true, true_or, p1, m1, m2, m3, m4, m5, m6, f0.2.1, f0.2.2.2.1, f0.2.2.2.2, f1.2.1, f1.2.2.2.1, f1.2.2.2.2, f2.2.1, f2.2.2.2.1, f2.2.2.2.2, f3.2.1, f3.2.2.2.1, f3.2.2.2.2, f4.2.1, f4.2.2.2.1, f4.2.2.2.2, f5.2.1, f5.2.2.2.1, f5.2.2.2.2, f6.2.1, f6.2.2.2.1, f6.2.2.2.2, lN_i]
theorem ask_s3 {u lv : Nat} {σ0 τ0 σ τ : Sto} (h : Tr u lv σ0 τ0 σ τ) {a : Nat} (ha : a < u) (hq : σ0.1 (36 + 2 * a) 3 = nI 3) (hq2 : τ0.2 6 (12 + 10 * a) = lN 3) : ∃ r σ' τ', f_X1_sizeOf (36 + 2 * a) (nI 0) σ = some (r, σ') ∧ f_X8_givenSize (nI a) τ = some (r, τ') ∧ RU u lv σ' τ' := by
  have hu := h.r.bk.hu
  have f0 := h.facts ha hq hq2
  obtain ⟨σ1, τ1, x1, m1, h1⟩ := h.trc (nI 11)
  have f1 := h1.facts ha hq hq2
  obtain ⟨σ2, τ2, x2, m2, h2⟩ := h1.trc (nI 10)
  have f2 := h2.facts ha hq hq2
  obtain ⟨σ3, τ3, x3, m3, h3⟩ := h2.trc (nI 22)
  have f3 := h3.facts ha hq hq2
  obtain ⟨σ4, τ4, x4, m4, h4⟩ := h3.trc (nI 21)
  have f4 := h4.facts ha hq hq2
  obtain ⟨σ5, τ5, x5, m5, h5⟩ := h4.trc (nI 20)
  have f5 := h5.facts ha hq hq2
  have p1 : nI 12 + nI 10 * nI a = nI (12 + 10 * a) := by rw [pk_mul, nI_add]
  have p2 : nI 0 + nI 1 = nI 1 := nI_add 0 1
  refine ⟨nI (cvA (σ0.2 (36 + 2 * a + 1)) 8 0 0) + (nI a + nI (lvA (σ0.2 (36 + 2 * a + 1)) 8 0) - nI 1000), σ5, τ5, ?_, ?_, h5.r⟩
  · simp (disch := omega) only [f_X1_sizeOf, b_X1_sizeOf_48, f_X1_sizeOfGiven, f_X1_sizeOfAny, f_X1_markOf_0, f_X1_markOfGiven, f_X1_markOfAny, f_X1_markOfAxiom, f_X1_markOfBound, f_X1_sizeOfAxiom, f_X1_sizeOfDerived, f_X1_sizeOfClaimed, f_X1_markOf, b_X1_markOf_66, f_X1_markOfDerived, f_X1_sizeOf_0, lit, pLeT, pLeF, pLtT, pLtF, pEqT, pEqF, nLeF, nLtF, nI_clamp, or_self, or_false, false_or, not_true_eq_false, not_false_eq_true, ↓reduceIte, nmS_eq, bd1_eq, bd2_eq, pEqS, Bool.false_eq_true, or_true, true_or, p2, x1, x2, x3, x4, x5, f0.1, f0.2.2.1, f1.1, f1.2.2.1, f2.1, f2.2.2.1, f3.1, f3.2.2.1, f4.1, f4.2.2.1, f5.1, f5.2.2.1, e_X3_countVariables, e_X3_leastVariable, h1.l, h2.l, h3.l, h4.l, h5.l]
  · simp (disch := omega) only [f_X8_derivedSize, b_X8_derivedSize_14, b_X8_derivedSize_25, b_X8_derivedSize_57, f_X8_givenMark, b_X8_givenMark_24, b_X8_givenMark_27, b_X8_givenMark_72, f_X8_givenSize, b_X8_givenSize_14, b_X8_givenSize_25, b_X8_givenSize_59, f_X8_derivedMark, f_X8_kindIn, lit, pLeT, pLeF, pLtT, pLtF, pEqT, pEqF, nLeF, nLtF, nI_clamp, or_self, or_false, false_or, not_true_eq_false, not_false_eq_true, ↓reduceIte, nmS_eq, bd1_eq, bd2_eq, pEqS, Bool.false_eq_true, or_true, true_or, p1, m1, m2, m3, m4, m5, f0.2.1, f0.2.2.2.1, f0.2.2.2.2, f1.2.1, f1.2.2.2.1, f1.2.2.2.2, f2.2.1, f2.2.2.2.1, f2.2.2.2.2, f3.2.1, f3.2.2.2.1, f3.2.2.2.2, f4.2.1, f4.2.2.2.1, f4.2.2.2.2, f5.2.1, f5.2.2.2.1, f5.2.2.2.2, lN_i]
theorem ask_s4 {u lv : Nat} {σ0 τ0 σ τ : Sto} (h : Tr u lv σ0 τ0 σ τ) {a : Nat} (ha : a < u) (hq : σ0.1 (36 + 2 * a) 3 = nI 4) (hq2 : τ0.2 6 (12 + 10 * a) = lN 4) : ∃ r σ' τ', f_X1_sizeOf (36 + 2 * a) (nI 0) σ = some (r, σ') ∧ f_X8_derivedSize (nI a) τ = some (r, τ') ∧ RU u lv σ' τ' := by
  have hu := h.r.bk.hu
  have f0 := h.facts ha hq hq2
  obtain ⟨σ1, τ1, x1, m1, h1⟩ := h.trc (nI 13)
  have f1 := h1.facts ha hq hq2
  obtain ⟨σ2, τ2, x2, m2, h2⟩ := h1.trc (nI 10)
  have f2 := h2.facts ha hq hq2
  have p1 : nI 12 + nI 10 * nI a = nI (12 + 10 * a) := by rw [pk_mul, nI_add]
  have p2 : nI 0 + nI 1 = nI 1 := nI_add 0 1
  refine ⟨nI (cvA (σ0.2 (36 + 2 * a + 1)) 8 0 0) - nI 100, σ2, τ2, ?_, ?_, h2.r⟩
  · simp (disch := omega) only [f_X1_sizeOf, b_X1_sizeOf_48, f_X1_sizeOfGiven, f_X1_sizeOfAny, f_X1_markOf_0, f_X1_markOfGiven, f_X1_markOfAny, f_X1_markOfAxiom, f_X1_markOfBound, f_X1_sizeOfAxiom, f_X1_sizeOfDerived, f_X1_sizeOfClaimed, f_X1_markOf, b_X1_markOf_66, f_X1_markOfDerived, f_X1_sizeOf_0, lit, pLeT, pLeF, pLtT, pLtF, pEqT, pEqF, nLeF, nLtF, nI_clamp, or_self, or_false, false_or, not_true_eq_false, not_false_eq_true, ↓reduceIte, nmS_eq, bd1_eq, bd2_eq, pEqS, Bool.false_eq_true, or_true, true_or, p2, x1, x2, f0.1, f0.2.2.1, f1.1, f1.2.2.1, f2.1, f2.2.2.1, e_X3_countVariables, e_X3_leastVariable, h1.l, h2.l]
  · simp (disch := omega) only [f_X8_derivedSize, b_X8_derivedSize_14, b_X8_derivedSize_25, b_X8_derivedSize_57, f_X8_givenMark, b_X8_givenMark_24, b_X8_givenMark_27, b_X8_givenMark_72, f_X8_givenSize, b_X8_givenSize_14, b_X8_givenSize_25, b_X8_givenSize_59, f_X8_derivedMark, f_X8_kindIn, lit, pLeT, pLeF, pLtT, pLtF, pEqT, pEqF, nLeF, nLtF, nI_clamp, or_self, or_false, false_or, not_true_eq_false, not_false_eq_true, ↓reduceIte, nmS_eq, bd1_eq, bd2_eq, pEqS, Bool.false_eq_true, or_true, true_or, p1, m1, m2, f0.2.1, f0.2.2.2.1, f0.2.2.2.2, f1.2.1, f1.2.2.2.1, f1.2.2.2.2, f2.2.1, f2.2.2.2.1, f2.2.2.2.2, lN_i]
theorem ask_s5 {u lv : Nat} {σ0 τ0 σ τ : Sto} (h : Tr u lv σ0 τ0 σ τ) {a : Nat} (ha : a < u) (hq : σ0.1 (36 + 2 * a) 3 = nI 5) (hq2 : τ0.2 6 (12 + 10 * a) = lN 5) : ∃ r σ' τ', f_X1_sizeOf (36 + 2 * a) (nI 0) σ = some (r, σ') ∧ f_X8_derivedSize (nI a) τ = some (r, τ') ∧ RU u lv σ' τ' := by
  have hu := h.r.bk.hu
  have f0 := h.facts ha hq hq2
  obtain ⟨σ1, τ1, x1, m1, h1⟩ := h.trc (nI 14)
  have f1 := h1.facts ha hq hq2
  obtain ⟨σ2, τ2, x2, m2, h2⟩ := h1.trc (nI 13)
  have f2 := h2.facts ha hq hq2
  obtain ⟨σ3, τ3, x3, m3, h3⟩ := h2.trc (nI 10)
  have f3 := h3.facts ha hq hq2
  have p1 : nI 12 + nI 10 * nI a = nI (12 + 10 * a) := by rw [pk_mul, nI_add]
  have p2 : nI 0 + nI 1 = nI 1 := nI_add 0 1
  refine ⟨nI 2 * (nI (cvA (σ0.2 (36 + 2 * a + 1)) 8 0 0) - nI 100), σ3, τ3, ?_, ?_, h3.r⟩
  · simp (disch := omega) only [f_X1_sizeOf, b_X1_sizeOf_48, f_X1_sizeOfGiven, f_X1_sizeOfAny, f_X1_markOf_0, f_X1_markOfGiven, f_X1_markOfAny, f_X1_markOfAxiom, f_X1_markOfBound, f_X1_sizeOfAxiom, f_X1_sizeOfDerived, f_X1_sizeOfClaimed, f_X1_markOf, b_X1_markOf_66, f_X1_markOfDerived, f_X1_sizeOf_0, lit, pLeT, pLeF, pLtT, pLtF, pEqT, pEqF, nLeF, nLtF, nI_clamp, or_self, or_false, false_or, not_true_eq_false, not_false_eq_true, ↓reduceIte, nmS_eq, bd1_eq, bd2_eq, pEqS, Bool.false_eq_true, or_true, true_or, p2, x1, x2, x3, f0.1, f0.2.2.1, f1.1, f1.2.2.1, f2.1, f2.2.2.1, f3.1, f3.2.2.1, e_X3_countVariables, e_X3_leastVariable, h1.l, h2.l, h3.l]
  · simp (disch := omega) only [f_X8_derivedSize, b_X8_derivedSize_14, b_X8_derivedSize_25, b_X8_derivedSize_57, f_X8_givenMark, b_X8_givenMark_24, b_X8_givenMark_27, b_X8_givenMark_72, f_X8_givenSize, b_X8_givenSize_14, b_X8_givenSize_25, b_X8_givenSize_59, f_X8_derivedMark, f_X8_kindIn, lit, pLeT, pLeF, pLtT, pLtF, pEqT, pEqF, nLeF, nLtF, nI_clamp, or_self, or_false, false_or, not_true_eq_false, not_false_eq_true, ↓reduceIte, nmS_eq, bd1_eq, bd2_eq, pEqS, Bool.false_eq_true, or_true, true_or, p1, m1, m2, m3, f0.2.1, f0.2.2.2.1, f0.2.2.2.2, f1.2.1, f1.2.2.2.1, f1.2.2.2.2, f2.2.1, f2.2.2.2.1, f2.2.2.2.2, f3.2.1, f3.2.2.2.1, f3.2.2.2.2, lN_i]
theorem ask_m1 {u lv : Nat} {σ0 τ0 σ τ : Sto} (h : Tr u lv σ0 τ0 σ τ) {a : Nat} (ha : a < u) (hq : σ0.1 (36 + 2 * a) 3 = nI 1) (hq2 : τ0.2 6 (12 + 10 * a) = lN 1) : ∃ r σ' τ', f_X1_markOf (36 + 2 * a) (nI 0) σ = some (r, σ') ∧ f_X8_givenMark (nI a) τ = some (r, τ') ∧ RU u lv σ' τ' := by
  have hu := h.r.bk.hu
  have f0 := h.facts ha hq hq2
  obtain ⟨σ1, τ1, x1, m1, h1⟩ := h.trc (nI 21)
  have f1 := h1.facts ha hq hq2
  obtain ⟨σ2, τ2, x2, m2, h2⟩ := h1.trc (nI 20)
  have f2 := h2.facts ha hq hq2
  have p1 : nI 12 + nI 10 * nI a = nI (12 + 10 * a) := by rw [pk_mul, nI_add]
  have p2 : nI 0 + nI 1 = nI 1 := nI_add 0 1
  refine ⟨nI a + nI (lvA (σ0.2 (36 + 2 * a + 1)) 8 0), σ2, τ2, ?_, ?_, h2.r⟩
  · simp (disch := omega) only [f_X1_sizeOf, b_X1_sizeOf_48, f_X1_sizeOfGiven, f_X1_sizeOfAny, f_X1_markOf_0, f_X1_markOfGiven, f_X1_markOfAny, f_X1_markOfAxiom, f_X1_markOfBound, f_X1_sizeOfAxiom, f_X1_sizeOfDerived, f_X1_sizeOfClaimed, f_X1_markOf, b_X1_markOf_66, f_X1_markOfDerived, f_X1_sizeOf_0, lit, pLeT, pLeF, pLtT, pLtF, pEqT, pEqF, nLeF, nLtF, nI_clamp, or_self, or_false, false_or, not_true_eq_false, not_false_eq_true, ↓reduceIte, nmS_eq, bd1_eq, bd2_eq, pEqS, Bool.false_eq_true, or_true, true_or, p2, x1, x2, f0.1, f0.2.2.1, f1.1, f1.2.2.1, f2.1, f2.2.2.1, e_X3_countVariables, e_X3_leastVariable, h1.l, h2.l]
  · simp (disch := omega) only [f_X8_derivedSize, b_X8_derivedSize_14, b_X8_derivedSize_25, b_X8_derivedSize_57, f_X8_givenMark, b_X8_givenMark_24, b_X8_givenMark_27, b_X8_givenMark_72, f_X8_givenSize, b_X8_givenSize_14, b_X8_givenSize_25, b_X8_givenSize_59, f_X8_derivedMark, f_X8_kindIn, lit, pLeT, pLeF, pLtT, pLtF, pEqT, pEqF, nLeF, nLtF, nI_clamp, or_self, or_false, false_or, not_true_eq_false, not_false_eq_true, ↓reduceIte, nmS_eq, bd1_eq, bd2_eq, pEqS, Bool.false_eq_true, or_true, true_or, p1, m1, m2, f0.2.1, f0.2.2.2.1, f0.2.2.2.2, f1.2.1, f1.2.2.2.1, f1.2.2.2.2, f2.2.1, f2.2.2.2.1, f2.2.2.2.2, lN_i]
theorem ask_m2 {u lv : Nat} {σ0 τ0 σ τ : Sto} (h : Tr u lv σ0 τ0 σ τ) {a : Nat} (ha : a < u) (hq : σ0.1 (36 + 2 * a) 3 = nI 2) (hq2 : τ0.2 6 (12 + 10 * a) = lN 2) : ∃ r σ' τ', f_X1_markOf (36 + 2 * a) (nI 0) σ = some (r, σ') ∧ f_X8_givenMark (nI a) τ = some (r, τ') ∧ RU u lv σ' τ' := by
  have hu := h.r.bk.hu
  have f0 := h.facts ha hq hq2
  obtain ⟨σ1, τ1, x1, m1, h1⟩ := h.trc (nI 24)
  have f1 := h1.facts ha hq hq2
  obtain ⟨σ2, τ2, x2, m2, h2⟩ := h1.trc (nI 21)
  have f2 := h2.facts ha hq hq2
  obtain ⟨σ3, τ3, x3, m3, h3⟩ := h2.trc (nI 20)
  have f3 := h3.facts ha hq hq2
  have p1 : nI 12 + nI 10 * nI a = nI (12 + 10 * a) := by rw [pk_mul, nI_add]
  have p2 : nI 0 + nI 1 = nI 1 := nI_add 0 1
  refine ⟨nI 2 * (nI a + nI (lvA (σ0.2 (36 + 2 * a + 1)) 8 0)), σ3, τ3, ?_, ?_, h3.r⟩
  · simp (disch := omega) only [f_X1_sizeOf, b_X1_sizeOf_48, f_X1_sizeOfGiven, f_X1_sizeOfAny, f_X1_markOf_0, f_X1_markOfGiven, f_X1_markOfAny, f_X1_markOfAxiom, f_X1_markOfBound, f_X1_sizeOfAxiom, f_X1_sizeOfDerived, f_X1_sizeOfClaimed, f_X1_markOf, b_X1_markOf_66, f_X1_markOfDerived, f_X1_sizeOf_0, lit, pLeT, pLeF, pLtT, pLtF, pEqT, pEqF, nLeF, nLtF, nI_clamp, or_self, or_false, false_or, not_true_eq_false, not_false_eq_true, ↓reduceIte, nmS_eq, bd1_eq, bd2_eq, pEqS, Bool.false_eq_true, or_true, true_or, p2, x1, x2, x3, f0.1, f0.2.2.1, f1.1, f1.2.2.1, f2.1, f2.2.2.1, f3.1, f3.2.2.1, e_X3_countVariables, e_X3_leastVariable, h1.l, h2.l, h3.l]
  · simp (disch := omega) only [f_X8_derivedSize, b_X8_derivedSize_14, b_X8_derivedSize_25, b_X8_derivedSize_57, f_X8_givenMark, b_X8_givenMark_24, b_X8_givenMark_27, b_X8_givenMark_72, f_X8_givenSize, b_X8_givenSize_14, b_X8_givenSize_25, b_X8_givenSize_59, f_X8_derivedMark, f_X8_kindIn, lit, pLeT, pLeF, pLtT, pLtF, pEqT, pEqF, nLeF, nLtF, nI_clamp, or_self, or_false, false_or, not_true_eq_false, not_false_eq_true, ↓reduceIte, nmS_eq, bd1_eq, bd2_eq, pEqS, Bool.false_eq_true, or_true, true_or, p1, m1, m2, m3, f0.2.1, f0.2.2.2.1, f0.2.2.2.2, f1.2.1, f1.2.2.2.1, f1.2.2.2.2, f2.2.1, f2.2.2.2.1, f2.2.2.2.2, f3.2.1, f3.2.2.2.1, f3.2.2.2.2, lN_i]
theorem ask_m3 {u lv : Nat} {σ0 τ0 σ τ : Sto} (h : Tr u lv σ0 τ0 σ τ) {a : Nat} (ha : a < u) (hq : σ0.1 (36 + 2 * a) 3 = nI 3) (hq2 : τ0.2 6 (12 + 10 * a) = lN 3) : ∃ r σ' τ', f_X1_markOf (36 + 2 * a) (nI 0) σ = some (r, σ') ∧ f_X8_givenMark (nI a) τ = some (r, τ') ∧ RU u lv σ' τ' := by
  have hu := h.r.bk.hu
  have f0 := h.facts ha hq hq2
  obtain ⟨σ1, τ1, x1, m1, h1⟩ := h.trc (nI 22)
  have f1 := h1.facts ha hq hq2
  obtain ⟨σ2, τ2, x2, m2, h2⟩ := h1.trc (nI 21)
  have f2 := h2.facts ha hq hq2
  obtain ⟨σ3, τ3, x3, m3, h3⟩ := h2.trc (nI 20)
  have f3 := h3.facts ha hq hq2
  have p1 : nI 12 + nI 10 * nI a = nI (12 + 10 * a) := by rw [pk_mul, nI_add]
  have p2 : nI 0 + nI 1 = nI 1 := nI_add 0 1
  refine ⟨nI a + nI (lvA (σ0.2 (36 + 2 * a + 1)) 8 0) - nI 1000, σ3, τ3, ?_, ?_, h3.r⟩
  · simp (disch := omega) only [f_X1_sizeOf, b_X1_sizeOf_48, f_X1_sizeOfGiven, f_X1_sizeOfAny, f_X1_markOf_0, f_X1_markOfGiven, f_X1_markOfAny, f_X1_markOfAxiom, f_X1_markOfBound, f_X1_sizeOfAxiom, f_X1_sizeOfDerived, f_X1_sizeOfClaimed, f_X1_markOf, b_X1_markOf_66, f_X1_markOfDerived, f_X1_sizeOf_0, lit, pLeT, pLeF, pLtT, pLtF, pEqT, pEqF, nLeF, nLtF, nI_clamp, or_self, or_false, false_or, not_true_eq_false, not_false_eq_true, ↓reduceIte, nmS_eq, bd1_eq, bd2_eq, pEqS, Bool.false_eq_true, or_true, true_or, p2, x1, x2, x3, f0.1, f0.2.2.1, f1.1, f1.2.2.1, f2.1, f2.2.2.1, f3.1, f3.2.2.1, e_X3_countVariables, e_X3_leastVariable, h1.l, h2.l, h3.l]
  · simp (disch := omega) only [f_X8_derivedSize, b_X8_derivedSize_14, b_X8_derivedSize_25, b_X8_derivedSize_57, f_X8_givenMark, b_X8_givenMark_24, b_X8_givenMark_27, b_X8_givenMark_72, f_X8_givenSize, b_X8_givenSize_14, b_X8_givenSize_25, b_X8_givenSize_59, f_X8_derivedMark, f_X8_kindIn, lit, pLeT, pLeF, pLtT, pLtF, pEqT, pEqF, nLeF, nLtF, nI_clamp, or_self, or_false, false_or, not_true_eq_false, not_false_eq_true, ↓reduceIte, nmS_eq, bd1_eq, bd2_eq, pEqS, Bool.false_eq_true, or_true, true_or, p1, m1, m2, m3, f0.2.1, f0.2.2.2.1, f0.2.2.2.2, f1.2.1, f1.2.2.2.1, f1.2.2.2.2, f2.2.1, f2.2.2.2.1, f2.2.2.2.2, f3.2.1, f3.2.2.2.1, f3.2.2.2.2, lN_i]
theorem ask_m4 {u lv : Nat} {σ0 τ0 σ τ : Sto} (h : Tr u lv σ0 τ0 σ τ) {a : Nat} (ha : a < u) (hq : σ0.1 (36 + 2 * a) 3 = nI 4) (hq2 : τ0.2 6 (12 + 10 * a) = lN 4) : ∃ r σ' τ', f_X1_markOf (36 + 2 * a) (nI 0) σ = some (r, σ') ∧ f_X8_derivedMark (nI a) τ = some (r, τ') ∧ RU u lv σ' τ' := by
  have hu := h.r.bk.hu
  have f0 := h.facts ha hq hq2
  obtain ⟨σ1, τ1, x1, m1, h1⟩ := h.trc (nI 23)
  have f1 := h1.facts ha hq hq2
  obtain ⟨σ2, τ2, x2, m2, h2⟩ := h1.trc (nI 20)
  have f2 := h2.facts ha hq hq2
  obtain ⟨σ3, τ3, x3, m3, h3⟩ := h2.trc (nI 13)
  have f3 := h3.facts ha hq hq2
  obtain ⟨σ4, τ4, x4, m4, h4⟩ := h3.trc (nI 10)
  have f4 := h4.facts ha hq hq2
  have p1 : nI 12 + nI 10 * nI a = nI (12 + 10 * a) := by rw [pk_mul, nI_add]
  have p2 : nI 0 + nI 1 = nI 1 := nI_add 0 1
  refine ⟨nI a - (nI (cvA (σ0.2 (36 + 2 * a + 1)) 8 0 0) - nI 100), σ4, τ4, ?_, ?_, h4.r⟩
  · simp (disch := omega) only [f_X1_sizeOf, b_X1_sizeOf_48, f_X1_sizeOfGiven, f_X1_sizeOfAny, f_X1_markOf_0, f_X1_markOfGiven, f_X1_markOfAny, f_X1_markOfAxiom, f_X1_markOfBound, f_X1_sizeOfAxiom, f_X1_sizeOfDerived, f_X1_sizeOfClaimed, f_X1_markOf, b_X1_markOf_66, f_X1_markOfDerived, f_X1_sizeOf_0, lit, pLeT, pLeF, pLtT, pLtF, pEqT, pEqF, nLeF, nLtF, nI_clamp, or_self, or_false, false_or, not_true_eq_false, not_false_eq_true, ↓reduceIte, nmS_eq, bd1_eq, bd2_eq, pEqS, Bool.false_eq_true, or_true, true_or, p2, x1, x2, x3, x4, f0.1, f0.2.2.1, f1.1, f1.2.2.1, f2.1, f2.2.2.1, f3.1, f3.2.2.1, f4.1, f4.2.2.1, e_X3_countVariables, e_X3_leastVariable, h1.l, h2.l, h3.l, h4.l]
  · simp (disch := omega) only [f_X8_derivedSize, b_X8_derivedSize_14, b_X8_derivedSize_25, b_X8_derivedSize_57, f_X8_givenMark, b_X8_givenMark_24, b_X8_givenMark_27, b_X8_givenMark_72, f_X8_givenSize, b_X8_givenSize_14, b_X8_givenSize_25, b_X8_givenSize_59, f_X8_derivedMark, f_X8_kindIn, lit, pLeT, pLeF, pLtT, pLtF, pEqT, pEqF, nLeF, nLtF, nI_clamp, or_self, or_false, false_or, not_true_eq_false, not_false_eq_true, ↓reduceIte, nmS_eq, bd1_eq, bd2_eq, pEqS, Bool.false_eq_true, or_true, true_or, p1, m1, m2, m3, m4, f0.2.1, f0.2.2.2.1, f0.2.2.2.2, f1.2.1, f1.2.2.2.1, f1.2.2.2.2, f2.2.1, f2.2.2.2.1, f2.2.2.2.2, f3.2.1, f3.2.2.2.1, f3.2.2.2.2, f4.2.1, f4.2.2.2.1, f4.2.2.2.2, lN_i]
theorem ask_m5 {u lv : Nat} {σ0 τ0 σ τ : Sto} (h : Tr u lv σ0 τ0 σ τ) {a : Nat} (ha : a < u) (hq : σ0.1 (36 + 2 * a) 3 = nI 5) (hq2 : τ0.2 6 (12 + 10 * a) = lN 5) : ∃ r σ' τ', f_X1_markOf (36 + 2 * a) (nI 0) σ = some (r, σ') ∧ f_X8_derivedMark (nI a) τ = some (r, τ') ∧ RU u lv σ' τ' := by
  have hu := h.r.bk.hu
  have f0 := h.facts ha hq hq2
  obtain ⟨σ1, τ1, x1, m1, h1⟩ := h.trc (nI 23)
  have f1 := h1.facts ha hq hq2
  obtain ⟨σ2, τ2, x2, m2, h2⟩ := h1.trc (nI 20)
  have f2 := h2.facts ha hq hq2
  obtain ⟨σ3, τ3, x3, m3, h3⟩ := h2.trc (nI 14)
  have f3 := h3.facts ha hq hq2
  obtain ⟨σ4, τ4, x4, m4, h4⟩ := h3.trc (nI 13)
  have f4 := h4.facts ha hq hq2
  obtain ⟨σ5, τ5, x5, m5, h5⟩ := h4.trc (nI 10)
  have f5 := h5.facts ha hq hq2
  have p1 : nI 12 + nI 10 * nI a = nI (12 + 10 * a) := by rw [pk_mul, nI_add]
  have p2 : nI 0 + nI 1 = nI 1 := nI_add 0 1
  refine ⟨nI a - (nI 2 * (nI (cvA (σ0.2 (36 + 2 * a + 1)) 8 0 0) - nI 100)), σ5, τ5, ?_, ?_, h5.r⟩
  · simp (disch := omega) only [f_X1_sizeOf, b_X1_sizeOf_48, f_X1_sizeOfGiven, f_X1_sizeOfAny, f_X1_markOf_0, f_X1_markOfGiven, f_X1_markOfAny, f_X1_markOfAxiom, f_X1_markOfBound, f_X1_sizeOfAxiom, f_X1_sizeOfDerived, f_X1_sizeOfClaimed, f_X1_markOf, b_X1_markOf_66, f_X1_markOfDerived, f_X1_sizeOf_0, lit, pLeT, pLeF, pLtT, pLtF, pEqT, pEqF, nLeF, nLtF, nI_clamp, or_self, or_false, false_or, not_true_eq_false, not_false_eq_true, ↓reduceIte, nmS_eq, bd1_eq, bd2_eq, pEqS, Bool.false_eq_true, or_true, true_or, p2, x1, x2, x3, x4, x5, f0.1, f0.2.2.1, f1.1, f1.2.2.1, f2.1, f2.2.2.1, f3.1, f3.2.2.1, f4.1, f4.2.2.1, f5.1, f5.2.2.1, e_X3_countVariables, e_X3_leastVariable, h1.l, h2.l, h3.l, h4.l, h5.l]
  · simp (disch := omega) only [f_X8_derivedSize, b_X8_derivedSize_14, b_X8_derivedSize_25, b_X8_derivedSize_57, f_X8_givenMark, b_X8_givenMark_24, b_X8_givenMark_27, b_X8_givenMark_72, f_X8_givenSize, b_X8_givenSize_14, b_X8_givenSize_25, b_X8_givenSize_59, f_X8_derivedMark, f_X8_kindIn, lit, pLeT, pLeF, pLtT, pLtF, pEqT, pEqF, nLeF, nLtF, nI_clamp, or_self, or_false, false_or, not_true_eq_false, not_false_eq_true, ↓reduceIte, nmS_eq, bd1_eq, bd2_eq, pEqS, Bool.false_eq_true, or_true, true_or, p1, m1, m2, m3, m4, m5, f0.2.1, f0.2.2.2.1, f0.2.2.2.2, f1.2.1, f1.2.2.2.1, f1.2.2.2.2, f2.2.1, f2.2.2.2.1, f2.2.2.2.2, f3.2.1, f3.2.2.2.1, f3.2.2.2.2, f4.2.1, f4.2.2.2.1, f4.2.2.2.2, f5.2.1, f5.2.2.2.1, f5.2.2.2.2, lN_i]
theorem s_ask (x y : Int32) : Sim RR (f_X7_ask x y) (f_X8_ask x y) := by
  intro σ τ ⟨u, lv, h⟩
  obtain ⟨h1, h2, h3⟩ := h.has x
  cases hx : hs lv x
  · rw [hx] at h1 h2
    refine ⟨-nI 1000001, σ, τ, ?_, ?_, u, lv, h⟩
    · rw [f_X7_ask, bd2_of h1]
      simp (disch := omega) only [b_X7_ask_20, lit, pLeT, pLeF, pLtT, pLtF, pEqT, pEqF, nLeF, nLtF, nI_clamp, or_self, or_false, false_or, not_true_eq_false, not_false_eq_true, ↓reduceIte, nmS_eq, bd1_eq, bd2_eq, nI_add, pEqS, pk_mul, Nat.reduceAdd, Bool.false_eq_true, or_true, true_or]
    · rw [f_X8_ask, bd2_of h2]
      simp (disch := omega) only [b_X8_ask_17, lit, pLeT, pLeF, pLtT, pLtF, pEqT, pEqF, nLeF, nLtF, nI_clamp, or_self, or_false, false_or, not_true_eq_false, not_false_eq_true, ↓reduceIte, nmS_eq, bd1_eq, bd2_eq, nI_add, pEqS, pk_mul, Nat.reduceAdd, Bool.false_eq_true, or_true, true_or]
  · rw [hx] at h1 h2
    obtain ⟨a, ha, ha2, e, -⟩ := h3 hx
    subst e
    have e5 : y ≤ nI 1 ↔ ¬ nI 2 ≤ y := by rw [← lt_le1 (n := 1) (by omega)]; exact (Int32.not_lt).symm
    cases hy : inr y 2
    · refine ⟨-nI 1000001, σ, τ, ?_, ?_, u, lv, h⟩
      · rw [f_X7_ask, bd2_of h1]
        rcases inr_not hy with q | q <;> simp (disch := omega) only [b_X7_ask_20, lit, pLeT, pLeF, pLtT, pLtF, pEqT, pEqF, nLeF, nLtF, nI_clamp, or_self, or_false, false_or, not_true_eq_false, not_false_eq_true, ↓reduceIte, nmS_eq, bd1_eq, bd2_eq, nI_add, pEqS, pk_mul, Nat.reduceAdd, Bool.false_eq_true, or_true, true_or, e5, q, ite_self]
      · rw [f_X8_ask, bd2_of h2]
        simp (disch := omega) only [b_X8_ask_17, lit, pLeT, pLeF, pLtT, pLtF, pEqT, pEqF, nLeF, nLtF, nI_clamp, or_self, or_false, false_or, not_true_eq_false, not_false_eq_true, ↓reduceIte, nmS_eq, bd1_eq, bd2_eq, nI_add, pEqS, pk_mul, Nat.reduceAdd, Bool.false_eq_true, or_true, true_or, e_inr, hy]
    · obtain ⟨k, hk, e⟩ := inr_of (by omega) hy
      subst e
      obtain ⟨q, q1, q2, q3, q4⟩ := (h.clm ha).kd
      have q4 : τ.2 6 (12 + 10 * a) = lN q := q4
      have h0 := h.tr0
      have f0 := h0.facts ha q3 q4
      have hq2 : q = 1 ∨ q = 2 ∨ q = 3 ∨ q = 4 ∨ q = 5 := by omega
      have hk2 : k = 0 ∨ k = 1 := by omega
      rcases hk2 with e | e <;> subst e
      · rcases hq2 with e | e | e | e | e <;> subst e
        · obtain ⟨r, σ', τ', g1, g2, g3⟩ := ask_s1 h0 ha q3 q4
          refine ⟨r, σ', τ', ?_, ?_, u, lv, g3⟩
          · rw [f_X7_ask, bd2_of h1]
            simp (disch := omega) only [b_X7_ask_72, lit, pLeT, pLeF, pLtT, pLtF, pEqT, pEqF, nLeF, nLtF, nI_clamp, or_self, or_false, false_or, not_true_eq_false, not_false_eq_true, ↓reduceIte, nmS_eq, bd1_eq, bd2_eq, nI_add, pEqS, pk_mul, Nat.reduceAdd, Bool.false_eq_true, or_true, true_or, g1]
          · rw [f_X8_ask, bd2_of h2]
            simp (disch := omega) only [b_X8_ask_39, b_X8_ask_61, b_X8_ask_79, f_X8_kindIn, lit, pLeT, pLeF, pLtT, pLtF, pEqT, pEqF, nLeF, nLtF, nI_clamp, or_self, or_false, false_or, not_true_eq_false, not_false_eq_true, ↓reduceIte, nmS_eq, bd1_eq, bd2_eq, nI_add, pEqS, pk_mul, Nat.reduceAdd, Bool.false_eq_true, or_true, true_or, e_inr, hy, f0.2.1, lN_i, g2]
        · obtain ⟨r, σ', τ', g1, g2, g3⟩ := ask_s2 h0 ha q3 q4
          refine ⟨r, σ', τ', ?_, ?_, u, lv, g3⟩
          · rw [f_X7_ask, bd2_of h1]
            simp (disch := omega) only [b_X7_ask_72, lit, pLeT, pLeF, pLtT, pLtF, pEqT, pEqF, nLeF, nLtF, nI_clamp, or_self, or_false, false_or, not_true_eq_false, not_false_eq_true, ↓reduceIte, nmS_eq, bd1_eq, bd2_eq, nI_add, pEqS, pk_mul, Nat.reduceAdd, Bool.false_eq_true, or_true, true_or, g1]
          · rw [f_X8_ask, bd2_of h2]
            simp (disch := omega) only [b_X8_ask_39, b_X8_ask_61, b_X8_ask_79, f_X8_kindIn, lit, pLeT, pLeF, pLtT, pLtF, pEqT, pEqF, nLeF, nLtF, nI_clamp, or_self, or_false, false_or, not_true_eq_false, not_false_eq_true, ↓reduceIte, nmS_eq, bd1_eq, bd2_eq, nI_add, pEqS, pk_mul, Nat.reduceAdd, Bool.false_eq_true, or_true, true_or, e_inr, hy, f0.2.1, lN_i, g2]
        · obtain ⟨r, σ', τ', g1, g2, g3⟩ := ask_s3 h0 ha q3 q4
          refine ⟨r, σ', τ', ?_, ?_, u, lv, g3⟩
          · rw [f_X7_ask, bd2_of h1]
            simp (disch := omega) only [b_X7_ask_72, lit, pLeT, pLeF, pLtT, pLtF, pEqT, pEqF, nLeF, nLtF, nI_clamp, or_self, or_false, false_or, not_true_eq_false, not_false_eq_true, ↓reduceIte, nmS_eq, bd1_eq, bd2_eq, nI_add, pEqS, pk_mul, Nat.reduceAdd, Bool.false_eq_true, or_true, true_or, g1]
          · rw [f_X8_ask, bd2_of h2]
            simp (disch := omega) only [b_X8_ask_39, b_X8_ask_61, b_X8_ask_79, f_X8_kindIn, lit, pLeT, pLeF, pLtT, pLtF, pEqT, pEqF, nLeF, nLtF, nI_clamp, or_self, or_false, false_or, not_true_eq_false, not_false_eq_true, ↓reduceIte, nmS_eq, bd1_eq, bd2_eq, nI_add, pEqS, pk_mul, Nat.reduceAdd, Bool.false_eq_true, or_true, true_or, e_inr, hy, f0.2.1, lN_i, g2]
        · obtain ⟨r, σ', τ', g1, g2, g3⟩ := ask_s4 h0 ha q3 q4
          refine ⟨r, σ', τ', ?_, ?_, u, lv, g3⟩
          · rw [f_X7_ask, bd2_of h1]
            simp (disch := omega) only [b_X7_ask_72, lit, pLeT, pLeF, pLtT, pLtF, pEqT, pEqF, nLeF, nLtF, nI_clamp, or_self, or_false, false_or, not_true_eq_false, not_false_eq_true, ↓reduceIte, nmS_eq, bd1_eq, bd2_eq, nI_add, pEqS, pk_mul, Nat.reduceAdd, Bool.false_eq_true, or_true, true_or, g1]
          · rw [f_X8_ask, bd2_of h2]
            simp (disch := omega) only [b_X8_ask_39, b_X8_ask_61, b_X8_ask_79, f_X8_kindIn, lit, pLeT, pLeF, pLtT, pLtF, pEqT, pEqF, nLeF, nLtF, nI_clamp, or_self, or_false, false_or, not_true_eq_false, not_false_eq_true, ↓reduceIte, nmS_eq, bd1_eq, bd2_eq, nI_add, pEqS, pk_mul, Nat.reduceAdd, Bool.false_eq_true, or_true, true_or, e_inr, hy, f0.2.1, lN_i, g2]
        · obtain ⟨r, σ', τ', g1, g2, g3⟩ := ask_s5 h0 ha q3 q4
          refine ⟨r, σ', τ', ?_, ?_, u, lv, g3⟩
          · rw [f_X7_ask, bd2_of h1]
            simp (disch := omega) only [b_X7_ask_72, lit, pLeT, pLeF, pLtT, pLtF, pEqT, pEqF, nLeF, nLtF, nI_clamp, or_self, or_false, false_or, not_true_eq_false, not_false_eq_true, ↓reduceIte, nmS_eq, bd1_eq, bd2_eq, nI_add, pEqS, pk_mul, Nat.reduceAdd, Bool.false_eq_true, or_true, true_or, g1]
          · rw [f_X8_ask, bd2_of h2]
            simp (disch := omega) only [b_X8_ask_39, b_X8_ask_61, b_X8_ask_79, f_X8_kindIn, lit, pLeT, pLeF, pLtT, pLtF, pEqT, pEqF, nLeF, nLtF, nI_clamp, or_self, or_false, false_or, not_true_eq_false, not_false_eq_true, ↓reduceIte, nmS_eq, bd1_eq, bd2_eq, nI_add, pEqS, pk_mul, Nat.reduceAdd, Bool.false_eq_true, or_true, true_or, e_inr, hy, f0.2.1, lN_i, g2]
      · rcases hq2 with e | e | e | e | e <;> subst e
        · obtain ⟨r, σ', τ', g1, g2, g3⟩ := ask_m1 h0 ha q3 q4
          refine ⟨r, σ', τ', ?_, ?_, u, lv, g3⟩
          · rw [f_X7_ask, bd2_of h1]
            simp (disch := omega) only [b_X7_ask_72, lit, pLeT, pLeF, pLtT, pLtF, pEqT, pEqF, nLeF, nLtF, nI_clamp, or_self, or_false, false_or, not_true_eq_false, not_false_eq_true, ↓reduceIte, nmS_eq, bd1_eq, bd2_eq, nI_add, pEqS, pk_mul, Nat.reduceAdd, Bool.false_eq_true, or_true, true_or, g1]
          · rw [f_X8_ask, bd2_of h2]
            simp (disch := omega) only [b_X8_ask_39, b_X8_ask_61, b_X8_ask_79, f_X8_kindIn, lit, pLeT, pLeF, pLtT, pLtF, pEqT, pEqF, nLeF, nLtF, nI_clamp, or_self, or_false, false_or, not_true_eq_false, not_false_eq_true, ↓reduceIte, nmS_eq, bd1_eq, bd2_eq, nI_add, pEqS, pk_mul, Nat.reduceAdd, Bool.false_eq_true, or_true, true_or, e_inr, hy, f0.2.1, lN_i, g2]
        · obtain ⟨r, σ', τ', g1, g2, g3⟩ := ask_m2 h0 ha q3 q4
          refine ⟨r, σ', τ', ?_, ?_, u, lv, g3⟩
          · rw [f_X7_ask, bd2_of h1]
            simp (disch := omega) only [b_X7_ask_72, lit, pLeT, pLeF, pLtT, pLtF, pEqT, pEqF, nLeF, nLtF, nI_clamp, or_self, or_false, false_or, not_true_eq_false, not_false_eq_true, ↓reduceIte, nmS_eq, bd1_eq, bd2_eq, nI_add, pEqS, pk_mul, Nat.reduceAdd, Bool.false_eq_true, or_true, true_or, g1]
          · rw [f_X8_ask, bd2_of h2]
            simp (disch := omega) only [b_X8_ask_39, b_X8_ask_61, b_X8_ask_79, f_X8_kindIn, lit, pLeT, pLeF, pLtT, pLtF, pEqT, pEqF, nLeF, nLtF, nI_clamp, or_self, or_false, false_or, not_true_eq_false, not_false_eq_true, ↓reduceIte, nmS_eq, bd1_eq, bd2_eq, nI_add, pEqS, pk_mul, Nat.reduceAdd, Bool.false_eq_true, or_true, true_or, e_inr, hy, f0.2.1, lN_i, g2]
        · obtain ⟨r, σ', τ', g1, g2, g3⟩ := ask_m3 h0 ha q3 q4
          refine ⟨r, σ', τ', ?_, ?_, u, lv, g3⟩
          · rw [f_X7_ask, bd2_of h1]
            simp (disch := omega) only [b_X7_ask_72, lit, pLeT, pLeF, pLtT, pLtF, pEqT, pEqF, nLeF, nLtF, nI_clamp, or_self, or_false, false_or, not_true_eq_false, not_false_eq_true, ↓reduceIte, nmS_eq, bd1_eq, bd2_eq, nI_add, pEqS, pk_mul, Nat.reduceAdd, Bool.false_eq_true, or_true, true_or, g1]
          · rw [f_X8_ask, bd2_of h2]
            simp (disch := omega) only [b_X8_ask_39, b_X8_ask_61, b_X8_ask_79, f_X8_kindIn, lit, pLeT, pLeF, pLtT, pLtF, pEqT, pEqF, nLeF, nLtF, nI_clamp, or_self, or_false, false_or, not_true_eq_false, not_false_eq_true, ↓reduceIte, nmS_eq, bd1_eq, bd2_eq, nI_add, pEqS, pk_mul, Nat.reduceAdd, Bool.false_eq_true, or_true, true_or, e_inr, hy, f0.2.1, lN_i, g2]
        · obtain ⟨r, σ', τ', g1, g2, g3⟩ := ask_m4 h0 ha q3 q4
          refine ⟨r, σ', τ', ?_, ?_, u, lv, g3⟩
          · rw [f_X7_ask, bd2_of h1]
            simp (disch := omega) only [b_X7_ask_72, lit, pLeT, pLeF, pLtT, pLtF, pEqT, pEqF, nLeF, nLtF, nI_clamp, or_self, or_false, false_or, not_true_eq_false, not_false_eq_true, ↓reduceIte, nmS_eq, bd1_eq, bd2_eq, nI_add, pEqS, pk_mul, Nat.reduceAdd, Bool.false_eq_true, or_true, true_or, g1]
          · rw [f_X8_ask, bd2_of h2]
            simp (disch := omega) only [b_X8_ask_39, b_X8_ask_61, b_X8_ask_79, f_X8_kindIn, lit, pLeT, pLeF, pLtT, pLtF, pEqT, pEqF, nLeF, nLtF, nI_clamp, or_self, or_false, false_or, not_true_eq_false, not_false_eq_true, ↓reduceIte, nmS_eq, bd1_eq, bd2_eq, nI_add, pEqS, pk_mul, Nat.reduceAdd, Bool.false_eq_true, or_true, true_or, e_inr, hy, f0.2.1, lN_i, g2]
        · obtain ⟨r, σ', τ', g1, g2, g3⟩ := ask_m5 h0 ha q3 q4
          refine ⟨r, σ', τ', ?_, ?_, u, lv, g3⟩
          · rw [f_X7_ask, bd2_of h1]
            simp (disch := omega) only [b_X7_ask_72, lit, pLeT, pLeF, pLtT, pLtF, pEqT, pEqF, nLeF, nLtF, nI_clamp, or_self, or_false, false_or, not_true_eq_false, not_false_eq_true, ↓reduceIte, nmS_eq, bd1_eq, bd2_eq, nI_add, pEqS, pk_mul, Nat.reduceAdd, Bool.false_eq_true, or_true, true_or, g1]
          · rw [f_X8_ask, bd2_of h2]
            simp (disch := omega) only [b_X8_ask_39, b_X8_ask_61, b_X8_ask_79, f_X8_kindIn, lit, pLeT, pLeF, pLtT, pLtF, pEqT, pEqF, nLeF, nLtF, nI_clamp, or_self, or_false, false_or, not_true_eq_false, not_false_eq_true, ↓reduceIte, nmS_eq, bd1_eq, bd2_eq, nI_add, pEqS, pk_mul, Nat.reduceAdd, Bool.false_eq_true, or_true, true_or, e_inr, hy, f0.2.1, lN_i, g2]
