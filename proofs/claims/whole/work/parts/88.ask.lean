/-! ===== asks ===== -/
theorem RU.trch {u lv : Nat} {σ τ σ' τ' : Sto} (h : RU u lv σ τ) (hx1 : ∀ c j, c < 236 → σ'.1 c j = σ.1 c j) (hx2 : σ'.2 = σ.2) (hm1 : ∀ c j, ¬ (c = 0 ∧ j = 27) → c ≠ 16 → τ'.1 c j = τ.1 c j) (hm2 : τ'.2 = τ.2) (tr : ∃ t, t ≤ 16 ∧ σ'.1 236 1 = nI t ∧ τ'.1 0 27 = nI t ∧ ∀ i, i < t → σ'.1 237 i = τ'.1 16 i) : RU u lv σ' τ' := by
  have hF : ∀ (b u' l' : Nat) (best : Int32) (w : Nat → Int64), Fm σ b u' l' best w → b ≤ 160 → Fm σ' b u' l' best w := by
    intro b u' l' best w hF hb
    have hu' := hF.hu
    exact hF.cong (hx1 _ _ (by omega)) (fun v hv => hx1 _ _ (by omega)) (fun a ha => ⟨hx1 _ _ (by omega), by rw [hx2], fun v hv => by rw [hx2]⟩) (fun i _ => rfl)
  refine ⟨?_, ?_, ?_, ?_, ?_, ?_, ?_, ?_, ?_, ?_, ?_, ?_, tr⟩
  · rw [hx1 _ _ (by omega), hm1 _ _ (by omega) (by omega)]; exact h.st
  · intro r hr
    unfold Rw
    rw [hx1 12 r (by omega), hx1 11 r (by omega), hm1 1 r (by omega) (by omega), hm1 2 r (by omega) (by omega)]
    rcases h.rw r hr with q | ⟨n, l, q1, q2, q3, q4, q5, q6, q7⟩
    · exact Or.inl q
    · refine Or.inr ⟨n, l, q1, q2, q3, q4, q5, q6, fun i hi => ?_⟩
      rw [hx1 _ _ (by omega), hm1 _ _ (by omega) (by omega)]
      exact q7 i hi
  · obtain ⟨L, l1, l2, l3, l4⟩ := h.tp
    refine ⟨L, l1, by rw [hx1 _ _ (by omega)]; exact l2, by rw [hm1 _ _ (by omega) (by omega)]; exact l3, fun i hi => ?_⟩
    rw [hx1 _ _ (by omega), hm1 _ _ (by omega) (by omega)]
    exact l4 i hi
  · rw [hx1 _ _ (by omega), hm1 _ _ (by omega) (by omega)]; exact h.ft
  · rw [hx1 _ _ (by omega)]; exact h.rd
  · rw [hx1 _ _ (by omega)]; exact h.us
  · rw [hx1 _ _ (by omega)]; exact h.lv
  · rw [hx1 _ _ (by omega), hm2]
    exact hF 33 u lv _ _ h.bk (by omega)
  · intro k hk
    unfold Im
    rw [hx1 (97 + 63 * k) 2 (by omega), hx1 (97 + 63 * k) 3 (by omega), hx1 (97 + 63 * k) 4 (by omega), hx1 (97 + 63 * k) 5 (by omega), hm1 10 k (by omega) (by omega), hm2]
    rcases h.im k hk with q | ⟨q1, q2, u', l', q3, q4, q5⟩
    · exact Or.inl q
    · exact Or.inr ⟨q1, q2, u', l', q3, q4, hF _ _ _ _ _ q5 (by omega)⟩
  · obtain ⟨o, s, us, ls, a1, a2, a3, a4, a5, a6, a7⟩ := h.ac
    refine ⟨o, s, us, ls, a1, a2, by rw [hx1 _ _ (by omega)]; exact a3, by rw [hx1 _ _ (by omega)]; exact a4, by rw [hm1 _ _ (by omega) (by omega)]; exact a5, fun i hi => ?_, a7⟩
    obtain ⟨b1, b2, b3, b4⟩ := a6 i hi
    refine ⟨b1, by rw [hx1 _ _ (by omega)]; exact b2, by rw [hx1 _ _ (by omega)]; exact b3, ?_⟩
    rw [hx1 226 _ (by omega), hm2]
    exact hF 33 (us i) (ls i) _ _ b4 (by omega)
  · intro a ha
    rw [hx1 _ _ (by omega)]
    exact h.nm a ha
  · rw [hx2]
    exact h.no
abbrev Tr (u lv : Nat) (σ τ σ' τ' : Sto) : Prop := (RU u lv σ' τ') ∧ (∀ c j, c < 236 → σ'.1 c j = σ.1 c j) ∧ (σ'.2 = σ.2) ∧ (τ'.2 = τ.2)
theorem Tr.r {u lv : Nat} {σ τ σ' τ' : Sto} (h : Tr u lv σ τ σ' τ') : RU u lv σ' τ' := h.1
theorem Tr.i {u lv : Nat} {σ τ σ' τ' : Sto} (h : Tr u lv σ τ σ' τ') : ∀ c j, c < 236 → σ'.1 c j = σ.1 c j := h.2.1
theorem Tr.l {u lv : Nat} {σ τ σ' τ' : Sto} (h : Tr u lv σ τ σ' τ') : σ'.2 = σ.2 := h.2.2.1
theorem Tr.m {u lv : Nat} {σ τ σ' τ' : Sto} (h : Tr u lv σ τ σ' τ') : τ'.2 = τ.2 := h.2.2.2
theorem RU.tr0 {u lv : Nat} {σ τ : Sto} (h : RU u lv σ τ) : Tr u lv σ τ (pI σ 236 1 (nI 0)) (pI τ 0 27 (nI 0)) := by
  refine ⟨h.trch (fun c j hc => pI_nk (by omega)) (by rw [pI_2]) (fun c j h1 h2 => pI_no h1) (by rw [pI_2]) ⟨0, by omega, pI_at _, pI_at _, fun i hi => by omega⟩, fun c j hc => pI_nk (by omega), by rw [pI_2], by rw [pI_2]⟩
theorem Tr.trc {u lv : Nat} {σ0 τ0 σ τ : Sto} (h0 : Tr u lv σ0 τ0 σ τ) (x : Int32) : ∃ σ' τ', f_X1_begins x σ = some σ' ∧ f_X8_traces x τ = some τ' ∧ Tr u lv σ0 τ0 σ' τ' := by
  have h := h0.r
  obtain ⟨t, t1, t2, t3, t4⟩ := h.tr
  by_cases q : t = 16
  · subst q
    refine ⟨σ, τ, ?_, ?_, h0⟩
    · simp (disch := omega) only [f_X1_begins, b_X1_begins_29, lit, pLeT, pLeF, pLtT, pLtF, pEqT, pEqF, nLeF, nLtF, nI_clamp, or_self, or_false, false_or, not_true_eq_false, not_false_eq_true, ↓reduceIte, nmS_eq, bd1_eq, bd2_eq, nI_add, pEqS, pk_mul, Nat.reduceAdd, Bool.false_eq_true, or_true, true_or, t2]
    · simp (disch := omega) only [f_X8_traces, b_X8_traces_29, lit, pLeT, pLeF, pLtT, pLtF, pEqT, pEqF, nLeF, nLtF, nI_clamp, or_self, or_false, false_or, not_true_eq_false, not_false_eq_true, ↓reduceIte, nmS_eq, bd1_eq, bd2_eq, nI_add, pEqS, pk_mul, Nat.reduceAdd, Bool.false_eq_true, or_true, true_or, t3]
  · refine ⟨pI (pI σ 237 t x) 236 1 (nI (t + 1)), pI (pI τ 16 t x) 0 27 (nI (t + 1)), ?_, ?_, ?_⟩
    · simp (disch := omega) only [f_X1_begins, b_X1_begins_29, lit, pLeT, pLeF, pLtT, pLtF, pEqT, pEqF, nLeF, nLtF, nI_clamp, or_self, or_false, false_or, not_true_eq_false, not_false_eq_true, ↓reduceIte, nmS_eq, bd1_eq, bd2_eq, nI_add, pEqS, pk_mul, Nat.reduceAdd, Bool.false_eq_true, or_true, true_or, t2, pI_nk]
    · simp (disch := omega) only [f_X8_traces, b_X8_traces_29, lit, pLeT, pLeF, pLtT, pLtF, pEqT, pEqF, nLeF, nLtF, nI_clamp, or_self, or_false, false_or, not_true_eq_false, not_false_eq_true, ↓reduceIte, nmS_eq, bd1_eq, bd2_eq, nI_add, pEqS, pk_mul, Nat.reduceAdd, Bool.false_eq_true, or_true, true_or, t3, pI_nk]
    · refine ⟨h.trch (fun c j hc => by rw [pI_nk (by omega), pI_nk (by omega)]) (by rw [pI_2, pI_2]) (fun c j h1 h2 => by rw [pI_no h1, pI_nk (by omega)]) (by rw [pI_2, pI_2]) ⟨t + 1, by omega, pI_at _, pI_at _, fun i hi => ?_⟩, fun c j hc => ?_, ?_, ?_⟩
      · rw [pI_nk (show 237 < 236 ∨ 236 < 237 by omega), pI_nk (show 16 < 0 ∨ 0 < 16 by omega)]
        by_cases e : i = t
        · subst e
          rw [pI_at, pI_at]
        · rw [pI_nj (by omega), pI_nj (by omega)]
          exact t4 i (by omega)
      · rw [pI_nk (by omega), pI_nk (by omega)]
        exact h0.i c j hc
      · rw [pI_2, pI_2]
        exact h0.l
      · rw [pI_2, pI_2]
        exact h0.m
/-! variables of a clause -/
def cvA (c : Nat → Int64) : Nat → Nat → Nat → Nat
  | 0, _, n => n
  | j + 1, i, n => cvA c j (i + 1) (if c i = 0 then n else n + 1)
def lvA (c : Nat → Int64) : Nat → Nat → Nat
  | 0, _ => 8
  | j + 1, i => if c i = 0 then lvA c j (i + 1) else i
theorem l_X3_countVariables (k : Nat) (σ : Sto) (n : Nat) (j : Nat) : ∀ i c, i + j = 8 → l_X3_countVariables_4 k (n + 1 + j) (nI c) (nI i) σ = some (nI (cvA (σ.2 (k + 1)) j i c), σ) := by
  induction j with
  | zero =>
    intro i c hi
    have e : i = 8 := by omega
    subst e
    show b_X3_countVariables_4 _ k (nI c) (nI 8) σ = _
    simp (disch := omega) only [b_X3_countVariables_4, lit, pLeT, pLeF, pLtT, pLtF, pEqT, pEqF, nLeF, nLtF, nI_clamp, or_self, or_false, false_or, not_true_eq_false, not_false_eq_true, ↓reduceIte, nmS_eq, bd1_eq, bd2_eq, nI_add, pEqS, pk_mul, Nat.reduceAdd, Bool.false_eq_true, or_true, true_or, cvA]
  | succ j ih0 =>
    intro i c hi
    have ih := fun c => ih0 (i + 1) c (by omega)
    show b_X3_countVariables_4 (l_X3_countVariables_4 k (n + 1 + j)) k (nI c) (nI i) σ = some (nI (cvA (σ.2 (k + 1)) j (i + 1) (if σ.2 (k + 1) i = 0 then c else c + 1)), σ)
    by_cases q : σ.2 (k + 1) i = 0 <;> simp (disch := omega) only [b_X3_countVariables_4, b_X3_countVariables_24, lit, pLeT, pLeF, pLtT, pLtF, pEqT, pEqF, nLeF, nLtF, nI_clamp, or_self, or_false, false_or, not_true_eq_false, not_false_eq_true, ↓reduceIte, nmS_eq, bd1_eq, bd2_eq, nI_add, pEqS, pk_mul, Nat.reduceAdd, Bool.false_eq_true, or_true, true_or, q, ih]
theorem l_X3_leastVariable (k : Nat) (σ : Sto) (n : Nat) (j : Nat) : ∀ i, i + j = 8 → l_X3_leastVariable_2 k (n + 1 + j) (nI i) σ = some (nI (lvA (σ.2 (k + 1)) j i), σ) := by
  induction j with
  | zero =>
    intro i hi
    have e : i = 8 := by omega
    subst e
    show b_X3_leastVariable_2 _ k (nI 8) σ = _
    simp (disch := omega) only [b_X3_leastVariable_2, lit, pLeT, pLeF, pLtT, pLtF, pEqT, pEqF, nLeF, nLtF, nI_clamp, or_self, or_false, false_or, not_true_eq_false, not_false_eq_true, ↓reduceIte, nmS_eq, bd1_eq, bd2_eq, nI_add, pEqS, pk_mul, Nat.reduceAdd, Bool.false_eq_true, or_true, true_or, lvA]
  | succ j ih0 =>
    intro i hi
    have ih := ih0 (i + 1) (by omega)
    show b_X3_leastVariable_2 (l_X3_leastVariable_2 k (n + 1 + j)) k (nI i) σ = some (nI (if σ.2 (k + 1) i = 0 then lvA (σ.2 (k + 1)) j (i + 1) else i), σ)
    by_cases q : σ.2 (k + 1) i = 0 <;> simp (disch := omega) only [b_X3_leastVariable_2, lit, pLeT, pLeF, pLtT, pLtF, pEqT, pEqF, nLeF, nLtF, nI_clamp, or_self, or_false, false_or, not_true_eq_false, not_false_eq_true, ↓reduceIte, nmS_eq, bd1_eq, bd2_eq, nI_add, pEqS, pk_mul, Nat.reduceAdd, Bool.false_eq_true, or_true, true_or, q, ih]
theorem l_X8_variablesOf {u lv : Nat} {σ τ : Sto} (h : RU u lv σ τ) {a : Nat} (ha : a < u) (n : Nat) (j : Nat) : ∀ i c, i + j = 8 → l_X8_variablesOf_4 (n + 1 + j) (nI a) (nI c) (nI i) τ = some (nI (cvA (σ.2 (36 + 2 * a + 1)) j i c), τ) := by
  have hu := h.bk.hu
  induction j with
  | zero =>
    intro i c hi
    have e : i = 8 := by omega
    subst e
    show b_X8_variablesOf_4 _ (nI a) (nI c) (nI 8) τ = _
    simp (disch := omega) only [b_X8_variablesOf_4, lit, pLeT, pLeF, pLtT, pLtF, pEqT, pEqF, nLeF, nLtF, nI_clamp, or_self, or_false, false_or, not_true_eq_false, not_false_eq_true, ↓reduceIte, nmS_eq, bd1_eq, bd2_eq, nI_add, pEqS, pk_mul, Nat.reduceAdd, Bool.false_eq_true, or_true, true_or, cvA]
  | succ j ih0 =>
    intro i c hi
    have ih := fun c => ih0 (i + 1) c (by omega)
    have hc := h.cfm ha (v := i) (by omega)
    show b_X8_variablesOf_4 (l_X8_variablesOf_4 (n + 1 + j)) (nI a) (nI c) (nI i) τ = some (nI (cvA (σ.2 (36 + 2 * a + 1)) j (i + 1) (if σ.2 (36 + 2 * a + 1) i = 0 then c else c + 1)), τ)
    by_cases q : σ.2 (36 + 2 * a + 1) i = 0 <;> simp (disch := omega) only [b_X8_variablesOf_4, b_X8_variablesOf_37, lit, pLeT, pLeF, pLtT, pLtF, pEqT, pEqF, nLeF, nLtF, nI_clamp, or_self, or_false, false_or, not_true_eq_false, not_false_eq_true, ↓reduceIte, nmS_eq, bd1_eq, bd2_eq, nI_add, pEqS, pk_mul, Nat.reduceAdd, Bool.false_eq_true, or_true, true_or, hc, q, ih, Nat.add_zero]
theorem l_X8_leastOf {u lv : Nat} {σ τ : Sto} (h : RU u lv σ τ) {a : Nat} (ha : a < u) (n : Nat) (j : Nat) : ∀ i, i + j = 8 → l_X8_leastOf_2 (n + 1 + j) (nI a) (nI i) τ = some (nI (lvA (σ.2 (36 + 2 * a + 1)) j i), τ) := by
  have hu := h.bk.hu
  induction j with
  | zero =>
    intro i hi
    have e : i = 8 := by omega
    subst e
    show b_X8_leastOf_2 _ (nI a) (nI 8) τ = _
    simp (disch := omega) only [b_X8_leastOf_2, lit, pLeT, pLeF, pLtT, pLtF, pEqT, pEqF, nLeF, nLtF, nI_clamp, or_self, or_false, false_or, not_true_eq_false, not_false_eq_true, ↓reduceIte, nmS_eq, bd1_eq, bd2_eq, nI_add, pEqS, pk_mul, Nat.reduceAdd, Bool.false_eq_true, or_true, true_or, lvA]
  | succ j ih0 =>
    intro i hi
    have ih := ih0 (i + 1) (by omega)
    have hc := h.cfm ha (v := i) (by omega)
    show b_X8_leastOf_2 (l_X8_leastOf_2 (n + 1 + j)) (nI a) (nI i) τ = some (nI (if σ.2 (36 + 2 * a + 1) i = 0 then lvA (σ.2 (36 + 2 * a + 1)) j (i + 1) else i), τ)
    by_cases q : σ.2 (36 + 2 * a + 1) i = 0 <;> simp (disch := omega) only [b_X8_leastOf_2, lit, pLeT, pLeF, pLtT, pLtF, pEqT, pEqF, nLeF, nLtF, nI_clamp, or_self, or_false, false_or, not_true_eq_false, not_false_eq_true, ↓reduceIte, nmS_eq, bd1_eq, bd2_eq, nI_add, pEqS, pk_mul, Nat.reduceAdd, Bool.false_eq_true, or_true, true_or, hc, q, ih]
theorem e_X3_countVariables (k : Nat) (σ : Sto) : f_X3_countVariables k σ = some (nI (cvA (σ.2 (k + 1)) 8 0 0), σ) := l_X3_countVariables k σ 391 8 0 0 (by omega)
theorem e_X3_leastVariable (k : Nat) (σ : Sto) : f_X3_leastVariable k σ = some (nI (lvA (σ.2 (k + 1)) 8 0), σ) := l_X3_leastVariable k σ 391 8 0 (by omega)
/-- what a clause tells in every state of an ask -/
theorem Tr.facts {u lv : Nat} {σ0 τ0 σ τ : Sto} (h : Tr u lv σ0 τ0 σ τ) {a q : Nat} (ha : a < u) (hq : σ0.1 (36 + 2 * a) 3 = nI q) (hq2 : τ0.2 6 (12 + 10 * a) = lN q) :
    σ.1 (36 + 2 * a) 3 = nI q ∧ τ.2 6 (12 + 10 * a) = lN q ∧ σ.1 (36 + 2 * a) 1 = nI a ∧ f_X8_variablesOf (nI a) τ = some (nI (cvA (σ0.2 (36 + 2 * a + 1)) 8 0 0), τ) ∧ f_X8_leastOf (nI a) τ = some (nI (lvA (σ0.2 (36 + 2 * a + 1)) 8 0), τ) := by
  have hu := h.r.bk.hu
  refine ⟨by rw [h.i _ _ (by omega)]; exact hq, by rw [h.m]; exact hq2, h.r.nm a (by omega), ?_, ?_⟩
  · rw [← h.l]
    exact l_X8_variablesOf h.r ha 391 8 0 0 (by omega)
  · rw [← h.l]
    exact l_X8_leastOf h.r ha 391 8 0 (by omega)
