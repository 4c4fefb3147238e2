/-! ===== formula: what is read ===== -/
abbrev Cg (a : Nat) (σ τ : Sto) : Prop := (τ.2 7 (12 + 10 * a) = 1) ∧ (0 ≤ (σ.2 (17 + 2 * a) 2).toInt) ∧ ((σ.2 (17 + 2 * a) 2).toInt ≤ 99) ∧ (τ.2 7 (12 + 10 * a + 1) = σ.2 (17 + 2 * a) 2) ∧ (∀ v, v < 8 → -99 ≤ (σ.2 (17 + 2 * a + 1) v).toInt ∧ (σ.2 (17 + 2 * a + 1) v).toInt ≤ 99 ∧ τ.2 7 (12 + 10 * a + (2 + v)) = σ.2 (17 + 2 * a + 1) v)
theorem Cg.k {a : Nat} {σ τ : Sto} (h : Cg a σ τ) : τ.2 7 (12 + 10 * a) = 1 := h.1
theorem Cg.a {a : Nat} {σ τ : Sto} (h : Cg a σ τ) : 0 ≤ (σ.2 (17 + 2 * a) 2).toInt := h.2.1
theorem Cg.b {a : Nat} {σ τ : Sto} (h : Cg a σ τ) : (σ.2 (17 + 2 * a) 2).toInt ≤ 99 := h.2.2.1
theorem Cg.d {a : Nat} {σ τ : Sto} (h : Cg a σ τ) : τ.2 7 (12 + 10 * a + 1) = σ.2 (17 + 2 * a) 2 := h.2.2.2.1
theorem Cg.c {a : Nat} {σ τ : Sto} (h : Cg a σ τ) : ∀ v, v < 8 → -99 ≤ (σ.2 (17 + 2 * a + 1) v).toInt ∧ (σ.2 (17 + 2 * a + 1) v).toInt ≤ 99 ∧ τ.2 7 (12 + 10 * a + (2 + v)) = σ.2 (17 + 2 * a + 1) v := h.2.2.2.2
abbrev Dr (n : Nat) (σ τ : Sto) : Prop := (n ≤ 8) ∧ (σ.1 13 5 = nI n) ∧ (τ.2 7 9 = lN n) ∧ (τ.2 7 10 = lN (2 ^ n - 1)) ∧ (τ.2 7 8 = (-nI 1000000).toInt64) ∧ (τ.2 7 11 = 1) ∧ (∀ v, v < 8 → ∃ q, q ≤ 9 ∧ σ.1 16 v = nI q ∧ τ.2 7 v = lN q) ∧ (∀ a, a < n → Cg a σ τ)
theorem Dr.n8 {n : Nat} {σ τ : Sto} (h : Dr n σ τ) : n ≤ 8 := h.1
theorem Dr.cn {n : Nat} {σ τ : Sto} (h : Dr n σ τ) : σ.1 13 5 = nI n := h.2.1
theorem Dr.us {n : Nat} {σ τ : Sto} (h : Dr n σ τ) : τ.2 7 9 = lN n := h.2.2.1
theorem Dr.lv {n : Nat} {σ τ : Sto} (h : Dr n σ τ) : τ.2 7 10 = lN (2 ^ n - 1) := h.2.2.2.1
theorem Dr.bs {n : Nat} {σ τ : Sto} (h : Dr n σ τ) : τ.2 7 8 = (-nI 1000000).toInt64 := h.2.2.2.2.1
theorem Dr.rd {n : Nat} {σ τ : Sto} (h : Dr n σ τ) : τ.2 7 11 = 1 := h.2.2.2.2.2.1
theorem Dr.pr {n : Nat} {σ τ : Sto} (h : Dr n σ τ) : ∀ v, v < 8 → ∃ q, q ≤ 9 ∧ σ.1 16 v = nI q ∧ τ.2 7 v = lN q := h.2.2.2.2.2.2.1
theorem Dr.cl {n : Nat} {σ τ : Sto} (h : Dr n σ τ) : ∀ a, a < n → Cg a σ τ := h.2.2.2.2.2.2.2
abbrev Rf (σ τ σ' τ' : Sto) : Prop := (∀ c j, ¬ (c = 13 ∧ 5 ≤ j ∧ j ≤ 8) → c ≠ 16 → σ'.1 c j = σ.1 c j) ∧ (∀ c j, ¬ (17 ≤ c ∧ c < 33) → σ'.2 c j = σ.2 c j) ∧ (∀ c j, ¬ (c = 0 ∧ 7 ≤ j ∧ j ≤ 12) → τ'.1 c j = τ.1 c j) ∧ (∀ c j, c ≠ 7 → c ≠ 11 → τ'.2 c j = τ.2 c j)
theorem Rf.i {σ τ σ' τ' : Sto} (h : Rf σ τ σ' τ') : ∀ c j, ¬ (c = 13 ∧ 5 ≤ j ∧ j ≤ 8) → c ≠ 16 → σ'.1 c j = σ.1 c j := h.1
theorem Rf.l {σ τ σ' τ' : Sto} (h : Rf σ τ σ' τ') : ∀ c j, ¬ (17 ≤ c ∧ c < 33) → σ'.2 c j = σ.2 c j := h.2.1
theorem Rf.m {σ τ σ' τ' : Sto} (h : Rf σ τ σ' τ') : ∀ c j, ¬ (c = 0 ∧ 7 ≤ j ∧ j ≤ 12) → τ'.1 c j = τ.1 c j := h.2.2.1
theorem Rf.n {σ τ σ' τ' : Sto} (h : Rf σ τ σ' τ') : ∀ c j, c ≠ 7 → c ≠ 11 → τ'.2 c j = τ.2 c j := h.2.2.2
theorem Rf.rfl {σ τ : Sto} : Rf σ τ σ τ := ⟨fun _ _ _ _ => Eq.refl _, fun _ _ _ => Eq.refl _, fun _ _ _ => Eq.refl _, fun _ _ _ _ => Eq.refl _⟩
theorem Rf.trans {σ τ σ1 τ1 σ2 τ2 : Sto} (h : Rf σ τ σ1 τ1) (h2 : Rf σ1 τ1 σ2 τ2) : Rf σ τ σ2 τ2 := ⟨fun c j q r => (h2.i c j q r).trans (h.i c j q r), fun c j q => (h2.l c j q).trans (h.l c j q), fun c j q => (h2.m c j q).trans (h.m c j q), fun c j q r => (h2.n c j q r).trans (h.n c j q r)⟩
theorem Rc.rf {k : Nat} (hk : 17 ≤ k ∧ k < 32) {σ τ σ' τ' : Sto} (h : Rc k σ τ σ' τ') : Rf σ τ σ' τ' := ⟨fun c j q _ => h.i c j (by omega), fun c j q => h.l c j (by omega) (by omega), h.m, fun c j _ q => h.n c j q⟩
theorem Fr.rf {σ τ σ' τ' : Sto} (h : Fr σ τ σ' τ') : Rf σ τ σ' τ' := ⟨fun c j q _ => h.i c j (by omega), fun c j q => by rw [h.l], h.m, fun c j _ _ => by rw [h.n]⟩
theorem Dr.fr {n : Nat} {σ τ σ' τ' : Sto} (h : Dr n σ τ) (f : Fr σ τ σ' τ') : Dr n σ' τ' := by
  refine ⟨h.n8, by rw [f.i _ _ (by omega)]; exact h.cn, by rw [f.n]; exact h.us, by rw [f.n]; exact h.lv, by rw [f.n]; exact h.bs, by rw [f.n]; exact h.rd, fun v hv => ?_, fun a ha => ?_⟩
  · rw [f.i _ _ (by omega), f.n]
    exact h.pr v hv
  · unfold Cg
    rw [f.l, f.n]
    exact h.cl a ha
theorem pow_1 (n : Nat) : 2 ^ n - 1 < 2 ^ n ∧ 2 ^ n - 1 + 2 ^ n = 2 ^ (n + 1) - 1 := by
  have h : 0 < 2 ^ n := Nat.pow_pos (by decide)
  have h2 : 2 ^ (n + 1) = 2 ^ n * 2 := Nat.pow_succ 2 n
  omega
/-- in the model at fault: the prices, the end -/
theorem fo190 {τ : Sto} (h : f_X8_isWell τ = some (nI 0, τ)) : b_X8_formula_190 τ = b_X8_formula_280 τ := by
  show b_X8_formula_192 (l_X8_formula_192 399) (nI 0) τ = _
  simp (disch := omega) only [b_X8_formula_192, lit, pLeT, pLeF, pLtT, pLtF, pEqT, pEqF, nLeF, nLtF, nI_clamp, or_self, or_false, false_or, not_true_eq_false, not_false_eq_true, ↓reduceIte, nmS_eq, bd1_eq, bd2_eq, nI_add, pEqS, pk_mul, Nat.reduceAdd, Bool.false_eq_true, or_true, true_or, h]
theorem fo159 {c44 : Sto → Option (Int32 × Sto)} {τ : Sto} (h : f_X8_isWell τ = some (nI 0, τ)) : b_X8_formula_159 c44 τ = b_X8_formula_190 τ := by
  simp (disch := omega) only [b_X8_formula_159, lit, pLeT, pLeF, pLtT, pLtF, pEqT, pEqF, nLeF, nLtF, nI_clamp, or_self, or_false, false_or, not_true_eq_false, not_false_eq_true, ↓reduceIte, nmS_eq, bd1_eq, bd2_eq, nI_add, pEqS, pk_mul, Nat.reduceAdd, Bool.false_eq_true, or_true, true_or, flt_term h, h]
/-- what the clauses come to -/
def FO (L : Nat) (t : Nat → Nat) (fx : Option (Int32 × Sto)) (fm : Option (Int32 × Sto)) (σ τ : Sto) : Prop :=
  (∃ p' n' σ' τ', fx = some (nI 1, σ') ∧ fm = b_X8_formula_190 τ' ∧ Sy L t p' σ' τ' ∧ Dr n' σ' τ' ∧ Rf σ τ σ' τ') ∨
  (∃ σ' τ', fx = some (nI 0, σ') ∧ fm = b_X8_formula_190 τ' ∧ Fy σ' τ' ∧ Rf σ τ σ' τ')
def beg (L : Nat) (t : Nat → Nat) (p : Nat) : Bool := decide (tok L t p = 1 ∧ (t p = 112 ∨ t p = 110 ∨ t p = 103))
theorem Sy.begX {L : Nat} {t : Nat → Nat} {p : Nat} {σ τ : Sto} (h : Sy L t p σ τ) {i : Nat} (hi : i ≤ 8) (c2 : Int32 → Sto → Option (Int32 × Sto)) : b_X5_readsClauses_2 c2 (nI i) σ = b_X5_readsClauses_40 c2 (nI i) (if beg L t p then nI 1 else nI 0) σ := by
  have hn := h.tx.n
  have hp := h.hp
  have hl := e_X5_letter h.tx (by omega) h.px
  cases hb : beg L t p
  · have hb2 := of_decide_eq_false hb
    have hbb : p < L → t p < 256 := fun z => (h.tx.t p z).1
    have nn : ∀ c, c = 112 ∨ c = 110 ∨ c = 103 → (ltr L t p = nI c) = False := by
      intro c hc
      by_cases q : tok L t p = 1
      · have hq := tok1 q
        rw [hq.2.1]
        refine eq_false (fun e => hb2 ⟨q, ?_⟩)
        have e2 := (nI_eq (by omega) (by omega)).mp e
        omega
      · exact tokn1 q hbb (by omega)
    simp (disch := omega) only [b_X5_readsClauses_2, lit, pLeT, pLeF, pLtT, pLtF, pEqT, pEqF, nLeF, nLtF, nI_clamp, or_self, or_false, false_or, not_true_eq_false, not_false_eq_true, ↓reduceIte, nmS_eq, bd1_eq, bd2_eq, nI_add, pEqS, pk_mul, Nat.reduceAdd, Bool.false_eq_true, or_true, true_or, hl, nn 112 (by omega), nn 110 (by omega), nn 103 (by omega)]
  · obtain ⟨q, hq⟩ := of_decide_eq_true hb
    have hq1 := tok1 q
    rw [hq1.2.1] at hl
    rcases hq with e | e | e <;> rw [e] at hl <;> simp (disch := omega) only [b_X5_readsClauses_2, b_X5_readsClauses_35, lit, pLeT, pLeF, pLtT, pLtF, pEqT, pEqF, nLeF, nLtF, nI_clamp, or_self, or_false, false_or, not_true_eq_false, not_false_eq_true, ↓reduceIte, nmS_eq, bd1_eq, bd2_eq, nI_add, pEqS, pk_mul, Nat.reduceAdd, Bool.false_eq_true, or_true, true_or, hl]
theorem Sy.begM {L : Nat} {t : Nat → Nat} {p : Nat} {σ τ : Sto} (h : Sy L t p σ τ) (c44 : Sto → Option (Int32 × Sto)) : b_X8_formula_159 c44 τ = if beg L t p then c44 τ else b_X8_formula_190 τ := by
  have hw := well1 h.sm.w
  have hk := h.sm.k
  by_cases q : tok L t p = 1
  · have hq := tok1 q
    have hv := (h.sm.a q).1
    rw [q] at hk
    cases hb : beg L t p
    · have hb2 := of_decide_eq_false hb
      have n1 : (nI (t p) = nI 112) = False := eq_false (fun e => hb2 ⟨q, Or.inl ((nI_eq (by omega) (by omega)).mp e)⟩)
      have n2 : (nI (t p) = nI 110) = False := eq_false (fun e => hb2 ⟨q, Or.inr (Or.inl ((nI_eq (by omega) (by omega)).mp e))⟩)
      have n3 : (nI (t p) = nI 103) = False := eq_false (fun e => hb2 ⟨q, Or.inr (Or.inr ((nI_eq (by omega) (by omega)).mp e))⟩)
      simp (disch := omega) only [b_X8_formula_159, f_X8_isTerm, b_X8_isTerm_37, b_X8_isTerm_38, lit, pLeT, pLeF, pLtT, pLtF, pEqT, pEqF, nLeF, nLtF, nI_clamp, or_self, or_false, false_or, not_true_eq_false, not_false_eq_true, ↓reduceIte, nmS_eq, bd1_eq, bd2_eq, nI_add, pEqS, pk_mul, Nat.reduceAdd, Bool.false_eq_true, or_true, true_or, hw, hk, hv, n1, n2, n3]
    · obtain ⟨-, hq2⟩ := of_decide_eq_true hb
      rcases hq2 with e | e | e <;> rw [e] at hv <;> simp (disch := omega) only [b_X8_formula_159, f_X8_isTerm, b_X8_isTerm_33, b_X8_isTerm_37, b_X8_isTerm_38, lit, pLeT, pLeF, pLtT, pLtF, pEqT, pEqF, nLeF, nLtF, nI_clamp, or_self, or_false, false_or, not_true_eq_false, not_false_eq_true, ↓reduceIte, nmS_eq, bd1_eq, bd2_eq, nI_add, pEqS, pk_mul, Nat.reduceAdd, Bool.false_eq_true, or_true, true_or, hw, hk, hv]
  · have hk1 := tokE q (by omega)
    have hb : beg L t p = false := decide_eq_false (fun z => q z.1)
    simp (disch := omega) only [b_X8_formula_159, f_X8_isTerm, b_X8_isTerm_37, b_X8_isTerm_38, lit, pLeT, pLeF, pLtT, pLtF, pEqT, pEqF, nLeF, nLtF, nI_clamp, or_self, or_false, false_or, not_true_eq_false, not_false_eq_true, ↓reduceIte, nmS_eq, bd1_eq, bd2_eq, nI_add, pEqS, pk_mul, Nat.reduceAdd, Bool.false_eq_true, or_true, true_or, hw, hk, hk1, hb]
/-- a clause that is read goes over into the draft -/
theorem Dr.more {n : Nat} {σ τ σ1 τ1 : Sto} (h : Dr n σ τ) (hn : n < 8) (r : Rc (17 + 2 * n) σ τ σ1 τ1) (ck : Ck (17 + 2 * n) σ1 τ1) (d0 : 0 ≤ (σ1.2 (17 + 2 * n) 2).toInt) (d1 : (σ1.2 (17 + 2 * n) 2).toInt ≤ 99) (d2 : τ1.2 11 1 = σ1.2 (17 + 2 * n) 2) (c44 : Sto → Option (Int32 × Sto)) :
    ∃ τ2, (nmS (pL τ1 11 0 (1 : Int64)) fun s => bd1 (f_X8_copies 11 10 (0 : Int32) 7 312 ((12 : Int32) + ((10 : Int32) * (s.2 7 9).toInt32)) (10 : Int32) s) fun s => nmS (pL s 7 10 ((s.2 7 10) ||| ((1 : Int64) <<< (((s.2 7 9).toInt32).toInt64 &&& 63)))) fun s => nmS (pL s 7 9 ((s.2 7 9) + (1 : Int64))) fun s => b_X8_formula_159 c44 s) = b_X8_formula_159 c44 τ2 ∧ τ2.1 = τ1.1 ∧ (∀ c j, c ≠ 7 → c ≠ 11 → τ2.2 c j = τ1.2 c j) ∧ Dr (n + 1) (pI σ1 13 5 (nI (n + 1))) τ2 := by
  have e9 : τ1.2 7 9 = lN n := by rw [r.n _ _ (by omega)]; exact h.us
  have e10 : τ1.2 7 10 = lN (2 ^ n - 1) := by rw [r.n _ _ (by omega)]; exact h.lv
  have cp := e_X8_copies 11 10 7 312 0 (12 + 10 * n) 10 (pL τ1 11 0 1) (by omega) (by omega) (by omega) (by omega) (by omega) (by omega)
  have cu : (wL (pL τ1 11 0 1) 7 (12 + 10 * n) 10 (fun t => (pL τ1 11 0 1).2 11 (0 + t))).2 7 10 = lN (2 ^ n - 1) := by rw [wL_out (by omega), pL_nk (by omega)]; exact e10
  have cv : (wL (pL τ1 11 0 1) 7 (12 + 10 * n) 10 (fun t => (pL τ1 11 0 1).2 11 (0 + t))).2 7 9 = lN n := by rw [wL_out (by omega), pL_nk (by omega)]; exact e9
  generalize ht2 : wL (pL τ1 11 0 1) 7 (12 + 10 * n) 10 (fun t => (pL τ1 11 0 1).2 11 (0 + t)) = τ2 at cp cu cv
  have o2 := or64 (pow_1 n).1 (show n < 30 by omega)
  rw [(pow_1 n).2] at o2
  have s0 : ∀ i, i < 12 + 10 * n → i ≠ 9 → i ≠ 10 → (pL (pL τ2 7 10 (lN (2 ^ (n + 1) - 1))) 7 9 (lN (n + 1))).2 7 i = τ.2 7 i := by
    intro i n1 n2 n3
    rw [pL_nj (by omega), pL_nj (by omega), ← ht2, wL_out (by omega), pL_nk (by omega), r.n _ _ (by omega)]
  have t0 : ∀ i, i < 10 → (pL (pL τ2 7 10 (lN (2 ^ (n + 1) - 1))) 7 9 (lN (n + 1))).2 7 (12 + 10 * n + i) = (pL τ1 11 0 1).2 11 (0 + i) := by
    intro i hi
    rw [pL_nj (by omega), pL_nj (by omega), ← ht2, wL_at hi]
  refine ⟨pL (pL τ2 7 10 (lN (2 ^ (n + 1) - 1))) 7 9 (lN (n + 1)), ?_, ?_, ?_, ?_⟩
  · have p9 : (pL τ1 11 0 1).2 7 9 = lN n := by rw [pL_nk (by omega)]; exact e9
    simp (disch := omega) only [lit, pLeT, pLeF, pLtT, pLtF, pEqT, pEqF, nLeF, nLtF, nI_clamp, or_self, or_false, false_or, not_true_eq_false, not_false_eq_true, ↓reduceIte, nmS_eq, bd1_eq, bd2_eq, nI_add, pEqS, pk_mul, Nat.reduceAdd, Bool.false_eq_true, or_true, true_or, p9, lN_i, cp, cu, cv, o2, lN_1, pL_nj, pL_at]
  · rw [pL_1, pL_1, ← ht2, wL_1, pL_1]
  · intro c j n1 n2
    rw [pL_nk (by omega), pL_nk (by omega), ← ht2, wL_k (by omega), pL_nk (by omega)]
  · refine ⟨by omega, pI_at _, pL_at _, by rw [pL_nj (by omega), pL_at], by rw [s0 8 (by omega) (by omega) (by omega)]; exact h.bs, by rw [s0 11 (by omega) (by omega) (by omega)]; exact h.rd, fun v hv => ?_, fun a ha => ?_⟩
    · rw [s0 v (by omega) (by omega) (by omega), pI_nk (by omega), r.i _ _ (by omega)]
      exact h.pr v hv
    · by_cases e : a = n
      · subst e
        refine ⟨?_, by rw [pI_2]; exact d0, by rw [pI_2]; exact d1, ?_, fun v hv => ?_⟩
        · have := t0 0 (by omega)
          rw [Nat.add_zero, Nat.zero_add, pL_at] at this
          exact this
        · rw [t0 1 (by omega), Nat.zero_add, pL_nj (by omega), pI_2]
          exact d2
        · rw [t0 (2 + v) (by omega), Nat.zero_add, pL_nj (by omega), pI_2]
          exact ck v hv
      · have hc := h.cl a (by omega)
        have hs : ∀ j, σ1.2 (17 + 2 * a) j = σ.2 (17 + 2 * a) j := fun j => r.l _ _ (by omega) (by omega)
        have hs2 : ∀ j, σ1.2 (17 + 2 * a + 1) j = σ.2 (17 + 2 * a + 1) j := fun j => r.l _ _ (by omega) (by omega)
        refine ⟨?_, by rw [pI_2, hs]; exact hc.a, by rw [pI_2, hs]; exact hc.b, ?_, fun v hv => ?_⟩
        · rw [s0 _ (by omega) (by omega) (by omega)]; exact hc.k
        · rw [s0 _ (by omega) (by omega) (by omega), pI_2, hs]; exact hc.d
        · rw [s0 _ (by omega) (by omega) (by omega), pI_2, hs2]; exact hc.c v hv
theorem fo_cl {L : Nat} {t : Nat → Nat} (nX nM : Nat) (j : Nat) : ∀ (i p : Nat) (σ τ : Sto), i + j = 9 → Sy L t p σ τ → Dr i σ τ → (i = 0 ∨ beg L t p = true) → FO L t (l_X5_readsClauses_2 (nX + 1 + j) (nI i) σ) (l_X8_formula_44 (nM + 1 + j) τ) σ τ := by
  induction j with
  | zero =>
    intro i p σ τ hi h d
    have := d.n8
    omega
  | succ j ih =>
    intro i p σ τ hi h d hbg
    have hX : l_X5_readsClauses_2 (nX + 1 + (j + 1)) (nI i) σ = b_X5_readsClauses_2 (l_X5_readsClauses_2 (nX + 1 + j)) (nI i) σ := rfl
    have hM : l_X8_formula_44 (nM + 1 + (j + 1)) τ = b_X8_formula_44 (l_X8_formula_44 (nM + 1 + j)) τ := rfl
    have n8 := d.n8
    have cn := d.cn
    have us := d.us
    have hw := well1 h.sm.w
    have hle : ((8 : Int64) ≤ lN i) = (8 ≤ i) := by
      rw [leL, lN_toInt (by omega)]
      have : (8 : Int64).toInt = 8 := by decide
      rw [this]
      apply propext
      omega
    rw [hX, hM, h.begX (by omega)]
    by_cases q8 : i = 8
    · have hbg1 : beg L t p = true := by
        rcases hbg with e | e
        · omega
        · exact e
      subst q8
      obtain ⟨g1, g2, g3⟩ := h.fail (σ1 := σ) 3 (fun c j _ => rfl) rfl
      generalize hτ : pI (pI τ 0 8 (nI p)) 0 7 (nI 3) = τ1 at g1 g2 g3
      have w2 := g2.well
      have w2' : f_X8_isWell (wL τ1 11 0 10 (fun _ => 0)) = some (nI 0, wL τ1 11 0 10 (fun _ => 0)) := by
        obtain ⟨p9, p1, p2, p3⟩ := g2.pl
        exact flt p1 (by rw [wL_1]; exact p3)
      have hrc := l_X8_readsClause0 τ1 389 10 0 (by omega)
      rw [wL_0] at hrc
      have hrc : f_X8_readsClause τ1 = some (pL (wL τ1 11 0 10 (fun _ => 0)) 11 1 0) := hrc.trans (rcX w2' 399 _)
      have g2' : Fy (pI σ 13 7 (nI 3)) (pL (wL τ1 11 0 10 (fun _ => 0)) 11 1 0) := g2.fr rfl (by rw [pL_1, wL_1])
      have w3 := g2'.well
      have l8 : ((8 : Int64) ≤ lN 8) = True := eq_true (by decide)
      refine Or.inr ⟨pI σ 13 7 (nI 3), pL (wL τ1 11 0 10 (fun _ => 0)) 11 1 0, ?_, ?_, g2', fun c j n1 n2 => g3.i c j (by omega), fun c j _ => by rw [g3.l], fun c j q => by rw [pL_1, wL_1]; exact g3.m c j q, fun c j _ q => by rw [pL_nk (by omega), wL_k (by omega), g3.n]⟩
      · simp (disch := omega) only [b_X5_readsClauses_40, b_X5_readsClauses_54, f_X5_faulty, lit, pLeT, pLeF, pLtT, pLtF, pEqT, pEqF, nLeF, nLtF, nI_clamp, or_self, or_false, false_or, not_true_eq_false, not_false_eq_true, ↓reduceIte, nmS_eq, bd1_eq, bd2_eq, nI_add, pEqS, pk_mul, Nat.reduceAdd, Bool.false_eq_true, or_true, true_or, hbg1, cn]
      · simp (disch := omega) only [b_X8_formula_44, b_X8_formula_63, b_X8_formula_82, lit, pLeT, pLeF, pLtT, pLtF, pEqT, pEqF, nLeF, nLtF, nI_clamp, or_self, or_false, false_or, not_true_eq_false, not_false_eq_true, ↓reduceIte, nmS_eq, bd1_eq, bd2_eq, nI_add, pEqS, pk_mul, Nat.reduceAdd, Bool.false_eq_true, or_true, true_or, us, l8, hw, g1, hrc, w3, fo159 w3]
    · have e73 : b_X5_readsClauses_40 (l_X5_readsClauses_2 (nX + 1 + j)) (nI i) (if beg L t p then nI 1 else nI 0) σ = b_X5_readsClauses_73 (l_X5_readsClauses_2 (nX + 1 + j)) (nI i) σ := by
        cases hb : beg L t p
        · have i0 : i = 0 := by
            rcases hbg with e | e
            · exact e
            · rw [e] at hb; cases hb
          subst i0
          simp (disch := omega) only [b_X5_readsClauses_40, b_X5_readsClauses_54, lit, pLeT, pLeF, pLtT, pLtF, pEqT, pEqF, nLeF, nLtF, nI_clamp, or_self, or_false, false_or, not_true_eq_false, not_false_eq_true, ↓reduceIte, nmS_eq, bd1_eq, bd2_eq, nI_add, pEqS, pk_mul, Nat.reduceAdd, Bool.false_eq_true, or_true, true_or, cn]
        · simp (disch := omega) only [b_X5_readsClauses_40, b_X5_readsClauses_54, lit, pLeT, pLeF, pLtT, pLtF, pEqT, pEqF, nLeF, nLtF, nI_clamp, or_self, or_false, false_or, not_true_eq_false, not_false_eq_true, ↓reduceIte, nmS_eq, bd1_eq, bd2_eq, nI_add, pEqS, pk_mul, Nat.reduceAdd, Bool.false_eq_true, or_true, true_or, cn]
      have e82 : b_X8_formula_44 (l_X8_formula_44 (nM + 1 + j)) τ = b_X8_formula_82 (l_X8_formula_44 (nM + 1 + j)) τ := by
        have q9 : ¬ 8 ≤ i := by omega
        simp (disch := omega) only [b_X8_formula_44, b_X8_formula_63, lit, pLeT, pLeF, pLtT, pLtF, pEqT, pEqF, nLeF, nLtF, nI_clamp, or_self, or_false, false_or, not_true_eq_false, not_false_eq_true, ↓reduceIte, nmS_eq, bd1_eq, bd2_eq, nI_add, pEqS, pk_mul, Nat.reduceAdd, Bool.false_eq_true, or_true, true_or, us, hle, q9, hw]
      rw [e73, e82]
      have hk : 17 ≤ 17 + 2 * i ∧ 17 + 2 * i < 32 := by omega
      rcases h.clause (k := 17 + 2 * i) hk with ⟨p1, σ1, τ1, b1, b2, b3, b4, b5, b6, b7, b8⟩ | ⟨σ1, τ1, b1, b2, b3, b4⟩
      · obtain ⟨τ2, m1, m2, m3, m4⟩ := d.more (by omega) b8 b4 b5 b6 b7 (l_X8_formula_44 (nM + 1 + j))
        have cn1 : σ1.1 13 5 = nI i := by rw [b8.i _ _ (by omega)]; exact cn
        have hw1 := well1 b3.sm.w
        have rf : Rf σ τ (pI σ1 13 5 (nI (i + 1))) τ2 := (b8.rf hk).trans ⟨fun c j n1 n2 => pI_no (by omega), fun c j _ => by rw [pI_2], fun c j _ => by rw [m2], m3⟩
        have s2 : Sy L t p1 (pI σ1 13 5 (nI (i + 1))) τ2 := by
          refine ⟨⟨b3.tx.n, by rw [pI_nj (by omega)]; exact b3.tx.e, fun i hi => by rw [pI_nk (by omega)]; exact b3.tx.t i hi⟩, ?_, b3.hp, by rw [pI_nj (by omega)]; exact b3.px, ?_, by rw [pI_nj (by omega), m2]; exact b3.ft⟩
          · unfold TM
            rw [m2]
            exact b3.tm
          · unfold SM
            rw [m2]
            exact b3.sm
        have x1 : b_X5_readsClauses_73 (l_X5_readsClauses_2 (nX + 1 + j)) (nI i) σ = l_X5_readsClauses_2 (nX + 1 + j) (nI (i + 1)) (pI σ1 13 5 (nI (i + 1))) := by
          simp (disch := omega) only [b_X5_readsClauses_73, lit, pLeT, pLeF, pLtT, pLtF, pEqT, pEqF, nLeF, nLtF, nI_clamp, or_self, or_false, false_or, not_true_eq_false, not_false_eq_true, ↓reduceIte, nmS_eq, bd1_eq, bd2_eq, nI_add, pEqS, pk_mul, Nat.reduceAdd, Bool.false_eq_true, or_true, true_or, cn, b1, cn1]
        have y1 : b_X8_formula_82 (l_X8_formula_44 (nM + 1 + j)) τ = b_X8_formula_159 (l_X8_formula_44 (nM + 1 + j)) τ2 := by
          rw [← m1]
          unfold b_X8_formula_82
          rw [bd1_of b2, bd2_of hw1, if_neg (by decide)]
        rw [x1, y1, s2.begM]
        cases hb : beg L t p1
        · rw [if_neg (by decide)]
          have hX2 : l_X5_readsClauses_2 (nX + 1 + j) (nI (i + 1)) (pI σ1 13 5 (nI (i + 1))) = some (nI 1, pI σ1 13 5 (nI (i + 1))) := by
            rw [show nX + 1 + j = (nX + j) + 1 by omega]
            show b_X5_readsClauses_2 (l_X5_readsClauses_2 (nX + j)) (nI (i + 1)) (pI σ1 13 5 (nI (i + 1))) = _
            rw [s2.begX (by omega), hb]
            simp (disch := omega) only [b_X5_readsClauses_40, lit, pLeT, pLeF, pLtT, pLtF, pEqT, pEqF, nLeF, nLtF, nI_clamp, or_self, or_false, false_or, not_true_eq_false, not_false_eq_true, ↓reduceIte, nmS_eq, bd1_eq, bd2_eq, nI_add, pEqS, pk_mul, Nat.reduceAdd, Bool.false_eq_true, or_true, true_or, pI_at]
          exact Or.inl ⟨p1, i + 1, _, τ2, hX2, rfl, s2, m4, rf⟩
        · rw [if_pos rfl]
          rcases ih (i + 1) p1 (pI σ1 13 5 (nI (i + 1))) τ2 (by omega) s2 m4 (Or.inr hb) with ⟨p', n', σ', τ', c1, c2, c3, c4, c5⟩ | ⟨σ', τ', c1, c2, c3, c4⟩
          · exact Or.inl ⟨p', n', σ', τ', c1, c2, c3, c4, rf.trans c5⟩
          · exact Or.inr ⟨σ', τ', c1, c2, c3, rf.trans c4⟩
      · have hw1 := b3.well
        refine Or.inr ⟨σ1, τ1, ?_, ?_, b3, b4.rf hk⟩
        · simp (disch := omega) only [b_X5_readsClauses_73, lit, pLeT, pLeF, pLtT, pLtF, pEqT, pEqF, nLeF, nLtF, nI_clamp, or_self, or_false, false_or, not_true_eq_false, not_false_eq_true, ↓reduceIte, nmS_eq, bd1_eq, bd2_eq, nI_add, pEqS, pk_mul, Nat.reduceAdd, Bool.false_eq_true, or_true, true_or, cn, b1]
        · simp (disch := omega) only [b_X8_formula_82, lit, pLeT, pLeF, pLtT, pLtF, pEqT, pEqF, nLeF, nLtF, nI_clamp, or_self, or_false, false_or, not_true_eq_false, not_false_eq_true, ↓reduceIte, nmS_eq, bd1_eq, bd2_eq, nI_add, pEqS, pk_mul, Nat.reduceAdd, Bool.false_eq_true, or_true, true_or, b2, hw1, fo159 hw1]
