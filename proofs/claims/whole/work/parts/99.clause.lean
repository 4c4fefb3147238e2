/-! ===== the reader: a clause ===== -/
abbrev Ck (k : Nat) (σ τ : Sto) : Prop := (∀ v, v < 8 → -99 ≤ (σ.2 (k + 1) v).toInt ∧ (σ.2 (k + 1) v).toInt ≤ 99 ∧ τ.2 11 (2 + v) = σ.2 (k + 1) v)
theorem Ck.c {k : Nat} {σ τ : Sto} (h : Ck k σ τ) : ∀ v, v < 8 → -99 ≤ (σ.2 (k + 1) v).toInt ∧ (σ.2 (k + 1) v).toInt ≤ 99 ∧ τ.2 11 (2 + v) = σ.2 (k + 1) v := h
abbrev Rc (k : Nat) (σ τ σ' τ' : Sto) : Prop := (∀ c j, ¬ (c = 13 ∧ 6 ≤ j ∧ j ≤ 8) → σ'.1 c j = σ.1 c j) ∧ (∀ c j, c ≠ k → c ≠ k + 1 → σ'.2 c j = σ.2 c j) ∧ (∀ c j, ¬ (c = 0 ∧ 7 ≤ j ∧ j ≤ 12) → τ'.1 c j = τ.1 c j) ∧ (∀ c j, c ≠ 11 → τ'.2 c j = τ.2 c j)
theorem Rc.i {k : Nat} {σ τ σ' τ' : Sto} (h : Rc k σ τ σ' τ') : ∀ c j, ¬ (c = 13 ∧ 6 ≤ j ∧ j ≤ 8) → σ'.1 c j = σ.1 c j := h.1
theorem Rc.l {k : Nat} {σ τ σ' τ' : Sto} (h : Rc k σ τ σ' τ') : ∀ c j, c ≠ k → c ≠ k + 1 → σ'.2 c j = σ.2 c j := h.2.1
theorem Rc.m {k : Nat} {σ τ σ' τ' : Sto} (h : Rc k σ τ σ' τ') : ∀ c j, ¬ (c = 0 ∧ 7 ≤ j ∧ j ≤ 12) → τ'.1 c j = τ.1 c j := h.2.2.1
theorem Rc.n {k : Nat} {σ τ σ' τ' : Sto} (h : Rc k σ τ σ' τ') : ∀ c j, c ≠ 11 → τ'.2 c j = τ.2 c j := h.2.2.2
theorem Rc.trans {k : Nat} {σ τ σ1 τ1 σ2 τ2 : Sto} (h : Rc k σ τ σ1 τ1) (h2 : Rc k σ1 τ1 σ2 τ2) : Rc k σ τ σ2 τ2 := ⟨fun c j q => (h2.i c j q).trans (h.i c j q), fun c j q r => (h2.l c j q r).trans (h.l c j q r), fun c j q => (h2.m c j q).trans (h.m c j q), fun c j q => (h2.n c j q).trans (h.n c j q)⟩
theorem Fr.rc {k : Nat} {σ τ σ' τ' : Sto} (h : Fr σ τ σ' τ') : Rc k σ τ σ' τ' := ⟨h.i, fun c j _ _ => by rw [h.l], h.m, fun c j _ => by rw [h.n]⟩
theorem Ck.fr {k : Nat} {σ τ σ' τ' : Sto} (h : Ck k σ τ) (f : Fr σ τ σ' τ') : Ck k σ' τ' := by
  intro v hv
  rw [f.l, f.n]
  exact h v hv
theorem Fy.fr {σ τ σ' τ' : Sto} (h : Fy σ τ) (hi : σ'.1 = σ.1) (hm : τ'.1 = τ.1) : Fy σ' τ' := by
  unfold Fy
  rw [hi, hm]
  exact h
theorem Sy.fr {L : Nat} {t : Nat → Nat} {p : Nat} {σ τ σ' τ' : Sto} (h : Sy L t p σ τ) (hi : σ'.1 = σ.1) (hm : τ'.1 = τ.1) : Sy L t p σ' τ' := by
  unfold Sy TX TM SM
  rw [hi, hm]
  exact h
theorem rc76 {c23 : Int32 → Sto → Option Sto} {τ : Sto} (h : f_X8_isWell τ = some (nI 0, τ)) (v1 v2 v3 v4 s0 : Int32) : b_X8_readsClause_76 c23 v1 v2 v3 v4 s0 τ = c23 v1 τ := by
  simp (disch := omega) only [b_X8_readsClause_76, b_X8_readsClause_116, lit, pLeT, pLeF, pLtT, pLtF, pEqT, pEqF, nLeF, nLtF, nI_clamp, or_self, or_false, false_or, not_true_eq_false, not_false_eq_true, ↓reduceIte, nmS_eq, bd1_eq, bd2_eq, nI_add, pEqS, pk_mul, Nat.reduceAdd, Bool.false_eq_true, or_true, true_or, h, flt_takes h]
theorem rcX {τ : Sto} (h : f_X8_isWell τ = some (nI 0, τ)) (n : Nat) (seen : Int32) : l_X8_readsClause_23 (n + 1) seen τ = some (pL τ 11 1 0) := by
  have h2 : f_X8_isWell (pL τ 11 1 0) = some (nI 0, pL τ 11 1 0) := by
    have h3 : ∀ s : Sto, f_X8_isWell s = some (if nI 0 ≤ s.1 0 8 then nI 0 else nI 1, s) := by
      intro s
      by_cases q : nI 0 ≤ s.1 0 8 <;> simp (disch := omega) only [f_X8_isWell, b_X8_isWell_12, lit, pLeT, pLeF, pLtT, pLtF, pEqT, pEqF, nLeF, nLtF, nI_clamp, or_self, or_false, false_or, not_true_eq_false, not_false_eq_true, ↓reduceIte, nmS_eq, bd1_eq, bd2_eq, nI_add, pEqS, pk_mul, Nat.reduceAdd, Bool.false_eq_true, or_true, true_or, q]
    rw [h3] at h
    rw [h3, pL_1]
    have h4 := (Prod.mk.inj (Option.some.inj h)).1
    rw [h4]
  have z : (nI 0).toInt64 = 0 := by decide
  have c142 : ∀ s0, b_X8_readsClause_142 s0 τ = some (pL τ 11 1 0) := by
    intro s0
    by_cases q : (pL τ 11 1 0).1 0 11 = nI 4 <;> simp (disch := omega) only [b_X8_readsClause_142, b_X8_readsClause_175, lit, pLeT, pLeF, pLtT, pLtF, pEqT, pEqF, nLeF, nLtF, nI_clamp, or_self, or_false, false_or, not_true_eq_false, not_false_eq_true, ↓reduceIte, nmS_eq, bd1_eq, bd2_eq, nI_add, pEqS, pk_mul, Nat.reduceAdd, Bool.false_eq_true, or_true, true_or, flt_takes h, flt_figure h, z, q, flt_takes h2]
  show b_X8_readsClause_23 (l_X8_readsClause_23 n) seen τ = _
  by_cases q : τ.1 0 11 = nI 1
  · by_cases q2 : τ.1 0 12 = nI 103 <;> simp (disch := omega) only [b_X8_readsClause_23, b_X8_readsClause_141, lit, pLeT, pLeF, pLtT, pLtF, pEqT, pEqF, nLeF, nLtF, nI_clamp, or_self, or_false, false_or, not_true_eq_false, not_false_eq_true, ↓reduceIte, nmS_eq, bd1_eq, bd2_eq, nI_add, pEqS, pk_mul, Nat.reduceAdd, Bool.false_eq_true, or_true, true_or, flt_term h, q, q2, c142]
  · simp (disch := omega) only [b_X8_readsClause_23, b_X8_readsClause_141, lit, pLeT, pLeF, pLtT, pLtF, pEqT, pEqF, nLeF, nLtF, nI_clamp, or_self, or_false, false_or, not_true_eq_false, not_false_eq_true, ↓reduceIte, nmS_eq, bd1_eq, bd2_eq, nI_add, pEqS, pk_mul, Nat.reduceAdd, Bool.false_eq_true, or_true, true_or, flt_term h, q, c142]
theorem nIt {m : Nat} (h : m ≤ 99) : (nI m).toInt64.toInt = m ∧ (-nI m).toInt64.toInt = -(m : Int) := by
  refine ⟨by rw [Int32.toInt_toInt64, nI_toInt (by omega)], ?_⟩
  rw [Int32.toInt_toInt64, Int32.toInt_neg, nI_toInt (by omega), Int.bmod_eq_of_le (by omega) (by omega)]
/-- what the reading of a clause comes to -/
def CO (L : Nat) (t : Nat → Nat) (k : Nat) (fx : Option (Int32 × Sto)) (fm : Option Sto) (σ τ : Sto) : Prop :=
  (∃ p' σ' τ', fx = some (nI 1, σ') ∧ fm = some τ' ∧ Sy L t p' σ' τ' ∧ Ck k σ' τ' ∧ 0 ≤ (σ'.2 k 2).toInt ∧ (σ'.2 k 2).toInt ≤ 99 ∧ τ'.2 11 1 = σ'.2 k 2 ∧ Rc k σ τ σ' τ') ∨
  (∃ σ' τ', fx = some (nI 0, σ') ∧ fm = some τ' ∧ Fy σ' τ' ∧ Rc k σ τ σ' τ')
theorem CO.mono {L : Nat} {t : Nat → Nat} {k : Nat} {fx : Option (Int32 × Sto)} {fm : Option Sto} {σ τ σ1 τ1 : Sto} (r : Rc k σ τ σ1 τ1) (h : CO L t k fx fm σ1 τ1) : CO L t k fx fm σ τ := by
  rcases h with ⟨p', σ', τ', h1, h2, h3, h4, h5, h6, h7, h8⟩ | ⟨σ', τ', h1, h2, h3, h4⟩
  · exact Or.inl ⟨p', σ', τ', h1, h2, h3, h4, h5, h6, h7, r.trans h8⟩
  · exact Or.inr ⟨σ', τ', h1, h2, h3, r.trans h4⟩
/-- a fault within the terms -/
theorem CO.flt {L : Nat} {t : Nat → Nat} {k : Nat} {σ τ σ1 τ1 : Sto} {n : Nat} {seen : Int32} (f : Fr σ τ σ1 τ1) (h : Fy σ1 τ1) : CO L t k (some (nI 0, σ1)) (l_X8_readsClause_23 (n + 1) seen τ1) σ τ := by
  right
  refine ⟨σ1, pL τ1 11 1 0, rfl, rcX h.well n seen, h.fr rfl (pL_1 _), f.i, fun c j _ _ => by rw [f.l], fun c j q => by rw [pL_1]; exact f.m c j q, fun c j q => by rw [pL_nk (by omega), f.n]⟩
theorem tok1 {L : Nat} {t : Nat → Nat} {p : Nat} (h : tok L t p = 1) : p < L ∧ ltr L t p = nI (t p) ∧ 97 ≤ t p ∧ t p ≤ 122 := by
  rcases tok_cases (L := L) (t := t) (p := p) with z | ⟨z1, z2, z3, z4, z5, z6, z7, z8⟩
  · omega
  · exact ⟨z1, z3, z4.mp h⟩
theorem tokn1 {L : Nat} {t : Nat → Nat} {p c : Nat} (h : tok L t p ≠ 1) (hb : p < L → t p < 256) (hc : 97 ≤ c ∧ c ≤ 122) : (ltr L t p = nI c) = False := eq_false (fun e => by
  rcases tok_cases (L := L) (t := t) (p := p) with z | ⟨z1, z2, z3, z4, z5, z6, z7, z8⟩
  · rw [z.2] at e
    have h2 := congrArg Int32.toInt e
    rw [nI_toInt (by omega)] at h2
    have : (-nI 1).toInt = -1 := by decide
    omega
  · rw [z3] at e
    have := hb z1
    have e2 := (nI_eq (by omega) (by omega)).mp e
    exact h (z4.mpr (by omega)))
theorem tok_small {L : Nat} {t : Nat → Nat} {p : Nat} : tok L t p ≤ 5 := by
  unfold tok
  split <;> (try split) <;> (try split) <;> (try split) <;> (try split) <;> omega
theorem tokE {L : Nat} {t : Nat → Nat} {p k : Nat} (h : tok L t p ≠ k) (hk : k ≤ 5) : (nI (tok L t p) = nI k) = False := eq_false (fun e => h ((nI_eq (by have := tok_small (L := L) (t := t) (p := p); omega) (by omega)).mp e))
/-- the degree -/
theorem rdeg {L : Nat} {t : Nat → Nat} {p k : Nat} {σ τ : Sto} (hk : 17 ≤ k ∧ k < 32) (h : Sy L t p σ τ) (hc : Ck k σ τ) (ht : tok L t p = 1) : CO L t k (f_X5_readsDegree k σ) (b_X8_readsClause_142 (nI 1) τ) σ τ := by
  have hp := tok1 ht
  obtain ⟨τ1, g1, g2, g3⟩ := h.go (σ1 := pI σ 13 6 (nI (p + 1))) (p' := p + 1) (by omega) (h.sm.a ht).2 (fun c j z => pI_no (by omega)) (pI_2 _) (pI_at _) (nI 1)
  have h6 := h.px
  rcases g2.num (lo := 0) (hi := 99) (by omega) (by omega) with ⟨m, p2, σ2, τ2, a1, a2, a3, a4, a5, a6, a7⟩ | ⟨σ2, τ2, a3, a5, a6, a7⟩
  · have a6' : Sy L t p2 (pL σ2 k 2 (nI m).toInt64) (pL τ2 11 1 (nI m).toInt64) := a6.fr (pL_1 _) (pL_1 _)
    have hc1 := (hc.fr g3).fr a7
    have hc2 : Ck k (pL σ2 k 2 (nI m).toInt64) (pL τ2 11 1 (nI m).toInt64) := by
      intro v hv
      rw [pL_nk (by omega), pL_nj (by omega)]
      exact hc1 v hv
    have hk1 := a6'.sm.k
    have rr : Rc k σ2 τ2 (pL σ2 k 2 (nI m).toInt64) (pL τ2 11 1 (nI m).toInt64) := ⟨fun c j _ => by rw [pL_1], fun c j z _ => pL_nk (by omega), fun c j _ => by rw [pL_1], fun c j z => pL_nk (by omega)⟩
    have r0 := (Fr.rc (k := k) (g3.trans a7)).trans rr
    rcases a6'.sign (ch := 59) (k := 4) (by omega) with ⟨q, σ3, τ3, r, b1, b2, b3, b4, b5⟩ | ⟨q, σ3, τ3, b1, b2, b3, b4⟩
    · rw [q] at hk1
      have hm := nIt (m := m) (by omega)
      refine Or.inl ⟨_, σ3, τ3, ?_, ?_, b3, hc2.fr b4, ?_, ?_, ?_, r0.trans b4.rc⟩
      · simp (disch := omega) only [f_X5_readsDegree, lit, pLeT, pLeF, pLtT, pLtF, pEqT, pEqF, nLeF, nLtF, nI_clamp, or_self, or_false, false_or, not_true_eq_false, not_false_eq_true, ↓reduceIte, nmS_eq, bd1_eq, bd2_eq, nI_add, pEqS, pk_mul, Nat.reduceAdd, Bool.false_eq_true, or_true, true_or, h6, a3, a4, b1]
      · simp (disch := omega) only [b_X8_readsClause_142, b_X8_readsClause_175, lit, pLeT, pLeF, pLtT, pLtF, pEqT, pEqF, nLeF, nLtF, nI_clamp, or_self, or_false, false_or, not_true_eq_false, not_false_eq_true, ↓reduceIte, nmS_eq, bd1_eq, bd2_eq, nI_add, pEqS, pk_mul, Nat.reduceAdd, Bool.false_eq_true, or_true, true_or, g1, a5, hk1, b2]
      · rw [b4.l, pL_at, hm.1]; omega
      · rw [b4.l, pL_at, hm.1]; omega
      · rw [b4.l, b4.n, pL_at, pL_at]
    · have hk2 := tokE q (by omega)
      refine Or.inr ⟨σ3, τ3, ?_, ?_, b3, r0.trans b4.rc⟩
      · simp (disch := omega) only [f_X5_readsDegree, lit, pLeT, pLeF, pLtT, pLtF, pEqT, pEqF, nLeF, nLtF, nI_clamp, or_self, or_false, false_or, not_true_eq_false, not_false_eq_true, ↓reduceIte, nmS_eq, bd1_eq, bd2_eq, nI_add, pEqS, pk_mul, Nat.reduceAdd, Bool.false_eq_true, or_true, true_or, h6, a3, a4, b1]
      · simp (disch := omega) only [b_X8_readsClause_142, b_X8_readsClause_175, lit, pLeT, pLeF, pLtT, pLtF, pEqT, pEqF, nLeF, nLtF, nI_clamp, or_self, or_false, false_or, not_true_eq_false, not_false_eq_true, ↓reduceIte, nmS_eq, bd1_eq, bd2_eq, nI_add, pEqS, pk_mul, Nat.reduceAdd, Bool.false_eq_true, or_true, true_or, g1, a5, hk1, hk2, b2]
  · have hw := a6.well
    have z : (nI 0).toInt64 = 0 := by decide
    have a6' : Fy σ2 (pL τ2 11 1 0) := a6.fr rfl (pL_1 _)
    have hw2 := a6'.well
    have f := g3.trans a7
    refine Or.inr ⟨σ2, pL τ2 11 1 0, ?_, ?_, a6', f.i, fun c j _ _ => by rw [f.l], fun c j q => by rw [pL_1]; exact f.m c j q, fun c j q => by rw [pL_nk (by omega), f.n]⟩
    · simp (disch := omega) only [f_X5_readsDegree, lit, pLeT, pLeF, pLtT, pLtF, pEqT, pEqF, nLeF, nLtF, nI_clamp, or_self, or_false, false_or, not_true_eq_false, not_false_eq_true, ↓reduceIte, nmS_eq, bd1_eq, bd2_eq, nI_add, pEqS, pk_mul, Nat.reduceAdd, Bool.false_eq_true, or_true, true_or, h6, a3]
    · by_cases q : (pL τ2 11 1 0).1 0 11 = nI 4 <;> simp (disch := omega) only [b_X8_readsClause_142, b_X8_readsClause_175, lit, pLeT, pLeF, pLtT, pLtF, pEqT, pEqF, nLeF, nLtF, nI_clamp, or_self, or_false, false_or, not_true_eq_false, not_false_eq_true, ↓reduceIte, nmS_eq, bd1_eq, bd2_eq, nI_add, pEqS, pk_mul, Nat.reduceAdd, Bool.false_eq_true, or_true, true_or, g1, a5, z, q, flt_takes hw2]
theorem rc_loop {L : Nat} {t : Nat → Nat} (k : Nat) (hk : 17 ≤ k ∧ k < 32) (nX nM : Nat) (j : Nat) : ∀ (i : Nat) (seen : Int32) (p : Nat) (σ τ : Sto), i + j = 9 → unk seen 8 < j → Sy L t p σ τ → Ck k σ τ → CO L t k (l_X5_readsClause_8 k (nX + 1 + j) seen (nI i) σ) (l_X8_readsClause_23 (nM + 1 + j) seen τ) σ τ := by
  induction j with
  | zero => intro i seen p σ τ hi hu; omega
  | succ j ih =>
    intro i seen p σ τ hi hu h hc
    have hX : l_X5_readsClause_8 k (nX + 1 + (j + 1)) seen (nI i) σ = b_X5_readsClause_8 (l_X5_readsClause_8 k (nX + 1 + j)) k seen (nI i) σ := rfl
    have hM : l_X8_readsClause_23 (nM + 1 + (j + 1)) seen τ = b_X8_readsClause_23 (l_X8_readsClause_23 (nM + 1 + j)) seen τ := rfl
    have hn := h.tx.n
    have hp := h.hp
    have hl := e_X5_letter h.tx (by omega) h.px
    have hw := well1 h.sm.w
    have hkk := h.sm.k
    by_cases q : tok L t p = 1
    · have hq := tok1 q
      have hv := (h.sm.a q).1
      rw [q] at hkk
      rw [hq.2.1] at hl
      by_cases qg : t p = 103
      · rw [qg] at hl hv
        have e1 : l_X5_readsClause_8 k (nX + 1 + (j + 1)) seen (nI i) σ = (bd2 (f_X5_readsDegree k σ) fun r s => if ¬ (r = nI 0 ∨ r = nI 1) then none else some (r, s)) := by
          rw [hX]
          simp (disch := omega) only [b_X5_readsClause_8, lit, pLeT, pLeF, pLtT, pLtF, pEqT, pEqF, nLeF, nLtF, nI_clamp, or_self, or_false, false_or, not_true_eq_false, not_false_eq_true, ↓reduceIte, nmS_eq, bd1_eq, bd2_eq, nI_add, pEqS, pk_mul, Nat.reduceAdd, Bool.false_eq_true, or_true, true_or, hl]
        have e2 : l_X8_readsClause_23 (nM + 1 + (j + 1)) seen τ = b_X8_readsClause_142 (nI 1) τ := by
          rw [hM]
          simp (disch := omega) only [b_X8_readsClause_23, f_X8_isTerm, b_X8_isTerm_37, b_X8_isTerm_38, lit, pLeT, pLeF, pLtT, pLtF, pEqT, pEqF, nLeF, nLtF, nI_clamp, or_self, or_false, false_or, not_true_eq_false, not_false_eq_true, ↓reduceIte, nmS_eq, bd1_eq, bd2_eq, nI_add, pEqS, pk_mul, Nat.reduceAdd, Bool.false_eq_true, or_true, true_or, hw, hkk, hv]
        rw [e1, e2]
        rcases rdeg hk h hc q with ⟨p', σ', τ', h1, h2⟩ | ⟨σ', τ', h1, h2⟩
        · exact Or.inl ⟨p', σ', τ', by rw [h1]; rfl, h2⟩
        · exact Or.inr ⟨σ', τ', by rw [h1]; rfl, h2⟩
      · by_cases qp : t p = 112 ∨ t p = 110
        · obtain ⟨τ1, g1, g2, g3⟩ := h.go (σ1 := pI σ 13 6 (nI (p + 1))) (p' := p + 1) (by omega) (h.sm.a q).2 (fun c j z => pI_no (by omega)) (pI_2 _) (pI_at _) (nI 1)
          rw [hv] at g1
          have h6 := h.px
          have e1 : l_X5_readsClause_8 k (nX + 1 + (j + 1)) seen (nI i) σ = b_X5_readsClause_53 (l_X5_readsClause_8 k (nX + 1 + j)) k seen (nI i) (nI (t p)) σ := by
            rw [hX]
            rcases qp with e | e <;> rw [e] at hl ⊢ <;> simp (disch := omega) only [b_X5_readsClause_8, lit, pLeT, pLeF, pLtT, pLtF, pEqT, pEqF, nLeF, nLtF, nI_clamp, or_self, or_false, false_or, not_true_eq_false, not_false_eq_true, ↓reduceIte, nmS_eq, bd1_eq, bd2_eq, nI_add, pEqS, pk_mul, Nat.reduceAdd, Bool.false_eq_true, or_true, true_or, hl]
          have e2 : l_X8_readsClause_23 (nM + 1 + (j + 1)) seen τ = b_X8_readsClause_46 (l_X8_readsClause_23 (nM + 1 + j)) seen (if t p = 112 then nI 1 else nI 0) τ1 := by
            rw [hM]
            rcases qp with e | e <;> rw [e] at hv g1 ⊢ <;> simp (disch := omega) only [b_X8_readsClause_23, f_X8_isTerm, b_X8_isTerm_33, b_X8_isTerm_37, b_X8_isTerm_38, lit, pLeT, pLeF, pLtT, pLtF, pEqT, pEqF, nLeF, nLtF, nI_clamp, or_self, or_false, false_or, not_true_eq_false, not_false_eq_true, ↓reduceIte, nmS_eq, bd1_eq, bd2_eq, nI_add, pEqS, pk_mul, Nat.reduceAdd, Bool.false_eq_true, or_true, true_or, hw, hkk, hv, g1, Nat.reduceEqDiff]
          rw [e1, e2]
          rcases g2.var seen with ⟨m, p2, σ2, τ2, a1, a2, a3, a4, a5, a6, a7⟩ | ⟨σ2, τ2, a3, a5, a6, a7⟩
          · have f2 := g3.trans a7
            have hk2 := a6.sm.k
            rcases a6.sign (ch := 44) (k := 3) (by omega) with ⟨q3, σ3, τ3, r, b1, b2, b3, b4, b5⟩ | ⟨q3, σ3, τ3, b1, b2, b3, b4⟩
            · rw [q3] at hk2
              have f3 := f2.trans b4
              rcases b3.num (lo := 1) (hi := 99) (by omega) (by omega) with ⟨m2, p4, σ4, τ4, c1, c2, c3, c4, c5, c6, c7⟩ | ⟨σ4, τ4, c3, c5, c6, c7⟩
              · have f4 := f3.trans c7
                have hk4 := c6.sm.k
                have bh : f_X8_behind (nI 1) (nI 99) τ2 = some (nI m2, τ4) := by
                  simp (disch := omega) only [f_X8_behind, b_X8_behind_14, lit, pLeT, pLeF, pLtT, pLtF, pEqT, pEqF, nLeF, nLtF, nI_clamp, or_self, or_false, false_or, not_true_eq_false, not_false_eq_true, ↓reduceIte, nmS_eq, bd1_eq, bd2_eq, nI_add, pEqS, pk_mul, Nat.reduceAdd, Bool.false_eq_true, or_true, true_or, hk2, b2, c5]
                rcases c6.sign (ch := 59) (k := 4) (by omega) with ⟨q5, σ5, τ5, r5, d1, d2, d3, d4, d5⟩ | ⟨q5, σ5, τ5, d1, d2, d3, d4⟩
                · rw [q5] at hk4
                  have f5 := f4.trans d4
                  have hm := nIt (m := m2) (by omega)
                  generalize hs : seen ||| (nI 1 <<< (nI m &&& nI 31)) = seen'
                  generalize hw2 : (if t p = 112 then (nI m2).toInt64 else (-nI m2).toInt64) = w
                  have wr : -99 ≤ w.toInt ∧ w.toInt ≤ 99 := by
                    rw [← hw2]
                    split
                    · rw [hm.1]; omega
                    · rw [hm.2]; omega
                  have n8 : σ5.1 13 8 = nI m2 := by rw [d5, c4]
                  have wl5 := well1 d3.sm.w
                  have e3 : b_X5_readsClause_53 (l_X5_readsClause_8 k (nX + 1 + j)) k seen (nI i) (nI (t p)) σ = l_X5_readsClause_8 k (nX + 1 + j) seen' (nI (i + 1)) (pL σ5 (k + 1) m w) := by
                    rcases qp with e | e
                    · rw [if_pos e] at hw2
                      simp (disch := omega) only [b_X5_readsClause_53, b_X5_readsClause_147, lit, pLeT, pLeF, pLtT, pLtF, pEqT, pEqF, nLeF, nLtF, nI_clamp, or_self, or_false, false_or, not_true_eq_false, not_false_eq_true, ↓reduceIte, nmS_eq, bd1_eq, bd2_eq, nI_add, pEqS, pk_mul, Nat.reduceAdd, Bool.false_eq_true, or_true, true_or, h6, a3, a4, b1, c3, d1, n8, e, hs, hw2]
                    · rw [if_neg (by omega)] at hw2
                      simp (disch := omega) only [b_X5_readsClause_53, b_X5_readsClause_147, lit, pLeT, pLeF, pLtT, pLtF, pEqT, pEqF, nLeF, nLtF, nI_clamp, or_self, or_false, false_or, not_true_eq_false, not_false_eq_true, ↓reduceIte, nmS_eq, bd1_eq, bd2_eq, nI_add, pEqS, pk_mul, Nat.reduceAdd, Bool.false_eq_true, or_true, true_or, h6, a3, a4, b1, c3, d1, n8, e, hs, hw2]
                  have e4 : b_X8_readsClause_46 (l_X8_readsClause_23 (nM + 1 + j)) seen (if t p = 112 then nI 1 else nI 0) τ1 = l_X8_readsClause_23 (nM + 1 + j) seen' (pL τ5 11 (2 + m) w) := by
                    rcases qp with e | e
                    · rw [if_pos e] at hw2
                      simp (disch := omega) only [b_X8_readsClause_46, b_X8_readsClause_76, b_X8_readsClause_115, b_X8_readsClause_116, lit, pLeT, pLeF, pLtT, pLtF, pEqT, pEqF, nLeF, nLtF, nI_clamp, or_self, or_false, false_or, not_true_eq_false, not_false_eq_true, ↓reduceIte, nmS_eq, bd1_eq, bd2_eq, nI_add, pEqS, pk_mul, Nat.reduceAdd, Bool.false_eq_true, or_true, true_or, a5, bh, hk4, d2, wl5, e, hs, hw2]
                    · rw [if_neg (by omega)] at hw2
                      simp (disch := omega) only [b_X8_readsClause_46, b_X8_readsClause_76, b_X8_readsClause_115, b_X8_readsClause_116, lit, pLeT, pLeF, pLtT, pLtF, pEqT, pEqF, nLeF, nLtF, nI_clamp, or_self, or_false, false_or, not_true_eq_false, not_false_eq_true, ↓reduceIte, nmS_eq, bd1_eq, bd2_eq, nI_add, pEqS, pk_mul, Nat.reduceAdd, Bool.false_eq_true, or_true, true_or, a5, bh, hk4, d2, wl5, e, hs, hw2, Nat.reduceEqDiff]
                  rw [e3, e4]
                  have hck := hc.fr f5
                  have rr : Rc k σ5 τ5 (pL σ5 (k + 1) m w) (pL τ5 11 (2 + m) w) := ⟨fun c j _ => by rw [pL_1], fun c j _ z => pL_nk (by omega), fun c j _ => by rw [pL_1], fun c j z => pL_nk (by omega)⟩
                  refine CO.mono ((Fr.rc (k := k) f5).trans rr) (ih (i + 1) seen' _ _ _ (by omega) ?_ (d3.fr (pL_1 _) (pL_1 _)) ?_)
                  · have hb : bt seen' m = true := by rw [← hs, or_one (by omega) (by omega)]; simp
                    have := unk_lt (a := seen) (b := seen') (fun x hx hx2 => by rw [← hs, or_one (by omega) hx, hx2, Bool.true_or]) m a2 hb 8 (by omega) a1
                    omega
                  · intro v hv2
                    by_cases e : v = m
                    · subst e
                      rw [pL_at, pL_at]
                      exact ⟨wr.1, wr.2, rfl⟩
                    · rw [pL_nj (by omega), pL_nj (by omega)]
                      exact hck v hv2
                · have hk5 := tokE q5 (by omega)
                  have e3 : b_X5_readsClause_53 (l_X5_readsClause_8 k (nX + 1 + j)) k seen (nI i) (nI (t p)) σ = some (nI 0, σ5) := by
                    simp (disch := omega) only [b_X5_readsClause_53, b_X5_readsClause_118, lit, pLeT, pLeF, pLtT, pLtF, pEqT, pEqF, nLeF, nLtF, nI_clamp, or_self, or_false, false_or, not_true_eq_false, not_false_eq_true, ↓reduceIte, nmS_eq, bd1_eq, bd2_eq, nI_add, pEqS, pk_mul, Nat.reduceAdd, Bool.false_eq_true, or_true, true_or, h6, a3, a4, b1, c3, d1]
                  have e4 : b_X8_readsClause_46 (l_X8_readsClause_23 (nM + 1 + j)) seen (if t p = 112 then nI 1 else nI 0) τ1 = l_X8_readsClause_23 (nM + 1 + j) seen τ5 := by
                    have hw5 := d3.well
                    simp (disch := omega) only [b_X8_readsClause_46, b_X8_readsClause_76, b_X8_readsClause_116, lit, nmS_eq, bd2_eq, ↓reduceIte, a5, bh, hk4, hk5, d2, hw5]
                  rw [e3, e4, show nM + 1 + j = (nM + j) + 1 by omega]
                  exact CO.flt (f4.trans d4) d3
              · have hw4 := c6.well
                have bh : f_X8_behind (nI 1) (nI 99) τ2 = some (nI 0, τ4) := by
                  simp (disch := omega) only [f_X8_behind, b_X8_behind_14, lit, pLeT, pLeF, pLtT, pLtF, pEqT, pEqF, nLeF, nLtF, nI_clamp, or_self, or_false, false_or, not_true_eq_false, not_false_eq_true, ↓reduceIte, nmS_eq, bd1_eq, bd2_eq, nI_add, pEqS, pk_mul, Nat.reduceAdd, Bool.false_eq_true, or_true, true_or, hk2, b2, c5]
                have e3 : b_X5_readsClause_53 (l_X5_readsClause_8 k (nX + 1 + j)) k seen (nI i) (nI (t p)) σ = some (nI 0, σ4) := by
                  simp (disch := omega) only [b_X5_readsClause_53, b_X5_readsClause_118, lit, pLeT, pLeF, pLtT, pLtF, pEqT, pEqF, nLeF, nLtF, nI_clamp, or_self, or_false, false_or, not_true_eq_false, not_false_eq_true, ↓reduceIte, nmS_eq, bd1_eq, bd2_eq, nI_add, pEqS, pk_mul, Nat.reduceAdd, Bool.false_eq_true, or_true, true_or, h6, a3, a4, b1, c3]
                have e4 : b_X8_readsClause_46 (l_X8_readsClause_23 (nM + 1 + j)) seen (if t p = 112 then nI 1 else nI 0) τ1 = l_X8_readsClause_23 (nM + 1 + j) seen τ4 := by
                  simp (disch := omega) only [b_X8_readsClause_46, lit, bd2_eq, a5, bh, rc76 hw4, ite_self]
                rw [e3, e4, show nM + 1 + j = (nM + j) + 1 by omega]
                exact CO.flt (f3.trans c7) c6
            · have hk3 := tokE q3 (by omega)
              have hw3 := b3.well
              have bh : f_X8_behind (nI 1) (nI 99) τ2 = some (nI 0, τ3) := by
                simp (disch := omega) only [f_X8_behind, b_X8_behind_14, lit, pLeT, pLeF, pLtT, pLtF, pEqT, pEqF, nLeF, nLtF, nI_clamp, or_self, or_false, false_or, not_true_eq_false, not_false_eq_true, ↓reduceIte, nmS_eq, bd1_eq, bd2_eq, nI_add, pEqS, pk_mul, Nat.reduceAdd, Bool.false_eq_true, or_true, true_or, hk2, hk3, b2, flt_figure hw3]
              have e3 : b_X5_readsClause_53 (l_X5_readsClause_8 k (nX + 1 + j)) k seen (nI i) (nI (t p)) σ = some (nI 0, σ3) := by
                simp (disch := omega) only [b_X5_readsClause_53, b_X5_readsClause_118, lit, pLeT, pLeF, pLtT, pLtF, pEqT, pEqF, nLeF, nLtF, nI_clamp, or_self, or_false, false_or, not_true_eq_false, not_false_eq_true, ↓reduceIte, nmS_eq, bd1_eq, bd2_eq, nI_add, pEqS, pk_mul, Nat.reduceAdd, Bool.false_eq_true, or_true, true_or, h6, a3, a4, b1]
              have e4 : b_X8_readsClause_46 (l_X8_readsClause_23 (nM + 1 + j)) seen (if t p = 112 then nI 1 else nI 0) τ1 = l_X8_readsClause_23 (nM + 1 + j) seen τ3 := by
                simp (disch := omega) only [b_X8_readsClause_46, lit, bd2_eq, a5, bh, rc76 hw3, ite_self]
              rw [e3, e4, show nM + 1 + j = (nM + j) + 1 by omega]
              exact CO.flt (f2.trans b4) b3
          · have hw2 := a6.well
            have e3 : b_X5_readsClause_53 (l_X5_readsClause_8 k (nX + 1 + j)) k seen (nI i) (nI (t p)) σ = some (nI 0, σ2) := by
              simp (disch := omega) only [b_X5_readsClause_53, b_X5_readsClause_118, lit, pLeT, pLeF, pLtT, pLtF, pEqT, pEqF, nLeF, nLtF, nI_clamp, or_self, or_false, false_or, not_true_eq_false, not_false_eq_true, ↓reduceIte, nmS_eq, bd1_eq, bd2_eq, nI_add, pEqS, pk_mul, Nat.reduceAdd, Bool.false_eq_true, or_true, true_or, h6, a3]
            have e4 : b_X8_readsClause_46 (l_X8_readsClause_23 (nM + 1 + j)) seen (if t p = 112 then nI 1 else nI 0) τ1 = l_X8_readsClause_23 (nM + 1 + j) seen τ2 := by
              simp (disch := omega) only [b_X8_readsClause_46, lit, bd2_eq, a5, flt_behind hw2, rc76 hw2, ite_self]
            rw [e3, e4, show nM + 1 + j = (nM + j) + 1 by omega]
            exact CO.flt (g3.trans a7) a6
        · obtain ⟨g1, g2, g3⟩ := h.fail (σ1 := σ) 1 (fun c j _ => rfl) rfl
          have w2 := g2.well
          have n1 : (nI (t p) = nI 103) = False := eq_false (fun e => qg ((nI_eq (by omega) (by omega)).mp e))
          have n2 : (nI (t p) = nI 112) = False := eq_false (fun e => qp (Or.inl ((nI_eq (by omega) (by omega)).mp e)))
          have n3 : (nI (t p) = nI 110) = False := eq_false (fun e => qp (Or.inr ((nI_eq (by omega) (by omega)).mp e)))
          generalize hτ : pI (pI τ 0 8 (nI p)) 0 7 (nI 1) = τ1 at g1 g2 g3 w2
          have z : (nI 0).toInt64 = 0 := by decide
          have g2' : Fy (pI σ 13 7 (nI 1)) (pL τ1 11 1 0) := g2.fr rfl (pL_1 _)
          have w3 := g2'.well
          refine Or.inr ⟨pI σ 13 7 (nI 1), pL τ1 11 1 0, ?_, ?_, g2', g3.i, fun c j _ _ => by rw [g3.l], fun c j q => by rw [pL_1]; exact g3.m c j q, fun c j q => by rw [pL_nk (by omega), g3.n]⟩
          · rw [hX]
            simp (disch := omega) only [b_X5_readsClause_8, f_X5_faulty, lit, pLeT, pLeF, pLtT, pLtF, pEqT, pEqF, nLeF, nLtF, nI_clamp, or_self, or_false, false_or, not_true_eq_false, not_false_eq_true, ↓reduceIte, nmS_eq, bd1_eq, bd2_eq, nI_add, pEqS, pk_mul, Nat.reduceAdd, Bool.false_eq_true, or_true, true_or, hl, n1, n2, n3]
          · rw [hM]
            by_cases q9 : (pL τ1 11 1 0).1 0 11 = nI 4 <;> simp (disch := omega) only [b_X8_readsClause_23, b_X8_readsClause_141, b_X8_readsClause_142, b_X8_readsClause_175, f_X8_isTerm, b_X8_isTerm_37, b_X8_isTerm_38, lit, pLeT, pLeF, pLtT, pLtF, pEqT, pEqF, nLeF, nLtF, nI_clamp, or_self, or_false, false_or, not_true_eq_false, not_false_eq_true, ↓reduceIte, nmS_eq, bd1_eq, bd2_eq, nI_add, pEqS, pk_mul, Nat.reduceAdd, Bool.false_eq_true, or_true, true_or, hw, hkk, hv, n1, n2, n3, g1, flt_figure w2, z, q9, flt_takes w3]
    · obtain ⟨g1, g2, g3⟩ := h.fail (σ1 := σ) 1 (fun c j _ => rfl) rfl
      have w2 := g2.well
      have hb : p < L → t p < 256 := fun z => (h.tx.t p z).1
      have n1 := tokn1 q hb (c := 103) (by omega)
      have n2 := tokn1 q hb (c := 112) (by omega)
      have n3 := tokn1 q hb (c := 110) (by omega)
      have hk1 := tokE q (by omega)
      generalize hτ : pI (pI τ 0 8 (nI p)) 0 7 (nI 1) = τ1 at g1 g2 g3 w2
      have z : (nI 0).toInt64 = 0 := by decide
      have g2' : Fy (pI σ 13 7 (nI 1)) (pL τ1 11 1 0) := g2.fr rfl (pL_1 _)
      have w3 := g2'.well
      refine Or.inr ⟨pI σ 13 7 (nI 1), pL τ1 11 1 0, ?_, ?_, g2', g3.i, fun c j _ _ => by rw [g3.l], fun c j q => by rw [pL_1]; exact g3.m c j q, fun c j q => by rw [pL_nk (by omega), g3.n]⟩
      · rw [hX]
        simp (disch := omega) only [b_X5_readsClause_8, f_X5_faulty, lit, pLeT, pLeF, pLtT, pLtF, pEqT, pEqF, nLeF, nLtF, nI_clamp, or_self, or_false, false_or, not_true_eq_false, not_false_eq_true, ↓reduceIte, nmS_eq, bd1_eq, bd2_eq, nI_add, pEqS, pk_mul, Nat.reduceAdd, Bool.false_eq_true, or_true, true_or, hl, n1, n2, n3]
      · rw [hM]
        by_cases q9 : (pL τ1 11 1 0).1 0 11 = nI 4 <;> simp (disch := omega) only [b_X8_readsClause_23, b_X8_readsClause_141, b_X8_readsClause_142, b_X8_readsClause_175, f_X8_isTerm, b_X8_isTerm_37, b_X8_isTerm_38, lit, pLeT, pLeF, pLtT, pLtF, pEqT, pEqF, nLeF, nLtF, nI_clamp, or_self, or_false, false_or, not_true_eq_false, not_false_eq_true, ↓reduceIte, nmS_eq, bd1_eq, bd2_eq, nI_add, pEqS, pk_mul, Nat.reduceAdd, Bool.false_eq_true, or_true, true_or, hw, hkk, hk1, g1, flt_figure w2, z, q9, flt_takes w3]
theorem l_X8_readsClause0 (τ : Sto) (n : Nat) (j : Nat) : ∀ i, i + j = 10 → l_X8_readsClause_4 (n + 1 + j) (nI 0) (nI i) (wL τ 11 0 i (fun _ => 0)) = l_X8_readsClause_23 400 (nI 0) (wL τ 11 0 10 (fun _ => 0)) := by
  induction j with
  | zero =>
    intro i hi
    have e : i = 10 := by omega
    subst e
    show b_X8_readsClause_4 _ (nI 0) (nI 10) _ = _
    simp (disch := omega) only [b_X8_readsClause_4, lit, pLeT, pLeF, pLtT, pLtF, pEqT, pEqF, nLeF, nLtF, nI_clamp, or_self, or_false, false_or, not_true_eq_false, not_false_eq_true, ↓reduceIte, nmS_eq, bd1_eq, bd2_eq, nI_add, pEqS, pk_mul, Nat.reduceAdd, Bool.false_eq_true, or_true, true_or]
  | succ j ih0 =>
    intro i hi
    have ih := ih0 (i + 1) (by omega)
    have e3 := wL_s0 (σ := τ) (k := 11) (n := i) (g := fun _ => (0 : Int64)) (x := 0) (Eq.refl _)
    show b_X8_readsClause_4 (l_X8_readsClause_4 (n + 1 + j)) (nI 0) (nI i) (wL τ 11 0 i (fun _ => 0)) = _
    simp (disch := omega) only [b_X8_readsClause_4, lit, pLeT, pLeF, pLtT, pLtF, pEqT, pEqF, nLeF, nLtF, nI_clamp, or_self, or_false, false_or, not_true_eq_false, not_false_eq_true, ↓reduceIte, nmS_eq, bd1_eq, bd2_eq, nI_add, pEqS, pk_mul, Nat.reduceAdd, Bool.false_eq_true, or_true, true_or, e3, ih]
theorem unk0 : unk (nI 0) 8 < 9 := by
  have := unk_le (nI 0) 8
  omega
/-- a clause is read -/
theorem Sy.clause {L : Nat} {t : Nat → Nat} {p : Nat} {σ τ : Sto} (h : Sy L t p σ τ) {k : Nat} (hk : 17 ≤ k ∧ k < 32) : CO L t k (f_X5_readsClause k σ) (f_X8_readsClause τ) σ τ := by
  have hM := l_X8_readsClause0 τ 389 10 0 (by omega)
  rw [wL_0] at hM
  have hX : f_X5_readsClause k σ = l_X5_readsClause_8 k (390 + 1 + 9) (nI 0) (nI 0) (pL (wL σ (k + 1) 0 8 (fun _ => 0)) k 2 0) := by
    simp (disch := omega) only [f_X5_readsClause, e_X3_clear, lit, pLeT, pLeF, pLtT, pLtF, pEqT, pEqF, nLeF, nLtF, nI_clamp, or_self, or_false, false_or, not_true_eq_false, not_false_eq_true, ↓reduceIte, nmS_eq, bd1_eq, bd2_eq, nI_add, pEqS, pk_mul, Nat.reduceAdd, Bool.false_eq_true, or_true, true_or]
  have hM : f_X8_readsClause τ = l_X8_readsClause_23 (390 + 1 + 9) (nI 0) (wL τ 11 0 10 (fun _ => 0)) := hM
  rw [hX, hM]
  have rr : Rc k σ τ (pL (wL σ (k + 1) 0 8 (fun _ => 0)) k 2 0) (wL τ 11 0 10 (fun _ => 0)) := ⟨fun c j _ => by rw [pL_1, wL_1], fun c j z z2 => by rw [pL_nk (by omega), wL_k (by omega)], fun c j _ => by rw [wL_1], fun c j z => wL_k (by omega)⟩
  refine CO.mono rr (rc_loop k hk 390 390 9 0 (nI 0) p _ _ (by omega) unk0 (h.fr (by rw [pL_1, wL_1]) wL_1) ?_)
  intro v hv
  rw [pL_nk (by omega), wL_at0 hv, wL_at0 (by omega)]
  exact ⟨by rw [toI0]; decide, by rw [toI0]; decide, rfl⟩
