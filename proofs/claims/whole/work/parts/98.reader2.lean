/-! ===== the reader: steps of both ===== -/
abbrev Sy (L : Nat) (t : Nat → Nat) (p : Nat) (σ τ : Sto) : Prop := (TX L t σ) ∧ (TM L t τ) ∧ (p ≤ L) ∧ (σ.1 13 6 = nI p) ∧ (SM L t p τ) ∧ (σ.1 13 7 = τ.1 0 7)
theorem Sy.tx {L : Nat} {t : Nat → Nat} {p : Nat} {σ τ : Sto} (h : Sy L t p σ τ) : TX L t σ := h.1
theorem Sy.tm {L : Nat} {t : Nat → Nat} {p : Nat} {σ τ : Sto} (h : Sy L t p σ τ) : TM L t τ := h.2.1
theorem Sy.hp {L : Nat} {t : Nat → Nat} {p : Nat} {σ τ : Sto} (h : Sy L t p σ τ) : p ≤ L := h.2.2.1
theorem Sy.px {L : Nat} {t : Nat → Nat} {p : Nat} {σ τ : Sto} (h : Sy L t p σ τ) : σ.1 13 6 = nI p := h.2.2.2.1
theorem Sy.sm {L : Nat} {t : Nat → Nat} {p : Nat} {σ τ : Sto} (h : Sy L t p σ τ) : SM L t p τ := h.2.2.2.2.1
theorem Sy.ft {L : Nat} {t : Nat → Nat} {p : Nat} {σ τ : Sto} (h : Sy L t p σ τ) : σ.1 13 7 = τ.1 0 7 := h.2.2.2.2.2
abbrev Fy (σ τ : Sto) : Prop := (∃ p, p ≤ 200 ∧ σ.1 13 6 = nI p ∧ τ.1 0 8 = nI p) ∧ (σ.1 13 7 = τ.1 0 7)
theorem Fy.pl {σ τ : Sto} (h : Fy σ τ) : ∃ p, p ≤ 200 ∧ σ.1 13 6 = nI p ∧ τ.1 0 8 = nI p := h.1
theorem Fy.ft {σ τ : Sto} (h : Fy σ τ) : σ.1 13 7 = τ.1 0 7 := h.2
abbrev Fr (σ τ σ' τ' : Sto) : Prop := (∀ c j, ¬ (c = 13 ∧ 6 ≤ j ∧ j ≤ 8) → σ'.1 c j = σ.1 c j) ∧ (σ'.2 = σ.2) ∧ (∀ c j, ¬ (c = 0 ∧ 7 ≤ j ∧ j ≤ 12) → τ'.1 c j = τ.1 c j) ∧ (τ'.2 = τ.2)
theorem Fr.i {σ τ σ' τ' : Sto} (h : Fr σ τ σ' τ') : ∀ c j, ¬ (c = 13 ∧ 6 ≤ j ∧ j ≤ 8) → σ'.1 c j = σ.1 c j := h.1
theorem Fr.l {σ τ σ' τ' : Sto} (h : Fr σ τ σ' τ') : σ'.2 = σ.2 := h.2.1
theorem Fr.m {σ τ σ' τ' : Sto} (h : Fr σ τ σ' τ') : ∀ c j, ¬ (c = 0 ∧ 7 ≤ j ∧ j ≤ 12) → τ'.1 c j = τ.1 c j := h.2.2.1
theorem Fr.n {σ τ σ' τ' : Sto} (h : Fr σ τ σ' τ') : τ'.2 = τ.2 := h.2.2.2
theorem Fr.rfl {σ τ : Sto} : Fr σ τ σ τ := ⟨fun _ _ _ => Eq.refl _, Eq.refl _, fun _ _ _ => Eq.refl _, Eq.refl _⟩
theorem Fr.trans {σ τ σ1 τ1 σ2 τ2 : Sto} (h : Fr σ τ σ1 τ1) (h2 : Fr σ1 τ1 σ2 τ2) : Fr σ τ σ2 τ2 := ⟨fun c j q => (h2.i c j q).trans (h.i c j q), h2.l.trans h.l, fun c j q => (h2.m c j q).trans (h.m c j q), h2.n.trans h.n⟩
theorem TX.fr {L : Nat} {t : Nat → Nat} {σ σ' : Sto} (h : TX L t σ) (hi : ∀ c j, ¬ (c = 13 ∧ 6 ≤ j ∧ j ≤ 8) → σ'.1 c j = σ.1 c j) : TX L t σ' := ⟨h.n, by rw [hi _ _ (by omega)]; exact h.e, fun i q => by rw [hi _ _ (by omega)]; exact h.t i q⟩
/-! what becomes of a model at fault: nothing -/
theorem flt {τ : Sto} {p : Nat} (hp : p ≤ 200) (h : τ.1 0 8 = nI p) : f_X8_isWell τ = some (nI 0, τ) := by
  simp (disch := omega) only [f_X8_isWell, b_X8_isWell_12, lit, pLeT, pLeF, pLtT, pLtF, pEqT, pEqF, nLeF, nLtF, nI_clamp, or_self, or_false, false_or, not_true_eq_false, not_false_eq_true, ↓reduceIte, nmS_eq, bd1_eq, bd2_eq, nI_add, pEqS, pk_mul, Nat.reduceAdd, Bool.false_eq_true, or_true, true_or, h]
theorem well1 {τ : Sto} (h : τ.1 0 8 = -nI 1) : f_X8_isWell τ = some (nI 1, τ) := by
  simp (disch := omega) only [f_X8_isWell, b_X8_isWell_12, lit, pLeT, pLeF, pLtT, pLtF, pEqT, pEqF, nLeF, nLtF, nI_clamp, or_self, or_false, false_or, not_true_eq_false, not_false_eq_true, ↓reduceIte, nmS_eq, bd1_eq, bd2_eq, nI_add, pEqS, pk_mul, Nat.reduceAdd, Bool.false_eq_true, or_true, true_or, h, neg1]
theorem flt_takes {τ : Sto} (h : f_X8_isWell τ = some (nI 0, τ)) (x k : Int32) : f_X8_takes x k τ = some (nI 0, τ) := by
  simp (disch := omega) only [f_X8_takes, lit, pLeT, pLeF, pLtT, pLtF, pEqT, pEqF, nLeF, nLtF, nI_clamp, or_self, or_false, false_or, not_true_eq_false, not_false_eq_true, ↓reduceIte, nmS_eq, bd1_eq, bd2_eq, nI_add, pEqS, pk_mul, Nat.reduceAdd, Bool.false_eq_true, or_true, true_or, h]
theorem flt_figure {τ : Sto} (h : f_X8_isWell τ = some (nI 0, τ)) (x k : Int32) : f_X8_figure x k τ = some (nI 0, τ) := by
  simp (disch := omega) only [f_X8_figure, b_X8_figure_22, lit, pLeT, pLeF, pLtT, pLtF, pEqT, pEqF, nLeF, nLtF, nI_clamp, or_self, or_false, false_or, not_true_eq_false, not_false_eq_true, ↓reduceIte, nmS_eq, bd1_eq, bd2_eq, nI_add, pEqS, pk_mul, Nat.reduceAdd, Bool.false_eq_true, or_true, true_or, h, e_X8_in, flt_takes h]
theorem flt_behind {τ : Sto} (h : f_X8_isWell τ = some (nI 0, τ)) (x k : Int32) : f_X8_behind x k τ = some (nI 0, τ) := by
  by_cases q : τ.1 0 11 = nI 3 <;> simp (disch := omega) only [f_X8_behind, b_X8_behind_14, lit, pLeT, pLeF, pLtT, pLtF, pEqT, pEqF, nLeF, nLtF, nI_clamp, or_self, or_false, false_or, not_true_eq_false, not_false_eq_true, ↓reduceIte, nmS_eq, bd1_eq, bd2_eq, nI_add, pEqS, pk_mul, Nat.reduceAdd, Bool.false_eq_true, or_true, true_or, q, flt_takes h, flt_figure h]
theorem flt_variable {τ : Sto} (h : f_X8_isWell τ = some (nI 0, τ)) (x : Int32) : f_X8_variable x τ = some (nI 0, τ) := by
  simp (disch := omega) only [f_X8_variable, b_X8_variable_46, lit, pLeT, pLeF, pLtT, pLtF, pEqT, pEqF, nLeF, nLtF, nI_clamp, or_self, or_false, false_or, not_true_eq_false, not_false_eq_true, ↓reduceIte, nmS_eq, bd1_eq, bd2_eq, nI_add, pEqS, pk_mul, Nat.reduceAdd, Bool.false_eq_true, or_true, true_or, h, flt_figure h]
theorem flt_must {τ : Sto} (h : f_X8_isWell τ = some (nI 0, τ)) (x : Int32) : f_X8_must x τ = some τ := by
  simp (disch := omega) only [f_X8_must, b_X8_must_18, lit, pLeT, pLeF, pLtT, pLtF, pEqT, pEqF, nLeF, nLtF, nI_clamp, or_self, or_false, false_or, not_true_eq_false, not_false_eq_true, ↓reduceIte, nmS_eq, bd1_eq, bd2_eq, nI_add, pEqS, pk_mul, Nat.reduceAdd, Bool.false_eq_true, or_true, true_or, h]
theorem flt_term {τ : Sto} (h : f_X8_isWell τ = some (nI 0, τ)) : f_X8_isTerm τ = some (nI 0, τ) := by
  simp (disch := omega) only [f_X8_isTerm, b_X8_isTerm_37, b_X8_isTerm_38, lit, pLeT, pLeF, pLtT, pLtF, pEqT, pEqF, nLeF, nLtF, nI_clamp, or_self, or_false, false_or, not_true_eq_false, not_false_eq_true, ↓reduceIte, nmS_eq, bd1_eq, bd2_eq, nI_add, pEqS, pk_mul, Nat.reduceAdd, Bool.false_eq_true, or_true, true_or, h]
theorem Fy.well {σ τ : Sto} (h : Fy σ τ) : f_X8_isWell τ = some (nI 0, τ) := by
  obtain ⟨p, p1, p2, p3⟩ := h.pl
  exact flt p1 p3
/-! a token that is as it must be, and one that isn't -/
theorem Sy.fail {L : Nat} {t : Nat → Nat} {p : Nat} {σ τ : Sto} (h : Sy L t p σ τ) {σ1 : Sto} (k : Nat) (hi : ∀ c j, ¬ (c = 13 ∧ j = 8) → σ1.1 c j = σ.1 c j) (hl : σ1.2 = σ.2) : f_X8_takes (nI 0) (nI k) τ = some (nI 0, pI (pI τ 0 8 (nI p)) 0 7 (nI k)) ∧ Fy (pI σ1 13 7 (nI k)) (pI (pI τ 0 8 (nI p)) 0 7 (nI k)) ∧ Fr σ τ (pI σ1 13 7 (nI k)) (pI (pI τ 0 8 (nI p)) 0 7 (nI k)) := by
  have hw := well1 h.sm.w
  have hs := h.sm.s
  have hn := h.tx.n
  have hp := h.hp
  refine ⟨?_, ⟨⟨p, by omega, by rw [pI_nj (by omega), hi _ _ (by omega)]; exact h.px, by rw [pI_nj (by omega), pI_at]⟩, by rw [pI_at, pI_at]⟩, fun c j q => ?_, ?_, fun c j q => ?_, ?_⟩
  · simp (disch := omega) only [f_X8_takes, lit, pLeT, pLeF, pLtT, pLtF, pEqT, pEqF, nLeF, nLtF, nI_clamp, or_self, or_false, false_or, not_true_eq_false, not_false_eq_true, ↓reduceIte, nmS_eq, bd1_eq, bd2_eq, nI_add, pEqS, pk_mul, Nat.reduceAdd, Bool.false_eq_true, or_true, true_or, hw, hs, pI_nj]
  · rw [pI_no (by omega), hi _ _ (by omega)]
  · rw [pI_2, hl]
  · rw [pI_no (by omega), pI_no (by omega)]
  · rw [pI_2, pI_2]
theorem Sy.go {L : Nat} {t : Nat → Nat} {p p' : Nat} {σ τ σ1 : Sto} (h : Sy L t p σ τ) (hp : p' ≤ L) (h9 : τ.1 0 9 = nI p') (hi : ∀ c j, ¬ (c = 13 ∧ (j = 6 ∨ j = 8)) → σ1.1 c j = σ.1 c j) (hl : σ1.2 = σ.2) (h6 : σ1.1 13 6 = nI p') (k : Int32) : ∃ τ', f_X8_takes (nI 1) k τ = some (τ.1 0 12, τ') ∧ Sy L t p' σ1 τ' ∧ Fr σ τ σ1 τ' := by
  have hw := well1 h.sm.w
  obtain ⟨τ', a1, a2, a3⟩ := e_X8_advances h.tm hp h9 h.sm.w
  refine ⟨τ', ?_, ⟨h.tx.fr (fun c j q => hi c j (by omega)), h.tm.lm a3, hp, h6, a2, by rw [hi _ _ (by omega), a3.i _ _ (by omega)]; exact h.ft⟩, fun c j q => hi c j (by omega), hl, fun c j q => a3.i c j (by omega), a3.l⟩
  simp (disch := omega) only [f_X8_takes, lit, pLeT, pLeF, pLtT, pLtF, pEqT, pEqF, nLeF, nLtF, nI_clamp, or_self, or_false, false_or, not_true_eq_false, not_false_eq_true, ↓reduceIte, nmS_eq, bd1_eq, bd2_eq, nI_add, pEqS, pk_mul, Nat.reduceAdd, Bool.false_eq_true, or_true, true_or, hw, a1]
theorem tok_lt {L : Nat} {t : Nat → Nat} {p : Nat} (h : tok L t p ≠ 0) : p < L := by
  unfold tok at h
  cases hd : dig L t p
  · rw [hd, if_neg (by decide)] at h
    by_cases q : p < L
    · exact q
    · rw [if_neg q] at h
      exact absurd rfl h
  · exact (dig_t hd).1
theorem tok_cases {L : Nat} {t : Nat → Nat} {p : Nat} : (tok L t p = 0 ∧ ltr L t p = -nI 1) ∨ (p < L ∧ tok L t p ≠ 0 ∧ ltr L t p = nI (t p) ∧ (tok L t p = 1 ↔ 97 ≤ t p ∧ t p ≤ 122) ∧ (tok L t p = 3 ↔ t p = 44) ∧ (tok L t p = 4 ↔ t p = 59) ∧ (tok L t p = 2 → dig L t p = true) ∧ (dig L t p = true → tok L t p = 2 ∨ tok L t p = 5)) := by
  cases hd : dig L t p
  · by_cases q : p < L
    · right
      have hd2 := dig_f hd
      have e : tok L t p = if 97 ≤ t p ∧ t p ≤ 122 then 1 else if t p = 44 then 3 else if t p = 59 then 4 else 5 := by unfold tok; rw [hd, if_neg (by decide), if_pos q]
      have e2 : ltr L t p = nI (t p) := by unfold ltr; rw [if_pos q]
      refine ⟨q, ?_, e2, ?_, ?_, ?_, ?_, fun z => by cases z⟩
      · rw [e]; split <;> (try split) <;> (try split) <;> omega
      · rw [e]; split <;> (try split) <;> (try split) <;> omega
      · rw [e]; split <;> (try split) <;> (try split) <;> omega
      · rw [e]; split <;> (try split) <;> (try split) <;> omega
      · rw [e]; split <;> (try split) <;> (try split) <;> omega
    · left
      exact ⟨by unfold tok; rw [hd, if_neg (by decide), if_neg q], by unfold ltr; rw [if_neg q]⟩
  · right
    have hd2 := dig_t hd
    have e : tok L t p = if (dig L t (p + 1) && dig L t (p + 2)) = true then 5 else 2 := by unfold tok; rw [hd, if_pos rfl]
    have e2 : ltr L t p = nI (t p) := by unfold ltr; rw [if_pos hd2.1]
    refine ⟨hd2.1, ?_, e2, ?_, ?_, ?_, fun _ => rfl, fun _ => ?_⟩ <;> rw [e] <;> split <;> omega
/-- a sign: comma, stop -/
theorem Sy.sign {L : Nat} {t : Nat → Nat} {p : Nat} {σ τ : Sto} (h : Sy L t p σ τ) {ch k : Nat} (hk : (ch = 44 ∧ k = 3) ∨ (ch = 59 ∧ k = 4)) :
    (tok L t p = k ∧ ∃ σ' τ' r, f_X5_takes (nI ch) σ = some (nI 1, σ') ∧ f_X8_takes (nI 1) (nI 1) τ = some (r, τ') ∧ Sy L t (p + 1) σ' τ' ∧ Fr σ τ σ' τ' ∧ σ'.1 13 8 = σ.1 13 8) ∨
    (tok L t p ≠ k ∧ ∃ σ' τ', f_X5_takes (nI ch) σ = some (nI 0, σ') ∧ f_X8_takes (nI 0) (nI 1) τ = some (nI 0, τ') ∧ Fy σ' τ' ∧ Fr σ τ σ' τ') := by
  have hn := h.tx.n
  have hp := h.hp
  have hl := e_X5_letter h.tx (by omega) h.px
  have h6 := h.px
  by_cases q : tok L t p = k
  · left
    have hlt := tok_lt (L := L) (t := t) (p := p) (by omega)
    have el : ltr L t p = nI ch := by
      rcases tok_cases (L := L) (t := t) (p := p) with z | ⟨z1, z2, z3, z4, z5, z6, -⟩
      · omega
      · rw [z3]
        congr 1
        rcases hk with e | e
        · rw [z5.mp (by omega), e.1]
        · rw [z6.mp (by omega), e.1]
    rw [el] at hl
    obtain ⟨τ', g1, g2, g3⟩ := h.go (σ1 := pI σ 13 6 (nI (p + 1))) (p' := p + 1) (by omega) (h.sm.c (by omega)) (fun c j z => pI_no (by omega)) (pI_2 _) (pI_at _) (nI 1)
    refine ⟨q, pI σ 13 6 (nI (p + 1)), τ', τ.1 0 12, ?_, g1, g2, g3, pI_nj (by omega)⟩
    simp (disch := omega) only [f_X5_takes, lit, pLeT, pLeF, pLtT, pLtF, pEqT, pEqF, nLeF, nLtF, nI_clamp, or_self, or_false, false_or, not_true_eq_false, not_false_eq_true, ↓reduceIte, nmS_eq, bd1_eq, bd2_eq, nI_add, pEqS, pk_mul, Nat.reduceAdd, Bool.false_eq_true, or_true, true_or, hl, h6]
  · right
    have el : (ltr L t p = nI ch) = False := eq_false (fun e => by
      rcases tok_cases (L := L) (t := t) (p := p) with z | ⟨z1, z2, z3, z4, z5, z6, -⟩
      · rw [z.2] at e
        have h2 := congrArg Int32.toInt e
        rw [nI_toInt (by omega)] at h2
        have : (-nI 1).toInt = -1 := by decide
        omega
      · rw [z3] at e
        have hc := (h.tx.t p z1).1
        have e2 := (nI_eq (by omega) (by omega)).mp e
        rcases hk with e3 | e3
        · exact q (by rw [e3.2]; exact z5.mpr (by omega))
        · exact q (by rw [e3.2]; exact z6.mpr (by omega)))
    obtain ⟨g1, g2, g3⟩ := h.fail (σ1 := σ) 1 (fun c j _ => rfl) rfl
    refine ⟨q, pI σ 13 7 (nI 1), _, ?_, g1, g2, g3⟩
    simp (disch := omega) only [f_X5_takes, f_X5_faulty, lit, pLeT, pLeF, pLtT, pLtF, pEqT, pEqF, nLeF, nLtF, nI_clamp, or_self, or_false, false_or, not_true_eq_false, not_false_eq_true, ↓reduceIte, nmS_eq, bd1_eq, bd2_eq, nI_add, pEqS, pk_mul, Nat.reduceAdd, Bool.false_eq_true, or_true, true_or, hl, el]
/-! numbers -/
theorem e_X5_isFigure {c : Nat} (hc : c < 256) (σ : Sto) : f_X5_isFigure (nI c) σ = some (if 48 ≤ c ∧ c ≤ 57 then nI 1 else nI 0, σ) := by
  by_cases q : c < 48
  · rw [if_neg (by omega)]
    simp (disch := omega) only [f_X5_isFigure, b_X5_isFigure_16, b_X5_isFigure_17, lit, pLeT, pLeF, pLtT, pLtF, pEqT, pEqF, nLeF, nLtF, nI_clamp, or_self, or_false, false_or, not_true_eq_false, not_false_eq_true, ↓reduceIte, nmS_eq, bd1_eq, bd2_eq, nI_add, pEqS, pk_mul, Nat.reduceAdd, Bool.false_eq_true, or_true, true_or]
  · by_cases q2 : 57 < c
    · rw [if_neg (by omega)]
      simp (disch := omega) only [f_X5_isFigure, b_X5_isFigure_16, b_X5_isFigure_17, lit, pLeT, pLeF, pLtT, pLtF, pEqT, pEqF, nLeF, nLtF, nI_clamp, or_self, or_false, false_or, not_true_eq_false, not_false_eq_true, ↓reduceIte, nmS_eq, bd1_eq, bd2_eq, nI_add, pEqS, pk_mul, Nat.reduceAdd, Bool.false_eq_true, or_true, true_or]
    · rw [if_pos (by omega)]
      simp (disch := omega) only [f_X5_isFigure, b_X5_isFigure_16, b_X5_isFigure_17, lit, pLeT, pLeF, pLtT, pLtF, pEqT, pEqF, nLeF, nLtF, nI_clamp, or_self, or_false, false_or, not_true_eq_false, not_false_eq_true, ↓reduceIte, nmS_eq, bd1_eq, bd2_eq, nI_add, pEqS, pk_mul, Nat.reduceAdd, Bool.false_eq_true, or_true, true_or]
theorem tn_go {L : Nat} {t : Nat → Nat} {q f x : Nat} {lo hi seen : Int32} (n : Nat) {σ : Sto} (h : TX L t σ) (hq : dig L t q = true) (hf : f < 3) (hx : σ.1 13 8 = nI x) (hx2 : x < 1000) : l_X5_takesNumber_14 (n + 1) lo hi seen (nI f) (nI q) σ = l_X5_takesNumber_14 n lo hi seen (nI (f + 1)) (nI (q + 1)) (pI σ 13 8 (nI (x * 10 + t q - 48))) := by
  have hn := h.n
  have he := h.e
  have hq2 := dig_t hq
  have h2 := h.t q hq2.1
  have hF := e_X5_isFigure h2.1 σ
  rw [if_pos (by omega)] at hF
  have h3 := h2.2
  show b_X5_takesNumber_14 (l_X5_takesNumber_14 n) lo hi seen (nI f) (nI q) σ = _
  simp (disch := omega) only [b_X5_takesNumber_14, lit, pLeT, pLeF, pLtT, pLtF, pEqT, pEqF, nLeF, nLtF, nI_clamp, or_self, or_false, false_or, not_true_eq_false, not_false_eq_true, ↓reduceIte, nmS_eq, bd1_eq, bd2_eq, nI_add, pEqS, pk_mul, Nat.reduceAdd, Bool.false_eq_true, or_true, true_or, he, h3, hF, hx, pk_sub]
theorem tn_stop {L : Nat} {t : Nat → Nat} {q f : Nat} {lo hi seen : Int32} (n : Nat) {σ : Sto} (h : TX L t σ) (hq : q ≤ 1000) (hf : dig L t q = false ∨ f = 3) (hf3 : f ≤ 3) : l_X5_takesNumber_14 (n + 1) lo hi seen (nI f) (nI q) σ = b_X5_takesNumber_73 lo hi seen (nI f) σ := by
  have hn := h.n
  have he := h.e
  show b_X5_takesNumber_14 (l_X5_takesNumber_14 n) lo hi seen (nI f) (nI q) σ = _
  by_cases q1 : L ≤ q
  · simp (disch := omega) only [b_X5_takesNumber_14, lit, pLeT, pLeF, pLtT, pLtF, pEqT, pEqF, nLeF, nLtF, nI_clamp, or_self, or_false, false_or, not_true_eq_false, not_false_eq_true, ↓reduceIte, nmS_eq, bd1_eq, bd2_eq, nI_add, pEqS, pk_mul, Nat.reduceAdd, Bool.false_eq_true, or_true, true_or, he]
  · by_cases q2 : f = 3
    · simp (disch := omega) only [b_X5_takesNumber_14, lit, pLeT, pLeF, pLtT, pLtF, pEqT, pEqF, nLeF, nLtF, nI_clamp, or_self, or_false, false_or, not_true_eq_false, not_false_eq_true, ↓reduceIte, nmS_eq, bd1_eq, bd2_eq, nI_add, pEqS, pk_mul, Nat.reduceAdd, Bool.false_eq_true, or_true, true_or, he, q2]
    · have hd := dig_f (hf.resolve_right q2)
      have h2 := h.t q (by omega)
      have hF := e_X5_isFigure h2.1 σ
      rw [if_neg (by omega)] at hF
      have h3 := h2.2
      simp (disch := omega) only [b_X5_takesNumber_14, lit, pLeT, pLeF, pLtT, pLtF, pEqT, pEqF, nLeF, nLtF, nI_clamp, or_self, or_false, false_or, not_true_eq_false, not_false_eq_true, ↓reduceIte, nmS_eq, bd1_eq, bd2_eq, nI_add, pEqS, pk_mul, Nat.reduceAdd, Bool.false_eq_true, or_true, true_or, he, h3, hF]
theorem v2_le {L : Nat} {t : Nat → Nat} {p : Nat} (h : dig L t p = true) : v2 L t p ≤ 99 := by
  have h1 := dig_t h
  unfold v2
  cases hd : dig L t (p + 1)
  · rw [if_neg (by decide)]; omega
  · have h2 := dig_t hd
    rw [if_pos rfl]; omega
/-- how a number is looked for -/
theorem e_X5_takesNumber {L : Nat} {t : Nat → Nat} {p : Nat} {σ : Sto} (h : TX L t σ) (hp : p ≤ L) (h6 : σ.1 13 6 = nI p) (lo hi seen : Int32) :
    (tok L t p ≠ 2 → ∃ x, f_X5_takesNumber lo hi seen σ = some (nI 0, pI (pI σ 13 8 x) 13 7 (nI 1))) ∧
    (tok L t p = 2 → f_X5_takesNumber lo hi seen σ = b_X5_takesNumber_73 lo hi seen (nI (nd L t p)) (pI σ 13 8 (nI (v2 L t p)))) := by
  have hn := h.n
  have tf : ∀ x, TX L t (pI σ 13 8 x) := fun x => h.fr (fun c j z => pI_no (by omega))
  have st : f_X5_takesNumber lo hi seen σ = l_X5_takesNumber_14 (399 + 1) lo hi seen (nI 0) (nI p) (pI σ 13 8 (nI 0)) := by
    simp (disch := omega) only [f_X5_takesNumber, lit, pLeT, pLeF, pLtT, pLtF, pEqT, pEqF, nLeF, nLtF, nI_clamp, or_self, or_false, false_or, not_true_eq_false, not_false_eq_true, ↓reduceIte, nmS_eq, bd1_eq, bd2_eq, nI_add, pEqS, pk_mul, Nat.reduceAdd, Bool.false_eq_true, or_true, true_or, pI_nj, h6]
  have c85 : ∀ x, b_X5_takesNumber_85 (pI σ 13 8 x) = some (nI 0, pI (pI σ 13 8 x) 13 7 (nI 1)) := by
    intro x
    simp (disch := omega) only [b_X5_takesNumber_85, f_X5_faulty, lit, pLeT, pLeF, pLtT, pLtF, pEqT, pEqF, nLeF, nLtF, nI_clamp, or_self, or_false, false_or, not_true_eq_false, not_false_eq_true, ↓reduceIte, nmS_eq, bd1_eq, bd2_eq, nI_add, pEqS, pk_mul, Nat.reduceAdd, Bool.false_eq_true, or_true, true_or]
  rw [st]
  cases hd : dig L t p
  · have ht : tok L t p ≠ 2 := by
      intro e
      rcases tok_cases (L := L) (t := t) (p := p) with z | ⟨z1, z2, z3, z4, z5, z6, z7, z8⟩
      · omega
      · rw [z7 e] at hd; cases hd
    refine ⟨fun _ => ⟨nI 0, ?_⟩, fun e => absurd e ht⟩
    rw [tn_stop 399 (tf _) (by omega) (Or.inl hd) (by omega), ← c85]
    simp (disch := omega) only [b_X5_takesNumber_73, lit, pLeT, pLeF, pLtT, pLtF, pEqT, pEqF, nLeF, nLtF, nI_clamp, or_self, or_false, false_or, not_true_eq_false, not_false_eq_true, ↓reduceIte, nmS_eq, bd1_eq, bd2_eq, nI_add, pEqS, pk_mul, Nat.reduceAdd, Bool.false_eq_true, or_true, true_or]
  · have h0 := dig_t hd
    rw [tn_go (x := 0) 399 (tf _) hd (by omega) (pI_at _) (by omega), pI_pI]
    cases hd1 : dig L t (p + 1)
    · have ht : tok L t p = 2 := by unfold tok; rw [hd, if_pos rfl, hd1]; rfl
      refine ⟨fun e => absurd ht e, fun _ => ?_⟩
      rw [show (399 : Nat) = 398 + 1 from rfl, tn_stop 398 (tf _) (by omega) (Or.inl hd1) (by omega)]
      unfold v2 nd
      rw [hd1, if_neg (by decide), if_neg (by decide), Nat.zero_mul, Nat.zero_add, Nat.zero_add]
    · have h1 := dig_t hd1
      rw [show (399 : Nat) = 398 + 1 from rfl, tn_go (x := 0 * 10 + t p - 48) 398 (tf _) hd1 (by omega) (pI_at _) (by omega), pI_pI]
      cases hd2 : dig L t (p + 2)
      · have ht : tok L t p = 2 := by unfold tok; rw [hd, if_pos rfl, hd1, hd2]; rfl
        refine ⟨fun e => absurd ht e, fun _ => ?_⟩
        rw [show (398 : Nat) = 397 + 1 from rfl, tn_stop 397 (tf _) (by omega) (Or.inl hd2) (by omega)]
        unfold v2 nd
        rw [hd1, if_pos rfl, if_pos rfl]
        have e : (0 * 10 + t p - 48) * 10 + t (p + 1) - 48 = 10 * (t p - 48) + (t (p + 1) - 48) := by omega
        rw [e]
      · have h2 := dig_t hd2
        have ht : tok L t p = 5 := by unfold tok; rw [hd, if_pos rfl, hd1, hd2]; rfl
        refine ⟨fun _ => ⟨nI (((0 * 10 + t p - 48) * 10 + t (p + 1) - 48) * 10 + t (p + 2) - 48), ?_⟩, fun e => by omega⟩
        rw [show (398 : Nat) = 397 + 1 from rfl, tn_go (q := p + 2) (x := (0 * 10 + t p - 48) * 10 + t (p + 1) - 48) 397 (tf _) hd2 (by omega) (pI_at _) (by omega), pI_pI, show (397 : Nat) = 396 + 1 from rfl, tn_stop (f := 3) 396 (tf _) (by omega) (Or.inr rfl) (by omega), ← c85]
        simp (disch := omega) only [b_X5_takesNumber_73, lit, pLeT, pLeF, pLtT, pLtF, pEqT, pEqF, nLeF, nLtF, nI_clamp, or_self, or_false, false_or, not_true_eq_false, not_false_eq_true, ↓reduceIte, nmS_eq, bd1_eq, bd2_eq, nI_add, pEqS, pk_mul, Nat.reduceAdd, Bool.false_eq_true, or_true, true_or]
theorem num73 {lo hi m d : Nat} {seen : Int32} {σ : Sto} (hm : σ.1 13 8 = nI m) (hm2 : m ≤ 99) (hl : lo ≤ 99) (hh : hi ≤ 99) (hd : 1 ≤ d ∧ d ≤ 2) (hs : hi ≤ 7 ∨ seen = nI 0) : b_X5_takesNumber_73 (nI lo) (nI hi) seen (nI d) σ = if lo ≤ m ∧ m ≤ hi ∧ bt seen m = false then some (nI 1, pI σ 13 6 (σ.1 13 6 + nI d)) else some (nI 0, pI σ 13 7 (nI 2)) := by
  have b0 : ∀ i, bt (nI 0) i = false := fun i => b_0 i
  by_cases q1 : m < lo
  · rw [if_neg (by omega)]
    simp (disch := omega) only [b_X5_takesNumber_73, b_X5_takesNumber_123, f_X5_faulty, lit, pLeT, pLeF, pLtT, pLtF, pEqT, pEqF, nLeF, nLtF, nI_clamp, or_self, or_false, false_or, not_true_eq_false, not_false_eq_true, ↓reduceIte, nmS_eq, bd1_eq, bd2_eq, nI_add, pEqS, pk_mul, Nat.reduceAdd, Bool.false_eq_true, or_true, true_or, hm]
  · by_cases q2 : hi < m
    · rw [if_neg (by omega)]
      simp (disch := omega) only [b_X5_takesNumber_73, b_X5_takesNumber_123, f_X5_faulty, lit, pLeT, pLeF, pLtT, pLtF, pEqT, pEqF, nLeF, nLtF, nI_clamp, or_self, or_false, false_or, not_true_eq_false, not_false_eq_true, ↓reduceIte, nmS_eq, bd1_eq, bd2_eq, nI_add, pEqS, pk_mul, Nat.reduceAdd, Bool.false_eq_true, or_true, true_or, hm]
    · by_cases q3 : seen = nI 0
      · rw [if_pos ⟨by omega, by omega, by rw [q3]; exact b0 m⟩]
        simp (disch := omega) only [b_X5_takesNumber_73, b_X5_takesNumber_129, lit, pLeT, pLeF, pLtT, pLtF, pEqT, pEqF, nLeF, nLtF, nI_clamp, or_self, or_false, false_or, not_true_eq_false, not_false_eq_true, ↓reduceIte, nmS_eq, bd1_eq, bd2_eq, nI_add, pEqS, pk_mul, Nat.reduceAdd, Bool.false_eq_true, or_true, true_or, hm, q3]
      · have h7 : hi ≤ 7 := hs.resolve_right q3
        have hb := ub seen (i := m) (by omega)
        have hb : ((seen.toUInt32 >>> ((nI m).toUInt32 &&& Int32.toUInt32 31)).toInt32 &&& nI 1) = if bt seen m then nI 1 else nI 0 := hb
        cases hbm : bt seen m
        · rw [hbm] at hb
          rw [if_pos ⟨by omega, by omega, rfl⟩]
          simp (disch := omega) only [b_X5_takesNumber_73, b_X5_takesNumber_129, lit 0, lit 1, lit 2, lit 4294967295, pLeT, pLtF, pLeF, pEqF, Nat.reduceAdd, nmS_eq, bd2_eq, ↓reduceIte, hm, q3, hb, Bool.false_eq_true]
        · rw [hbm] at hb
          rw [if_neg (by intro z; exact absurd z.2.2 (by decide))]
          simp (disch := omega) only [b_X5_takesNumber_73, b_X5_takesNumber_123, f_X5_faulty, lit 0, lit 1, lit 2, pLeT, pLtF, pLeF, pEqF, nmS_eq, bd2_eq, ↓reduceIte, hm, q3, hb, pEqS, not_true_eq_false, or_false, true_or]
theorem figM {L : Nat} {t : Nat → Nat} {p : Nat} {τ : Sto} (h : SM L t p τ) {lo hi : Nat} (hl : lo ≤ 99) (hh : hi ≤ 99) : (tok L t p ≠ 2 → f_X8_figure (nI lo) (nI hi) τ = (bd2 (f_X8_takes (nI 0) (nI 1) τ) fun r s => some (r, s))) ∧ (tok L t p = 2 → v2 L t p ≤ 99 → f_X8_figure (nI lo) (nI hi) τ = (bd2 (f_X8_takes (if lo ≤ v2 L t p ∧ v2 L t p ≤ hi then nI 1 else nI 0) (nI 2) τ) fun r s => some (r, s))) := by
  have hw := well1 h.w
  have hk := h.k
  refine ⟨fun q => ?_, fun q q2 => ?_⟩
  · have hk2 : (nI (tok L t p) = nI 2) = False := eq_false (fun e => q ((nI_eq (by unfold tok; split <;> (try split) <;> (try split) <;> (try split) <;> (try split) <;> omega) (by omega)).mp e))
    simp (disch := omega) only [f_X8_figure, lit, pLeT, pLeF, pLtT, pLtF, pEqT, pEqF, nLeF, nLtF, nI_clamp, or_self, or_false, false_or, not_true_eq_false, not_false_eq_true, ↓reduceIte, nmS_eq, bd1_eq, bd2_eq, nI_add, pEqS, pk_mul, Nat.reduceAdd, Bool.false_eq_true, or_true, true_or, hw, hk, hk2]
  · have hv := (h.b q).1
    rw [q] at hk
    simp (disch := omega) only [f_X8_figure, b_X8_figure_22, lit, pLeT, pLeF, pLtT, pLtF, pEqT, pEqF, nLeF, nLtF, nI_clamp, or_self, or_false, false_or, not_true_eq_false, not_false_eq_true, ↓reduceIte, nmS_eq, bd1_eq, bd2_eq, nI_add, pEqS, pk_mul, Nat.reduceAdd, Bool.false_eq_true, or_true, true_or, hw, hk, hv, in_nI]
theorem bd2_eta (x : Option (Int32 × Sto)) : (bd2 x fun r s => some (r, s)) = x := by
  cases x with
  | none => rfl
  | some q => rfl
theorem nd_le {L : Nat} {t : Nat → Nat} {p : Nat} (h : dig L t p = true) : (nd L t p = 1 ∨ nd L t p = 2) ∧ p + nd L t p ≤ L := by
  have h1 := dig_t h
  unfold nd
  cases hd : dig L t (p + 1)
  · rw [if_neg (by decide)]; omega
  · have h2 := dig_t hd
    rw [if_pos rfl]; omega
theorem tok2 {L : Nat} {t : Nat → Nat} {p : Nat} (h : tok L t p = 2) : dig L t p = true := by
  rcases tok_cases (L := L) (t := t) (p := p) with z | ⟨z1, z2, z3, z4, z5, z6, z7, z8⟩
  · omega
  · exact z7 h
theorem Sy.num {L : Nat} {t : Nat → Nat} {p : Nat} {σ τ : Sto} (h : Sy L t p σ τ) {lo hi : Nat} (hl : lo ≤ 99) (hh : hi ≤ 99) :
    (∃ m p' σ' τ', lo ≤ m ∧ m ≤ hi ∧ f_X5_takesNumber (nI lo) (nI hi) (nI 0) σ = some (nI 1, σ') ∧ σ'.1 13 8 = nI m ∧ f_X8_figure (nI lo) (nI hi) τ = some (nI m, τ') ∧ Sy L t p' σ' τ' ∧ Fr σ τ σ' τ') ∨
    (∃ σ' τ', f_X5_takesNumber (nI lo) (nI hi) (nI 0) σ = some (nI 0, σ') ∧ f_X8_figure (nI lo) (nI hi) τ = some (nI 0, τ') ∧ Fy σ' τ' ∧ Fr σ τ σ' τ') := by
  have hp := h.hp
  have hX := e_X5_takesNumber h.tx hp h.px (nI lo) (nI hi) (nI 0)
  have hM := figM h.sm (lo := lo) (hi := hi) hl hh
  by_cases q : tok L t p = 2
  · have hd := tok2 q
    have hv := v2_le hd
    have hn := nd_le hd
    have x1 := hX.2 q
    have m1 := hM.2 q hv
    rw [bd2_eta] at m1
    rw [num73 (m := v2 L t p) (pI_at _) hv hl hh (by omega) (Or.inr rfl)] at x1
    by_cases q2 : lo ≤ v2 L t p ∧ v2 L t p ≤ hi
    · left
      rw [if_pos ⟨q2.1, q2.2, b_0 _⟩, pI_nj (by omega), h.px, nI_add] at x1
      rw [if_pos q2] at m1
      obtain ⟨τ', g1, g2, g3⟩ := h.go (σ1 := pI (pI σ 13 8 (nI (v2 L t p))) 13 6 (nI (p + nd L t p))) (p' := p + nd L t p) hn.2 (h.sm.b q).2 (fun c j z => by rw [pI_no (by omega), pI_no (by omega)]) (by rw [pI_2, pI_2]) (pI_at _) (nI 2)
      rw [(h.sm.b q).1] at g1
      exact ⟨_, _, _, τ', q2.1, q2.2, x1, by rw [pI_nj (by omega), pI_at], by rw [m1, g1], g2, g3⟩
    · right
      rw [if_neg (fun z => q2 ⟨z.1, z.2.1⟩)] at x1
      rw [if_neg q2] at m1
      obtain ⟨g1, g2, g3⟩ := h.fail (σ1 := pI σ 13 8 (nI (v2 L t p))) 2 (fun c j z => pI_no z) (pI_2 _)
      exact ⟨_, _, x1, by rw [m1, g1], g2, g3⟩
  · right
    obtain ⟨x, x1⟩ := hX.1 q
    have m1 := hM.1 q
    rw [bd2_eta] at m1
    obtain ⟨g1, g2, g3⟩ := h.fail (σ1 := pI σ 13 8 x) 1 (fun c j z => pI_no z) (pI_2 _)
    exact ⟨_, _, x1, by rw [m1, g1], g2, g3⟩
theorem Sy.var {L : Nat} {t : Nat → Nat} {p : Nat} {σ τ : Sto} (h : Sy L t p σ τ) (seen : Int32) :
    (∃ m p' σ' τ', m < 8 ∧ bt seen m = false ∧ f_X5_takesNumber (nI 0) (nI 7) seen σ = some (nI 1, σ') ∧ σ'.1 13 8 = nI m ∧ f_X8_variable seen τ = some (nI m, τ') ∧ Sy L t p' σ' τ' ∧ Fr σ τ σ' τ') ∨
    (∃ σ' τ', f_X5_takesNumber (nI 0) (nI 7) seen σ = some (nI 0, σ') ∧ f_X8_variable seen τ = some (nI 0, τ') ∧ Fy σ' τ' ∧ Fr σ τ σ' τ') := by
  have hp := h.hp
  have hX := e_X5_takesNumber h.tx hp h.px (nI 0) (nI 7) seen
  have hM := figM h.sm (lo := 0) (hi := 7) (by omega) (by omega)
  have hw := well1 h.sm.w
  have hk := h.sm.k
  by_cases q : tok L t p = 2
  · have hd := tok2 q
    have hv := v2_le hd
    have hn := nd_le hd
    have hv2 := (h.sm.b q).1
    have x1 := hX.2 q
    have m1 := hM.2 q hv
    rw [bd2_eta] at m1
    rw [q] at hk
    rw [num73 (m := v2 L t p) (pI_at _) hv (by omega) (by omega) (by omega) (Or.inl (by omega))] at x1
    have hin := in_nI (c := v2 L t p) (lo := 0) (hi := 7) (by omega) (by omega) (by omega) τ
    by_cases q2 : v2 L t p ≤ 7
    · have hhas := e_X8_has seen (i := v2 L t p) (by omega) τ
      rw [if_pos ⟨Nat.zero_le _, q2⟩] at m1 hin
      cases hb : bt seen (v2 L t p)
      · left
        rw [hb] at hhas
        rw [if_pos ⟨Nat.zero_le _, q2, hb⟩, pI_nj (by omega), h.px, nI_add] at x1
        obtain ⟨τ', g1, g2, g3⟩ := h.go (σ1 := pI (pI σ 13 8 (nI (v2 L t p))) 13 6 (nI (p + nd L t p))) (p' := p + nd L t p) hn.2 (h.sm.b q).2 (fun c j z => by rw [pI_no (by omega), pI_no (by omega)]) (by rw [pI_2, pI_2]) (pI_at _) (nI 2)
        rw [hv2] at g1
        refine ⟨_, _, _, τ', Nat.lt_succ_of_le q2, hb, x1, by rw [pI_nj (by omega), pI_at], ?_, g2, g3⟩
        simp (disch := omega) only [f_X8_variable, b_X8_variable_46, lit, pLeT, pLeF, pLtT, pLtF, pEqT, pEqF, nLeF, nLtF, nI_clamp, or_self, or_false, false_or, not_true_eq_false, not_false_eq_true, ↓reduceIte, nmS_eq, bd1_eq, bd2_eq, nI_add, pEqS, pk_mul, Nat.reduceAdd, Bool.false_eq_true, or_true, true_or, hw, hk, hv2, hin, hhas, m1, g1]
      · right
        rw [hb] at hhas
        rw [if_neg (fun z => by rw [hb] at z; exact absurd z.2.2 (by decide))] at x1
        obtain ⟨g1, g2, g3⟩ := h.fail (σ1 := pI σ 13 8 (nI (v2 L t p))) 2 (fun c j z => pI_no z) (pI_2 _)
        refine ⟨_, _, x1, ?_, g2, g3⟩
        simp (disch := omega) only [f_X8_variable, b_X8_variable_46, lit, pLeT, pLeF, pLtT, pLtF, pEqT, pEqF, nLeF, nLtF, nI_clamp, or_self, or_false, false_or, not_true_eq_false, not_false_eq_true, ↓reduceIte, nmS_eq, bd1_eq, bd2_eq, nI_add, pEqS, pk_mul, Nat.reduceAdd, Bool.false_eq_true, or_true, true_or, hw, hk, hv2, hin, hhas, g1]
    · right
      rw [if_neg (fun z => q2 z.2.1)] at x1
      rw [if_neg (fun z => q2 z.2)] at m1 hin
      obtain ⟨g1, g2, g3⟩ := h.fail (σ1 := pI σ 13 8 (nI (v2 L t p))) 2 (fun c j z => pI_no z) (pI_2 _)
      refine ⟨_, _, x1, ?_, g2, g3⟩
      simp (disch := omega) only [f_X8_variable, b_X8_variable_46, lit, pLeT, pLeF, pLtT, pLtF, pEqT, pEqF, nLeF, nLtF, nI_clamp, or_self, or_false, false_or, not_true_eq_false, not_false_eq_true, ↓reduceIte, nmS_eq, bd1_eq, bd2_eq, nI_add, pEqS, pk_mul, Nat.reduceAdd, Bool.false_eq_true, or_true, true_or, hw, hk, hv2, hin, m1, g1]
  · right
    obtain ⟨x, x1⟩ := hX.1 q
    have m1 := hM.1 q
    rw [bd2_eta] at m1
    have hk2 : (nI (tok L t p) = nI 2) = False := eq_false (fun e => q ((nI_eq (by unfold tok; split <;> (try split) <;> (try split) <;> (try split) <;> (try split) <;> omega) (by omega)).mp e))
    obtain ⟨g1, g2, g3⟩ := h.fail (σ1 := pI σ 13 8 x) 1 (fun c j z => pI_no z) (pI_2 _)
    refine ⟨_, _, x1, ?_, g2, g3⟩
    simp (disch := omega) only [f_X8_variable, b_X8_variable_46, lit, pLeT, pLeF, pLtT, pLtF, pEqT, pEqF, nLeF, nLtF, nI_clamp, or_self, or_false, false_or, not_true_eq_false, not_false_eq_true, ↓reduceIte, nmS_eq, bd1_eq, bd2_eq, nI_add, pEqS, pk_mul, Nat.reduceAdd, Bool.false_eq_true, or_true, true_or, hw, hk, hk2, m1, g1]
