/-! ===== the reader: letters and tokens ===== -/
def dig (L : Nat) (t : Nat → Nat) (p : Nat) : Bool := decide (p < L ∧ 48 ≤ t p ∧ t p ≤ 57)
def ltr (L : Nat) (t : Nat → Nat) (p : Nat) : Int32 := if p < L then nI (t p) else -nI 1
def tok (L : Nat) (t : Nat → Nat) (p : Nat) : Nat := if dig L t p then (if dig L t (p + 1) && dig L t (p + 2) then 5 else 2) else if p < L then (if 97 ≤ t p ∧ t p ≤ 122 then 1 else if t p = 44 then 3 else if t p = 59 then 4 else 5) else 0
def v2 (L : Nat) (t : Nat → Nat) (p : Nat) : Nat := if dig L t (p + 1) then 10 * (t p - 48) + (t (p + 1) - 48) else t p - 48
def nd (L : Nat) (t : Nat → Nat) (p : Nat) : Nat := if dig L t (p + 1) then 2 else 1
theorem dig_t {L : Nat} {t : Nat → Nat} {p : Nat} (h : dig L t p = true) : p < L ∧ 48 ≤ t p ∧ t p ≤ 57 := of_decide_eq_true h
theorem dig_f {L : Nat} {t : Nat → Nat} {p : Nat} (h : dig L t p = false) : ¬ (p < L ∧ 48 ≤ t p ∧ t p ≤ 57) := of_decide_eq_false h
abbrev TX (L : Nat) (t : Nat → Nat) (σ : Sto) : Prop := (L ≤ 200) ∧ (σ.1 13 4 = nI L) ∧ (∀ i, i < L → t i < 256 ∧ σ.1 14 i = nI (t i))
theorem TX.n {L : Nat} {t : Nat → Nat} {σ : Sto} (h : TX L t σ) : L ≤ 200 := h.1
theorem TX.e {L : Nat} {t : Nat → Nat} {σ : Sto} (h : TX L t σ) : σ.1 13 4 = nI L := h.2.1
theorem TX.t {L : Nat} {t : Nat → Nat} {σ : Sto} (h : TX L t σ) : ∀ i, i < L → t i < 256 ∧ σ.1 14 i = nI (t i) := h.2.2
abbrev TM (L : Nat) (t : Nat → Nat) (τ : Sto) : Prop := (L ≤ 200) ∧ (τ.1 0 6 = nI L) ∧ (∀ i, i < L → t i < 256 ∧ τ.1 5 i = nI (t i))
theorem TM.n {L : Nat} {t : Nat → Nat} {τ : Sto} (h : TM L t τ) : L ≤ 200 := h.1
theorem TM.e {L : Nat} {t : Nat → Nat} {τ : Sto} (h : TM L t τ) : τ.1 0 6 = nI L := h.2.1
theorem TM.t {L : Nat} {t : Nat → Nat} {τ : Sto} (h : TM L t τ) : ∀ i, i < L → t i < 256 ∧ τ.1 5 i = nI (t i) := h.2.2
theorem e_X8_byteAt {L : Nat} {t : Nat → Nat} {τ : Sto} (h : TM L t τ) {p : Nat} (hp : p < 1000) : f_X8_byteAt (nI p) τ = some (ltr L t p, τ) := by
  have hn := h.n
  have he := h.e
  unfold ltr
  by_cases q : p < L
  · have h2 := (h.t p q).2
    simp (disch := omega) only [f_X8_byteAt, b_X8_byteAt_18, lit, pLeT, pLeF, pLtT, pLtF, pEqT, pEqF, nLeF, nLtF, nI_clamp, or_self, or_false, false_or, not_true_eq_false, not_false_eq_true, ↓reduceIte, nmS_eq, bd1_eq, bd2_eq, nI_add, pEqS, pk_mul, Nat.reduceAdd, Bool.false_eq_true, or_true, true_or, he, h2, q]
  · simp (disch := omega) only [f_X8_byteAt, b_X8_byteAt_18, lit, pLeT, pLeF, pLtT, pLtF, pEqT, pEqF, nLeF, nLtF, nI_clamp, or_self, or_false, false_or, not_true_eq_false, not_false_eq_true, ↓reduceIte, nmS_eq, bd1_eq, bd2_eq, nI_add, pEqS, pk_mul, Nat.reduceAdd, Bool.false_eq_true, or_true, true_or, he, q]
theorem e_X5_letter {L : Nat} {t : Nat → Nat} {σ : Sto} (h : TX L t σ) {p : Nat} (hp : p < 1000) (h6 : σ.1 13 6 = nI p) : f_X5_letter σ = some (ltr L t p, σ) := by
  have hn := h.n
  have he := h.e
  unfold ltr
  by_cases q : p < L
  · have h2 := (h.t p q).2
    simp (disch := omega) only [f_X5_letter, b_X5_letter_24, lit, pLeT, pLeF, pLtT, pLtF, pEqT, pEqF, nLeF, nLtF, nI_clamp, or_self, or_false, false_or, not_true_eq_false, not_false_eq_true, ↓reduceIte, nmS_eq, bd1_eq, bd2_eq, nI_add, pEqS, pk_mul, Nat.reduceAdd, Bool.false_eq_true, or_true, true_or, he, h6, h2, q]
  · simp (disch := omega) only [f_X5_letter, b_X5_letter_24, lit, pLeT, pLeF, pLtT, pLtF, pEqT, pEqF, nLeF, nLtF, nI_clamp, or_self, or_false, false_or, not_true_eq_false, not_false_eq_true, ↓reduceIte, nmS_eq, bd1_eq, bd2_eq, nI_add, pEqS, pk_mul, Nat.reduceAdd, Bool.false_eq_true, or_true, true_or, he, h6, q]
theorem in_nI {c lo hi : Nat} (hc : c < 100000) (hl : lo < 100000) (hh : hi < 100000) (τ : Sto) : f_X8_in (nI c) (nI lo) (nI hi) τ = some (if lo ≤ c ∧ c ≤ hi then nI 1 else nI 0, τ) := by
  rw [e_X8_in]
  by_cases q : lo ≤ c ∧ c ≤ hi
  · rw [if_pos q, if_neg]
    intro z
    rcases z with z | z
    · exact nI_nlt q.1 (by omega) z
    · exact nI_nlt q.2 (by omega) z
  · rw [if_neg q, if_pos]
    by_cases q2 : c < lo
    · exact Or.inl (nI_lt q2 (by omega))
    · exact Or.inr (nI_lt (by omega) (by omega))
theorem in_m1 {lo hi : Nat} (hl : lo < 100000) (τ : Sto) : f_X8_in (-nI 1) (nI lo) (nI hi) τ = some (nI 0, τ) := by
  rw [e_X8_in, if_pos]
  left
  rw [ltI, nI_toInt (by omega)]
  have : (-nI 1).toInt = -1 := by decide
  omega
theorem in_dig {L : Nat} {t : Nat → Nat} {p : Nat} (hb : p < L → t p < 256) (τ : Sto) : f_X8_in (ltr L t p) (nI 48) (nI 57) τ = some (if dig L t p then nI 1 else nI 0, τ) := by
  unfold ltr
  by_cases q : p < L
  · have := hb q
    rw [if_pos q, in_nI (by omega) (by omega) (by omega)]
    cases hd : dig L t p
    · have := dig_f hd
      rw [if_neg (by omega)]
      rfl
    · have := dig_t hd
      rw [if_pos (by omega)]
      rfl
  · rw [if_neg q, in_m1 (by omega)]
    cases hd : dig L t p
    · rfl
    · have := dig_t hd
      omega
/-- the model stands ahead of the token at p -/
abbrev SM (L : Nat) (t : Nat → Nat) (p : Nat) (τ : Sto) : Prop := (τ.1 0 8 = -nI 1) ∧ (τ.1 0 10 = nI p) ∧ (τ.1 0 11 = nI (tok L t p)) ∧ (tok L t p = 1 → τ.1 0 12 = nI (t p) ∧ τ.1 0 9 = nI (p + 1)) ∧ (tok L t p = 2 → τ.1 0 12 = nI (v2 L t p) ∧ τ.1 0 9 = nI (p + nd L t p)) ∧ (tok L t p = 3 ∨ tok L t p = 4 → τ.1 0 9 = nI (p + 1))
theorem SM.w {L : Nat} {t : Nat → Nat} {p : Nat} {τ : Sto} (h : SM L t p τ) : τ.1 0 8 = -nI 1 := h.1
theorem SM.s {L : Nat} {t : Nat → Nat} {p : Nat} {τ : Sto} (h : SM L t p τ) : τ.1 0 10 = nI p := h.2.1
theorem SM.k {L : Nat} {t : Nat → Nat} {p : Nat} {τ : Sto} (h : SM L t p τ) : τ.1 0 11 = nI (tok L t p) := h.2.2.1
theorem SM.a {L : Nat} {t : Nat → Nat} {p : Nat} {τ : Sto} (h : SM L t p τ) : tok L t p = 1 → τ.1 0 12 = nI (t p) ∧ τ.1 0 9 = nI (p + 1) := h.2.2.2.1
theorem SM.b {L : Nat} {t : Nat → Nat} {p : Nat} {τ : Sto} (h : SM L t p τ) : tok L t p = 2 → τ.1 0 12 = nI (v2 L t p) ∧ τ.1 0 9 = nI (p + nd L t p) := h.2.2.2.2.1
theorem SM.c {L : Nat} {t : Nat → Nat} {p : Nat} {τ : Sto} (h : SM L t p τ) : tok L t p = 3 ∨ tok L t p = 4 → τ.1 0 9 = nI (p + 1) := h.2.2.2.2.2
abbrev Lm (τ τ' : Sto) : Prop := (∀ c j, ¬ (c = 0 ∧ 9 ≤ j ∧ j ≤ 12) → τ'.1 c j = τ.1 c j) ∧ (τ'.2 = τ.2)
theorem Lm.i {τ τ' : Sto} (h : Lm τ τ') : ∀ c j, ¬ (c = 0 ∧ 9 ≤ j ∧ j ≤ 12) → τ'.1 c j = τ.1 c j := h.1
theorem Lm.l {τ τ' : Sto} (h : Lm τ τ') : τ'.2 = τ.2 := h.2
theorem Lm.rfl {τ : Sto} : Lm τ τ := ⟨fun _ _ _ => Eq.refl _, Eq.refl _⟩
theorem Lm.trans {τ τ1 τ2 : Sto} (h : Lm τ τ1) (h2 : Lm τ1 τ2) : Lm τ τ2 := ⟨fun c j q => (h2.i c j q).trans (h.i c j q), h2.l.trans h.l⟩
theorem Lm.p {τ : Sto} (j : Nat) (x : Int32) (h : 9 ≤ j ∧ j ≤ 12) : Lm τ (pI τ 0 j x) := ⟨fun c i q => pI_no (by omega), pI_2 x⟩
theorem TM.lm {L : Nat} {t : Nat → Nat} {τ τ' : Sto} (h : TM L t τ) (hl : Lm τ τ') : TM L t τ' := ⟨h.n, by rw [hl.i _ _ (by omega)]; exact h.e, fun i hi => by rw [hl.i _ _ (by omega)]; exact h.t i hi⟩
/-- figures behind the third -/
theorem l_X8_adv3 {L : Nat} {t : Nat → Nat} {p : Nat} (n : Nat) (j : Nat) : ∀ q (τ : Sto), TM L t τ → L + 3 - q ≤ j → p + 3 ≤ q → q ≤ L → τ.1 0 9 = nI q → τ.1 0 10 = nI p → ∃ τ', l_X8_advances_38 (n + 1 + j) τ = some τ' ∧ τ'.1 0 11 = nI 5 ∧ τ'.1 0 10 = nI p ∧ Lm τ τ' := by
  induction j with
  | zero => intro q τ h h1 h2 h3; omega
  | succ j ih =>
    intro q τ h h1 h2 h3 h9 h10
    have hn := h.n
    have hb := e_X8_byteAt h (p := q) (by omega)
    have hd := in_dig (p := q) (fun z => (h.t q z).1) τ
    have hl : l_X8_advances_38 (n + 1 + (j + 1)) τ = b_X8_advances_38 (l_X8_advances_38 (n + 1 + j)) τ := rfl
    rw [hl]
    cases hq : dig L t q
    · rw [hq] at hd
      refine ⟨pI τ 0 11 (nI 5), ?_, pI_at _, by rw [pI_nj (by omega)]; exact h10, Lm.p _ _ (by omega)⟩
      simp (disch := omega) only [b_X8_advances_38, b_X8_advances_131, lit, pLeT, pLeF, pLtT, pLtF, pEqT, pEqF, nLeF, nLtF, nI_clamp, or_self, or_false, false_or, not_true_eq_false, not_false_eq_true, ↓reduceIte, nmS_eq, bd1_eq, bd2_eq, nI_add, pEqS, pk_mul, Nat.reduceAdd, Bool.false_eq_true, or_true, true_or, h9, h10, hb, hd, pk_sub]
    · rw [hq] at hd
      have hq2 := dig_t hq
      obtain ⟨τ', k1, k2, k3, k4⟩ := ih (q + 1) (pI (pI τ 0 12 (τ.1 0 12)) 0 9 (nI (q + 1))) (h.lm ((Lm.p _ _ (by omega)).trans (Lm.p _ _ (by omega)))) (by omega) (by omega) (by omega) (pI_at _) (by rw [pI_nj (by omega), pI_nj (by omega)]; exact h10)
      refine ⟨τ', ?_, k2, k3, ((Lm.p _ _ (by omega)).trans (Lm.p _ _ (by omega))).trans k4⟩
      rw [← k1]
      simp (disch := omega) only [b_X8_advances_38, b_X8_advances_96, lit, pLeT, pLeF, pLtT, pLtF, pEqT, pEqF, nLeF, nLtF, nI_clamp, or_self, or_false, false_or, not_true_eq_false, not_false_eq_true, ↓reduceIte, nmS_eq, bd1_eq, bd2_eq, nI_add, pEqS, pk_mul, Nat.reduceAdd, Bool.false_eq_true, or_true, true_or, h9, h10, hb, hd, pk_sub, pI_nj]
/-- one figure -/
theorem adv_go {L : Nat} {t : Nat → Nat} {p q x : Nat} (n : Nat) {τ : Sto} (h : TM L t τ) (hq : dig L t q = true) (h2 : p ≤ q ∧ q < p + 2) (h9 : τ.1 0 9 = nI q) (h10 : τ.1 0 10 = nI p) (hx : τ.1 0 12 = nI x) (hx2 : x < 1000) : l_X8_advances_38 (n + 1) τ = l_X8_advances_38 n (pI (pI τ 0 12 (nI (10 * x + t q - 48))) 0 9 (nI (q + 1))) := by
  have hn := h.n
  have hq2 := dig_t hq
  have hb := e_X8_byteAt h (p := q) (by omega)
  have hd := in_dig (p := q) (fun z => (h.t q z).1) τ
  rw [hq] at hd
  have e : ltr L t q = nI (t q) := by unfold ltr; rw [if_pos hq2.1]
  rw [e] at hb hd
  show b_X8_advances_38 (l_X8_advances_38 n) τ = _
  simp (disch := omega) only [b_X8_advances_38, b_X8_advances_96, lit, pLeT, pLeF, pLtT, pLtF, pEqT, pEqF, nLeF, nLtF, nI_clamp, or_self, or_false, false_or, not_true_eq_false, not_false_eq_true, ↓reduceIte, nmS_eq, bd1_eq, bd2_eq, nI_add, pEqS, pk_mul, Nat.reduceAdd, Bool.false_eq_true, or_true, true_or, h9, h10, hx, hb, hd, pk_sub, pI_nj]
theorem adv_go3 {L : Nat} {t : Nat → Nat} {p q : Nat} (n : Nat) {τ : Sto} (h : TM L t τ) (hq : dig L t q = true) (h2 : p + 2 ≤ q) (h9 : τ.1 0 9 = nI q) (h10 : τ.1 0 10 = nI p) : l_X8_advances_38 (n + 1) τ = l_X8_advances_38 n (pI (pI τ 0 12 (τ.1 0 12)) 0 9 (nI (q + 1))) := by
  have hn := h.n
  have hq2 := dig_t hq
  have hb := e_X8_byteAt h (p := q) (by omega)
  have hd := in_dig (p := q) (fun z => (h.t q z).1) τ
  rw [hq] at hd
  show b_X8_advances_38 (l_X8_advances_38 n) τ = _
  simp (disch := omega) only [b_X8_advances_38, b_X8_advances_96, lit, pLeT, pLeF, pLtT, pLtF, pEqT, pEqF, nLeF, nLtF, nI_clamp, or_self, or_false, false_or, not_true_eq_false, not_false_eq_true, ↓reduceIte, nmS_eq, bd1_eq, bd2_eq, nI_add, pEqS, pk_mul, Nat.reduceAdd, Bool.false_eq_true, or_true, true_or, h9, h10, hb, hd, pk_sub, pI_nj]
theorem adv_stop {L : Nat} {t : Nat → Nat} {p q : Nat} (n : Nat) {τ : Sto} (h : TM L t τ) (hq : dig L t q = false) (h2 : p ≤ q ∧ q < p + 3) (hq2 : q ≤ 1 + L) (h9 : τ.1 0 9 = nI q) (h10 : τ.1 0 10 = nI p) : l_X8_advances_38 (n + 1) τ = some (pI τ 0 11 (nI 2)) := by
  have hn := h.n
  have hb := e_X8_byteAt h (p := q) (by omega)
  have hd := in_dig (p := q) (fun z => (h.t q z).1) τ
  rw [hq] at hd
  show b_X8_advances_38 (l_X8_advances_38 n) τ = _
  simp (disch := omega) only [b_X8_advances_38, b_X8_advances_131, lit, pLeT, pLeF, pLtT, pLtF, pEqT, pEqF, nLeF, nLtF, nI_clamp, or_self, or_false, false_or, not_true_eq_false, not_false_eq_true, ↓reduceIte, nmS_eq, bd1_eq, bd2_eq, nI_add, pEqS, pk_mul, Nat.reduceAdd, Bool.false_eq_true, or_true, true_or, h9, h10, hb, hd, pk_sub]
theorem e_X8_advances {L : Nat} {t : Nat → Nat} {p : Nat} {τ : Sto} (h : TM L t τ) (hp : p ≤ L) (h9 : τ.1 0 9 = nI p) (hw : τ.1 0 8 = -nI 1) : ∃ τ', f_X8_advances τ = some τ' ∧ SM L t p τ' ∧ Lm τ τ' := by
  have hn := h.n
  have l1 : Lm τ (pI (pI τ 0 10 (nI p)) 0 12 (ltr L t p)) := (Lm.p _ _ (by omega)).trans (Lm.p _ _ (by omega))
  have hb := e_X8_byteAt (h.lm (Lm.p 10 (nI p) (by omega))) (p := p) (by omega)
  generalize hs : pI (pI τ 0 10 (nI p)) 0 12 (ltr L t p) = τ1 at l1
  have hd := in_dig (p := p) (fun z => (h.t p z).1) τ1
  have a9 : τ1.1 0 9 = nI p := by rw [← hs, pI_nj (by omega), pI_nj (by omega)]; exact h9
  have a10 : τ1.1 0 10 = nI p := by rw [← hs, pI_nj (by omega), pI_at]
  have a8 : τ1.1 0 8 = -nI 1 := by rw [l1.i _ _ (by omega)]; exact hw
  have start : f_X8_advances τ = if dig L t p then l_X8_advances_38 400 (pI τ1 0 12 (nI 0)) else (if nI 0 ≤ ltr L t p then (bd2 (f_X8_in (ltr L t p) (nI 97) (nI 122) τ1) fun r s => if r = nI 0 then (if ltr L t p = nI 44 then b_X8_advances_180 (nI 3) s else (if ltr L t p = nI 59 then b_X8_advances_180 (nI 4) s else b_X8_advances_180 (nI 5) s)) else b_X8_advances_180 (nI 1) s) else b_X8_advances_180 (nI 0) τ1) := by
    cases hdp : dig L t p <;> rw [hdp] at hd <;> simp (disch := omega) only [f_X8_advances, lit, pLeT, pLeF, pLtT, pLtF, pEqT, pEqF, nLeF, nLtF, nI_clamp, or_self, or_false, false_or, not_true_eq_false, not_false_eq_true, ↓reduceIte, nmS_eq, bd1_eq, bd2_eq, nI_add, pEqS, pk_mul, Nat.reduceAdd, Bool.false_eq_true, or_true, true_or, h9, pI_nj, hb, hs, hd]
  rw [start]
  cases hdp : dig L t p
  · rw [if_neg (by decide)]
    have c180 : ∀ k, k < 6 → b_X8_advances_180 (nI k) τ1 = some (pI (pI τ1 0 11 (nI k)) 0 9 (nI (p + if k = 0 then 0 else 1))) := by
      intro k hk
      by_cases e : k = 0
      · subst e
        simp (disch := omega) only [b_X8_advances_180, b_X8_advances_200, lit, pLeT, pLeF, pLtT, pLtF, pEqT, pEqF, nLeF, nLtF, nI_clamp, or_self, or_false, false_or, not_true_eq_false, not_false_eq_true, ↓reduceIte, nmS_eq, bd1_eq, bd2_eq, nI_add, pEqS, pk_mul, Nat.reduceAdd, Bool.false_eq_true, or_true, true_or, pI_at, pI_nj, a9]
      · simp (disch := omega) only [b_X8_advances_180, b_X8_advances_200, lit, pLeT, pLeF, pLtT, pLtF, pEqT, pEqF, nLeF, nLtF, nI_clamp, or_self, or_false, false_or, not_true_eq_false, not_false_eq_true, ↓reduceIte, nmS_eq, bd1_eq, bd2_eq, nI_add, pEqS, pk_mul, Nat.reduceAdd, Bool.false_eq_true, or_true, true_or, pI_at, pI_nj, a9, e]
    have fin : ∀ k, k < 6 → tok L t p = k → k ≠ 2 → (k = 1 → p < L) → SM L t p (pI (pI τ1 0 11 (nI k)) 0 9 (nI (p + if k = 0 then 0 else 1))) ∧ Lm τ (pI (pI τ1 0 11 (nI k)) 0 9 (nI (p + if k = 0 then 0 else 1))) := by
      intro k hk hk2 hk3 hk4
      refine ⟨⟨by rw [pI_nj (by omega), pI_nj (by omega)]; exact a8, by rw [pI_nj (by omega), pI_nj (by omega)]; exact a10, by rw [pI_nj (by omega), pI_at, hk2], fun e => ?_, fun e => by omega, fun e => ?_⟩, l1.trans ((Lm.p _ _ (by omega)).trans (Lm.p _ _ (by omega)))⟩
      · refine ⟨?_, by rw [pI_at, if_neg (by omega)]⟩
        rw [pI_nj (by omega), pI_nj (by omega), ← hs, pI_at]
        unfold ltr
        rw [if_pos (hk4 (by omega))]
      · rw [pI_at, if_neg (by omega)]
    by_cases q : p < L
    · have hc := (h.t p q).1
      have el : ltr L t p = nI (t p) := by unfold ltr; rw [if_pos q]
      rw [el, if_pos (nI_le (Nat.zero_le _) (by omega)), bd2_of (in_nI (by omega) (by omega) (by omega) τ1)]
      by_cases q1 : 97 ≤ t p ∧ t p ≤ 122
      · have ht : tok L t p = 1 := by unfold tok; rw [hdp, if_neg (by decide), if_pos q, if_pos q1]
        rw [if_pos q1, if_neg (by decide)]
        exact ⟨_, c180 1 (by omega), fin 1 (by omega) ht (by omega) (fun _ => q)⟩
      · rw [if_neg q1, if_pos (by rfl)]
        by_cases q2 : t p = 44
        · have ht : tok L t p = 3 := by unfold tok; rw [hdp, if_neg (by decide), if_pos q, if_neg q1, if_pos q2]
          rw [q2, if_pos (by rfl)]
          exact ⟨_, c180 3 (by omega), fin 3 (by omega) ht (by omega) (fun e => by omega)⟩
        · rw [if_neg (fun e => q2 ((nI_eq (by omega) (by omega)).mp e))]
          by_cases q3 : t p = 59
          · have ht : tok L t p = 4 := by unfold tok; rw [hdp, if_neg (by decide), if_pos q, if_neg q1, if_neg q2, if_pos q3]
            rw [q3, if_pos (by rfl)]
            exact ⟨_, c180 4 (by omega), fin 4 (by omega) ht (by omega) (fun e => by omega)⟩
          · have ht : tok L t p = 5 := by unfold tok; rw [hdp, if_neg (by decide), if_pos q, if_neg q1, if_neg q2, if_neg q3]
            rw [if_neg (fun e => q3 ((nI_eq (by omega) (by omega)).mp e))]
            exact ⟨_, c180 5 (by omega), fin 5 (by omega) ht (by omega) (fun e => by omega)⟩
    · have el : ltr L t p = -nI 1 := by unfold ltr; rw [if_neg q]
      have ht : tok L t p = 0 := by unfold tok; rw [hdp, if_neg (by decide), if_neg q]
      rw [el, if_neg (by decide)]
      exact ⟨_, c180 0 (by omega), fin 0 (by omega) ht (by omega) (fun e => by omega)⟩
  · rw [if_pos rfl]
    have hd0 := dig_t hdp
    have m1 := h.lm l1
    have l2 : Lm τ1 (pI τ1 0 12 (nI 0)) := Lm.p _ _ (by omega)
    rw [show (400 : Nat) = 399 + 1 from rfl, adv_go (p := p) (q := p) (x := 0) 399 (m1.lm l2) hdp (by omega) (by rw [pI_nj (by omega)]; exact a9) (by rw [pI_nj (by omega)]; exact a10) (pI_at _) (by omega)]
    have l3 : Lm τ (pI (pI (pI τ1 0 12 (nI 0)) 0 12 (nI (10 * 0 + t p - 48))) 0 9 (nI (p + 1))) := l1.trans (l2.trans ((Lm.p _ _ (by omega)).trans (Lm.p _ _ (by omega))))
    generalize hs2 : pI (pI (pI τ1 0 12 (nI 0)) 0 12 (nI (10 * 0 + t p - 48))) 0 9 (nI (p + 1)) = τ2 at l3
    have b9 : τ2.1 0 9 = nI (p + 1) := by rw [← hs2, pI_at]
    have b10 : τ2.1 0 10 = nI p := by rw [← hs2, pI_nj (by omega), pI_nj (by omega), pI_nj (by omega)]; exact a10
    have b12 : τ2.1 0 12 = nI (t p - 48) := by rw [← hs2, pI_nj (by omega), pI_at, Nat.mul_zero, Nat.zero_add]
    have b8 : τ2.1 0 8 = -nI 1 := by rw [l3.i _ _ (by omega)]; exact hw
    have m2 := h.lm l3
    cases hd1 : dig L t (p + 1)
    · have ht : tok L t p = 2 := by unfold tok; rw [hdp, if_pos rfl, hd1]; rfl
      refine ⟨_, adv_stop (p := p) (q := p + 1) 398 m2 hd1 (by omega) (by omega) b9 b10, ⟨by rw [pI_nj (by omega)]; exact b8, by rw [pI_nj (by omega)]; exact b10, by rw [pI_at, ht], fun e => by omega, fun _ => ⟨?_, ?_⟩, fun e => by omega⟩, l3.trans (Lm.p _ _ (by omega))⟩
      · rw [pI_nj (by omega), b12]
        unfold v2
        rw [hd1, if_neg (by decide)]
      · rw [pI_nj (by omega), b9]
        unfold nd
        rw [hd1, if_neg (by decide)]
    · have hd1' := dig_t hd1
      rw [show (399 : Nat) = 398 + 1 from rfl, adv_go (p := p) (q := p + 1) (x := t p - 48) 398 m2 hd1 (by omega) b9 b10 b12 (by omega)]
      have l4 : Lm τ (pI (pI τ2 0 12 (nI (10 * (t p - 48) + t (p + 1) - 48))) 0 9 (nI (p + 1 + 1))) := l3.trans ((Lm.p _ _ (by omega)).trans (Lm.p _ _ (by omega)))
      generalize hs3 : pI (pI τ2 0 12 (nI (10 * (t p - 48) + t (p + 1) - 48))) 0 9 (nI (p + 1 + 1)) = τ3 at l4
      have c9 : τ3.1 0 9 = nI (p + 2) := by rw [← hs3, pI_at]
      have c10 : τ3.1 0 10 = nI p := by rw [← hs3, pI_nj (by omega), pI_nj (by omega)]; exact b10
      have c12 : τ3.1 0 12 = nI (10 * (t p - 48) + (t (p + 1) - 48)) := by
        rw [← hs3, pI_nj (by omega), pI_at]
        congr 1
        omega
      have c8 : τ3.1 0 8 = -nI 1 := by rw [l4.i _ _ (by omega)]; exact hw
      have m3 := h.lm l4
      cases hd2 : dig L t (p + 2)
      · have ht : tok L t p = 2 := by unfold tok; rw [hdp, if_pos rfl, hd1, hd2]; rfl
        refine ⟨_, adv_stop (p := p) (q := p + 2) 397 m3 hd2 (by omega) (by omega) c9 c10, ⟨by rw [pI_nj (by omega)]; exact c8, by rw [pI_nj (by omega)]; exact c10, by rw [pI_at, ht], fun e => by omega, fun _ => ⟨?_, ?_⟩, fun e => by omega⟩, l4.trans (Lm.p _ _ (by omega))⟩
        · rw [pI_nj (by omega), c12]
          unfold v2
          rw [hd1, if_pos rfl]
        · rw [pI_nj (by omega), c9]
          unfold nd
          rw [hd1, if_pos rfl]
      · have hd2' := dig_t hd2
        have ht : tok L t p = 5 := by unfold tok; rw [hdp, if_pos rfl, hd1, hd2]; rfl
        rw [show (398 : Nat) = 397 + 1 from rfl, adv_go3 (p := p) (q := p + 2) 397 m3 hd2 (by omega) c9 c10]
        have l5 : Lm τ (pI (pI τ3 0 12 (τ3.1 0 12)) 0 9 (nI (p + 2 + 1))) := l4.trans ((Lm.p _ _ (by omega)).trans (Lm.p _ _ (by omega)))
        obtain ⟨τ', k1, k2, k3, k4⟩ := l_X8_adv3 (L := L) (t := t) (p := p) (396 - (L + 3)) (L + 3) (p + 3) (pI (pI τ3 0 12 (τ3.1 0 12)) 0 9 (nI (p + 2 + 1))) (h.lm l5) (by omega) (by omega) (by omega) (pI_at _) (by rw [pI_nj (by omega), pI_nj (by omega)]; exact c10)
        rw [show 396 - (L + 3) + 1 + (L + 3) = 397 by omega] at k1
        have l6 := l5.trans k4
        exact ⟨τ', k1, ⟨by rw [l6.i _ _ (by omega)]; exact hw, k3, by rw [k2, ht], fun e => by omega, fun e => by omega, fun e => by omega⟩, l6⟩
