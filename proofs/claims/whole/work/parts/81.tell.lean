/-! ===== what is told of all clauses ===== -/
def anyA (p : Nat → Bool) : Nat → Nat → Bool
  | 0, _ => false
  | j + 1, i => p i || anyA p j (i + 1)
theorem anyA_ext {p : Nat → Bool} (m j : Nat) : ∀ i, (∀ a, i + j ≤ a → p a = false) → anyA p (j + m) i = anyA p j i := by
  induction j with
  | zero =>
    intro i h
    rw [Nat.zero_add]
    induction m generalizing i with
    | zero => rfl
    | succ m ih =>
      show (p i || anyA p m (i + 1)) = false
      rw [h i (by omega), ih (i + 1) (fun a ha => h a (by omega))]
      rfl
  | succ j ih =>
    intro i h
    rw [show j + 1 + m = (j + m) + 1 by omega]
    show (p i || anyA p (j + m) (i + 1)) = (p i || anyA p j (i + 1))
    rw [ih (i + 1) (fun a ha => h a (by omega))]
theorem anyA_f {p : Nat → Bool} (j : Nat) : ∀ i, anyA p j i = false → ∀ a, i ≤ a → a < i + j → p a = false := by
  induction j with
  | zero => intro i _ a h1 h2; omega
  | succ j ih =>
    intro i h a h1 h2
    have h : (p i || anyA p j (i + 1)) = false := h
    rw [Bool.or_eq_false_iff] at h
    by_cases e : a = i
    · subst e; exact h.1
    · exact ih (i + 1) h.2 a (by omega) (by omega)
/-- beyond -/
def bey (σ : Sto) (lv : Nat) : Nat → Bool := fun a => lv.testBit a && !decide (0 ≤ tot (σ.2 (36 + 2 * a + 1)))
def imp (σ : Sto) (lv : Nat) : Nat → Bool := fun a => lv.testBit a && !decide (σ.2 (36 + 2 * a) 2 ≤ tot (σ.2 (36 + 2 * a + 1)))
def nho (σ : Sto) (lv : Nat) (x : Int32) : Nat → Bool := fun a => lv.testBit a && decide (slk (σ.2 (36 + 2 * a + 1)) (σ.2 (36 + 2 * a) 2) (nI 255) x < 0)
theorem lvb {u lv : Nat} {σ τ : Sto} (h : RU u lv σ τ) {a : Nat} (ha : a < 30) : bt (σ.1 33 4) a = lv.testBit a := by
  have h30 := pw30 h.bk.hl h.bk.hu
  rw [h.lv]
  exact nI_bt (by omega) (by omega)
theorem lvu {u lv : Nat} {σ τ : Sto} (h : RU u lv σ τ) {a : Nat} (ha : lv.testBit a = true) : a < u := by
  apply Nat.lt_of_not_le
  intro z
  rw [tb_of h.bk.hl z] at ha
  cases ha
theorem l_X2_isBeyond {u lv : Nat} {σ τ : Sto} (h : RU u lv σ τ) (n : Nat) (j : Nat) : ∀ i, i + j = u → l_X2_isBeyond_2 33 (n + 1 + j) (nI i) σ = some (if anyA (bey σ lv) j i then nI 1 else nI 0, σ) := by
  have hu := h.bk.hu
  have hus := h.us
  induction j with
  | zero =>
    intro i hi
    have e : i = u := by omega
    subst e
    show b_X2_isBeyond_2 _ 33 (nI i) σ = _
    simp (disch := omega) only [b_X2_isBeyond_2, lit, pLeT, pLeF, pLtT, pLtF, pEqT, pEqF, nLeF, nLtF, nI_clamp, or_self, or_false, false_or, not_true_eq_false, not_false_eq_true, ↓reduceIte, nmS_eq, bd1_eq, bd2_eq, nI_add, pEqS, pk_mul, Nat.reduceAdd, Bool.false_eq_true, or_true, true_or, hus, anyA]
  | succ j ih0 =>
    intro i hi
    have ih := ih0 (i + 1) (by omega)
    show b_X2_isBeyond_2 (l_X2_isBeyond_2 33 (n + 1 + j)) 33 (nI i) σ = some (if (bey σ lv i || anyA (bey σ lv) j (i + 1)) then nI 1 else nI 0, σ)
    have hb := lvb h (a := i) (by omega)
    cases h1 : lv.testBit i
    · have e : bey σ lv i = false := by unfold bey; rw [h1]; rfl
      rw [h1] at hb
      simp (disch := omega) only [b_X2_isBeyond_2, b_X2_isBeyond_32, lit, pLeT, pLeF, pLtT, pLtF, pEqT, pEqF, nLeF, nLtF, nI_clamp, or_self, or_false, false_or, not_true_eq_false, not_false_eq_true, ↓reduceIte, nmS_eq, bd1_eq, bd2_eq, nI_add, pEqS, pk_mul, Nat.reduceAdd, Bool.false_eq_true, or_true, true_or, hus, e_X2_isLive, hb, ih, e, Bool.false_or]
    · rw [h1] at hb
      by_cases q : 0 ≤ tot (σ.2 (36 + 2 * i + 1))
      · have e : bey σ lv i = false := by unfold bey; rw [h1, decide_eq_true q]; rfl
        simp (disch := omega) only [b_X2_isBeyond_2, b_X2_isBeyond_32, lit, pLeT, pLeF, pLtT, pLtF, pEqT, pEqF, nLeF, nLtF, nI_clamp, or_self, or_false, false_or, not_true_eq_false, not_false_eq_true, ↓reduceIte, nmS_eq, bd1_eq, bd2_eq, nI_add, pEqS, pk_mul, Nat.reduceAdd, Bool.false_eq_true, or_true, true_or, hus, e_X2_isLive, hb, ih, e, Bool.false_or, e_X3_isBeyond, q]
      · have e : bey σ lv i = true := by unfold bey; rw [h1, decide_eq_false q]; rfl
        simp (disch := omega) only [b_X2_isBeyond_2, b_X2_isBeyond_32, lit, pLeT, pLeF, pLtT, pLtF, pEqT, pEqF, nLeF, nLtF, nI_clamp, or_self, or_false, false_or, not_true_eq_false, not_false_eq_true, ↓reduceIte, nmS_eq, bd1_eq, bd2_eq, nI_add, pEqS, pk_mul, Nat.reduceAdd, Bool.false_eq_true, or_true, true_or, hus, e_X2_isLive, hb, ih, e, Bool.true_or, e_X3_isBeyond, q]
theorem l_X8_isOver {u lv : Nat} {σ τ : Sto} (h : RU u lv σ τ) (n : Nat) (j : Nat) : ∀ i (z : Bool), i + j = 30 → l_X8_isOver_4 (n + 1 + j) (if z then nI 1 else nI 0) (nI i) τ = some (if z || anyA (bey σ lv) j i then nI 1 else nI 0, τ) := by
  have hu := h.bk.hu
  have h30 := pw30 h.bk.hl h.bk.hu
  have hwl := h.bk.wl
  induction j with
  | zero =>
    intro i z hi
    have e : i = 30 := by omega
    subst e
    show b_X8_isOver_4 _ (if z then nI 1 else nI 0) (nI 30) τ = some (if z || false then nI 1 else nI 0, τ)
    cases z <;> simp (disch := omega) only [b_X8_isOver_4, lit, pLeT, pLeF, pLtT, pLtF, pEqT, pEqF, nLeF, nLtF, nI_clamp, or_self, or_false, false_or, not_true_eq_false, not_false_eq_true, ↓reduceIte, nmS_eq, bd1_eq, bd2_eq, nI_add, pEqS, pk_mul, Nat.reduceAdd, Bool.false_eq_true, or_true, true_or, Bool.or_false]
  | succ j ih0 =>
    intro i z hi
    have ihF : l_X8_isOver_4 (n + 1 + j) (nI 0) (nI (i + 1)) τ = some (if anyA (bey σ lv) j (i + 1) then nI 1 else nI 0, τ) := ih0 (i + 1) false (by omega)
    have ihT : l_X8_isOver_4 (n + 1 + j) (nI 1) (nI (i + 1)) τ = some (nI 1, τ) := ih0 (i + 1) true (by omega)
    show b_X8_isOver_4 (l_X8_isOver_4 (n + 1 + j)) (if z then nI 1 else nI 0) (nI i) τ = some (if z || (bey σ lv i || anyA (bey σ lv) j (i + 1)) then nI 1 else nI 0, τ)
    have hb := e_X8_isLive τ hwl h30 (i := i) (by omega)
    cases z
    · cases h1 : lv.testBit i
      · have e : bey σ lv i = false := by unfold bey; rw [h1]; rfl
        rw [h1] at hb
        simp (disch := omega) only [b_X8_isOver_4, b_X8_isOver_45, b_X8_isOver_46, lit, pLeT, pLeF, pLtT, pLtF, pEqT, pEqF, nLeF, nLtF, nI_clamp, or_self, or_false, false_or, not_true_eq_false, not_false_eq_true, ↓reduceIte, nmS_eq, bd1_eq, bd2_eq, nI_add, pEqS, pk_mul, Nat.reduceAdd, Bool.false_eq_true, or_true, true_or, hb, ihF, e, Bool.false_or]
      · rw [h1] at hb
        have hs := h.sumM (lvu h h1)
        by_cases q : 0 ≤ tot (σ.2 (36 + 2 * i + 1))
        · have e : bey σ lv i = false := by unfold bey; rw [h1, decide_eq_true q]; rfl
          simp (disch := omega) only [b_X8_isOver_4, b_X8_isOver_45, b_X8_isOver_46, lit, pLeT, pLeF, pLtT, pLtF, pEqT, pEqF, nLeF, nLtF, nI_clamp, or_self, or_false, false_or, not_true_eq_false, not_false_eq_true, ↓reduceIte, nmS_eq, bd1_eq, bd2_eq, nI_add, pEqS, pk_mul, Nat.reduceAdd, Bool.false_eq_true, or_true, true_or, hb, hs, ihF, e, Bool.false_or, q]
        · have e : bey σ lv i = true := by unfold bey; rw [h1, decide_eq_false q]; rfl
          simp (disch := omega) only [b_X8_isOver_4, b_X8_isOver_41, b_X8_isOver_46, lit, pLeT, pLeF, pLtT, pLtF, pEqT, pEqF, nLeF, nLtF, nI_clamp, or_self, or_false, false_or, not_true_eq_false, not_false_eq_true, ↓reduceIte, nmS_eq, bd1_eq, bd2_eq, nI_add, pEqS, pk_mul, Nat.reduceAdd, Bool.false_eq_true, or_true, true_or, hb, hs, ihT, e, Bool.false_or, Bool.true_or, q]
    · simp (disch := omega) only [b_X8_isOver_4, b_X8_isOver_41, b_X8_isOver_46, lit, pLeT, pLeF, pLtT, pLtF, pEqT, pEqF, nLeF, nLtF, nI_clamp, or_self, or_false, false_or, not_true_eq_false, not_false_eq_true, ↓reduceIte, nmS_eq, bd1_eq, bd2_eq, nI_add, pEqS, pk_mul, Nat.reduceAdd, Bool.false_eq_true, or_true, true_or, ihT, Bool.true_or]
theorem RU.over {u lv : Nat} {σ τ : Sto} (h : RU u lv σ τ) : ∃ z : Bool, f_X2_isBeyond 33 σ = some (if z then nI 1 else nI 0, σ) ∧ f_X8_isOver τ = some (if z then nI 1 else nI 0, τ) ∧ (z = false → ∀ a, lv.testBit a = true → 0 ≤ tot (σ.2 (36 + 2 * a + 1))) := by
  have hu := h.bk.hu
  refine ⟨anyA (bey σ lv) u 0, ?_, ?_, ?_⟩
  · have h1 := l_X2_isBeyond h (399 - u) u 0 (by omega)
    rw [show 399 - u + 1 + u = 400 by omega] at h1
    exact h1
  · have h1 := l_X8_isOver h 369 30 0 false (by omega)
    have h2 := anyA_ext (p := bey σ lv) (30 - u) u 0 (fun a ha => by unfold bey; rw [tb_of h.bk.hl (by omega)]; rfl)
    rw [show u + (30 - u) = 30 by omega] at h2
    rw [h2] at h1
    exact h1
  · intro z a ha
    have h1 := anyA_f u 0 z a (by omega) (by have := lvu h ha; omega)
    unfold bey at h1
    rw [ha] at h1
    by_cases q : 0 ≤ tot (σ.2 (36 + 2 * a + 1))
    · exact q
    · rw [decide_eq_false q] at h1
      cases h1
/-! impossible ones -/
theorem l_X2_hasImpossible {u lv : Nat} {σ τ : Sto} (h : RU u lv σ τ) (n : Nat) (j : Nat) : ∀ i, i + j = u → l_X2_hasImpossible_2 33 (n + 1 + j) (nI i) σ = some (if anyA (imp σ lv) j i then nI 1 else nI 0, σ) := by
  have hu := h.bk.hu
  have hus := h.us
  induction j with
  | zero =>
    intro i hi
    have e : i = u := by omega
    subst e
    show b_X2_hasImpossible_2 _ 33 (nI i) σ = _
    simp (disch := omega) only [b_X2_hasImpossible_2, lit, pLeT, pLeF, pLtT, pLtF, pEqT, pEqF, nLeF, nLtF, nI_clamp, or_self, or_false, false_or, not_true_eq_false, not_false_eq_true, ↓reduceIte, nmS_eq, bd1_eq, bd2_eq, nI_add, pEqS, pk_mul, Nat.reduceAdd, Bool.false_eq_true, or_true, true_or, hus, anyA]
  | succ j ih0 =>
    intro i hi
    have ih := ih0 (i + 1) (by omega)
    show b_X2_hasImpossible_2 (l_X2_hasImpossible_2 33 (n + 1 + j)) 33 (nI i) σ = some (if (imp σ lv i || anyA (imp σ lv) j (i + 1)) then nI 1 else nI 0, σ)
    have hb := lvb h (a := i) (by omega)
    cases h1 : lv.testBit i
    · have e : imp σ lv i = false := by unfold imp; rw [h1]; rfl
      rw [h1] at hb
      simp (disch := omega) only [b_X2_hasImpossible_2, b_X2_hasImpossible_42, lit, pLeT, pLeF, pLtT, pLtF, pEqT, pEqF, nLeF, nLtF, nI_clamp, or_self, or_false, false_or, not_true_eq_false, not_false_eq_true, ↓reduceIte, nmS_eq, bd1_eq, bd2_eq, nI_add, pEqS, pk_mul, Nat.reduceAdd, Bool.false_eq_true, or_true, true_or, hus, e_X2_isLive, hb, ih, e, Bool.false_or]
    · rw [h1] at hb
      by_cases q : σ.2 (36 + 2 * i) 2 ≤ tot (σ.2 (36 + 2 * i + 1))
      · have e : imp σ lv i = false := by unfold imp; rw [h1, decide_eq_true q]; rfl
        simp (disch := omega) only [b_X2_hasImpossible_2, b_X2_hasImpossible_42, lit, pLeT, pLeF, pLtT, pLtF, pEqT, pEqF, nLeF, nLtF, nI_clamp, or_self, or_false, false_or, not_true_eq_false, not_false_eq_true, ↓reduceIte, nmS_eq, bd1_eq, bd2_eq, nI_add, pEqS, pk_mul, Nat.reduceAdd, Bool.false_eq_true, or_true, true_or, hus, e_X2_isLive, hb, ih, e, Bool.false_or, e_X3_total, q]
      · have e : imp σ lv i = true := by unfold imp; rw [h1, decide_eq_false q]; rfl
        simp (disch := omega) only [b_X2_hasImpossible_2, b_X2_hasImpossible_42, lit, pLeT, pLeF, pLtT, pLtF, pEqT, pEqF, nLeF, nLtF, nI_clamp, or_self, or_false, false_or, not_true_eq_false, not_false_eq_true, ↓reduceIte, nmS_eq, bd1_eq, bd2_eq, nI_add, pEqS, pk_mul, Nat.reduceAdd, Bool.false_eq_true, or_true, true_or, hus, e_X2_isLive, hb, ih, e, Bool.true_or, e_X3_total, q]
theorem l_X8_verdict {u lv : Nat} {σ τ : Sto} (h : RU u lv σ τ) (n : Nat) (j : Nat) : ∀ i (z : Bool), i + j = 30 → l_X8_verdict_28 (n + 1 + j) (if z then nI 1 else nI 0) (nI i) τ = some (if z || anyA (imp σ lv) j i then (if σ.1 33 5 = -nI 1000000 then nI 1 else nI 2) else nI 0, pI τ 0 4 (nI 0)) := by
  have hu := h.bk.hu
  have h30 := pw30 h.bk.hl h.bk.hu
  have hwl := h.bk.wl
  have hwb := h.bk.wb
  induction j with
  | zero =>
    intro i z hi
    have e : i = 30 := by omega
    subst e
    show b_X8_verdict_28 _ (if z then nI 1 else nI 0) (nI 30) τ = some (if z || false then _ else nI 0, pI τ 0 4 (nI 0))
    cases z
    · simp (disch := omega) only [b_X8_verdict_28, b_X8_verdict_118, lit, pLeT, pLeF, pLtT, pLtF, pEqT, pEqF, nLeF, nLtF, nI_clamp, or_self, or_false, false_or, not_true_eq_false, not_false_eq_true, ↓reduceIte, nmS_eq, bd1_eq, bd2_eq, nI_add, pEqS, pk_mul, Nat.reduceAdd, Bool.false_eq_true, or_true, true_or, Bool.or_false, e_X8_well]
    · by_cases q : σ.1 33 5 = -nI 1000000
      · have q2 : (τ.2 6 8 = (-1000000 : Int64)) = True := eq_true (by rw [hwb, q]; decide)
        simp (disch := omega) only [b_X8_verdict_28, b_X8_verdict_118, lit, pLeT, pLeF, pLtT, pLtF, pEqT, pEqF, nLeF, nLtF, nI_clamp, or_self, or_false, false_or, not_true_eq_false, not_false_eq_true, ↓reduceIte, nmS_eq, bd1_eq, bd2_eq, nI_add, pEqS, pk_mul, Nat.reduceAdd, Bool.false_eq_true, or_true, true_or, Bool.or_false, e_X8_well, q2, q]
      · have q2 : (τ.2 6 8 = (-1000000 : Int64)) = False := eq_false (fun z => q (by
          rw [← i_l_i (σ.1 33 5), ← hwb, z]
          decide))
        simp (disch := omega) only [b_X8_verdict_28, b_X8_verdict_118, lit, pLeT, pLeF, pLtT, pLtF, pEqT, pEqF, nLeF, nLtF, nI_clamp, or_self, or_false, false_or, not_true_eq_false, not_false_eq_true, ↓reduceIte, nmS_eq, bd1_eq, bd2_eq, nI_add, pEqS, pk_mul, Nat.reduceAdd, Bool.false_eq_true, or_true, true_or, Bool.or_false, e_X8_well, q2, q]
  | succ j ih0 =>
    intro i z hi
    have ihF : l_X8_verdict_28 (n + 1 + j) (nI 0) (nI (i + 1)) τ = some (if anyA (imp σ lv) j (i + 1) then (if σ.1 33 5 = -nI 1000000 then nI 1 else nI 2) else nI 0, pI τ 0 4 (nI 0)) := ih0 (i + 1) false (by omega)
    have ihT : l_X8_verdict_28 (n + 1 + j) (nI 1) (nI (i + 1)) τ = some (if σ.1 33 5 = -nI 1000000 then nI 1 else nI 2, pI τ 0 4 (nI 0)) := ih0 (i + 1) true (by omega)
    show b_X8_verdict_28 (l_X8_verdict_28 (n + 1 + j)) (if z then nI 1 else nI 0) (nI i) τ = some (if z || (imp σ lv i || anyA (imp σ lv) j (i + 1)) then (if σ.1 33 5 = -nI 1000000 then nI 1 else nI 2) else nI 0, pI τ 0 4 (nI 0))
    have hb := e_X8_isLive τ hwl h30 (i := i) (by omega)
    cases z
    · cases h1 : lv.testBit i
      · have e : imp σ lv i = false := by unfold imp; rw [h1]; rfl
        rw [h1] at hb
        simp (disch := omega) only [b_X8_verdict_28, b_X8_verdict_82, b_X8_verdict_83, lit, pLeT, pLeF, pLtT, pLtF, pEqT, pEqF, nLeF, nLtF, nI_clamp, or_self, or_false, false_or, not_true_eq_false, not_false_eq_true, ↓reduceIte, nmS_eq, bd1_eq, bd2_eq, nI_add, pEqS, pk_mul, Nat.reduceAdd, Bool.false_eq_true, or_true, true_or, hb, ihF, e, Bool.false_or]
      · rw [h1] at hb
        have hs := h.sumM (lvu h h1)
        have hd := h.dgm (lvu h h1)
        by_cases q : σ.2 (36 + 2 * i) 2 ≤ tot (σ.2 (36 + 2 * i + 1))
        · have e : imp σ lv i = false := by unfold imp; rw [h1, decide_eq_true q]; rfl
          simp (disch := omega) only [b_X8_verdict_28, b_X8_verdict_82, b_X8_verdict_83, lit, pLeT, pLeF, pLtT, pLtF, pEqT, pEqF, nLeF, nLtF, nI_clamp, or_self, or_false, false_or, not_true_eq_false, not_false_eq_true, ↓reduceIte, nmS_eq, bd1_eq, bd2_eq, nI_add, pEqS, pk_mul, Nat.reduceAdd, Bool.false_eq_true, or_true, true_or, hb, hs, hd, ihF, e, Bool.false_or, q]
        · have e : imp σ lv i = true := by unfold imp; rw [h1, decide_eq_false q]; rfl
          simp (disch := omega) only [b_X8_verdict_28, b_X8_verdict_78, b_X8_verdict_83, lit, pLeT, pLeF, pLtT, pLtF, pEqT, pEqF, nLeF, nLtF, nI_clamp, or_self, or_false, false_or, not_true_eq_false, not_false_eq_true, ↓reduceIte, nmS_eq, bd1_eq, bd2_eq, nI_add, pEqS, pk_mul, Nat.reduceAdd, Bool.false_eq_true, or_true, true_or, hb, hs, hd, ihT, e, Bool.false_or, Bool.true_or, q]
    · simp (disch := omega) only [b_X8_verdict_28, b_X8_verdict_78, b_X8_verdict_83, lit, pLeT, pLeF, pLtT, pLtF, pEqT, pEqF, nLeF, nLtF, nI_clamp, or_self, or_false, false_or, not_true_eq_false, not_false_eq_true, ↓reduceIte, nmS_eq, bd1_eq, bd2_eq, nI_add, pEqS, pk_mul, Nat.reduceAdd, Bool.false_eq_true, or_true, true_or, ihT, Bool.true_or]
theorem s_verdict : Sim RR f_X7_verdict f_X8_verdict := by
  intro σ τ ⟨u, lv, h⟩
  have hF := e_X8_isFormula h
  have hu := h.bk.hu
  rcases h.rd with q | q
  · rw [q] at hF
    refine ⟨-nI 1000002, σ, τ, ?_, ?_, u, lv, h⟩
    · simp (disch := omega) only [f_X7_verdict, lit, pLeT, pLeF, pLtT, pLtF, pEqT, pEqF, nLeF, nLtF, nI_clamp, or_self, or_false, false_or, not_true_eq_false, not_false_eq_true, ↓reduceIte, nmS_eq, bd1_eq, bd2_eq, nI_add, pEqS, pk_mul, Nat.reduceAdd, Bool.false_eq_true, or_true, true_or, q]
    · simp (disch := omega) only [f_X8_verdict, lit, pLeT, pLeF, pLtT, pLtF, pEqT, pEqF, nLeF, nLtF, nI_clamp, or_self, or_false, false_or, not_true_eq_false, not_false_eq_true, ↓reduceIte, nmS_eq, bd1_eq, bd2_eq, nI_add, pEqS, pk_mul, Nat.reduceAdd, Bool.false_eq_true, or_true, true_or, hF]
  · rw [q] at hF
    obtain ⟨z, z1, z2, z3⟩ := h.over
    cases z
    · have h1 : f_X2_hasImpossible 33 σ = some (if anyA (imp σ lv) u 0 then nI 1 else nI 0, σ) := by
        have h1 := l_X2_hasImpossible h (399 - u) u 0 (by omega)
        rw [show 399 - u + 1 + u = 400 by omega] at h1
        exact h1
      have h2 := l_X8_verdict h 369 30 0 false (by omega)
      have h3 := anyA_ext (p := imp σ lv) (30 - u) u 0 (fun a ha => by unfold imp; rw [tb_of h.bk.hl (by omega)]; rfl)
      rw [show u + (30 - u) = 30 by omega] at h3
      have h2 : l_X8_verdict_28 400 (nI 0) (nI 0) τ = some (if anyA (imp σ lv) u 0 then (if σ.1 33 5 = -nI 1000000 then nI 1 else nI 2) else nI 0, pI τ 0 4 (nI 0)) := by
        rw [h3] at h2
        exact h2
      refine ⟨if anyA (imp σ lv) u 0 then (if σ.1 33 5 = -nI 1000000 then nI 1 else nI 2) else nI 0, pI σ 0 7 (nI 0), pI τ 0 4 (nI 0), ?_, ?_, u, lv, h.find _⟩
      · cases e : anyA (imp σ lv) u 0
        · rw [e] at h1
          simp (disch := omega) only [f_X7_verdict, b_X7_verdict_64, lit, pLeT, pLeF, pLtT, pLtF, pEqT, pEqF, nLeF, nLtF, nI_clamp, or_self, or_false, false_or, not_true_eq_false, not_false_eq_true, ↓reduceIte, nmS_eq, bd1_eq, bd2_eq, nI_add, pEqS, pk_mul, Nat.reduceAdd, Bool.false_eq_true, or_true, true_or, q, z1, h1, e_X7_well]
        · rw [e] at h1
          by_cases q2 : σ.1 33 5 = -nI 1000000 <;> simp (disch := omega) only [f_X7_verdict, b_X7_verdict_64, lit, pLeT, pLeF, pLtT, pLtF, pEqT, pEqF, nLeF, nLtF, nI_clamp, or_self, or_false, false_or, not_true_eq_false, not_false_eq_true, ↓reduceIte, nmS_eq, bd1_eq, bd2_eq, nI_add, pEqS, pk_mul, Nat.reduceAdd, Bool.false_eq_true, or_true, true_or, q, z1, h1, e_X7_well, q2]
      · simp (disch := omega) only [f_X8_verdict, lit, pLeT, pLeF, pLtT, pLtF, pEqT, pEqF, nLeF, nLtF, nI_clamp, or_self, or_false, false_or, not_true_eq_false, not_false_eq_true, ↓reduceIte, nmS_eq, bd1_eq, bd2_eq, nI_add, pEqS, pk_mul, Nat.reduceAdd, Bool.false_eq_true, or_true, true_or, hF, z2, h2]
    · refine ⟨-nI 1000010 - nI 6, pI σ 0 7 (nI 6), pI τ 0 4 (nI 6), ?_, ?_, u, lv, h.find _⟩
      · simp (disch := omega) only [f_X7_verdict, lit, pLeT, pLeF, pLtT, pLtF, pEqT, pEqF, nLeF, nLtF, nI_clamp, or_self, or_false, false_or, not_true_eq_false, not_false_eq_true, ↓reduceIte, nmS_eq, bd1_eq, bd2_eq, nI_add, pEqS, pk_mul, Nat.reduceAdd, Bool.false_eq_true, or_true, true_or, q, z1, e_X7_found]
      · simp (disch := omega) only [f_X8_verdict, lit, pLeT, pLeF, pLtT, pLtF, pEqT, pEqF, nLeF, nLtF, nI_clamp, or_self, or_false, false_or, not_true_eq_false, not_false_eq_true, ↓reduceIte, nmS_eq, bd1_eq, bd2_eq, nI_add, pEqS, pk_mul, Nat.reduceAdd, Bool.false_eq_true, or_true, true_or, hF, z2, e_X8_found]
/-! those that hold -/
theorem e_X3_holdsBy (k : Nat) (x : Int32) (σ : Sto) : f_X3_holdsBy k x σ = some (if slk (σ.2 (k + 1)) (σ.2 k 2) (nI 255) x < 0 then nI 0 else nI 1, σ) := by
  unfold f_X3_holdsBy b_X3_holdsBy_18
  by_cases q : slk (σ.2 (k + 1)) (σ.2 k 2) (nI 255) x < 0 <;> simp (disch := omega) only [lit, pLeT, pLeF, pLtT, pLtF, pEqT, pEqF, nLeF, nLtF, nI_clamp, or_self, or_false, false_or, not_true_eq_false, not_false_eq_true, ↓reduceIte, nmS_eq, bd1_eq, bd2_eq, nI_add, pEqS, pk_mul, Nat.reduceAdd, Bool.false_eq_true, or_true, true_or, e_X3_slackBy, q]
theorem RU.holdM {u lv : Nat} {σ τ : Sto} (h : RU u lv σ τ) {a : Nat} (ha : a < u) (x : Int32) : f_X8_isHolding (nI a) x τ = some (if slk (σ.2 (36 + 2 * a + 1)) (σ.2 (36 + 2 * a) 2) (nI 255) x < 0 then nI 0 else nI 1, τ) := by
  have hs := h.slkM ha (nI 255) x
  unfold f_X8_isHolding b_X8_isHolding_28
  by_cases q : slk (σ.2 (36 + 2 * a + 1)) (σ.2 (36 + 2 * a) 2) (nI 255) x < 0 <;> simp (disch := omega) only [lit, pLeT, pLeF, pLtT, pLtF, pEqT, pEqF, nLeF, nLtF, nI_clamp, or_self, or_false, false_or, not_true_eq_false, not_false_eq_true, ↓reduceIte, nmS_eq, bd1_eq, bd2_eq, nI_add, pEqS, pk_mul, Nat.reduceAdd, Bool.false_eq_true, or_true, true_or, hs, q]
theorem l_X2_allHold {u lv : Nat} {σ τ : Sto} (h : RU u lv σ τ) (x : Int32) (n : Nat) (j : Nat) : ∀ i, i + j = u → l_X2_allHold_2 33 (n + 1 + j) x (nI i) σ = some (if anyA (nho σ lv x) j i then nI 0 else nI 1, σ) := by
  have hu := h.bk.hu
  have hus := h.us
  induction j with
  | zero =>
    intro i hi
    have e : i = u := by omega
    subst e
    show b_X2_allHold_2 _ 33 x (nI i) σ = _
    simp (disch := omega) only [b_X2_allHold_2, lit, pLeT, pLeF, pLtT, pLtF, pEqT, pEqF, nLeF, nLtF, nI_clamp, or_self, or_false, false_or, not_true_eq_false, not_false_eq_true, ↓reduceIte, nmS_eq, bd1_eq, bd2_eq, nI_add, pEqS, pk_mul, Nat.reduceAdd, Bool.false_eq_true, or_true, true_or, hus, anyA]
  | succ j ih0 =>
    intro i hi
    have ih := ih0 (i + 1) (by omega)
    show b_X2_allHold_2 (l_X2_allHold_2 33 (n + 1 + j)) 33 x (nI i) σ = some (if (nho σ lv x i || anyA (nho σ lv x) j (i + 1)) then nI 0 else nI 1, σ)
    have hb := lvb h (a := i) (by omega)
    cases h1 : lv.testBit i
    · have e : nho σ lv x i = false := by unfold nho; rw [h1]; rfl
      rw [h1] at hb
      simp (disch := omega) only [b_X2_allHold_2, b_X2_allHold_33, lit, pLeT, pLeF, pLtT, pLtF, pEqT, pEqF, nLeF, nLtF, nI_clamp, or_self, or_false, false_or, not_true_eq_false, not_false_eq_true, ↓reduceIte, nmS_eq, bd1_eq, bd2_eq, nI_add, pEqS, pk_mul, Nat.reduceAdd, Bool.false_eq_true, or_true, true_or, hus, e_X2_isLive, hb, ih, e, Bool.false_or]
    · rw [h1] at hb
      by_cases q : slk (σ.2 (36 + 2 * i + 1)) (σ.2 (36 + 2 * i) 2) (nI 255) x < 0
      · have e : nho σ lv x i = true := by unfold nho; rw [h1, decide_eq_true q]; rfl
        simp (disch := omega) only [b_X2_allHold_2, b_X2_allHold_33, lit, pLeT, pLeF, pLtT, pLtF, pEqT, pEqF, nLeF, nLtF, nI_clamp, or_self, or_false, false_or, not_true_eq_false, not_false_eq_true, ↓reduceIte, nmS_eq, bd1_eq, bd2_eq, nI_add, pEqS, pk_mul, Nat.reduceAdd, Bool.false_eq_true, or_true, true_or, hus, e_X2_isLive, hb, ih, e, Bool.true_or, e_X3_holdsBy, q]
      · have e : nho σ lv x i = false := by unfold nho; rw [h1, decide_eq_false q]; rfl
        simp (disch := omega) only [b_X2_allHold_2, b_X2_allHold_33, lit, pLeT, pLeF, pLtT, pLtF, pEqT, pEqF, nLeF, nLtF, nI_clamp, or_self, or_false, false_or, not_true_eq_false, not_false_eq_true, ↓reduceIte, nmS_eq, bd1_eq, bd2_eq, nI_add, pEqS, pk_mul, Nat.reduceAdd, Bool.false_eq_true, or_true, true_or, hus, e_X2_isLive, hb, ih, e, Bool.false_or, e_X3_holdsBy, q]
theorem l_X8_areHolding {u lv : Nat} {σ τ : Sto} (h : RU u lv σ τ) (x : Int32) (n : Nat) (j : Nat) : ∀ i (z : Bool), i + j = 30 → l_X8_areHolding_4 (n + 1 + j) x (if z then nI 0 else nI 1) (nI i) τ = some (if z || anyA (nho σ lv x) j i then nI 0 else nI 1, τ) := by
  have hu := h.bk.hu
  have h30 := pw30 h.bk.hl h.bk.hu
  have hwl := h.bk.wl
  induction j with
  | zero =>
    intro i z hi
    have e : i = 30 := by omega
    subst e
    show b_X8_areHolding_4 _ x (if z then nI 0 else nI 1) (nI 30) τ = some (if z || false then nI 0 else nI 1, τ)
    cases z <;> simp (disch := omega) only [b_X8_areHolding_4, lit, pLeT, pLeF, pLtT, pLtF, pEqT, pEqF, nLeF, nLtF, nI_clamp, or_self, or_false, false_or, not_true_eq_false, not_false_eq_true, ↓reduceIte, nmS_eq, bd1_eq, bd2_eq, nI_add, pEqS, pk_mul, Nat.reduceAdd, Bool.false_eq_true, or_true, true_or, Bool.or_false]
  | succ j ih0 =>
    intro i z hi
    have ihF : l_X8_areHolding_4 (n + 1 + j) x (nI 1) (nI (i + 1)) τ = some (if anyA (nho σ lv x) j (i + 1) then nI 0 else nI 1, τ) := ih0 (i + 1) false (by omega)
    have ihT : l_X8_areHolding_4 (n + 1 + j) x (nI 0) (nI (i + 1)) τ = some (nI 0, τ) := ih0 (i + 1) true (by omega)
    show b_X8_areHolding_4 (l_X8_areHolding_4 (n + 1 + j)) x (if z then nI 0 else nI 1) (nI i) τ = some (if z || (nho σ lv x i || anyA (nho σ lv x) j (i + 1)) then nI 0 else nI 1, τ)
    have hb := e_X8_isLive τ hwl h30 (i := i) (by omega)
    cases z
    · cases h1 : lv.testBit i
      · have e : nho σ lv x i = false := by unfold nho; rw [h1]; rfl
        rw [h1] at hb
        simp (disch := omega) only [b_X8_areHolding_4, b_X8_areHolding_31, b_X8_areHolding_36, lit, pLeT, pLeF, pLtT, pLtF, pEqT, pEqF, nLeF, nLtF, nI_clamp, or_self, or_false, false_or, not_true_eq_false, not_false_eq_true, ↓reduceIte, nmS_eq, bd1_eq, bd2_eq, nI_add, pEqS, pk_mul, Nat.reduceAdd, Bool.false_eq_true, or_true, true_or, hb, ihF, e, Bool.false_or]
      · rw [h1] at hb
        have hs := h.holdM (lvu h h1) x
        by_cases q : slk (σ.2 (36 + 2 * i + 1)) (σ.2 (36 + 2 * i) 2) (nI 255) x < 0
        · have e : nho σ lv x i = true := by unfold nho; rw [h1, decide_eq_true q]; rfl
          simp (disch := omega) only [b_X8_areHolding_4, b_X8_areHolding_35, b_X8_areHolding_36, lit, pLeT, pLeF, pLtT, pLtF, pEqT, pEqF, nLeF, nLtF, nI_clamp, or_self, or_false, false_or, not_true_eq_false, not_false_eq_true, ↓reduceIte, nmS_eq, bd1_eq, bd2_eq, nI_add, pEqS, pk_mul, Nat.reduceAdd, Bool.false_eq_true, or_true, true_or, hb, hs, ihT, e, Bool.false_or, Bool.true_or, q]
        · have e : nho σ lv x i = false := by unfold nho; rw [h1, decide_eq_false q]; rfl
          simp (disch := omega) only [b_X8_areHolding_4, b_X8_areHolding_31, b_X8_areHolding_36, lit, pLeT, pLeF, pLtT, pLtF, pEqT, pEqF, nLeF, nLtF, nI_clamp, or_self, or_false, false_or, not_true_eq_false, not_false_eq_true, ↓reduceIte, nmS_eq, bd1_eq, bd2_eq, nI_add, pEqS, pk_mul, Nat.reduceAdd, Bool.false_eq_true, or_true, true_or, hb, hs, ihF, e, Bool.false_or, q]
    · simp (disch := omega) only [b_X8_areHolding_4, b_X8_areHolding_35, b_X8_areHolding_36, lit, pLeT, pLeF, pLtT, pLtF, pEqT, pEqF, nLeF, nLtF, nI_clamp, or_self, or_false, false_or, not_true_eq_false, not_false_eq_true, ↓reduceIte, nmS_eq, bd1_eq, bd2_eq, nI_add, pEqS, pk_mul, Nat.reduceAdd, Bool.false_eq_true, or_true, true_or, ihT, Bool.true_or]
theorem RU.hold {u lv : Nat} {σ τ : Sto} (h : RU u lv σ τ) (x : Int32) : f_X2_allHold 33 x σ = some (if anyA (nho σ lv x) u 0 then nI 0 else nI 1, σ) ∧ f_X8_areHolding x τ = some (if anyA (nho σ lv x) u 0 then nI 0 else nI 1, τ) := by
  have hu := h.bk.hu
  refine ⟨?_, ?_⟩
  · have h1 := l_X2_allHold h x (399 - u) u 0 (by omega)
    rw [show 399 - u + 1 + u = 400 by omega] at h1
    exact h1
  · have h1 := l_X8_areHolding h x 369 30 0 false (by omega)
    have h2 := anyA_ext (p := nho σ lv x) (30 - u) u 0 (fun a ha => by unfold nho; rw [tb_of h.bk.hl (by omega)]; rfl)
    rw [show u + (30 - u) = 30 by omega] at h2
    rw [h2] at h1
    exact h1
/-! holds -/
def hoA (c : Nat → Int64) (d : Int64) : Nat → Nat → Nat → Nat
  | 0, _, n => n
  | j + 1, i, n => hoA c d j (i + 1) (if slk c d (nI 255) (nI i) < 0 then n else n + 1)
theorem l_X7_holds (σ : Sto) (a : Nat) (ha : a < 30) (n : Nat) (j : Nat) : ∀ i c, i + j = 256 → l_X7_holds_40 (n + 1 + j) (nI a) (nI c) (nI i) σ = some (nI (hoA (σ.2 (36 + 2 * a + 1)) (σ.2 (36 + 2 * a) 2) j i c), pI σ 0 7 (nI 0)) := by
  induction j with
  | zero =>
    intro i c hi
    have e : i = 256 := by omega
    subst e
    show b_X7_holds_40 _ (nI a) (nI c) (nI 256) σ = _
    simp (disch := omega) only [b_X7_holds_40, lit, pLeT, pLeF, pLtT, pLtF, pEqT, pEqF, nLeF, nLtF, nI_clamp, or_self, or_false, false_or, not_true_eq_false, not_false_eq_true, ↓reduceIte, nmS_eq, bd1_eq, bd2_eq, nI_add, pEqS, pk_mul, Nat.reduceAdd, Bool.false_eq_true, or_true, true_or, e_X7_well, hoA]
  | succ j ih0 =>
    intro i c hi
    have ih := fun c => ih0 (i + 1) c (by omega)
    show b_X7_holds_40 (l_X7_holds_40 (n + 1 + j)) (nI a) (nI c) (nI i) σ = some (nI (hoA (σ.2 (36 + 2 * a + 1)) (σ.2 (36 + 2 * a) 2) j (i + 1) (if slk (σ.2 (36 + 2 * a + 1)) (σ.2 (36 + 2 * a) 2) (nI 255) (nI i) < 0 then c else c + 1)), pI σ 0 7 (nI 0))
    by_cases q : slk (σ.2 (36 + 2 * a + 1)) (σ.2 (36 + 2 * a) 2) (nI 255) (nI i) < 0 <;> simp (disch := omega) only [b_X7_holds_40, b_X7_holds_66, lit, pLeT, pLeF, pLtT, pLtF, pEqT, pEqF, nLeF, nLtF, nI_clamp, or_self, or_false, false_or, not_true_eq_false, not_false_eq_true, ↓reduceIte, nmS_eq, bd1_eq, bd2_eq, nI_add, pEqS, pk_mul, Nat.reduceAdd, Bool.false_eq_true, or_true, true_or, e_X3_holdsBy, q, ih]
theorem l_X8_holds {u lv : Nat} {σ τ : Sto} (h : RU u lv σ τ) (a : Nat) (ha : a < u) (n : Nat) (j : Nat) : ∀ i c, i + j = 256 → l_X8_holds_41 (n + 1 + j) (nI a) (nI c) (nI i) τ = some (nI (hoA (σ.2 (36 + 2 * a + 1)) (σ.2 (36 + 2 * a) 2) j i c), pI τ 0 4 (nI 0)) := by
  induction j with
  | zero =>
    intro i c hi
    have e : i = 256 := by omega
    subst e
    show b_X8_holds_41 _ (nI a) (nI c) (nI 256) τ = _
    simp (disch := omega) only [b_X8_holds_41, lit, pLeT, pLeF, pLtT, pLtF, pEqT, pEqF, nLeF, nLtF, nI_clamp, or_self, or_false, false_or, not_true_eq_false, not_false_eq_true, ↓reduceIte, nmS_eq, bd1_eq, bd2_eq, nI_add, pEqS, pk_mul, Nat.reduceAdd, Bool.false_eq_true, or_true, true_or, e_X8_well, hoA]
  | succ j ih0 =>
    intro i c hi
    have ih := fun c => ih0 (i + 1) c (by omega)
    have hh := h.holdM ha (nI i)
    show b_X8_holds_41 (l_X8_holds_41 (n + 1 + j)) (nI a) (nI c) (nI i) τ = some (nI (hoA (σ.2 (36 + 2 * a + 1)) (σ.2 (36 + 2 * a) 2) j (i + 1) (if slk (σ.2 (36 + 2 * a + 1)) (σ.2 (36 + 2 * a) 2) (nI 255) (nI i) < 0 then c else c + 1)), pI τ 0 4 (nI 0))
    by_cases q : slk (σ.2 (36 + 2 * a + 1)) (σ.2 (36 + 2 * a) 2) (nI 255) (nI i) < 0 <;> simp (disch := omega) only [b_X8_holds_41, b_X8_holds_63, lit, pLeT, pLeF, pLtT, pLtF, pEqT, pEqF, nLeF, nLtF, nI_clamp, or_self, or_false, false_or, not_true_eq_false, not_false_eq_true, ↓reduceIte, nmS_eq, bd1_eq, bd2_eq, nI_add, pEqS, pk_mul, Nat.reduceAdd, Bool.false_eq_true, or_true, true_or, hh, q, ih, Nat.add_zero]
theorem s_holds (x : Int32) : Sim RR (f_X7_holds x) (f_X8_holds x) := by
  intro σ τ ⟨u, lv, h⟩
  obtain ⟨h1, h2, h3⟩ := h.has x
  cases hx : hs lv x
  · rw [hx] at h1 h2
    refine ⟨-nI 1000001, σ, τ, ?_, ?_, u, lv, h⟩
    · simp (disch := omega) only [f_X7_holds, lit, pLeT, pLeF, pLtT, pLtF, pEqT, pEqF, nLeF, nLtF, nI_clamp, or_self, or_false, false_or, not_true_eq_false, not_false_eq_true, ↓reduceIte, nmS_eq, bd1_eq, bd2_eq, nI_add, pEqS, pk_mul, Nat.reduceAdd, Bool.false_eq_true, or_true, true_or, h1]
    · simp (disch := omega) only [f_X8_holds, lit, pLeT, pLeF, pLtT, pLtF, pEqT, pEqF, nLeF, nLtF, nI_clamp, or_self, or_false, false_or, not_true_eq_false, not_false_eq_true, ↓reduceIte, nmS_eq, bd1_eq, bd2_eq, nI_add, pEqS, pk_mul, Nat.reduceAdd, Bool.false_eq_true, or_true, true_or, h2]
  · rw [hx] at h1 h2
    obtain ⟨a, ha, ha2, e, -⟩ := h3 hx
    subst e
    by_cases q : 0 ≤ tot (σ.2 (36 + 2 * a + 1))
    · have e1 : l_X7_holds_40 400 (nI a) (nI 0) (nI 0) σ = _ := l_X7_holds σ a ha2 143 256 0 0 (by omega)
      have e2 : l_X8_holds_41 400 (nI a) (nI 0) (nI 0) τ = _ := l_X8_holds h a ha 143 256 0 0 (by omega)
      refine ⟨nI (hoA (σ.2 (36 + 2 * a + 1)) (σ.2 (36 + 2 * a) 2) 256 0 0), pI σ 0 7 (nI 0), pI τ 0 4 (nI 0), ?_, ?_, u, lv, h.find _⟩
      · simp (disch := omega) only [f_X7_holds, lit, pLeT, pLeF, pLtT, pLtF, pEqT, pEqF, nLeF, nLtF, nI_clamp, or_self, or_false, false_or, not_true_eq_false, not_false_eq_true, ↓reduceIte, nmS_eq, bd1_eq, bd2_eq, nI_add, pEqS, pk_mul, Nat.reduceAdd, Bool.false_eq_true, or_true, true_or, h1, e_X3_isBeyond, q, e1]
      · simp (disch := omega) only [f_X8_holds, lit, pLeT, pLeF, pLtT, pLtF, pEqT, pEqF, nLeF, nLtF, nI_clamp, or_self, or_false, false_or, not_true_eq_false, not_false_eq_true, ↓reduceIte, nmS_eq, bd1_eq, bd2_eq, nI_add, pEqS, pk_mul, Nat.reduceAdd, Bool.false_eq_true, or_true, true_or, h2, h.sumM ha, q, e2]
    · refine ⟨-nI 1000010 - nI 6, pI σ 0 7 (nI 6), pI τ 0 4 (nI 6), ?_, ?_, u, lv, h.find _⟩
      · simp (disch := omega) only [f_X7_holds, lit, pLeT, pLeF, pLtT, pLtF, pEqT, pEqF, nLeF, nLtF, nI_clamp, or_self, or_false, false_or, not_true_eq_false, not_false_eq_true, ↓reduceIte, nmS_eq, bd1_eq, bd2_eq, nI_add, pEqS, pk_mul, Nat.reduceAdd, Bool.false_eq_true, or_true, true_or, h1, e_X3_isBeyond, q, e_X7_found]
      · simp (disch := omega) only [f_X8_holds, lit, pLeT, pLeF, pLtT, pLtF, pEqT, pEqF, nLeF, nLtF, nI_clamp, or_self, or_false, false_or, not_true_eq_false, not_false_eq_true, ↓reduceIte, nmS_eq, bd1_eq, bd2_eq, nI_add, pEqS, pk_mul, Nat.reduceAdd, Bool.false_eq_true, or_true, true_or, h2, h.sumM ha, q, e_X8_found]
