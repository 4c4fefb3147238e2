/-! ===== prices, solutions ===== -/
def prA (c : Nat → Int32) (x : Int32) : Nat → Nat → Int32 → Int32
  | 0, _, s => s
  | j + 1, i, s => prA c x j (i + 1) (if bt x i then s + c i else s)
def prc (c : Nat → Int32) (x : Int32) : Int32 := prA c x 8 0 (nI 0)
theorem addI0 (x : Int32) : x + nI 0 = x := Int32.add_zero x
theorem l_X2_priceOf (x : Int32) (σ : Sto) (n : Nat) (j : Nat) : ∀ i s, i + j = 8 → l_X2_priceOf_4 33 (n + 1 + j) x s (nI i) σ = some (prA (σ.1 35) x j i s, σ) := by
  induction j with
  | zero =>
    intro i s hi
    have e : i = 8 := by omega
    subst e
    show b_X2_priceOf_4 _ 33 x s (nI 8) σ = _
    simp (disch := omega) only [b_X2_priceOf_4, lit, pLeT, pLeF, pLtT, pLtF, pEqT, pEqF, nLeF, nLtF, nI_clamp, or_self, or_false, false_or, not_true_eq_false, not_false_eq_true, ↓reduceIte, nmS_eq, bd1_eq, bd2_eq, nI_add, pEqS, pk_mul, Nat.reduceAdd, Bool.false_eq_true, or_true, true_or, prA]
  | succ j ih0 =>
    intro i s hi
    have ih := fun s => ih0 (i + 1) s (by omega)
    have hb := ub x (i := i) (by omega)
    show b_X2_priceOf_4 (l_X2_priceOf_4 33 (n + 1 + j)) 33 x s (nI i) σ = some (prA (σ.1 35) x j (i + 1) (if bt x i then s + σ.1 35 i else s), σ)
    cases h1 : bt x i <;> rw [h1] at hb <;> simp (disch := omega) only [b_X2_priceOf_4, b_X2_priceOf_28, lit, pLeT, pLeF, pLtT, pLtF, pEqT, pEqF, nLeF, nLtF, nI_clamp, or_self, or_false, false_or, not_true_eq_false, not_false_eq_true, ↓reduceIte, nmS_eq, bd1_eq, bd2_eq, nI_add, pEqS, pk_mul, Nat.reduceAdd, Bool.false_eq_true, or_true, true_or, hb, ih]
theorem e_X2_priceOf (x : Int32) (σ : Sto) : f_X2_priceOf 33 x σ = some (prc (σ.1 35) x, σ) := l_X2_priceOf x σ 391 8 0 (nI 0) (by omega)
theorem RU.prs {u lv : Nat} {σ τ : Sto} (h : RU u lv σ τ) {v : Nat} (hv : v < 8) : (σ.1 35 v).toNatClampNeg ≤ 9 ∧ σ.1 35 v = nI (σ.1 35 v).toNatClampNeg ∧ τ.2 6 v = lN (σ.1 35 v).toNatClampNeg := by
  obtain ⟨p, p1, p2, p3⟩ := h.bk.pr v hv
  have p2 : σ.1 35 v = nI p := p2
  rw [p2, nI_clamp (by omega)]
  exact ⟨p1, rfl, p3⟩
theorem l_X8_priceOf {u lv : Nat} {σ τ : Sto} (h : RU u lv σ τ) (x : Int32) (n : Nat) (j : Nat) : ∀ i s, i + j = 8 → l_X8_priceOf_4 (n + 1 + j) x s (nI i) τ = some (prA (σ.1 35) x j i s, τ) := by
  induction j with
  | zero =>
    intro i s hi
    have e : i = 8 := by omega
    subst e
    show b_X8_priceOf_4 _ x s (nI 8) τ = _
    simp (disch := omega) only [b_X8_priceOf_4, lit, pLeT, pLeF, pLtT, pLtF, pEqT, pEqF, nLeF, nLtF, nI_clamp, or_self, or_false, false_or, not_true_eq_false, not_false_eq_true, ↓reduceIte, nmS_eq, bd1_eq, bd2_eq, nI_add, pEqS, pk_mul, Nat.reduceAdd, Bool.false_eq_true, or_true, true_or, prA]
  | succ j ih0 =>
    intro i s hi
    have ih := fun s => ih0 (i + 1) s (by omega)
    have hp := h.prs (v := i) (by omega)
    have hp2 : (τ.2 6 i).toInt32 = σ.1 35 i := by rw [hp.2.2, lN_i, ← hp.2.1]
    show b_X8_priceOf_4 (l_X8_priceOf_4 (n + 1 + j)) x s (nI i) τ = some (prA (σ.1 35) x j (i + 1) (if bt x i then s + σ.1 35 i else s), τ)
    cases h1 : bt x i <;> simp (disch := omega) only [b_X8_priceOf_4, b_X8_priceOf_30, lit, pLeT, pLeF, pLtT, pLtF, pEqT, pEqF, nLeF, nLtF, nI_clamp, or_self, or_false, false_or, not_true_eq_false, not_false_eq_true, ↓reduceIte, nmS_eq, bd1_eq, bd2_eq, nI_add, pEqS, pk_mul, Nat.reduceAdd, Bool.false_eq_true, or_true, true_or, e_X8_has, h1, ih, hp2, addI0]
theorem RU.prcM {u lv : Nat} {σ τ : Sto} (h : RU u lv σ τ) (x : Int32) : f_X8_priceOf x τ = some (prc (σ.1 35) x, τ) := l_X8_priceOf h x 391 8 0 (nI 0) (by omega)
/-- all prices, as a number -/
def prN (c : Nat → Int32) : Nat → Nat → Nat → Nat
  | 0, _, s => s
  | j + 1, i, s => prN c j (i + 1) (s + (c i).toNatClampNeg)
theorem prN_le {c : Nat → Int32} (hc : ∀ v, v < 8 → (c v).toNatClampNeg ≤ 9) (j : Nat) : ∀ i s, i + j = 8 → prN c j i s ≤ s + 9 * j := by
  induction j with
  | zero => intro i s _; exact Nat.le_refl _
  | succ j ih =>
    intro i s hi
    have h1 := ih (i + 1) (s + (c i).toNatClampNeg) (by omega)
    have h2 := hc i (by omega)
    show prN c j (i + 1) (s + (c i).toNatClampNeg) ≤ _
    omega
theorem prA_255 {c : Nat → Int32} (hc : ∀ v, v < 8 → c v = nI (c v).toNatClampNeg) (j : Nat) : ∀ i s, i + j = 8 → prA c (nI 255) j i (nI s) = nI (prN c j i s) := by
  induction j with
  | zero => intro i s _; rfl
  | succ j ih =>
    intro i s hi
    have hb : bt (nI 255) i = true := by
      have := b_255 i
      rw [decide_eq_true (show i < 8 by omega)] at this
      exact this
    show prA c (nI 255) j (i + 1) (if bt (nI 255) i then nI s + c i else nI s) = nI (prN c j (i + 1) (s + (c i).toNatClampNeg))
    rw [hb, if_pos rfl]
    have e := hc i (by omega)
    rw [← ih (i + 1) _ (by omega), ← nI_add, ← e]
theorem RU.allp {u lv : Nat} {σ τ : Sto} (h : RU u lv σ τ) : prc (σ.1 35) (nI 255) = nI (prN (σ.1 35) 8 0 0) ∧ prN (σ.1 35) 8 0 0 ≤ 72 := by
  refine ⟨prA_255 (fun v hv => (h.prs hv).2.1) 8 0 0 (by omega), ?_⟩
  have := prN_le (c := σ.1 35) (fun v hv => (h.prs hv).1) 8 0 0 (by omega)
  omega
theorem RU.allX {u lv : Nat} {σ τ : Sto} (h : RU u lv σ τ) : f_X2_allPrices 33 σ = some (nI (prN (σ.1 35) 8 0 0), σ) := by
  simp (disch := omega) only [f_X2_allPrices, lit, pLeT, pLeF, pLtT, pLtF, pEqT, pEqF, nLeF, nLtF, nI_clamp, or_self, or_false, false_or, not_true_eq_false, not_false_eq_true, ↓reduceIte, nmS_eq, bd1_eq, bd2_eq, nI_add, pEqS, pk_mul, Nat.reduceAdd, Bool.false_eq_true, or_true, true_or, e_X2_priceOf, h.allp.1]
theorem l_X8_allPrices {u lv : Nat} {σ τ : Sto} (h : RU u lv σ τ) (n : Nat) (j : Nat) : ∀ i s, i + j = 8 → l_X8_allPrices_4 (n + 1 + j) (lN s) (nI i) τ = some (lN (prN (σ.1 35) j i s), τ) := by
  induction j with
  | zero =>
    intro i s hi
    have e : i = 8 := by omega
    subst e
    show b_X8_allPrices_4 _ (lN s) (nI 8) τ = _
    simp (disch := omega) only [b_X8_allPrices_4, lit, pLeT, pLeF, pLtT, pLtF, pEqT, pEqF, nLeF, nLtF, nI_clamp, or_self, or_false, false_or, not_true_eq_false, not_false_eq_true, ↓reduceIte, nmS_eq, bd1_eq, bd2_eq, nI_add, pEqS, pk_mul, Nat.reduceAdd, Bool.false_eq_true, or_true, true_or, prN]
  | succ j ih0 =>
    intro i s hi
    have ih := fun s => ih0 (i + 1) s (by omega)
    have hp := (h.prs (v := i) (by omega)).2.2
    show b_X8_allPrices_4 (l_X8_allPrices_4 (n + 1 + j)) (lN s) (nI i) τ = some (lN (prN (σ.1 35) j (i + 1) (s + (σ.1 35 i).toNatClampNeg)), τ)
    simp (disch := omega) only [b_X8_allPrices_4, lit, pLeT, pLeF, pLtT, pLtF, pEqT, pEqF, nLeF, nLtF, nI_clamp, or_self, or_false, false_or, not_true_eq_false, not_false_eq_true, ↓reduceIte, nmS_eq, bd1_eq, bd2_eq, nI_add, pEqS, pk_mul, Nat.reduceAdd, Bool.false_eq_true, or_true, true_or, hp, lN_add, ih]
theorem RU.allM {u lv : Nat} {σ τ : Sto} (h : RU u lv σ τ) : f_X8_allPrices τ = some (lN (prN (σ.1 35) 8 0 0), τ) := l_X8_allPrices h 391 8 0 0 (by omega)
/-! solutions -/
def enc : Option Nat → Int32
  | none => -nI 1000000
  | some v => nI v
def btr (pr : Nat → Int32) (i : Nat) : Option Nat → Bool
  | none => true
  | some v => !decide (pr v ≤ pr i)
def bestA (ho : Nat → Bool) (pr : Nat → Int32) : Nat → Nat → Option Nat → Option Nat
  | 0, _, f => f
  | j + 1, i, f => bestA ho pr j (i + 1) (if ho i && btr pr i f then some i else f)
def cntA (ho : Nat → Bool) : Nat → Nat → Nat → Nat
  | 0, _, c => c
  | j + 1, i, c => cntA ho j (i + 1) (if ho i then c + 1 else c)
def hoX (σ : Sto) (lv u : Nat) : Nat → Bool := fun i => !anyA (nho σ lv (nI i)) u 0
def prX (σ : Sto) : Nat → Int32 := fun i => prc (σ.1 35) (nI i)
theorem RU.ho {u lv : Nat} {σ τ : Sto} (h : RU u lv σ τ) (i : Nat) : f_X2_allHold 33 (nI i) σ = some (if hoX σ lv u i then nI 1 else nI 0, σ) ∧ f_X8_areHolding (nI i) τ = some (if hoX σ lv u i then nI 1 else nI 0, τ) := by
  have h1 := h.hold (nI i)
  unfold hoX
  cases e : anyA (nho σ lv (nI i)) u 0 <;> rw [e] at h1 <;> exact h1
theorem l_X2_countSolutions {u lv : Nat} {σ τ : Sto} (h : RU u lv σ τ) (n : Nat) (j : Nat) : ∀ i c, i + j = 256 → l_X2_countSolutions_4 33 (n + 1 + j) (nI c) (nI i) σ = some (nI (cntA (hoX σ lv u) j i c), σ) := by
  induction j with
  | zero =>
    intro i c hi
    have e : i = 256 := by omega
    subst e
    show b_X2_countSolutions_4 _ 33 (nI c) (nI 256) σ = _
    simp (disch := omega) only [b_X2_countSolutions_4, lit, pLeT, pLeF, pLtT, pLtF, pEqT, pEqF, nLeF, nLtF, nI_clamp, or_self, or_false, false_or, not_true_eq_false, not_false_eq_true, ↓reduceIte, nmS_eq, bd1_eq, bd2_eq, nI_add, pEqS, pk_mul, Nat.reduceAdd, Bool.false_eq_true, or_true, true_or, cntA]
  | succ j ih0 =>
    intro i c hi
    have ih := fun c => ih0 (i + 1) c (by omega)
    have hh := (h.ho i).1
    show b_X2_countSolutions_4 (l_X2_countSolutions_4 33 (n + 1 + j)) 33 (nI c) (nI i) σ = some (nI (cntA (hoX σ lv u) j (i + 1) (if hoX σ lv u i then c + 1 else c)), σ)
    cases e : hoX σ lv u i <;> rw [e] at hh <;> simp (disch := omega) only [b_X2_countSolutions_4, b_X2_countSolutions_22, lit, pLeT, pLeF, pLtT, pLtF, pEqT, pEqF, nLeF, nLtF, nI_clamp, or_self, or_false, false_or, not_true_eq_false, not_false_eq_true, ↓reduceIte, nmS_eq, bd1_eq, bd2_eq, nI_add, pEqS, pk_mul, Nat.reduceAdd, Bool.false_eq_true, or_true, true_or, hh, ih]
theorem encne {v : Nat} (hv : v < 256) : (nI v = -nI 1000000) = False := eq_false (fun q => by
  have h1 : (nI v).toInt = (v : Int) := nI_toInt (by omega)
  rw [q] at h1
  have h2 : (-nI 1000000).toInt = -1000000 := by decide
  omega)
theorem l_X2_bestValues {u lv : Nat} {σ τ : Sto} (h : RU u lv σ τ) (n : Nat) (j : Nat) : ∀ i (f : Option Nat), i + j = 256 → (∀ v, f = some v → v < 256) → l_X2_bestValues_5 33 (n + 1 + j) (enc f) (nI i) σ = some (enc (bestA (hoX σ lv u) (prX σ) j i f), σ) := by
  induction j with
  | zero =>
    intro i f hi _
    have e : i = 256 := by omega
    subst e
    show b_X2_bestValues_5 _ 33 (enc f) (nI 256) σ = _
    simp (disch := omega) only [b_X2_bestValues_5, lit, pLeT, pLeF, pLtT, pLtF, pEqT, pEqF, nLeF, nLtF, nI_clamp, or_self, or_false, false_or, not_true_eq_false, not_false_eq_true, ↓reduceIte, nmS_eq, bd1_eq, bd2_eq, nI_add, pEqS, pk_mul, Nat.reduceAdd, Bool.false_eq_true, or_true, true_or, bestA]
  | succ j ih0 =>
    intro i f hi hf
    have ih := fun f q => ih0 (i + 1) f (by omega) q
    have ihi : l_X2_bestValues_5 33 (n + 1 + j) (nI i) (nI (i + 1)) σ = some (enc (bestA (hoX σ lv u) (prX σ) j (i + 1) (some i)), σ) := ih (some i) (fun v q => by cases q; omega)
    have ihf := ih f hf
    have hh := (h.ho i).1
    show b_X2_bestValues_5 (l_X2_bestValues_5 33 (n + 1 + j)) 33 (enc f) (nI i) σ = some (enc (bestA (hoX σ lv u) (prX σ) j (i + 1) (if hoX σ lv u i && btr (prX σ) i f then some i else f)), σ)
    cases f with
    | none =>
      have e1 : enc none = -nI 1000000 := rfl
      rw [e1] at ihf
      cases e : hoX σ lv u i <;> rw [e] at hh <;> simp (disch := omega) only [b_X2_bestValues_5, b_X2_bestValues_31, b_X2_bestValues_41, lit, pLeT, pLeF, pLtT, pLtF, pEqT, pEqF, nLeF, nLtF, nI_clamp, or_self, or_false, false_or, not_true_eq_false, not_false_eq_true, ↓reduceIte, nmS_eq, bd1_eq, bd2_eq, nI_add, pEqS, pk_mul, Nat.reduceAdd, Bool.false_eq_true, or_true, true_or, e1, hh, ihi, ihf, Bool.and_true, btr]
    | some v =>
      have e1 : enc (some v) = nI v := rfl
      have e2 := encne (hf v rfl)
      rw [e1] at ihf
      have p1 : prc (σ.1 35) (nI i) = prX σ i := rfl
      have p2 : prc (σ.1 35) (nI v) = prX σ v := rfl
      by_cases q : prX σ v ≤ prX σ i
      · simp (disch := omega) only [b_X2_bestValues_5, b_X2_bestValues_31, b_X2_bestValues_41, lit, pLeT, pLeF, pLtT, pLtF, pEqT, pEqF, nLeF, nLtF, nI_clamp, or_self, or_false, false_or, not_true_eq_false, not_false_eq_true, ↓reduceIte, nmS_eq, bd1_eq, bd2_eq, nI_add, pEqS, pk_mul, Nat.reduceAdd, Bool.false_eq_true, or_true, true_or, e1, e2, e_X2_priceOf, p1, p2, q, ihf, decide_true, Bool.not_true, Bool.and_false, btr]
      · cases e : hoX σ lv u i <;> rw [e] at hh <;> simp (disch := omega) only [b_X2_bestValues_5, b_X2_bestValues_31, b_X2_bestValues_41, lit, pLeT, pLeF, pLtT, pLtF, pEqT, pEqF, nLeF, nLtF, nI_clamp, or_self, or_false, false_or, not_true_eq_false, not_false_eq_true, ↓reduceIte, nmS_eq, bd1_eq, bd2_eq, nI_add, pEqS, pk_mul, Nat.reduceAdd, Bool.false_eq_true, or_true, true_or, e1, e2, e_X2_priceOf, p1, p2, q, hh, ihi, ihf, decide_false, Bool.not_false, Bool.and_true, btr]
def least (pr : Nat → Int32) : Option Nat → Int32
  | none => -nI 1000000
  | some v => pr v
theorem l_X8_solutions {u lv : Nat} {σ τ : Sto} (h : RU u lv σ τ) (x : Int32) (n : Nat) (j : Nat) : ∀ i (f : Option Nat) (c : Nat), i + j = 256 → c ≤ i → (c = 0 ↔ f = none) → l_X8_solutions_48 (n + 1 + j) x (nI c) (least (prX σ) f) (enc f) (nI i) τ = some (if x = nI 0 then nI (cntA (hoX σ lv u) j i c) else if x = nI 1 then least (prX σ) (bestA (hoX σ lv u) (prX σ) j i f) else enc (bestA (hoX σ lv u) (prX σ) j i f), pI τ 0 4 (nI 0)) := by
  induction j with
  | zero =>
    intro i f c hi _ _
    have e : i = 256 := by omega
    subst e
    show b_X8_solutions_48 _ x (nI c) (least (prX σ) f) (enc f) (nI 256) τ = _
    by_cases q : x = nI 0
    · simp (disch := omega) only [b_X8_solutions_48, b_X8_solutions_138, lit, pLeT, pLeF, pLtT, pLtF, pEqT, pEqF, nLeF, nLtF, nI_clamp, or_self, or_false, false_or, not_true_eq_false, not_false_eq_true, ↓reduceIte, nmS_eq, bd1_eq, bd2_eq, nI_add, pEqS, pk_mul, Nat.reduceAdd, Bool.false_eq_true, or_true, true_or, bestA, cntA, q, e_X8_well]
    · by_cases q1 : x = nI 1
      · subst q1
        simp (disch := omega) only [b_X8_solutions_48, b_X8_solutions_138, lit, pLeT, pLeF, pLtT, pLtF, pEqT, pEqF, nLeF, nLtF, nI_clamp, or_self, or_false, false_or, not_true_eq_false, not_false_eq_true, ↓reduceIte, nmS_eq, bd1_eq, bd2_eq, nI_add, pEqS, pk_mul, Nat.reduceAdd, Bool.false_eq_true, or_true, true_or, bestA, cntA, e_X8_well]
      · simp (disch := omega) only [b_X8_solutions_48, b_X8_solutions_138, lit, pLeT, pLeF, pLtT, pLtF, pEqT, pEqF, nLeF, nLtF, nI_clamp, or_self, or_false, false_or, not_true_eq_false, not_false_eq_true, ↓reduceIte, nmS_eq, bd1_eq, bd2_eq, nI_add, pEqS, pk_mul, Nat.reduceAdd, Bool.false_eq_true, or_true, true_or, bestA, cntA, q, q1, e_X8_well]
  | succ j ih0 =>
    intro i f c hi hc hf
    have ih := fun f c q1 q2 => ih0 (i + 1) f c (by omega) q1 q2
    have hh := (h.ho i).2
    have hp := h.prcM (nI i)
    have p1 : prc (σ.1 35) (nI i) = prX σ i := rfl
    rw [p1] at hp
    show b_X8_solutions_48 (l_X8_solutions_48 (n + 1 + j)) x (nI c) (least (prX σ) f) (enc f) (nI i) τ = some (if x = nI 0 then nI (cntA (hoX σ lv u) j (i + 1) (if hoX σ lv u i then c + 1 else c)) else if x = nI 1 then least (prX σ) (bestA (hoX σ lv u) (prX σ) j (i + 1) (if hoX σ lv u i && btr (prX σ) i f then some i else f)) else enc (bestA (hoX σ lv u) (prX σ) j (i + 1) (if hoX σ lv u i && btr (prX σ) i f then some i else f)), pI τ 0 4 (nI 0))
    cases e : hoX σ lv u i
    · rw [e] at hh
      have ih1 := ih f c (by omega) hf
      simp (disch := omega) only [b_X8_solutions_48, b_X8_solutions_112, lit, pLeT, pLeF, pLtT, pLtF, pEqT, pEqF, nLeF, nLtF, nI_clamp, or_self, or_false, false_or, not_true_eq_false, not_false_eq_true, ↓reduceIte, nmS_eq, bd1_eq, bd2_eq, nI_add, pEqS, pk_mul, Nat.reduceAdd, Bool.false_eq_true, or_true, true_or, hh, ih1, Bool.false_and]
    · rw [e] at hh
      cases f with
      | none =>
        have hc0 : c = 0 := hf.mpr rfl
        subst hc0
        have ih1 := ih (some i) 1 (by omega) ⟨fun q => by omega, fun q => by cases q⟩
        have e1 : least (prX σ) (some i) = prX σ i := rfl
        have e2 : enc (some i) = nI i := rfl
        rw [e1, e2] at ih1
        simp (disch := omega) only [b_X8_solutions_48, b_X8_solutions_83, b_X8_solutions_90, b_X8_solutions_102, b_X8_solutions_108, b_X8_solutions_112, lit, pLeT, pLeF, pLtT, pLtF, pEqT, pEqF, nLeF, nLtF, nI_clamp, or_self, or_false, false_or, not_true_eq_false, not_false_eq_true, ↓reduceIte, nmS_eq, bd1_eq, bd2_eq, nI_add, pEqS, pk_mul, Nat.reduceAdd, Bool.false_eq_true, or_true, true_or, hh, hp, ih1, Bool.true_and, btr]
      | some v =>
        have hc0 : 0 < c := Nat.pos_of_ne_zero (fun q => by have := hf.mp q; cases this)
        have l1 : least (prX σ) (some v) = prX σ v := rfl
        have l2 : enc (some v) = nI v := rfl
        by_cases q : prX σ v ≤ prX σ i
        · have ih1 := ih (some v) (c + 1) (by omega) ⟨fun q => by omega, fun q => by cases q⟩
          rw [l1, l2] at ih1
          simp (disch := omega) only [b_X8_solutions_48, b_X8_solutions_83, b_X8_solutions_90, b_X8_solutions_102, b_X8_solutions_108, b_X8_solutions_112, lit, pLeT, pLeF, pLtT, pLtF, pEqT, pEqF, nLeF, nLtF, nI_clamp, or_self, or_false, false_or, not_true_eq_false, not_false_eq_true, ↓reduceIte, nmS_eq, bd1_eq, bd2_eq, nI_add, pEqS, pk_mul, Nat.reduceAdd, Bool.false_eq_true, or_true, true_or, hh, hp, ih1, l1, l2, q, Bool.true_and, btr, decide_true, Bool.not_true]
        · have ih1 := ih (some i) (c + 1) (by omega) ⟨fun q => by omega, fun q => by cases q⟩
          have e1 : least (prX σ) (some i) = prX σ i := rfl
          have e2 : enc (some i) = nI i := rfl
          rw [e1, e2] at ih1
          simp (disch := omega) only [b_X8_solutions_48, b_X8_solutions_83, b_X8_solutions_90, b_X8_solutions_102, b_X8_solutions_108, b_X8_solutions_112, lit, pLeT, pLeF, pLtT, pLtF, pEqT, pEqF, nLeF, nLtF, nI_clamp, or_self, or_false, false_or, not_true_eq_false, not_false_eq_true, ↓reduceIte, nmS_eq, bd1_eq, bd2_eq, nI_add, pEqS, pk_mul, Nat.reduceAdd, Bool.false_eq_true, or_true, true_or, hh, hp, ih1, l1, l2, q, Bool.true_and, btr, decide_false, Bool.not_false]
theorem bestA_lt {ho : Nat → Bool} {pr : Nat → Int32} (j : Nat) : ∀ i (f : Option Nat), i + j = 256 → (∀ v, f = some v → v < 256) → ∀ v, bestA ho pr j i f = some v → v < 256 := by
  induction j with
  | zero => intro i f _ hf v hv; exact hf v hv
  | succ j ih =>
    intro i f hi hf v hv
    refine ih (i + 1) _ (by omega) ?_ v hv
    intro w hw
    split at hw
    · cases hw; omega
    · exact hf w hw
theorem s_solutions (x : Int32) : Sim RR (f_X7_solutions x) (f_X8_solutions x) := by
  intro σ τ ⟨u, lv, h⟩
  have hF := e_X8_isFormula h
  have hu := h.bk.hu
  rcases h.rd with q | q
  · rw [q] at hF
    refine ⟨-nI 1000002, σ, τ, ?_, ?_, u, lv, h⟩
    · simp (disch := omega) only [f_X7_solutions, lit, pLeT, pLeF, pLtT, pLtF, pEqT, pEqF, nLeF, nLtF, nI_clamp, or_self, or_false, false_or, not_true_eq_false, not_false_eq_true, ↓reduceIte, nmS_eq, bd1_eq, bd2_eq, nI_add, pEqS, pk_mul, Nat.reduceAdd, Bool.false_eq_true, or_true, true_or, q]
    · simp (disch := omega) only [f_X8_solutions, lit, pLeT, pLeF, pLtT, pLtF, pEqT, pEqF, nLeF, nLtF, nI_clamp, or_self, or_false, false_or, not_true_eq_false, not_false_eq_true, ↓reduceIte, nmS_eq, bd1_eq, bd2_eq, nI_add, pEqS, pk_mul, Nat.reduceAdd, Bool.false_eq_true, or_true, true_or, hF]
  · rw [q] at hF
    have e5 : x ≤ nI 2 ↔ ¬ nI 3 ≤ x := by rw [← lt_le1 (n := 2) (by omega)]; exact (Int32.not_lt).symm
    cases hx : inr x 3
    · refine ⟨-nI 1000001, σ, τ, ?_, ?_, u, lv, h⟩
      · rcases inr_not hx with q2 | q2 <;> simp (disch := omega) only [f_X7_solutions, b_X7_solutions_22, lit, pLeT, pLeF, pLtT, pLtF, pEqT, pEqF, nLeF, nLtF, nI_clamp, or_self, or_false, false_or, not_true_eq_false, not_false_eq_true, ↓reduceIte, nmS_eq, bd1_eq, bd2_eq, nI_add, pEqS, pk_mul, Nat.reduceAdd, Bool.false_eq_true, or_true, true_or, q, e5, q2, ite_self]
      · simp (disch := omega) only [f_X8_solutions, lit, pLeT, pLeF, pLtT, pLtF, pEqT, pEqF, nLeF, nLtF, nI_clamp, or_self, or_false, false_or, not_true_eq_false, not_false_eq_true, ↓reduceIte, nmS_eq, bd1_eq, bd2_eq, nI_add, pEqS, pk_mul, Nat.reduceAdd, Bool.false_eq_true, or_true, true_or, hF, e_inr, hx]
    · have hx2 := inr_yes hx
      obtain ⟨z, z1, z2, z3⟩ := h.over
      cases z
      · have h2 : l_X8_solutions_48 400 x (nI 0) (-nI 1000000) (-nI 1000000) (nI 0) τ = some (if x = nI 0 then nI (cntA (hoX σ lv u) 256 0 0) else if x = nI 1 then least (prX σ) (bestA (hoX σ lv u) (prX σ) 256 0 none) else enc (bestA (hoX σ lv u) (prX σ) 256 0 none), pI τ 0 4 (nI 0)) := l_X8_solutions h x 143 256 0 none 0 (by omega) (by omega) ⟨fun _ => rfl, fun _ => rfl⟩
        have h1 : f_X2_countSolutions 33 σ = some (nI (cntA (hoX σ lv u) 256 0 0), σ) := l_X2_countSolutions h 143 256 0 0 (by omega)
        have h3 : f_X2_bestValues 33 σ = some (enc (bestA (hoX σ lv u) (prX σ) 256 0 none), σ) := l_X2_bestValues h 143 256 0 none (by omega) (fun v q => by cases q)
        refine ⟨if x = nI 0 then nI (cntA (hoX σ lv u) 256 0 0) else if x = nI 1 then least (prX σ) (bestA (hoX σ lv u) (prX σ) 256 0 none) else enc (bestA (hoX σ lv u) (prX σ) 256 0 none), pI σ 0 7 (nI 0), pI τ 0 4 (nI 0), ?_, ?_, u, lv, h.find _⟩
        · by_cases q0 : x = nI 0
          · subst q0
            simp (disch := omega) only [f_X7_solutions, b_X7_solutions_62, lit, pLeT, pLeF, pLtT, pLtF, pEqT, pEqF, nLeF, nLtF, nI_clamp, or_self, or_false, false_or, not_true_eq_false, not_false_eq_true, ↓reduceIte, nmS_eq, bd1_eq, bd2_eq, nI_add, pEqS, pk_mul, Nat.reduceAdd, Bool.false_eq_true, or_true, true_or, q, z1, h1, e_X7_well]
          · cases e : bestA (hoX σ lv u) (prX σ) 256 0 none with
            | none =>
              rw [e] at h3
              have h3 : f_X2_bestValues 33 σ = some (-nI 1000000, σ) := h3
              simp (disch := omega) only [f_X7_solutions, f_X7_bestOfAll, b_X7_solutions_62, lit, pLeT, pLeF, pLtT, pLtF, pEqT, pEqF, nLeF, nLtF, nI_clamp, or_self, or_false, false_or, not_true_eq_false, not_false_eq_true, ↓reduceIte, nmS_eq, bd1_eq, bd2_eq, nI_add, pEqS, pk_mul, Nat.reduceAdd, Bool.false_eq_true, or_true, true_or, q, z1, hx2.1, hx2.2, e5, q0, h3, e_X7_well, least, enc, ite_self]
            | some v =>
              have hv := encne (bestA_lt 256 0 none (by omega) (fun v q => by cases q) v e)
              rw [e] at h3
              have h3 : f_X2_bestValues 33 σ = some (nI v, σ) := h3
              by_cases q1 : x = nI 1
              · subst q1
                have p1 : prc (σ.1 35) (nI v) = prX σ v := rfl
                simp (disch := omega) only [f_X7_solutions, f_X7_bestOfAll, b_X7_bestOfAll_34, b_X7_solutions_62, lit, pLeT, pLeF, pLtT, pLtF, pEqT, pEqF, nLeF, nLtF, nI_clamp, or_self, or_false, false_or, not_true_eq_false, not_false_eq_true, ↓reduceIte, nmS_eq, bd1_eq, bd2_eq, nI_add, pEqS, pk_mul, Nat.reduceAdd, Bool.false_eq_true, or_true, true_or, q, z1, hv, h3, e_X7_well, least, e_X2_priceOf, p1]
              · simp (disch := omega) only [f_X7_solutions, f_X7_bestOfAll, b_X7_bestOfAll_34, b_X7_solutions_62, lit, pLeT, pLeF, pLtT, pLtF, pEqT, pEqF, nLeF, nLtF, nI_clamp, or_self, or_false, false_or, not_true_eq_false, not_false_eq_true, ↓reduceIte, nmS_eq, bd1_eq, bd2_eq, nI_add, pEqS, pk_mul, Nat.reduceAdd, Bool.false_eq_true, or_true, true_or, q, z1, hx2.1, hx2.2, e5, q0, q1, hv, h3, e_X7_well, enc]
        · simp (disch := omega) only [f_X8_solutions, lit, pLeT, pLeF, pLtT, pLtF, pEqT, pEqF, nLeF, nLtF, nI_clamp, or_self, or_false, false_or, not_true_eq_false, not_false_eq_true, ↓reduceIte, nmS_eq, bd1_eq, bd2_eq, nI_add, pEqS, pk_mul, Nat.reduceAdd, Bool.false_eq_true, or_true, true_or, hF, e_inr, hx, z2, h2]
      · refine ⟨-nI 1000010 - nI 6, pI σ 0 7 (nI 6), pI τ 0 4 (nI 6), ?_, ?_, u, lv, h.find _⟩
        · simp (disch := omega) only [f_X7_solutions, lit, pLeT, pLeF, pLtT, pLtF, pEqT, pEqF, nLeF, nLtF, nI_clamp, or_self, or_false, false_or, not_true_eq_false, not_false_eq_true, ↓reduceIte, nmS_eq, bd1_eq, bd2_eq, nI_add, pEqS, pk_mul, Nat.reduceAdd, Bool.false_eq_true, or_true, true_or, q, z1, hx2.1, hx2.2, e5, e_X7_found]
        · simp (disch := omega) only [f_X8_solutions, lit, pLeT, pLeF, pLtT, pLtF, pEqT, pEqF, nLeF, nLtF, nI_clamp, or_self, or_false, false_or, not_true_eq_false, not_false_eq_true, ↓reduceIte, nmS_eq, bd1_eq, bd2_eq, nI_add, pEqS, pk_mul, Nat.reduceAdd, Bool.false_eq_true, or_true, true_or, hF, e_inr, hx, z2, e_X8_found]
