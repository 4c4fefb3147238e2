/-! ===== clauses that are there ===== -/
def hs (lv : Nat) (x : Int32) : Bool := inr x 30 && lv.testBit x.toNatClampNeg
theorem e_X2_isLive (k : Nat) (σ : Sto) {a : Nat} (ha : a < 32) : f_X2_isLive k (nI a) σ = some (if bt (σ.1 k 4) a then nI 1 else nI 0, σ) := by
  unfold f_X2_isLive b_X2_isLive_17
  have h := ub (σ.1 k 4) ha
  cases hb : bt (σ.1 k 4) a
  · rw [hb] at h
    simp (disch := omega) only [lit, pLeT, pLeF, pLtT, pLtF, pEqT, pEqF, nLeF, nLtF, nI_clamp, or_self, or_false, false_or, not_true_eq_false, not_false_eq_true, ↓reduceIte, nmS_eq, bd1_eq, bd2_eq, nI_add, pEqS, pk_mul, Nat.reduceAdd, Bool.false_eq_true, or_true, true_or, h]
  · rw [hb] at h
    simp (disch := omega) only [lit, pLeT, pLeF, pLtT, pLtF, pEqT, pEqF, nLeF, nLtF, nI_clamp, or_self, or_false, false_or, not_true_eq_false, not_false_eq_true, ↓reduceIte, nmS_eq, bd1_eq, bd2_eq, nI_add, pEqS, pk_mul, Nat.reduceAdd, Bool.false_eq_true, or_true, true_or, h]
theorem tb_of {lv u a : Nat} (hl : lv < 2 ^ u) (h : u ≤ a) : lv.testBit a = false := Nat.testBit_lt_two_pow (Nat.lt_of_lt_of_le hl (Nat.pow_le_pow_right (by decide) h))
theorem pw30 {lv u : Nat} (hl : lv < 2 ^ u) (h : u ≤ 30) : lv < 2 ^ 30 := Nat.lt_of_lt_of_le hl (Nat.pow_le_pow_right (by decide) h)
theorem RU.has {u lv : Nat} {σ τ : Sto} (h : RU u lv σ τ) (x : Int32) : f_X2_has 33 x σ = some (if hs lv x then nI 1 else nI 0, σ) ∧ f_X8_isLive x τ = some (if hs lv x then nI 1 else nI 0, τ) ∧ (hs lv x = true → ∃ a, a < u ∧ a < 30 ∧ x = nI a ∧ lv.testBit a = true) := by
  have hu := h.bk.hu
  have h30 := pw30 h.bk.hl hu
  have hus := h.us
  have hlv := h.lv
  unfold f_X2_has b_X2_has_24 b_X2_has_25
  cases hx : inr x 30
  · have hh : hs lv x = false := by unfold hs; rw [hx]; rfl
    have hM : f_X8_isLive x τ = some (nI 0, τ) := by
      unfold f_X8_isLive b_X8_isLive_30 b_X8_isLive_31
      simp (disch := omega) only [lit, pLeT, pLeF, pLtT, pLtF, pEqT, pEqF, nLeF, nLtF, nI_clamp, or_self, or_false, false_or, not_true_eq_false, not_false_eq_true, ↓reduceIte, nmS_eq, bd1_eq, bd2_eq, nI_add, pEqS, pk_mul, Nat.reduceAdd, Bool.false_eq_true, or_true, true_or, e_inr, hx]
    rw [hh]
    refine ⟨?_, hM, fun q => by cases q⟩
    rcases inr_not hx with q | q
    · simp (disch := omega) only [lit, pLeT, pLeF, pLtT, pLtF, pEqT, pEqF, nLeF, nLtF, nI_clamp, or_self, or_false, false_or, not_true_eq_false, not_false_eq_true, ↓reduceIte, nmS_eq, bd1_eq, bd2_eq, nI_add, pEqS, pk_mul, Nat.reduceAdd, Bool.false_eq_true, or_true, true_or, q]
    · have q2 : nI u ≤ x := Int32.le_trans (nI_le hu (by omega)) q
      simp (disch := omega) only [lit, pLeT, pLeF, pLtT, pLtF, pEqT, pEqF, nLeF, nLtF, nI_clamp, or_self, or_false, false_or, not_true_eq_false, not_false_eq_true, ↓reduceIte, nmS_eq, bd1_eq, bd2_eq, nI_add, pEqS, pk_mul, Nat.reduceAdd, Bool.false_eq_true, or_true, true_or, hus, q2, ite_self]
  · obtain ⟨a, ha, e⟩ := inr_of (by omega) hx
    subst e
    have hh : hs lv (nI a) = lv.testBit a := by unfold hs; rw [hx, nI_clamp (by omega)]; rfl
    have hM := e_X8_isLive τ h.bk.wl h30 ha
    rw [hh]
    refine ⟨?_, hM, fun q => ?_⟩
    · by_cases q : u ≤ a
      · have q2 := tb_of h.bk.hl q
        simp (disch := omega) only [lit, pLeT, pLeF, pLtT, pLtF, pEqT, pEqF, nLeF, nLtF, nI_clamp, or_self, or_false, false_or, not_true_eq_false, not_false_eq_true, ↓reduceIte, nmS_eq, bd1_eq, bd2_eq, nI_add, pEqS, pk_mul, Nat.reduceAdd, Bool.false_eq_true, or_true, true_or, hus, q2, ite_self]
      · have e3 : bt (nI lv) a = lv.testBit a := nI_bt (by omega) (by omega)
        cases hb : lv.testBit a <;> simp (disch := omega) only [lit, pLeT, pLeF, pLtT, pLtF, pEqT, pEqF, nLeF, nLtF, nI_clamp, or_self, or_false, false_or, not_true_eq_false, not_false_eq_true, ↓reduceIte, nmS_eq, bd1_eq, bd2_eq, nI_add, pEqS, pk_mul, Nat.reduceAdd, Bool.false_eq_true, or_true, true_or, hus, e_X2_isLive, hlv, e3, hb]
    · refine ⟨a, ?_, ha, rfl, q⟩
      apply Nat.lt_of_not_le
      intro z
      rw [tb_of h.bk.hl z] at q
      cases q
theorem RU.clm {u lv : Nat} {σ τ : Sto} (h : RU u lv σ τ) {a : Nat} (ha : a < u) : Cl σ (36 + 2 * a) (fun i => τ.2 6 (12 + 10 * a + i)) := h.bk.cl a ha
theorem RU.cfm {u lv : Nat} {σ τ : Sto} (h : RU u lv σ τ) {a v : Nat} (ha : a < u) (hv : v < 8) : τ.2 6 (12 + 10 * a + 2 + v) = σ.2 (36 + 2 * a + 1) v := by
  have h2 := ((h.clm ha).cf v hv).2
  rw [show 12 + 10 * a + 2 + v = 12 + 10 * a + (2 + v) by omega]
  exact h2
theorem RU.dgm {u lv : Nat} {σ τ : Sto} (h : RU u lv σ τ) {a : Nat} (ha : a < u) : τ.2 6 (12 + 10 * a + 1) = σ.2 (36 + 2 * a) 2 := (h.clm ha).dg
theorem RU.okX {u lv : Nat} {σ τ : Sto} (h : RU u lv σ τ) {a : Nat} (ha : a < u) : okC (σ.2 (36 + 2 * a + 1)) := fun v hv => ((h.clm ha).cf v hv).1
theorem RU.okM {u lv : Nat} {σ τ : Sto} (h : RU u lv σ τ) {a : Nat} (ha : a < u) : okC (fun v => τ.2 6 (12 + 10 * a + 2 + v)) := by
  intro v hv
  show ok (τ.2 6 (12 + 10 * a + 2 + v))
  rw [h.cfm ha hv]
  exact h.okX ha v hv
theorem RU.sumM {u lv : Nat} {σ τ : Sto} (h : RU u lv σ τ) {a : Nat} (ha : a < u) : f_X8_sumOf 6 312 (nI (12 + 10 * a)) τ = some (tot (σ.2 (36 + 2 * a + 1)), τ) := by
  have hu := h.bk.hu
  rw [e_X8_sumOf 6 312 (12 + 10 * a) τ (by omega) (by omega) (h.okM ha), tot_cong (fun v hv => h.cfm ha hv)]
theorem RU.slkM {u lv : Nat} {σ τ : Sto} (h : RU u lv σ τ) {a : Nat} (ha : a < u) (kn va : Int32) : f_X8_slackOf 6 312 (nI (12 + 10 * a)) kn va τ = some (slk (σ.2 (36 + 2 * a + 1)) (σ.2 (36 + 2 * a) 2) kn va, τ) := by
  have hu := h.bk.hu
  rw [e_X8_slackOf 6 312 (12 + 10 * a) kn va τ (by omega) (by omega), h.dgm ha, slk_cong _ kn va (fun v hv => h.cfm ha hv)]
theorem e_X3_isBeyond (k : Nat) (σ : Sto) : f_X3_isBeyond k σ = some (if 0 ≤ tot (σ.2 (k + 1)) then nI 0 else nI 1, σ) := by
  unfold f_X3_isBeyond b_X3_isBeyond_14
  by_cases q : 0 ≤ tot (σ.2 (k + 1)) <;> simp (disch := omega) only [lit, pLeT, pLeF, pLtT, pLtF, pEqT, pEqF, nLeF, nLtF, nI_clamp, or_self, or_false, false_or, not_true_eq_false, not_false_eq_true, ↓reduceIte, nmS_eq, bd1_eq, bd2_eq, nI_add, pEqS, pk_mul, Nat.reduceAdd, Bool.false_eq_true, or_true, true_or, e_X3_total, q]
theorem e_X7_found (x : Int32) (σ : Sto) : f_X7_found x σ = some (-nI 1000010 - x, pI σ 0 7 x) := rfl
theorem e_X8_found (x : Int32) (σ : Sto) : f_X8_found x σ = some (-nI 1000010 - x, pI σ 0 4 x) := rfl
theorem e_X7_well (x : Int32) (σ : Sto) : f_X7_well x σ = some (x, pI σ 0 7 (nI 0)) := rfl
theorem e_X8_well (x : Int32) (σ : Sto) : f_X8_well x σ = some (x, pI σ 0 4 (nI 0)) := rfl
theorem e_X8_isFormula {u lv : Nat} {σ τ : Sto} (h : RU u lv σ τ) : f_X8_isFormula τ = some (σ.1 33 2, τ) := by
  have h1 := h.bk.wi
  unfold f_X8_isFormula b_X8_isFormula_17
  rcases h.rd with q | q
  · rw [q] at h1
    have h2 : τ.2 6 11 = 0 := h1
    have h3 : ((0 : Int64) = 1) = False := eq_false (by decide)
    simp (disch := omega) only [lit, pLeT, pLeF, pLtT, pLtF, pEqT, pEqF, nLeF, nLtF, nI_clamp, or_self, or_false, false_or, not_true_eq_false, not_false_eq_true, ↓reduceIte, nmS_eq, bd1_eq, bd2_eq, nI_add, pEqS, pk_mul, Nat.reduceAdd, Bool.false_eq_true, or_true, true_or, q, h2, h3]
  · rw [q] at h1
    have h2 : τ.2 6 11 = 1 := h1
    simp (disch := omega) only [lit, pLeT, pLeF, pLtT, pLtF, pEqT, pEqF, nLeF, nLtF, nI_clamp, or_self, or_false, false_or, not_true_eq_false, not_false_eq_true, ↓reduceIte, nmS_eq, bd1_eq, bd2_eq, nI_add, pEqS, pk_mul, Nat.reduceAdd, Bool.false_eq_true, or_true, true_or, q, h2]
theorem e_X2_isFull {u lv : Nat} {σ τ : Sto} (h : RU u lv σ τ) : f_X2_isFull 33 σ = some (if u < 30 then nI 0 else nI 1, σ) ∧ f_X8_isFull τ = some (if u < 30 then nI 0 else nI 1, τ) := by
  have hu := h.bk.hu
  have h1 := h.us
  have h2 := h.bk.wu
  unfold f_X2_isFull b_X2_isFull_14 f_X8_isFull b_X8_isFull_19
  by_cases q : u < 30
  · have h3 : (lN u = 30) = False := eq_false (fun z => by have := (lN_eq (a := u) (b := 30) (by omega) (by omega)).mp z; omega)
    simp (disch := omega) only [lit, pLeT, pLeF, pLtT, pLtF, pEqT, pEqF, nLeF, nLtF, nI_clamp, or_self, or_false, false_or, not_true_eq_false, not_false_eq_true, ↓reduceIte, nmS_eq, bd1_eq, bd2_eq, nI_add, pEqS, pk_mul, Nat.reduceAdd, Bool.false_eq_true, or_true, true_or, h1, h2, h3, q, and_self]
  · have h3 : (lN u = 30) = True := eq_true (by rw [show u = 30 by omega]; rfl)
    simp (disch := omega) only [lit, pLeT, pLeF, pLtT, pLtF, pEqT, pEqF, nLeF, nLtF, nI_clamp, or_self, or_false, false_or, not_true_eq_false, not_false_eq_true, ↓reduceIte, nmS_eq, bd1_eq, bd2_eq, nI_add, pEqS, pk_mul, Nat.reduceAdd, Bool.false_eq_true, or_true, true_or, h1, h2, h3, q, and_self]
/-! ===== calls that only tell ===== -/
theorem s_status : Sim RR f_X7_status f_X8_status := fun σ τ ⟨u, lv, h⟩ => ⟨_, _, _, rfl, by rw [h.st]; rfl, u, lv, h⟩
theorem s_fault : Sim RR f_X7_fault f_X8_fault := fun σ τ ⟨u, lv, h⟩ => ⟨_, _, _, rfl, by rw [h.ft]; rfl, u, lv, h⟩
theorem s_price (x : Int32) : Sim RR (f_X7_price x) (f_X8_price x) := by
  intro σ τ ⟨u, lv, h⟩
  cases hx : inr x 8
  · refine ⟨-nI 1000001, σ, τ, ?_, ?_, u, lv, h⟩
    · simp (disch := omega) only [f_X7_price, b_X7_price_21, lit, pLeT, pLeF, pLtT, pLtF, pEqT, pEqF, nLeF, nLtF, nI_clamp, or_self, or_false, false_or, not_true_eq_false, not_false_eq_true, ↓reduceIte, nmS_eq, bd1_eq, bd2_eq, nI_add, pEqS, pk_mul, Nat.reduceAdd, Bool.false_eq_true, or_true, true_or, e_X7_isVariable, hx]
    · simp (disch := omega) only [f_X8_price, b_X8_price_22, lit, pLeT, pLeF, pLtT, pLtF, pEqT, pEqF, nLeF, nLtF, nI_clamp, or_self, or_false, false_or, not_true_eq_false, not_false_eq_true, ↓reduceIte, nmS_eq, bd1_eq, bd2_eq, nI_add, pEqS, pk_mul, Nat.reduceAdd, Bool.false_eq_true, or_true, true_or, e_inr, hx]
  · obtain ⟨v, hv, e⟩ := inr_of (by omega) hx
    subst e
    obtain ⟨p, p1, p2, p3⟩ := h.bk.pr v hv
    have p2 : σ.1 35 v = nI p := p2
    refine ⟨nI p, σ, τ, ?_, ?_, u, lv, h⟩
    · simp (disch := omega) only [f_X7_price, b_X7_price_21, lit, pLeT, pLeF, pLtT, pLtF, pEqT, pEqF, nLeF, nLtF, nI_clamp, or_self, or_false, false_or, not_true_eq_false, not_false_eq_true, ↓reduceIte, nmS_eq, bd1_eq, bd2_eq, nI_add, pEqS, pk_mul, Nat.reduceAdd, Bool.false_eq_true, or_true, true_or, e_X7_isVariable, hx, p2]
    · simp (disch := omega) only [f_X8_price, b_X8_price_22, lit, pLeT, pLeF, pLtT, pLtF, pEqT, pEqF, nLeF, nLtF, nI_clamp, or_self, or_false, false_or, not_true_eq_false, not_false_eq_true, ↓reduceIte, nmS_eq, bd1_eq, bd2_eq, nI_add, pEqS, pk_mul, Nat.reduceAdd, Bool.false_eq_true, or_true, true_or, e_inr, hx, p3, lN_i]
theorem s_kind (x : Int32) : Sim RR (f_X7_kind x) (f_X8_kind x) := by
  intro σ τ ⟨u, lv, h⟩
  obtain ⟨h1, h2, h3⟩ := h.has x
  cases hx : hs lv x
  · rw [hx] at h1 h2
    refine ⟨-nI 1000001, σ, τ, ?_, ?_, u, lv, h⟩
    · simp (disch := omega) only [f_X7_kind, b_X7_kind_28, lit, pLeT, pLeF, pLtT, pLtF, pEqT, pEqF, nLeF, nLtF, nI_clamp, or_self, or_false, false_or, not_true_eq_false, not_false_eq_true, ↓reduceIte, nmS_eq, bd1_eq, bd2_eq, nI_add, pEqS, pk_mul, Nat.reduceAdd, Bool.false_eq_true, or_true, true_or, h1]
    · simp (disch := omega) only [f_X8_kind, b_X8_kind_18, lit, pLeT, pLeF, pLtT, pLtF, pEqT, pEqF, nLeF, nLtF, nI_clamp, or_self, or_false, false_or, not_true_eq_false, not_false_eq_true, ↓reduceIte, nmS_eq, bd1_eq, bd2_eq, nI_add, pEqS, pk_mul, Nat.reduceAdd, Bool.false_eq_true, or_true, true_or, h2]
  · rw [hx] at h1 h2
    obtain ⟨a, ha, ha2, e, -⟩ := h3 hx
    subst e
    obtain ⟨q, q1, q2, q3, q4⟩ := (h.clm ha).kd
    have q4 : τ.2 6 (12 + 10 * a) = lN q := q4
    refine ⟨nI q, σ, τ, ?_, ?_, u, lv, h⟩
    · simp (disch := omega) only [f_X7_kind, b_X7_kind_28, lit, pLeT, pLeF, pLtT, pLtF, pEqT, pEqF, nLeF, nLtF, nI_clamp, or_self, or_false, false_or, not_true_eq_false, not_false_eq_true, ↓reduceIte, nmS_eq, bd1_eq, bd2_eq, nI_add, pEqS, pk_mul, Nat.reduceAdd, Bool.false_eq_true, or_true, true_or, h1, q3]
    · simp (disch := omega) only [f_X8_kind, f_X8_kindIn, b_X8_kind_18, lit, pLeT, pLeF, pLtT, pLtF, pEqT, pEqF, nLeF, nLtF, nI_clamp, or_self, or_false, false_or, not_true_eq_false, not_false_eq_true, ↓reduceIte, nmS_eq, bd1_eq, bd2_eq, nI_add, pEqS, pk_mul, Nat.reduceAdd, Bool.false_eq_true, or_true, true_or, h2, q4, lN_i]
theorem s_degree (x : Int32) : Sim RR (f_X7_degree x) (f_X8_degree x) := by
  intro σ τ ⟨u, lv, h⟩
  obtain ⟨h1, h2, h3⟩ := h.has x
  cases hx : hs lv x
  · rw [hx] at h1 h2
    refine ⟨-1000001, σ, τ, ?_, ?_, u, lv, h⟩
    · simp (disch := omega) only [f_X7_degree, b_X7_degree_29, lit, pLeT, pLeF, pLtT, pLtF, pEqT, pEqF, nLeF, nLtF, nI_clamp, or_self, or_false, false_or, not_true_eq_false, not_false_eq_true, ↓reduceIte, nmS_eq, bd1_eq, bd2_eq, nI_add, pEqS, pk_mul, Nat.reduceAdd, Bool.false_eq_true, or_true, true_or, h1]
    · simp (disch := omega) only [f_X8_degree, b_X8_degree_28, lit, pLeT, pLeF, pLtT, pLtF, pEqT, pEqF, nLeF, nLtF, nI_clamp, or_self, or_false, false_or, not_true_eq_false, not_false_eq_true, ↓reduceIte, nmS_eq, bd1_eq, bd2_eq, nI_add, pEqS, pk_mul, Nat.reduceAdd, Bool.false_eq_true, or_true, true_or, h2]
  · rw [hx] at h1 h2
    obtain ⟨a, ha, ha2, e, -⟩ := h3 hx
    subst e
    refine ⟨σ.2 (36 + 2 * a) 2, σ, τ, ?_, ?_, u, lv, h⟩
    · simp (disch := omega) only [f_X7_degree, b_X7_degree_29, lit, pLeT, pLeF, pLtT, pLtF, pEqT, pEqF, nLeF, nLtF, nI_clamp, or_self, or_false, false_or, not_true_eq_false, not_false_eq_true, ↓reduceIte, nmS_eq, bd1_eq, bd2_eq, nI_add, pEqS, pk_mul, Nat.reduceAdd, Bool.false_eq_true, or_true, true_or, h1]
    · simp (disch := omega) only [f_X8_degree, b_X8_degree_28, lit, pLeT, pLeF, pLtT, pLtF, pEqT, pEqF, nLeF, nLtF, nI_clamp, or_self, or_false, false_or, not_true_eq_false, not_false_eq_true, ↓reduceIte, nmS_eq, bd1_eq, bd2_eq, nI_add, pEqS, pk_mul, Nat.reduceAdd, Bool.false_eq_true, or_true, true_or, h2, h.dgm ha]
theorem s_coefficient (x y : Int32) : Sim RR (f_X7_coefficient x y) (f_X8_coefficient x y) := by
  intro σ τ ⟨u, lv, h⟩
  obtain ⟨h1, h2, h3⟩ := h.has x
  cases hx : hs lv x
  · rw [hx] at h1 h2
    refine ⟨-1000001, σ, τ, ?_, ?_, u, lv, h⟩
    · simp (disch := omega) only [f_X7_coefficient, b_X7_coefficient_35, b_X7_coefficient_38, lit, pLeT, pLeF, pLtT, pLtF, pEqT, pEqF, nLeF, nLtF, nI_clamp, or_self, or_false, false_or, not_true_eq_false, not_false_eq_true, ↓reduceIte, nmS_eq, bd1_eq, bd2_eq, nI_add, pEqS, pk_mul, Nat.reduceAdd, Bool.false_eq_true, or_true, true_or, h1]
    · simp (disch := omega) only [f_X8_coefficient, b_X8_coefficient_37, b_X8_coefficient_40, lit, pLeT, pLeF, pLtT, pLtF, pEqT, pEqF, nLeF, nLtF, nI_clamp, or_self, or_false, false_or, not_true_eq_false, not_false_eq_true, ↓reduceIte, nmS_eq, bd1_eq, bd2_eq, nI_add, pEqS, pk_mul, Nat.reduceAdd, Bool.false_eq_true, or_true, true_or, h2]
  · rw [hx] at h1 h2
    obtain ⟨a, ha, ha2, e, -⟩ := h3 hx
    subst e
    cases hy : inr y 8
    · refine ⟨-1000001, σ, τ, ?_, ?_, u, lv, h⟩
      · simp (disch := omega) only [f_X7_coefficient, b_X7_coefficient_35, b_X7_coefficient_38, lit, pLeT, pLeF, pLtT, pLtF, pEqT, pEqF, nLeF, nLtF, nI_clamp, or_self, or_false, false_or, not_true_eq_false, not_false_eq_true, ↓reduceIte, nmS_eq, bd1_eq, bd2_eq, nI_add, pEqS, pk_mul, Nat.reduceAdd, Bool.false_eq_true, or_true, true_or, h1, e_X7_isVariable, hy]
      · simp (disch := omega) only [f_X8_coefficient, b_X8_coefficient_37, b_X8_coefficient_40, lit, pLeT, pLeF, pLtT, pLtF, pEqT, pEqF, nLeF, nLtF, nI_clamp, or_self, or_false, false_or, not_true_eq_false, not_false_eq_true, ↓reduceIte, nmS_eq, bd1_eq, bd2_eq, nI_add, pEqS, pk_mul, Nat.reduceAdd, Bool.false_eq_true, or_true, true_or, h2, e_inr, hy]
    · obtain ⟨v, hv, e⟩ := inr_of (by omega) hy
      subst e
      refine ⟨σ.2 (36 + 2 * a + 1) v, σ, τ, ?_, ?_, u, lv, h⟩
      · simp (disch := omega) only [f_X7_coefficient, b_X7_coefficient_35, b_X7_coefficient_38, lit, pLeT, pLeF, pLtT, pLtF, pEqT, pEqF, nLeF, nLtF, nI_clamp, or_self, or_false, false_or, not_true_eq_false, not_false_eq_true, ↓reduceIte, nmS_eq, bd1_eq, bd2_eq, nI_add, pEqS, pk_mul, Nat.reduceAdd, Bool.false_eq_true, or_true, true_or, h1, e_X7_isVariable, hy]
      · simp (disch := omega) only [f_X8_coefficient, b_X8_coefficient_37, b_X8_coefficient_40, lit, pLeT, pLeF, pLtT, pLtF, pEqT, pEqF, nLeF, nLtF, nI_clamp, or_self, or_false, false_or, not_true_eq_false, not_false_eq_true, ↓reduceIte, nmS_eq, bd1_eq, bd2_eq, nI_add, pEqS, pk_mul, Nat.reduceAdd, Bool.false_eq_true, or_true, true_or, h2, e_inr, hy, h.cfm ha hv]
theorem s_sum (x : Int32) : Sim RR (f_X7_sum x) (f_X8_sum x) := by
  intro σ τ ⟨u, lv, h⟩
  obtain ⟨h1, h2, h3⟩ := h.has x
  cases hx : hs lv x
  · rw [hx] at h1 h2
    refine ⟨-1000001, σ, τ, ?_, ?_, u, lv, h⟩
    · simp (disch := omega) only [f_X7_sum, lit, pLeT, pLeF, pLtT, pLtF, pEqT, pEqF, nLeF, nLtF, nI_clamp, or_self, or_false, false_or, not_true_eq_false, not_false_eq_true, ↓reduceIte, nmS_eq, bd1_eq, bd2_eq, nI_add, pEqS, pk_mul, Nat.reduceAdd, Bool.false_eq_true, or_true, true_or, h1]
    · simp (disch := omega) only [f_X8_sum, lit, pLeT, pLeF, pLtT, pLtF, pEqT, pEqF, nLeF, nLtF, nI_clamp, or_self, or_false, false_or, not_true_eq_false, not_false_eq_true, ↓reduceIte, nmS_eq, bd1_eq, bd2_eq, nI_add, pEqS, pk_mul, Nat.reduceAdd, Bool.false_eq_true, or_true, true_or, h2]
  · rw [hx] at h1 h2
    obtain ⟨a, ha, ha2, e, -⟩ := h3 hx
    subst e
    by_cases q : 0 ≤ tot (σ.2 (36 + 2 * a + 1))
    · refine ⟨tot (σ.2 (36 + 2 * a + 1)), pI σ 0 7 (nI 0), pI τ 0 4 (nI 0), ?_, ?_, u, lv, h.find _⟩
      · simp (disch := omega) only [f_X7_sum, lit, pLeT, pLeF, pLtT, pLtF, pEqT, pEqF, nLeF, nLtF, nI_clamp, or_self, or_false, false_or, not_true_eq_false, not_false_eq_true, ↓reduceIte, nmS_eq, bd1_eq, bd2_eq, nI_add, pEqS, pk_mul, Nat.reduceAdd, Bool.false_eq_true, or_true, true_or, h1, e_X3_isBeyond, e_X3_total, q, pI_2]
      · simp (disch := omega) only [f_X8_sum, lit, pLeT, pLeF, pLtT, pLtF, pEqT, pEqF, nLeF, nLtF, nI_clamp, or_self, or_false, false_or, not_true_eq_false, not_false_eq_true, ↓reduceIte, nmS_eq, bd1_eq, bd2_eq, nI_add, pEqS, pk_mul, Nat.reduceAdd, Bool.false_eq_true, or_true, true_or, h2, h.sumM ha, q]
    · refine ⟨(-nI 1000010 - nI 6).toInt64, pI σ 0 7 (nI 6), pI τ 0 4 (nI 6), ?_, ?_, u, lv, h.find _⟩
      · simp (disch := omega) only [f_X7_sum, lit, pLeT, pLeF, pLtT, pLtF, pEqT, pEqF, nLeF, nLtF, nI_clamp, or_self, or_false, false_or, not_true_eq_false, not_false_eq_true, ↓reduceIte, nmS_eq, bd1_eq, bd2_eq, nI_add, pEqS, pk_mul, Nat.reduceAdd, Bool.false_eq_true, or_true, true_or, h1, e_X3_isBeyond, e_X3_total, q, e_X7_found]
      · simp (disch := omega) only [f_X8_sum, lit, pLeT, pLeF, pLtT, pLtF, pEqT, pEqF, nLeF, nLtF, nI_clamp, or_self, or_false, false_or, not_true_eq_false, not_false_eq_true, ↓reduceIte, nmS_eq, bd1_eq, bd2_eq, nI_add, pEqS, pk_mul, Nat.reduceAdd, Bool.false_eq_true, or_true, true_or, h2, h.sumM ha, q, e_X8_found]
theorem s_slack (x y z : Int32) : Sim RR (f_X7_slack x y z) (f_X8_slack x y z) := by
  intro σ τ ⟨u, lv, h⟩
  obtain ⟨h1, h2, h3⟩ := h.has x
  cases hx : hs lv x
  · rw [hx] at h1 h2
    refine ⟨-1000001, σ, τ, ?_, ?_, u, lv, h⟩
    · simp (disch := omega) only [f_X7_slack, b_X7_slack_25, lit, pLeT, pLeF, pLtT, pLtF, pEqT, pEqF, nLeF, nLtF, nI_clamp, or_self, or_false, false_or, not_true_eq_false, not_false_eq_true, ↓reduceIte, nmS_eq, bd1_eq, bd2_eq, nI_add, pEqS, pk_mul, Nat.reduceAdd, Bool.false_eq_true, or_true, true_or, h1]
    · simp (disch := omega) only [f_X8_slack, b_X8_slack_30, lit, pLeT, pLeF, pLtT, pLtF, pEqT, pEqF, nLeF, nLtF, nI_clamp, or_self, or_false, false_or, not_true_eq_false, not_false_eq_true, ↓reduceIte, nmS_eq, bd1_eq, bd2_eq, nI_add, pEqS, pk_mul, Nat.reduceAdd, Bool.false_eq_true, or_true, true_or, h2]
  · rw [hx] at h1 h2
    obtain ⟨a, ha, ha2, e, -⟩ := h3 hx
    subst e
    cases hy : inr y 256
    · refine ⟨-1000001, σ, τ, ?_, ?_, u, lv, h⟩
      · simp (disch := omega) only [f_X7_slack, b_X7_slack_25, lit, pLeT, pLeF, pLtT, pLtF, pEqT, pEqF, nLeF, nLtF, nI_clamp, or_self, or_false, false_or, not_true_eq_false, not_false_eq_true, ↓reduceIte, nmS_eq, bd1_eq, bd2_eq, nI_add, pEqS, pk_mul, Nat.reduceAdd, Bool.false_eq_true, or_true, true_or, h1, e_X7_isSet, hy]
      · simp (disch := omega) only [f_X8_slack, b_X8_slack_30, lit, pLeT, pLeF, pLtT, pLtF, pEqT, pEqF, nLeF, nLtF, nI_clamp, or_self, or_false, false_or, not_true_eq_false, not_false_eq_true, ↓reduceIte, nmS_eq, bd1_eq, bd2_eq, nI_add, pEqS, pk_mul, Nat.reduceAdd, Bool.false_eq_true, or_true, true_or, h2, e_inr, hy]
    · cases hz : inr z 256
      · refine ⟨-1000001, σ, τ, ?_, ?_, u, lv, h⟩
        · simp (disch := omega) only [f_X7_slack, b_X7_slack_25, lit, pLeT, pLeF, pLtT, pLtF, pEqT, pEqF, nLeF, nLtF, nI_clamp, or_self, or_false, false_or, not_true_eq_false, not_false_eq_true, ↓reduceIte, nmS_eq, bd1_eq, bd2_eq, nI_add, pEqS, pk_mul, Nat.reduceAdd, Bool.false_eq_true, or_true, true_or, h1, e_X7_isSet, hy, hz]
        · simp (disch := omega) only [f_X8_slack, b_X8_slack_30, lit, pLeT, pLeF, pLtT, pLtF, pEqT, pEqF, nLeF, nLtF, nI_clamp, or_self, or_false, false_or, not_true_eq_false, not_false_eq_true, ↓reduceIte, nmS_eq, bd1_eq, bd2_eq, nI_add, pEqS, pk_mul, Nat.reduceAdd, Bool.false_eq_true, or_true, true_or, h2, e_inr, hy, hz]
      · by_cases q : 0 ≤ tot (σ.2 (36 + 2 * a + 1))
        · have h4 := (h.find (nI 0)).slkM ha y z
          rw [pI_2] at h4
          refine ⟨slk (σ.2 (36 + 2 * a + 1)) (σ.2 (36 + 2 * a) 2) y z, pI σ 0 7 (nI 0), pI τ 0 4 (nI 0), ?_, ?_, u, lv, h.find _⟩
          · simp (disch := omega) only [f_X7_slack, b_X7_slack_25, lit, pLeT, pLeF, pLtT, pLtF, pEqT, pEqF, nLeF, nLtF, nI_clamp, or_self, or_false, false_or, not_true_eq_false, not_false_eq_true, ↓reduceIte, nmS_eq, bd1_eq, bd2_eq, nI_add, pEqS, pk_mul, Nat.reduceAdd, Bool.false_eq_true, or_true, true_or, h1, e_X7_isSet, hy, hz, e_X3_isBeyond, q, e_X3_slackBy, pI_2]
          · simp (disch := omega) only [f_X8_slack, b_X8_slack_30, lit, pLeT, pLeF, pLtT, pLtF, pEqT, pEqF, nLeF, nLtF, nI_clamp, or_self, or_false, false_or, not_true_eq_false, not_false_eq_true, ↓reduceIte, nmS_eq, bd1_eq, bd2_eq, nI_add, pEqS, pk_mul, Nat.reduceAdd, Bool.false_eq_true, or_true, true_or, h2, e_inr, hy, hz, h.sumM ha, q, h4]
        · refine ⟨(-nI 1000010 - nI 6).toInt64, pI σ 0 7 (nI 6), pI τ 0 4 (nI 6), ?_, ?_, u, lv, h.find _⟩
          · simp (disch := omega) only [f_X7_slack, b_X7_slack_25, lit, pLeT, pLeF, pLtT, pLtF, pEqT, pEqF, nLeF, nLtF, nI_clamp, or_self, or_false, false_or, not_true_eq_false, not_false_eq_true, ↓reduceIte, nmS_eq, bd1_eq, bd2_eq, nI_add, pEqS, pk_mul, Nat.reduceAdd, Bool.false_eq_true, or_true, true_or, h1, e_X7_isSet, hy, hz, e_X3_isBeyond, q, e_X7_found]
          · simp (disch := omega) only [f_X8_slack, b_X8_slack_30, lit, pLeT, pLeF, pLtT, pLtF, pEqT, pEqF, nLeF, nLtF, nI_clamp, or_self, or_false, false_or, not_true_eq_false, not_false_eq_true, ↓reduceIte, nmS_eq, bd1_eq, bd2_eq, nI_add, pEqS, pk_mul, Nat.reduceAdd, Bool.false_eq_true, or_true, true_or, h2, e_inr, hy, hz, h.sumM ha, q, e_X8_found]
theorem s_as (x y : Int32) : Sim RR (f_X7_as x y) (f_X8_as x y) := by
  intro σ τ ⟨u, lv, h⟩
  obtain ⟨h1, h2, h3⟩ := h.has x
  cases hx : hs lv x
  · rw [hx] at h1 h2
    refine ⟨-nI 1000001, σ, τ, ?_, ?_, u, lv, h⟩
    · simp (disch := omega) only [f_X7_as, b_X7_as_20, lit, pLeT, pLeF, pLtT, pLtF, pEqT, pEqF, nLeF, nLtF, nI_clamp, or_self, or_false, false_or, not_true_eq_false, not_false_eq_true, ↓reduceIte, nmS_eq, bd1_eq, bd2_eq, nI_add, pEqS, pk_mul, Nat.reduceAdd, Bool.false_eq_true, or_true, true_or, h1]
    · simp (disch := omega) only [f_X8_as, b_X8_as_17, lit, pLeT, pLeF, pLtT, pLtF, pEqT, pEqF, nLeF, nLtF, nI_clamp, or_self, or_false, false_or, not_true_eq_false, not_false_eq_true, ↓reduceIte, nmS_eq, bd1_eq, bd2_eq, nI_add, pEqS, pk_mul, Nat.reduceAdd, Bool.false_eq_true, or_true, true_or, h2]
  · rw [hx] at h1 h2
    obtain ⟨a, ha, ha2, e, -⟩ := h3 hx
    subst e
    have e5 : y ≤ nI 5 ↔ ¬ nI 6 ≤ y := by rw [← lt_le1 (n := 5) (by omega)]; exact (Int32.not_lt).symm
    cases hy : inr y 6
    · refine ⟨-nI 1000001, σ, τ, ?_, ?_, u, lv, h⟩
      · rcases inr_not hy with q | q <;> simp (disch := omega) only [f_X7_as, b_X7_as_20, lit, pLeT, pLeF, pLtT, pLtF, pEqT, pEqF, nLeF, nLtF, nI_clamp, or_self, or_false, false_or, not_true_eq_false, not_false_eq_true, ↓reduceIte, nmS_eq, bd1_eq, bd2_eq, nI_add, pEqS, pk_mul, Nat.reduceAdd, Bool.false_eq_true, or_true, true_or, h1, e5, q, ite_self]
      · simp (disch := omega) only [f_X8_as, b_X8_as_17, lit, pLeT, pLeF, pLtT, pLtF, pEqT, pEqF, nLeF, nLtF, nI_clamp, or_self, or_false, false_or, not_true_eq_false, not_false_eq_true, ↓reduceIte, nmS_eq, bd1_eq, bd2_eq, nI_add, pEqS, pk_mul, Nat.reduceAdd, Bool.false_eq_true, or_true, true_or, h2, e_inr, hy]
    · have hy2 := inr_yes hy
      obtain ⟨k, hk, e⟩ := inr_of (by omega) hy
      subst e
      obtain ⟨q, q1, q2, q3, q4⟩ := (h.clm ha).kd
      have q4 : τ.2 6 (12 + 10 * a) = lN q := q4
      have key : ∃ z : Bool, f_X7_isOfKind (nI q) (nI k) σ = some (if z then nI 1 else nI 0, σ) ∧ f_X8_as (nI a) (nI k) τ = b_X8_as_60 (nI a) (if z then nI 1 else nI 0) τ := by
        have hk2 : k = 0 ∨ k = 1 ∨ k = 2 ∨ k = 3 ∨ k = 4 ∨ k = 5 := by omega
        have hq2 : q = 1 ∨ q = 2 ∨ q = 3 ∨ q = 4 ∨ q = 5 := by omega
        refine ⟨decide (k = 0 ∨ k = q ∨ (k = 1 ∧ q < 4) ∨ (k = 4 ∧ q = 5)), ?_, ?_⟩
        · rcases hk2 with e | e | e | e | e | e <;> rcases hq2 with e2 | e2 | e2 | e2 | e2 <;> subst e <;> subst e2 <;> rfl
        · rcases hk2 with e | e | e | e | e | e <;> rcases hq2 with e2 | e2 | e2 | e2 | e2 <;> subst e <;> subst e2 <;> simp (disch := omega) only [f_X8_as, f_X8_kindIn, b_X8_as_45, b_X8_as_55, b_X8_as_59, lit, pLeT, pLeF, pLtT, pLtF, pEqT, pEqF, nLeF, nLtF, nI_clamp, or_self, or_false, false_or, not_true_eq_false, not_false_eq_true, ↓reduceIte, nmS_eq, bd1_eq, bd2_eq, nI_add, pEqS, pk_mul, Nat.reduceAdd, Bool.false_eq_true, or_true, true_or, h2, e_inr, hy, q4, lN_i, Nat.reduceLT, Nat.reduceEqDiff, false_and, true_and, or_false, decide_true, decide_false, and_true, and_false] <;> first | rfl | skip
      obtain ⟨z, k1, k2⟩ := key
      cases z
      · refine ⟨-nI 1000010 - nI 3, pI σ 0 7 (nI 3), pI τ 0 4 (nI 3), ?_, ?_, u, lv, h.find _⟩
        · simp (disch := omega) only [f_X7_as, b_X7_as_20, lit, pLeT, pLeF, pLtT, pLtF, pEqT, pEqF, nLeF, nLtF, nI_clamp, or_self, or_false, false_or, not_true_eq_false, not_false_eq_true, ↓reduceIte, nmS_eq, bd1_eq, bd2_eq, nI_add, pEqS, pk_mul, Nat.reduceAdd, Bool.false_eq_true, or_true, true_or, h1, e5, hy2.1, hy2.2, q3, k1, e_X7_found]
        · rw [k2]
          simp (disch := omega) only [b_X8_as_60, b_X8_as_80, lit, pLeT, pLeF, pLtT, pLtF, pEqT, pEqF, nLeF, nLtF, nI_clamp, or_self, or_false, false_or, not_true_eq_false, not_false_eq_true, ↓reduceIte, nmS_eq, bd1_eq, bd2_eq, nI_add, pEqS, pk_mul, Nat.reduceAdd, Bool.false_eq_true, or_true, true_or, e_X8_found]
      · refine ⟨nI a, pI σ 0 7 (nI 0), pI τ 0 4 (nI 0), ?_, ?_, u, lv, h.find _⟩
        · simp (disch := omega) only [f_X7_as, b_X7_as_20, lit, pLeT, pLeF, pLtT, pLtF, pEqT, pEqF, nLeF, nLtF, nI_clamp, or_self, or_false, false_or, not_true_eq_false, not_false_eq_true, ↓reduceIte, nmS_eq, bd1_eq, bd2_eq, nI_add, pEqS, pk_mul, Nat.reduceAdd, Bool.false_eq_true, or_true, true_or, h1, e5, hy2.1, hy2.2, q3, k1, e_X7_well]
        · rw [k2]
          simp (disch := omega) only [b_X8_as_60, b_X8_as_80, lit, pLeT, pLeF, pLtT, pLtF, pEqT, pEqF, nLeF, nLtF, nI_clamp, or_self, or_false, false_or, not_true_eq_false, not_false_eq_true, ↓reduceIte, nmS_eq, bd1_eq, bd2_eq, nI_add, pEqS, pk_mul, Nat.reduceAdd, Bool.false_eq_true, or_true, true_or, e_X8_well]
theorem s_trace (x : Int32) : Sim RR (f_X7_trace x) (f_X8_trace x) := by
  intro σ τ ⟨u, lv, h⟩
  obtain ⟨t, t1, t2, t3, t4⟩ := h.tr
  have ht : nI t - nI 1 = if t = 0 then -nI 1 else nI (t - 1) := by
    by_cases q : t = 0
    · subst q; rfl
    · rw [if_neg q, pk_sub (by omega)]
  by_cases hx : ∃ i, i < t ∧ x = nI i
  · obtain ⟨i, hi, e⟩ := hx
    subst e
    refine ⟨σ.1 237 i, σ, τ, ?_, ?_, u, lv, h⟩
    · simp (disch := omega) only [f_X7_trace, b_X7_trace_27, b_X7_trace_29, lit, pLeT, pLeF, pLtT, pLtF, pEqT, pEqF, nLeF, nLtF, nI_clamp, or_self, or_false, false_or, not_true_eq_false, not_false_eq_true, ↓reduceIte, nmS_eq, bd1_eq, bd2_eq, nI_add, pEqS, pk_mul, Nat.reduceAdd, Bool.false_eq_true, or_true, true_or, t2]
    · rw [if_neg (by omega)] at ht
      simp (disch := omega) only [f_X8_trace, b_X8_trace_25, lit, pLeT, pLeF, pLtT, pLtF, pEqT, pEqF, nLeF, nLtF, nI_clamp, or_self, or_false, false_or, not_true_eq_false, not_false_eq_true, ↓reduceIte, nmS_eq, bd1_eq, bd2_eq, nI_add, pEqS, pk_mul, Nat.reduceAdd, Bool.false_eq_true, or_true, true_or, t3, ht, e_X8_in, t4 i hi]
  · refine ⟨-nI 1000000, σ, τ, ?_, ?_, u, lv, h⟩
    · rcases pk_ix x (n := t) (by omega) with q | q | q
      · have q : x < nI 0 := q
        simp (disch := omega) only [f_X7_trace, b_X7_trace_27, b_X7_trace_29, lit, pLeT, pLeF, pLtT, pLtF, pEqT, pEqF, nLeF, nLtF, nI_clamp, or_self, or_false, false_or, not_true_eq_false, not_false_eq_true, ↓reduceIte, nmS_eq, bd1_eq, bd2_eq, nI_add, pEqS, pk_mul, Nat.reduceAdd, Bool.false_eq_true, or_true, true_or, t2, q]
      · simp (disch := omega) only [f_X7_trace, b_X7_trace_27, b_X7_trace_29, lit, pLeT, pLeF, pLtT, pLtF, pEqT, pEqF, nLeF, nLtF, nI_clamp, or_self, or_false, false_or, not_true_eq_false, not_false_eq_true, ↓reduceIte, nmS_eq, bd1_eq, bd2_eq, nI_add, pEqS, pk_mul, Nat.reduceAdd, Bool.false_eq_true, or_true, true_or, t2, q, ite_self]
      · exact absurd q hx
    · have hq : x < nI 0 ∨ nI t - nI 1 < x := by
        rcases pk_ix x (n := t) (by omega) with q | q | q
        · exact Or.inl q
        · right
          rw [leI, nI_toInt (by omega)] at q
          rw [ltI, ht]
          split
          · show -1 < _
            omega
          · rw [nI_toInt (by omega)]
            omega
        · exact absurd q hx
      simp (disch := omega) only [f_X8_trace, b_X8_trace_25, lit, e_X8_in, t3, hq, bd2_eq, ↓reduceIte]
