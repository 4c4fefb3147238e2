/-! ===== times, split, saturate, weaken, literals ===== -/
theorem nI_ge1 {x : Int32} (h : ¬ x < nI 1) : ∃ k, 1 ≤ k ∧ k < 2147483648 ∧ x = nI k := by
  have h1 := rngI x
  have h2 : 1 ≤ x.toInt := by
    have h3 := Int32.not_lt.mp h
    rw [leI, nI_toInt (by omega)] at h3
    exact h3
  refine ⟨x.toInt.toNat, by omega, by omega, ?_⟩
  apply Int32.toInt_inj.mp
  rw [nI_toInt (by omega)]
  omega
theorem toL {k : Nat} (h : k < 2147483648) : (nI k).toInt64.toInt = k := by
  rw [Int32.toInt_toInt64, nI_toInt h]
theorem toL0 {k : Nat} (h1 : 1 ≤ k) (h : k < 2147483648) : ((nI k).toInt64 = 0) = False := eq_false (fun q => by
  have := congrArg Int64.toInt q
  rw [toL h, toI0] at this
  omega)
theorem ediv_le {a c : Int} (ha : 0 ≤ a) (hc : 1 ≤ c) : 0 ≤ a / c ∧ a / c ≤ a := ⟨Int.ediv_nonneg ha (by omega), Int.ediv_le_self _ ha⟩
theorem divL {x k : Int64} (hx : ok x) (hk : 1 ≤ k.toInt) : (x / k).toInt = if 0 ≤ x.toInt then x.toInt / k.toInt else -((-x.toInt) / k.toInt) := by
  have rx := rngL x
  have ox : x.toInt ≠ -9223372036854775808 := hx
  rw [Int64.toInt_div]
  by_cases q : 0 ≤ x.toInt
  · rw [if_pos q, Int.tdiv_eq_ediv_of_nonneg q]
    have := ediv_le q hk
    exact bmodL (by omega) (by omega)
  · rw [if_neg q]
    have e : x.toInt.tdiv k.toInt = -((-x.toInt) / k.toInt) := by
      rw [← Int.tdiv_eq_ediv_of_nonneg (a := -x.toInt) (by omega), Int.neg_tdiv, Int.neg_neg]
    rw [e]
    have := ediv_le (a := -x.toInt) (c := k.toInt) (by omega) hk
    exact bmodL (by omega) (by omega)
theorem divmul {a c : Int} (ha : 0 ≤ a) (hc : 1 ≤ c) : 0 ≤ a / c * c ∧ a / c * c ≤ a ∧ a - a / c * c = a % c ∧ 0 ≤ a % c := by
  have h1 := Int.emod_add_ediv_mul a c
  have h2 := Int.emod_nonneg a (b := c) (by omega)
  have h3 := Int.mul_nonneg (ediv_le ha hc).1 (show 0 ≤ c by omega)
  omega
theorem remL {x k : Int64} (hx : ok x) (hk : 1 ≤ k.toInt) : (x - x / k * k).toInt = if 0 ≤ x.toInt then x.toInt % k.toInt else -((-x.toInt) % k.toInt) := by
  have rx := rngL x
  have ox : x.toInt ≠ -9223372036854775808 := hx
  have hd := divL hx hk
  by_cases q : 0 ≤ x.toInt
  · rw [if_pos q] at hd
    rw [if_pos q]
    have h1 := divmul q hk
    have e : (x / k * k).toInt = x.toInt / k.toInt * k.toInt := by
      rw [Int64.toInt_mul, hd]
      exact bmodL (by omega) (by omega)
    rw [subL (by omega) (by omega), e]
    omega
  · rw [if_neg q] at hd
    rw [if_neg q]
    have h1 := divmul (a := -x.toInt) (c := k.toInt) (by omega) hk
    have e : (x / k * k).toInt = -((-x.toInt) / k.toInt * k.toInt) := by
      rw [Int64.toInt_mul, hd, Int.neg_mul]
      exact bmodL (by omega) (by omega)
    rw [subL (by omega) (by omega), e]
    omega
/-! times -/
theorem mulL {x k : Int64} (hx : ok x) (hk : 1 ≤ k.toInt) (h : mabs x ≤ 9223372036854775807 / k) : (x * k).toInt = x.toInt * k.toInt ∧ ok (x * k) := by
  have okM : ok (9223372036854775807 : Int64) := by
    show (9223372036854775807 : Int64).toInt ≠ _
    rw [toIM]
    decide
  rw [leL, divL okM hk, toIM, if_pos (by decide), mabs_int hx] at h
  have h1 := divmul (a := 9223372036854775807) (c := k.toInt) (by decide) hk
  generalize hq : (9223372036854775807 : Int) / k.toInt = Q at *
  have hk0 : (0 : Int) ≤ k.toInt := by omega
  have key : -9223372036854775807 ≤ x.toInt * k.toInt ∧ x.toInt * k.toInt ≤ 9223372036854775807 := by
    by_cases q : 0 < x.toInt
    · rw [if_pos q] at h
      have h2 := Int.mul_le_mul_of_nonneg_right h hk0
      have h3 := Int.mul_nonneg (show 0 ≤ x.toInt by omega) hk0
      omega
    · rw [if_neg q] at h
      have h2 := Int.mul_le_mul_of_nonneg_right h hk0
      have h3 := Int.mul_nonneg (show 0 ≤ -x.toInt by omega) hk0
      rw [Int.neg_mul] at h2 h3
      omega
  have e : (x * k).toInt = x.toInt * k.toInt := by
    rw [Int64.toInt_mul]
    exact bmodL (by omega) (by omega)
  refine ⟨e, ?_⟩
  show (x * k).toInt ≠ _
  omega
def tmB (x : Nat → Int64) (m : Int64) : Nat → Nat → Bool
  | 0, _ => true
  | j + 1, i => decide (mabs (x i) ≤ m) && tmB x m j (i + 1)
theorem tmB_t {x : Nat → Int64} {m : Int64} (j : Nat) : ∀ i, tmB x m j i = true → ∀ v, i ≤ v → v < i + j → mabs (x v) ≤ m := by
  induction j with
  | zero => intro i _ v h1 h2; omega
  | succ j ih =>
    intro i h v h1 h2
    unfold tmB at h
    rw [Bool.and_eq_true] at h
    by_cases e : v = i
    · rw [e]; exact of_decide_eq_true h.1
    · exact ih (i + 1) h.2 v (by omega) (by omega)
theorem l_X3_becomeTimes (k k1 : Nat) (σ : Sto) (x : Nat → Int64) (c : Int32) (m : Int64) (hk1 : k1 + 1 < k ∨ k + 1 < k1) (hx : ∀ v, v < 8 → σ.2 (k1 + 1) v = x v) (n : Nat) (j : Nat) : ∀ i, i + j = 8 →
    (tmB x m j i = true → l_X3_becomeTimes_39 k k1 (n + 1 + j) c m (nI i) (wL σ (k + 1) 0 i (fun v => x v * c.toInt64)) = some (nI 1, wL σ (k + 1) 0 8 (fun v => x v * c.toInt64))) ∧ (tmB x m j i = false → ∃ σ', l_X3_becomeTimes_39 k k1 (n + 1 + j) c m (nI i) (wL σ (k + 1) 0 i (fun v => x v * c.toInt64)) = some (nI 0, σ') ∧ Nx k σ σ') := by
  induction j with
  | zero =>
    intro i hi
    have e : i = 8 := by omega
    subst e
    refine ⟨fun _ => ?_, (fun q => by cases q)⟩
    show b_X3_becomeTimes_39 _ k k1 c m (nI 8) _ = _
    simp (disch := omega) only [b_X3_becomeTimes_39, lit, pLeT, pLeF, pLtT, pLtF, pEqT, pEqF, nLeF, nLtF, nI_clamp, or_self, or_false, false_or, not_true_eq_false, not_false_eq_true, ↓reduceIte, nmS_eq, bd1_eq, bd2_eq, nI_add, pEqS, pk_mul, Nat.reduceAdd, Bool.false_eq_true, or_true, true_or]
  | succ j ih0 =>
    intro i hi
    have ih := ih0 (i + 1) (by omega)
    have e1 : (wL σ (k + 1) 0 i (fun v => x v * c.toInt64)).2 (k1 + 1) i = x i := by rw [wL_k (by omega)]; exact hx i (by omega)
    have e3 := wL_s0 (σ := σ) (k := k + 1) (n := i) (g := fun v => x v * c.toInt64) rfl
    have hl : l_X3_becomeTimes_39 k k1 (n + 1 + (j + 1)) c m (nI i) (wL σ (k + 1) 0 i (fun v => x v * c.toInt64)) = b_X3_becomeTimes_39 (l_X3_becomeTimes_39 k k1 (n + 1 + j)) k k1 c m (nI i) (wL σ (k + 1) 0 i (fun v => x v * c.toInt64)) := rfl
    unfold tmB
    by_cases q : mabs (x i) ≤ m
    · rw [decide_eq_true q, Bool.true_and]
      have h9 : l_X3_becomeTimes_39 k k1 (n + 1 + (j + 1)) c m (nI i) (wL σ (k + 1) 0 i (fun v => x v * c.toInt64)) = l_X3_becomeTimes_39 k k1 (n + 1 + j) c m (nI (i + 1)) (wL σ (k + 1) 0 (i + 1) (fun v => x v * c.toInt64)) := by
        rw [hl]
        simp (disch := omega) only [b_X3_becomeTimes_39, lit, pLeT, pLeF, pLtT, pLtF, pEqT, pEqF, nLeF, nLtF, nI_clamp, or_self, or_false, false_or, not_true_eq_false, not_false_eq_true, ↓reduceIte, nmS_eq, bd1_eq, bd2_eq, nI_add, pEqS, pk_mul, Nat.reduceAdd, Bool.false_eq_true, or_true, true_or, e1, e3, q]
      rw [h9]
      exact ih
    · rw [decide_eq_false q, Bool.false_and]
      refine ⟨(fun q => by cases q), fun _ => ⟨_, ?_, Nx.w1 0 i (fun v => x v * c.toInt64)⟩⟩
      rw [hl]
      simp (disch := omega) only [b_X3_becomeTimes_39, lit, pLeT, pLeF, pLtT, pLtF, pEqT, pEqF, nLeF, nLtF, nI_clamp, or_self, or_false, false_or, not_true_eq_false, not_false_eq_true, ↓reduceIte, nmS_eq, bd1_eq, bd2_eq, nI_add, pEqS, pk_mul, Nat.reduceAdd, Bool.false_eq_true, or_true, true_or, e1, q]
theorem l_X8_times (τ0 : Sto) (x : Nat → Int64) (c : Int32) (hc : (c.toInt64 = 0) = False) (n : Nat) (j : Nat) : ∀ i (τ : Sto), i + j = 8 → Mx 11 τ0 τ → (∀ v, v < i → τ.2 11 (2 + v) = x v * c.toInt64) → (∀ v, i ≤ v → v < 8 → τ.2 11 (2 + v) = x v) →
    (tmB x (9223372036854775807 / c.toInt64) j i = true → ∃ τ', l_X8_times_43 (n + 1 + j) c (nI (2 + i)) τ = (bd2 (f_X8_comes (nI 4) τ') fun r s => bd2 (f_X8_well r s) fun r s => some (r, s)) ∧ Mx 11 τ0 τ' ∧ τ'.2 11 1 = τ.2 11 1 ∧ ∀ v, v < 8 → τ'.2 11 (2 + v) = x v * c.toInt64) ∧
    (tmB x (9223372036854775807 / c.toInt64) j i = false → ∃ τ', l_X8_times_43 (n + 1 + j) c (nI (2 + i)) τ = some (-nI 1000010 - nI 6, pI τ' 0 4 (nI 6)) ∧ Mx 11 τ0 τ') := by
  induction j with
  | zero =>
    intro i τ hi hn h1 h2
    have e : i = 8 := by omega
    subst e
    refine ⟨fun _ => ⟨τ, ?_, hn, rfl, h1⟩, (fun q => by cases q)⟩
    show b_X8_times_43 _ c (nI 10) τ = _
    simp (disch := omega) only [b_X8_times_43, lit, pLeT, pLeF, pLtT, pLtF, pEqT, pEqF, nLeF, nLtF, nI_clamp, or_self, or_false, false_or, not_true_eq_false, not_false_eq_true, ↓reduceIte, nmS_eq, bd1_eq, bd2_eq, nI_add, pEqS, pk_mul, Nat.reduceAdd, Bool.false_eq_true, or_true, true_or]
  | succ j ih =>
    intro i τ hi hn h1 h2
    have e1 : τ.2 11 (2 + i) = x i := h2 i (Nat.le_refl _) (by omega)
    have hl : l_X8_times_43 (n + 1 + (j + 1)) c (nI (2 + i)) τ = b_X8_times_43 (l_X8_times_43 (n + 1 + j)) c (nI (2 + i)) τ := rfl
    unfold tmB
    by_cases q : mabs (x i) ≤ 9223372036854775807 / c.toInt64
    · rw [decide_eq_true q, Bool.true_and]
      have h9 : l_X8_times_43 (n + 1 + (j + 1)) c (nI (2 + i)) τ = l_X8_times_43 (n + 1 + j) c (nI (2 + (i + 1))) (pL τ 11 (2 + i) (x i * c.toInt64)) := by
        rw [hl]
        simp (disch := omega) only [b_X8_times_43, lit, pLeT, pLeF, pLtT, pLtF, pEqT, pEqF, nLeF, nLtF, nI_clamp, or_self, or_false, false_or, not_true_eq_false, not_false_eq_true, ↓reduceIte, nmS_eq, bd1_eq, bd2_eq, nI_add, pEqS, pk_mul, Nat.reduceAdd, Bool.false_eq_true, or_true, true_or, e1, e_X8_size, hc, q, Nat.add_assoc]
      rw [h9]
      have h3 := ih (i + 1) (pL τ 11 (2 + i) (x i * c.toInt64)) (by omega) (hn.trans (Mx.p _ _)) (fun v hv => by
        by_cases e : v = i
        · subst e; rw [pL_at]
        · rw [pL_nj (by omega)]; exact h1 v (by omega)) (fun v hv hv2 => by rw [pL_nj (by omega)]; exact h2 v (by omega) hv2)
      rw [pL_nj (σ := τ) (k := 11) (j := 2 + i) (a := 11) (b := 1) (by omega)] at h3
      exact h3
    · rw [decide_eq_false q, Bool.false_and]
      refine ⟨(fun q => by cases q), fun _ => ⟨τ, ?_, hn⟩⟩
      rw [hl]
      simp (disch := omega) only [b_X8_times_43, lit, pLeT, pLeF, pLtT, pLtF, pEqT, pEqF, nLeF, nLtF, nI_clamp, or_self, or_false, false_or, not_true_eq_false, not_false_eq_true, ↓reduceIte, nmS_eq, bd1_eq, bd2_eq, nI_add, pEqS, pk_mul, Nat.reduceAdd, Bool.false_eq_true, or_true, true_or, e1, e_X8_size, hc, q, e_X8_found]
theorem mabs_pos {x : Int64} (h : 0 ≤ x.toInt) : mabs x = x := by
  unfold mabs
  by_cases q : 0 < x
  · rw [if_pos q]
  · rw [if_neg q]
    rw [ltL, toI0] at q
    have e : x = 0 := by rw [eqL, toI0]; omega
    rw [e]
    rfl
theorem le1 {k : Nat} (h1 : 1 ≤ k) (h : k < 2147483648) : (nI k < nI 1) = False := pLtF h1 h
theorem s_times (x y : Int32) : Sim RR (f_X7_times x y) (f_X8_times x y) := by
  intro σ τ ⟨u, lv, h⟩
  have r0 := h.refuse0
  have r1 := h.refuse1
  have hF := e_X8_isFormula h
  have hfu := (e_X2_isFull h).2
  obtain ⟨h1, h2, h3⟩ := h.has x
  rcases h.rd with q | q
  · rw [q] at r0 r1 hF
    refine ⟨-nI 1000002, σ, τ, ?_, ?_, u, lv, h⟩
    · cases hx : hs lv x
      · rw [hx] at h1
        simp (disch := omega) only [f_X7_times, b_X7_times_21, b_X7_times_22, lit, pLeT, pLeF, pLtT, pLtF, pEqT, pEqF, nLeF, nLtF, nI_clamp, or_self, or_false, false_or, not_true_eq_false, not_false_eq_true, ↓reduceIte, nmS_eq, bd1_eq, bd2_eq, nI_add, pEqS, pk_mul, Nat.reduceAdd, Bool.false_eq_true, or_true, true_or, h1, r0, neS]
      · rw [hx] at h1
        by_cases hy : y < nI 1
        · simp (disch := omega) only [f_X7_times, b_X7_times_21, b_X7_times_22, lit, pLeT, pLeF, pLtT, pLtF, pEqT, pEqF, nLeF, nLtF, nI_clamp, or_self, or_false, false_or, not_true_eq_false, not_false_eq_true, ↓reduceIte, nmS_eq, bd1_eq, bd2_eq, nI_add, pEqS, pk_mul, Nat.reduceAdd, Bool.false_eq_true, or_true, true_or, h1, hy, r0, neS]
        · simp (disch := omega) only [f_X7_times, b_X7_times_21, b_X7_times_22, lit, pLeT, pLeF, pLtT, pLtF, pEqT, pEqF, nLeF, nLtF, nI_clamp, or_self, or_false, false_or, not_true_eq_false, not_false_eq_true, ↓reduceIte, nmS_eq, bd1_eq, bd2_eq, nI_add, pEqS, pk_mul, Nat.reduceAdd, Bool.false_eq_true, or_true, true_or, h1, hy, r1, neS]
    · simp (disch := omega) only [f_X8_times, lit, pLeT, pLeF, pLtT, pLtF, pEqT, pEqF, nLeF, nLtF, nI_clamp, or_self, or_false, false_or, not_true_eq_false, not_false_eq_true, ↓reduceIte, nmS_eq, bd1_eq, bd2_eq, nI_add, pEqS, pk_mul, Nat.reduceAdd, Bool.false_eq_true, or_true, true_or, hF]
  · rw [q, if_neg (show ¬ nI 1 = nI 0 by decide)] at r0 r1
    rw [q] at hF
    cases hx : hs lv x
    · rw [hx] at h1 h2
      refine ⟨-nI 1000001, σ, τ, ?_, ?_, u, lv, h⟩
      · simp (disch := omega) only [f_X7_times, b_X7_times_21, b_X7_times_22, lit, pLeT, pLeF, pLtT, pLtF, pEqT, pEqF, nLeF, nLtF, nI_clamp, or_self, or_false, false_or, not_true_eq_false, not_false_eq_true, ↓reduceIte, nmS_eq, bd1_eq, bd2_eq, nI_add, pEqS, pk_mul, Nat.reduceAdd, Bool.false_eq_true, or_true, true_or, h1, r0, neB]
      · simp (disch := omega) only [f_X8_times, b_X8_times_23, lit, pLeT, pLeF, pLtT, pLtF, pEqT, pEqF, nLeF, nLtF, nI_clamp, or_self, or_false, false_or, not_true_eq_false, not_false_eq_true, ↓reduceIte, nmS_eq, bd1_eq, bd2_eq, nI_add, pEqS, pk_mul, Nat.reduceAdd, Bool.false_eq_true, or_true, true_or, hF, h2]
    · rw [hx] at h1 h2
      obtain ⟨a, ha, ha2, e, -⟩ := h3 hx
      subst e
      by_cases hy : y < nI 1
      · have hy2 : ¬ nI 1 ≤ y := Int32.not_le.mpr hy
        refine ⟨-nI 1000001, σ, τ, ?_, ?_, u, lv, h⟩
        · simp (disch := omega) only [f_X7_times, b_X7_times_21, b_X7_times_22, lit, pLeT, pLeF, pLtT, pLtF, pEqT, pEqF, nLeF, nLtF, nI_clamp, or_self, or_false, false_or, not_true_eq_false, not_false_eq_true, ↓reduceIte, nmS_eq, bd1_eq, bd2_eq, nI_add, pEqS, pk_mul, Nat.reduceAdd, Bool.false_eq_true, or_true, true_or, h1, hy, r0, neB]
        · simp (disch := omega) only [f_X8_times, b_X8_times_23, lit, pLeT, pLeF, pLtT, pLtF, pEqT, pEqF, nLeF, nLtF, nI_clamp, or_self, or_false, false_or, not_true_eq_false, not_false_eq_true, ↓reduceIte, nmS_eq, bd1_eq, bd2_eq, nI_add, pEqS, pk_mul, Nat.reduceAdd, Bool.false_eq_true, or_true, true_or, hF, h2, hy2]
      · obtain ⟨k, hk1, hk2, e⟩ := nI_ge1 hy
        subst e
        have hc := toL0 hk1 hk2
        have hk : 1 ≤ (nI k).toInt64.toInt := by rw [toL hk2]; omega
        by_cases hu : u < 30
        · rw [if_pos hu] at r1
          rw [if_pos hu] at hfu
          have hnx := h.next hu
          obtain ⟨τ1, t1, t2, t3, t4⟩ := h.takes ha
          have da := (h.clm ha).dn
          have oka : ok (σ.2 (36 + 2 * a) 2) := by
            show (σ.2 (36 + 2 * a) 2).toInt ≠ _
            omega
          generalize hm : (9223372036854775807 : Int64) / (nI k).toInt64 = m at *
          by_cases q2 : σ.2 (36 + 2 * a) 2 ≤ m
          · have hX := l_X3_becomeTimes (36 + 2 * u) (36 + 2 * a) (pL σ (36 + 2 * u) 2 (σ.2 (36 + 2 * a) 2 * (nI k).toInt64)) (σ.2 (36 + 2 * a + 1)) (nI k) m (by omega) (fun v hv => by rw [pL_nk (by omega)]) 391 8 0 (by omega)
            rw [wL_0] at hX
            have hX0 : f_X3_becomeTimes (36 + 2 * u) (36 + 2 * a) (nI k) σ = l_X3_becomeTimes_39 (36 + 2 * u) (36 + 2 * a) (391 + 1 + 8) (nI k) m (nI 0) (pL σ (36 + 2 * u) 2 (σ.2 (36 + 2 * a) 2 * (nI k).toInt64)) := by
              simp (disch := omega) only [f_X3_becomeTimes, lit, pLeT, pLeF, pLtT, pLtF, pEqT, pEqF, nLeF, nLtF, nI_clamp, or_self, or_false, false_or, not_true_eq_false, not_false_eq_true, ↓reduceIte, nmS_eq, bd1_eq, bd2_eq, nI_add, pEqS, pk_mul, Nat.reduceAdd, Bool.false_eq_true, or_true, true_or, hc, hm, q2]
            rw [← hX0] at hX
            have dm : mabs (σ.2 (36 + 2 * a) 2) ≤ m := by rw [mabs_pos da]; exact q2
            have hM0 : l_X8_times_43 400 (nI k) (nI 1) τ1 = l_X8_times_43 (390 + 1 + 8) (nI k) (nI (2 + 0)) (pL τ1 11 1 (σ.2 (36 + 2 * a) 2 * (nI k).toInt64)) := by
              show b_X8_times_43 (l_X8_times_43 399) (nI k) (nI 1) τ1 = _
              simp (disch := omega) only [b_X8_times_43, lit, pLeT, pLeF, pLtT, pLtF, pEqT, pEqF, nLeF, nLtF, nI_clamp, or_self, or_false, false_or, not_true_eq_false, not_false_eq_true, ↓reduceIte, nmS_eq, bd1_eq, bd2_eq, nI_add, pEqS, pk_mul, Nat.reduceAdd, Bool.false_eq_true, or_true, true_or, t3, e_X8_size, hc, hm, dm]
            have hM := l_X8_times τ (σ.2 (36 + 2 * a + 1)) (nI k) hc 390 8 0 (pL τ1 11 1 (σ.2 (36 + 2 * a) 2 * (nI k).toInt64)) (by omega) (t2.trans (Mx.p _ _)) (fun v hv => by omega) (fun v _ hv => by rw [pL_nj (by omega)]; exact t4 v hv)
            rw [← hM0, hm, pL_at] at hM
            have nx0 : Nx (36 + 2 * u) σ (pL σ (36 + 2 * u) 2 (σ.2 (36 + 2 * a) 2 * (nI k).toInt64)) := Nx.p0 _ _
            cases hp : tmB (σ.2 (36 + 2 * a + 1)) m 8 0
            · obtain ⟨σ', x1, x2⟩ := hX.2 hp
              obtain ⟨τ', y1, y2⟩ := hM.2 hp
              refine ⟨-nI 1000010 - nI 6, pI σ' 0 7 (nI 6), pI τ' 0 4 (nI 6), ?_, ?_, u, lv, (h.ag ((nx0.trans x2).ag hu) (y2.ag (by omega))).find _⟩
              · simp (disch := omega) only [f_X7_times, b_X7_times_22, lit, pLeT, pLeF, pLtT, pLtF, pEqT, pEqF, nLeF, nLtF, nI_clamp, or_self, or_false, false_or, not_true_eq_false, not_false_eq_true, ↓reduceIte, nmS_eq, bd1_eq, bd2_eq, nI_add, pEqS, pk_mul, Nat.reduceAdd, Bool.false_eq_true, or_true, true_or, h1, r1, hnx, layC hu, x1, e_X7_found]
              · simp (disch := omega) only [f_X8_times, lit, pLeT, pLeF, pLtT, pLtF, pEqT, pEqF, nLeF, nLtF, nI_clamp, or_self, or_false, false_or, not_true_eq_false, not_false_eq_true, ↓reduceIte, nmS_eq, bd1_eq, bd2_eq, nI_add, pEqS, pk_mul, Nat.reduceAdd, Bool.false_eq_true, or_true, true_or, hF, h2, hfu, t1]
                exact y1
            · have x1 := hX.1 hp
              obtain ⟨τ', y1, y2, y3, y4⟩ := hM.1 hp
              have hb := tmB_t 8 0 hp
              have md := mulL oka hk (by rw [hm]; exact dm)
              obtain ⟨σ2, τ2, k1, k2, k3⟩ := h.made hu ((nx0.trans (Nx.w1 0 8 (fun v => σ.2 (36 + 2 * a + 1) v * (nI k).toInt64))).ag hu) (y2.ag (by omega)) (q := 4) (by omega) (by omega) (D := σ.2 (36 + 2 * a) 2 * (nI k).toInt64) (C := fun v => σ.2 (36 + 2 * a + 1) v * (nI k).toInt64) (by rw [md.1]; exact Int.mul_nonneg da (by omega)) (fun v hv => (mulL (h.okX ha v hv) hk (by rw [hm]; exact hb v (by omega) (by omega))).2) (by rw [wL_k (by omega), pL_at]) (fun v hv => wL_at0 hv) y3 y4
              refine ⟨nI u, pI σ2 0 7 (nI 0), pI τ2 0 4 (nI 0), ?_, ?_, u + 1, _, k3.find _⟩
              · simp (disch := omega) only [f_X7_times, b_X7_times_22, lit, pLeT, pLeF, pLtT, pLtF, pEqT, pEqF, nLeF, nLtF, nI_clamp, or_self, or_false, false_or, not_true_eq_false, not_false_eq_true, ↓reduceIte, nmS_eq, bd1_eq, bd2_eq, nI_add, pEqS, pk_mul, Nat.reduceAdd, Bool.false_eq_true, or_true, true_or, h1, r1, hnx, layC hu, x1, k1, e_X7_well]
              · rw [k2] at y1
                simp (disch := omega) only [f_X8_times, lit, pLeT, pLeF, pLtT, pLtF, pEqT, pEqF, nLeF, nLtF, nI_clamp, or_self, or_false, false_or, not_true_eq_false, not_false_eq_true, ↓reduceIte, nmS_eq, bd1_eq, bd2_eq, nI_add, pEqS, pk_mul, Nat.reduceAdd, Bool.false_eq_true, or_true, true_or, hF, h2, hfu, t1]
                exact y1
          · have dm : ¬ mabs (σ.2 (36 + 2 * a) 2) ≤ m := by rw [mabs_pos da]; exact q2
            refine ⟨-nI 1000010 - nI 6, pI σ 0 7 (nI 6), pI τ1 0 4 (nI 6), ?_, ?_, u, lv, (h.ag AgX.rfl (t2.ag (by omega))).find _⟩
            · simp (disch := omega) only [f_X7_times, b_X7_times_22, f_X3_becomeTimes, lit, pLeT, pLeF, pLtT, pLtF, pEqT, pEqF, nLeF, nLtF, nI_clamp, or_self, or_false, false_or, not_true_eq_false, not_false_eq_true, ↓reduceIte, nmS_eq, bd1_eq, bd2_eq, nI_add, pEqS, pk_mul, Nat.reduceAdd, Bool.false_eq_true, or_true, true_or, h1, r1, hnx, layC hu, hc, hm, q2, e_X7_found]
            · have y1 : l_X8_times_43 400 (nI k) (nI 1) τ1 = some (-nI 1000010 - nI 6, pI τ1 0 4 (nI 6)) := by
                show b_X8_times_43 (l_X8_times_43 399) (nI k) (nI 1) τ1 = _
                simp (disch := omega) only [b_X8_times_43, lit, pLeT, pLeF, pLtT, pLtF, pEqT, pEqF, nLeF, nLtF, nI_clamp, or_self, or_false, false_or, not_true_eq_false, not_false_eq_true, ↓reduceIte, nmS_eq, bd1_eq, bd2_eq, nI_add, pEqS, pk_mul, Nat.reduceAdd, Bool.false_eq_true, or_true, true_or, t3, e_X8_size, hc, hm, dm, e_X8_found]
              simp (disch := omega) only [f_X8_times, lit, pLeT, pLeF, pLtT, pLtF, pEqT, pEqF, nLeF, nLtF, nI_clamp, or_self, or_false, false_or, not_true_eq_false, not_false_eq_true, ↓reduceIte, nmS_eq, bd1_eq, bd2_eq, nI_add, pEqS, pk_mul, Nat.reduceAdd, Bool.false_eq_true, or_true, true_or, hF, h2, hfu, t1, y1]
        · rw [if_neg hu] at r1
          rw [if_neg hu] at hfu
          refine ⟨-nI 1000003, σ, τ, ?_, ?_, u, lv, h⟩
          · simp (disch := omega) only [f_X7_times, b_X7_times_22, lit, pLeT, pLeF, pLtT, pLtF, pEqT, pEqF, nLeF, nLtF, nI_clamp, or_self, or_false, false_or, not_true_eq_false, not_false_eq_true, ↓reduceIte, nmS_eq, bd1_eq, bd2_eq, nI_add, pEqS, pk_mul, Nat.reduceAdd, Bool.false_eq_true, or_true, true_or, h1, r1, neF]
          · simp (disch := omega) only [f_X8_times, lit, pLeT, pLeF, pLtT, pLtF, pEqT, pEqF, nLeF, nLtF, nI_clamp, or_self, or_false, false_or, not_true_eq_false, not_false_eq_true, ↓reduceIte, nmS_eq, bd1_eq, bd2_eq, nI_add, pEqS, pk_mul, Nat.reduceAdd, Bool.false_eq_true, or_true, true_or, hF, h2, hfu]
/-! split -/
def spX (x k : Int64) : Int64 := if x - x / k * k = 0 then x / k else if x ≤ 0 then x / k - 1 else x / k + 1
def spM (x k : Int64) : Int64 := let r := mabs x / k + (if mabs x - mabs x / k * k ≤ 0 then 0 else 1); if 0 ≤ x then r else -r
theorem spl {x k : Int64} (hx : ok x) (hk : 1 ≤ k.toInt) : spM x k = spX x k ∧ ok (spX x k) ∧ (0 ≤ x.toInt → 0 ≤ (spX x k).toInt) := by
  have rx := rngL x
  have ox : x.toInt ≠ -9223372036854775808 := hx
  have hm := mabs_nn hx
  have okm : ok (mabs x) := by
    show (mabs x).toInt ≠ _
    omega
  have d1 := divL hx hk
  have d2 := divL okm hk
  have m1 := remL hx hk
  have m2 := remL okm hk
  rw [if_pos hm.1] at d2 m2
  have toIn1 : (-1 : Int64).toInt = -1 := by decide
  have key : (spX x k).toInt = (if 0 ≤ x.toInt then (if x.toInt % k.toInt = 0 then x.toInt / k.toInt else x.toInt / k.toInt + 1) else (if (-x.toInt) % k.toInt = 0 then -((-x.toInt) / k.toInt) else -((-x.toInt) / k.toInt) - 1)) := by
    unfold spX
    by_cases q : 0 ≤ x.toInt
    · rw [if_pos q] at d1 m1
      rw [if_pos q]
      have b := ediv_le q hk
      have b2 := divmul q hk
      by_cases q2 : x.toInt % k.toInt = 0
      · rw [if_pos q2, if_pos (by rw [eqL, m1, toI0]; exact q2), d1]
      · have q3 : ¬ x ≤ 0 := by
          rw [leL, toI0]
          intro z
          have z0 : x.toInt = 0 := by omega
          rw [z0] at q2
          exact q2 (Int.zero_emod _)
        have q4 : 1 ≤ x.toInt / k.toInt → x.toInt / k.toInt < x.toInt ∨ k.toInt = 1 := by
          intro z
          by_cases e : k.toInt = 1
          · exact Or.inr e
          · left
            have := Int.mul_le_mul_of_nonneg_left (show (2 : Int) ≤ k.toInt by omega) b.1
            omega
        have q5 : x.toInt / k.toInt < 9223372036854775807 := by
          by_cases z : 1 ≤ x.toInt / k.toInt
          · rcases q4 z with z2 | z2
            · omega
            · rw [z2, Int.emod_one] at q2
              exact absurd rfl q2
          · omega
        rw [if_neg q2, if_neg (by rw [eqL, m1, toI0]; exact q2), if_neg q3, addL (by rw [d1, toI1]; omega) (by rw [d1, toI1]; omega), d1, toI1]
    · rw [if_neg q] at d1 m1
      rw [if_neg q]
      have b := ediv_le (a := -x.toInt) (c := k.toInt) (by omega) hk
      have b2 := divmul (a := -x.toInt) (c := k.toInt) (by omega) hk
      by_cases q2 : (-x.toInt) % k.toInt = 0
      · rw [if_pos q2, if_pos (by rw [eqL, m1, toI0]; omega), d1]
      · have q3 : x ≤ 0 := by rw [leL, toI0]; omega
        rw [if_neg q2, if_neg (by rw [eqL, m1, toI0]; omega), if_pos q3, subL (by rw [d1, toI1]; omega) (by rw [d1, toI1]; omega), d1, toI1]
  have key2 : (spM x k).toInt = (spX x k).toInt := by
    rw [key]
    unfold spM
    have c0 := ediv_le hm.1 hk
    have c1 := divmul hm.1 hk
    simp only
    have hr : (mabs x / k + (if mabs x - mabs x / k * k ≤ 0 then 0 else 1)).toInt = if (mabs x).toInt % k.toInt = 0 then (mabs x).toInt / k.toInt else (mabs x).toInt / k.toInt + 1 := by
      by_cases q2 : (mabs x).toInt % k.toInt = 0
      · rw [if_pos q2, if_pos (by rw [leL, m2, toI0]; omega), addz, d2]
      · have q5 : (mabs x).toInt / k.toInt < 9223372036854775807 := by
          by_cases z : (mabs x).toInt / k.toInt = 9223372036854775807
          · have z3 : (mabs x).toInt = 9223372036854775807 := by omega
            by_cases e : k.toInt = 1
            · rw [e, Int.emod_one] at q2
              exact absurd rfl q2
            · have := Int.mul_le_mul_of_nonneg_left (show (2 : Int) ≤ k.toInt by omega) c0.1
              omega
          · omega
        rw [if_neg q2, if_neg (by rw [leL, m2, toI0]; omega), addL (by rw [d2, toI1]; omega) (by rw [d2, toI1]; omega), d2, toI1]
    generalize hR : mabs x / k + (if mabs x - mabs x / k * k ≤ 0 then 0 else 1) = r at hr
    have hrn : 0 ≤ r.toInt := by
      rw [hr]
      split <;> omega
    by_cases q : 0 ≤ x.toInt
    · have e : mabs x = x := mabs_pos q
      rw [e] at hr
      rw [if_pos (show (0 : Int64) ≤ x by rw [leL, toI0]; exact q), if_pos q, hr]
    · have e : (mabs x).toInt = -x.toInt := by rw [mabs_int hx, if_neg (by omega)]
      rw [e] at hr
      rw [if_neg (show ¬ (0 : Int64) ≤ x by rw [leL, toI0]; exact q), if_neg q, negL (by omega), hr]
      split <;> omega
  refine ⟨Int64.toInt_inj.mp key2, ?_, ?_⟩
  · show (spX x k).toInt ≠ _
    rw [key]
    by_cases q : 0 ≤ x.toInt
    · have b := ediv_le q hk
      rw [if_pos q]
      split <;> omega
    · have b := ediv_le (a := -x.toInt) (c := k.toInt) (by omega) hk
      have b2 := divmul (a := -x.toInt) (c := k.toInt) (by omega) hk
      rw [if_neg q]
      by_cases q2 : (-x.toInt) % k.toInt = 0
      · rw [if_pos q2]
        omega
      · rw [if_neg q2]
        by_cases z : (-x.toInt) / k.toInt = 9223372036854775807
        · have z3 : -x.toInt = 9223372036854775807 := by omega
          by_cases e : k.toInt = 1
          · rw [e, Int.emod_one] at q2
            exact absurd rfl q2
          · have := Int.mul_le_mul_of_nonneg_left (show (2 : Int) ≤ k.toInt by omega) b.1
            omega
        · omega
  · intro q
    have b := ediv_le q hk
    rw [key, if_pos q]
    split <;> omega
