/-! ===== split, saturate, weaken, literals ===== -/
theorem e_X3_splitUp {k : Nat} (h1 : 1 ≤ k) (h2 : k < 2147483648) (x : Int64) (σ : Sto) : f_X3_splitUp x (nI k) σ = some (spX x (nI k).toInt64, σ) := by
  have hc := toL0 h1 h2
  unfold spX
  by_cases q : x - x / (nI k).toInt64 * (nI k).toInt64 = 0
  · simp (disch := omega) only [f_X3_splitUp, lit, pLeT, pLeF, pLtT, pLtF, pEqT, pEqF, nLeF, nLtF, nI_clamp, or_self, or_false, false_or, not_true_eq_false, not_false_eq_true, ↓reduceIte, nmS_eq, bd1_eq, bd2_eq, nI_add, pEqS, pk_mul, Nat.reduceAdd, Bool.false_eq_true, or_true, true_or, hc, q]
  · by_cases q2 : x ≤ 0 <;> simp (disch := omega) only [f_X3_splitUp, b_X3_splitUp_38, lit, pLeT, pLeF, pLtT, pLtF, pEqT, pEqF, nLeF, nLtF, nI_clamp, or_self, or_false, false_or, not_true_eq_false, not_false_eq_true, ↓reduceIte, nmS_eq, bd1_eq, bd2_eq, nI_add, pEqS, pk_mul, Nat.reduceAdd, Bool.false_eq_true, or_true, true_or, hc, q, q2]
theorem l_X3_becomeSplit (k k1 : Nat) (σ : Sto) {c : Nat} (c1 : 1 ≤ c) (c2 : c < 2147483648) (hk1 : k1 + 1 < k ∨ k + 1 < k1) (n : Nat) (j : Nat) : ∀ i, i + j = 8 →
    l_X3_becomeSplit_14 k k1 (n + 1 + j) (nI c) (nI i) (wL σ (k + 1) 0 i (fun v => spX (σ.2 (k1 + 1) v) (nI c).toInt64)) = some (wL σ (k + 1) 0 8 (fun v => spX (σ.2 (k1 + 1) v) (nI c).toInt64)) := by
  induction j with
  | zero =>
    intro i hi
    have e : i = 8 := by omega
    subst e
    show b_X3_becomeSplit_14 _ k k1 (nI c) (nI 8) _ = _
    simp (disch := omega) only [b_X3_becomeSplit_14, lit, pLeT, pLeF, pLtT, pLtF, pEqT, pEqF, nLeF, nLtF, nI_clamp, or_self, or_false, false_or, not_true_eq_false, not_false_eq_true, ↓reduceIte, nmS_eq, bd1_eq, bd2_eq, nI_add, pEqS, pk_mul, Nat.reduceAdd, Bool.false_eq_true, or_true, true_or]
  | succ j ih0 =>
    intro i hi
    have ih := ih0 (i + 1) (by omega)
    have e1 : (wL σ (k + 1) 0 i (fun v => spX (σ.2 (k1 + 1) v) (nI c).toInt64)).2 (k1 + 1) i = σ.2 (k1 + 1) i := wL_k (by omega)
    have e3 := wL_s0 (σ := σ) (k := k + 1) (n := i) (g := fun v => spX (σ.2 (k1 + 1) v) (nI c).toInt64) rfl
    show b_X3_becomeSplit_14 (l_X3_becomeSplit_14 k k1 (n + 1 + j)) k k1 (nI c) (nI i) (wL σ (k + 1) 0 i (fun v => spX (σ.2 (k1 + 1) v) (nI c).toInt64)) = _
    simp (disch := omega) only [b_X3_becomeSplit_14, lit, pLeT, pLeF, pLtT, pLtF, pEqT, pEqF, nLeF, nLtF, nI_clamp, or_self, or_false, false_or, not_true_eq_false, not_false_eq_true, ↓reduceIte, nmS_eq, bd1_eq, bd2_eq, nI_add, pEqS, pk_mul, Nat.reduceAdd, Bool.false_eq_true, or_true, true_or, e1, e_X3_splitUp c1 c2, e3, ih]
theorem split_st (c3 : Int32 → Int32 → Sto → Option (Int32 × Sto)) {c i : Nat} (c1 : 1 ≤ c) (c2 : c < 2147483648) (hi : 1 ≤ i ∧ i < 10) (τ : Sto) : b_X8_split_43 c3 (nI c) (nI i) τ = c3 (nI c) (nI (i + 1)) (pL τ 11 i (spM (τ.2 11 i) (nI c).toInt64)) := by
  have hc := toL0 c1 c2
  unfold spM
  by_cases q : mabs (τ.2 11 i) - mabs (τ.2 11 i) / (nI c).toInt64 * (nI c).toInt64 ≤ 0 <;> by_cases q2 : 0 ≤ τ.2 11 i <;> simp (disch := omega) only [b_X8_split_43, b_X8_split_83, b_X8_split_110, lit, pLeT, pLeF, pLtT, pLtF, pEqT, pEqF, nLeF, nLtF, nI_clamp, or_self, or_false, false_or, not_true_eq_false, not_false_eq_true, ↓reduceIte, nmS_eq, bd1_eq, bd2_eq, nI_add, pEqS, pk_mul, Nat.reduceAdd, Bool.false_eq_true, or_true, true_or, e_X8_size, hc, q, q2]
theorem l_X8_split (τ0 : Sto) (x : Nat → Int64) {c : Nat} (c1 : 1 ≤ c) (c2 : c < 2147483648) (n : Nat) (j : Nat) : ∀ i (τ : Sto), i + j = 8 → Mx 11 τ0 τ → (∀ v, v < i → τ.2 11 (2 + v) = spM (x v) (nI c).toInt64) → (∀ v, i ≤ v → v < 8 → τ.2 11 (2 + v) = x v) →
    ∃ τ', l_X8_split_43 (n + 1 + j) (nI c) (nI (2 + i)) τ = (bd2 (f_X8_comes (nI 4) τ') fun r s => some (r, s)) ∧ Mx 11 τ0 τ' ∧ τ'.2 11 1 = τ.2 11 1 ∧ ∀ v, v < 8 → τ'.2 11 (2 + v) = spM (x v) (nI c).toInt64 := by
  induction j with
  | zero =>
    intro i τ hi hn h1 h2
    have e : i = 8 := by omega
    subst e
    refine ⟨τ, ?_, hn, rfl, h1⟩
    show b_X8_split_43 _ (nI c) (nI 10) τ = _
    simp (disch := omega) only [b_X8_split_43, lit, pLeT, pLeF, pLtT, pLtF, pEqT, pEqF, nLeF, nLtF, nI_clamp, or_self, or_false, false_or, not_true_eq_false, not_false_eq_true, ↓reduceIte, nmS_eq, bd1_eq, bd2_eq, nI_add, pEqS, pk_mul, Nat.reduceAdd, Bool.false_eq_true, or_true, true_or]
  | succ j ih =>
    intro i τ hi hn h1 h2
    have e1 : τ.2 11 (2 + i) = x i := h2 i (Nat.le_refl _) (by omega)
    have hl : l_X8_split_43 (n + 1 + (j + 1)) (nI c) (nI (2 + i)) τ = b_X8_split_43 (l_X8_split_43 (n + 1 + j)) (nI c) (nI (2 + i)) τ := rfl
    rw [hl, split_st _ c1 c2 (by omega), e1, Nat.add_assoc 2 i 1]
    obtain ⟨τ', k1, k2, k3, k4⟩ := ih (i + 1) (pL τ 11 (2 + i) (spM (x i) (nI c).toInt64)) (by omega) (hn.trans (Mx.p _ _)) (fun v hv => by
        by_cases e : v = i
        · subst e; rw [pL_at]
        · rw [pL_nj (by omega)]; exact h1 v (by omega)) (fun v hv hv2 => by rw [pL_nj (by omega)]; exact h2 v (by omega) hv2)
    exact ⟨τ', k1, k2, by rw [k3, pL_nj (by omega)], k4⟩
theorem s_split (x y : Int32) : Sim RR (f_X7_split x y) (f_X8_split x y) := by
  intro σ τ ⟨u, lv, h⟩
  have r0 := h.refuse0
  have r1 := h.refuse1
  have hF := e_X8_isFormula h
  have hfu := (e_X2_isFull h).2
  obtain ⟨h1, h2, h3⟩ := h.has x
  rcases h.rd with q | q
  · rw [q] at r0 r1 hF
    refine ⟨-nI 1000002, σ, τ, ?_, ?_, u, lv, h⟩
    · cases hx : hs lv x
      · rw [hx] at h1
        simp (disch := omega) only [f_X7_split, b_X7_split_21, b_X7_split_22, lit, pLeT, pLeF, pLtT, pLtF, pEqT, pEqF, nLeF, nLtF, nI_clamp, or_self, or_false, false_or, not_true_eq_false, not_false_eq_true, ↓reduceIte, nmS_eq, bd1_eq, bd2_eq, nI_add, pEqS, pk_mul, Nat.reduceAdd, Bool.false_eq_true, or_true, true_or, h1, r0, neS]
      · rw [hx] at h1
        by_cases hy : y < nI 1
        · simp (disch := omega) only [f_X7_split, b_X7_split_21, b_X7_split_22, lit, pLeT, pLeF, pLtT, pLtF, pEqT, pEqF, nLeF, nLtF, nI_clamp, or_self, or_false, false_or, not_true_eq_false, not_false_eq_true, ↓reduceIte, nmS_eq, bd1_eq, bd2_eq, nI_add, pEqS, pk_mul, Nat.reduceAdd, Bool.false_eq_true, or_true, true_or, h1, hy, r0, neS]
        · simp (disch := omega) only [f_X7_split, b_X7_split_21, b_X7_split_22, lit, pLeT, pLeF, pLtT, pLtF, pEqT, pEqF, nLeF, nLtF, nI_clamp, or_self, or_false, false_or, not_true_eq_false, not_false_eq_true, ↓reduceIte, nmS_eq, bd1_eq, bd2_eq, nI_add, pEqS, pk_mul, Nat.reduceAdd, Bool.false_eq_true, or_true, true_or, h1, hy, r1, neS]
    · simp (disch := omega) only [f_X8_split, lit, pLeT, pLeF, pLtT, pLtF, pEqT, pEqF, nLeF, nLtF, nI_clamp, or_self, or_false, false_or, not_true_eq_false, not_false_eq_true, ↓reduceIte, nmS_eq, bd1_eq, bd2_eq, nI_add, pEqS, pk_mul, Nat.reduceAdd, Bool.false_eq_true, or_true, true_or, hF]
  · rw [q, if_neg (show ¬ nI 1 = nI 0 by decide)] at r0 r1
    rw [q] at hF
    cases hx : hs lv x
    · rw [hx] at h1 h2
      refine ⟨-nI 1000001, σ, τ, ?_, ?_, u, lv, h⟩
      · simp (disch := omega) only [f_X7_split, b_X7_split_21, b_X7_split_22, lit, pLeT, pLeF, pLtT, pLtF, pEqT, pEqF, nLeF, nLtF, nI_clamp, or_self, or_false, false_or, not_true_eq_false, not_false_eq_true, ↓reduceIte, nmS_eq, bd1_eq, bd2_eq, nI_add, pEqS, pk_mul, Nat.reduceAdd, Bool.false_eq_true, or_true, true_or, h1, r0, neB]
      · simp (disch := omega) only [f_X8_split, b_X8_split_23, lit, pLeT, pLeF, pLtT, pLtF, pEqT, pEqF, nLeF, nLtF, nI_clamp, or_self, or_false, false_or, not_true_eq_false, not_false_eq_true, ↓reduceIte, nmS_eq, bd1_eq, bd2_eq, nI_add, pEqS, pk_mul, Nat.reduceAdd, Bool.false_eq_true, or_true, true_or, hF, h2]
    · rw [hx] at h1 h2
      obtain ⟨a, ha, ha2, e, -⟩ := h3 hx
      subst e
      by_cases hy : y < nI 1
      · have hy2 : ¬ nI 1 ≤ y := Int32.not_le.mpr hy
        refine ⟨-nI 1000001, σ, τ, ?_, ?_, u, lv, h⟩
        · simp (disch := omega) only [f_X7_split, b_X7_split_21, b_X7_split_22, lit, pLeT, pLeF, pLtT, pLtF, pEqT, pEqF, nLeF, nLtF, nI_clamp, or_self, or_false, false_or, not_true_eq_false, not_false_eq_true, ↓reduceIte, nmS_eq, bd1_eq, bd2_eq, nI_add, pEqS, pk_mul, Nat.reduceAdd, Bool.false_eq_true, or_true, true_or, h1, hy, r0, neB]
        · simp (disch := omega) only [f_X8_split, b_X8_split_23, lit, pLeT, pLeF, pLtT, pLtF, pEqT, pEqF, nLeF, nLtF, nI_clamp, or_self, or_false, false_or, not_true_eq_false, not_false_eq_true, ↓reduceIte, nmS_eq, bd1_eq, bd2_eq, nI_add, pEqS, pk_mul, Nat.reduceAdd, Bool.false_eq_true, or_true, true_or, hF, h2, hy2]
      · obtain ⟨k, hk1, hk2, e⟩ := nI_ge1 hy
        subst e
        have hk : 1 ≤ (nI k).toInt64.toInt := by rw [toL hk2]; omega
        by_cases hu : u < 30
        · rw [if_pos hu] at r1
          rw [if_pos hu] at hfu
          have hnx := h.next hu
          obtain ⟨τ1, t1, t2, t3, t4⟩ := h.takes ha
          have da := (h.clm ha).dn
          have oka : ok (σ.2 (36 + 2 * a) 2) := by
            show (σ.2 (36 + 2 * a) 2).toInt ≠ _
            omega
          have hX := l_X3_becomeSplit (36 + 2 * u) (36 + 2 * a) (pL σ (36 + 2 * u) 2 (spX (σ.2 (36 + 2 * a) 2) (nI k).toInt64)) hk1 hk2 (by omega) 391 8 0 (by omega)
          rw [wL_0] at hX
          have hX0 : f_X3_becomeSplit (36 + 2 * u) (36 + 2 * a) (nI k) σ = l_X3_becomeSplit_14 (36 + 2 * u) (36 + 2 * a) (391 + 1 + 8) (nI k) (nI 0) (pL σ (36 + 2 * u) 2 (spX (σ.2 (36 + 2 * a) 2) (nI k).toInt64)) := by
            simp (disch := omega) only [f_X3_becomeSplit, lit, pLeT, pLeF, pLtT, pLtF, pEqT, pEqF, nLeF, nLtF, nI_clamp, or_self, or_false, false_or, not_true_eq_false, not_false_eq_true, ↓reduceIte, nmS_eq, bd1_eq, bd2_eq, nI_add, pEqS, pk_mul, Nat.reduceAdd, Bool.false_eq_true, or_true, true_or, e_X3_splitUp hk1 hk2]
          rw [← hX0] at hX
          have hM0 : l_X8_split_43 400 (nI k) (nI 1) τ1 = l_X8_split_43 (390 + 1 + 8) (nI k) (nI (2 + 0)) (pL τ1 11 1 (spM (σ.2 (36 + 2 * a) 2) (nI k).toInt64)) := by
            show b_X8_split_43 (l_X8_split_43 399) (nI k) (nI 1) τ1 = _
            rw [split_st _ hk1 hk2 (by omega), t3]
          obtain ⟨τ', y1, y2, y3, y4⟩ := l_X8_split τ (σ.2 (36 + 2 * a + 1)) hk1 hk2 390 8 0 (pL τ1 11 1 (spM (σ.2 (36 + 2 * a) 2) (nI k).toInt64)) (by omega) (t2.trans (Mx.p _ _)) (fun v hv => by omega) (fun v _ hv => by rw [pL_nj (by omega)]; exact t4 v hv)
          rw [pL_at] at y3
          rw [← hM0] at y1
          have nx0 : Nx (36 + 2 * u) σ (pL σ (36 + 2 * u) 2 (spX (σ.2 (36 + 2 * a) 2) (nI k).toInt64)) := Nx.p0 _ _
          have nx1 : Nx (36 + 2 * u) σ (wL (pL σ (36 + 2 * u) 2 (spX (σ.2 (36 + 2 * a) 2) (nI k).toInt64)) (36 + 2 * u + 1) 0 8 (fun v => spX ((pL σ (36 + 2 * u) 2 (spX (σ.2 (36 + 2 * a) 2) (nI k).toInt64)).2 (36 + 2 * a + 1) v) (nI k).toInt64)) := nx0.trans (Nx.w1 0 8 _)
          have sd := spl oka hk
          obtain ⟨σ2, τ2, k1, k2, k3⟩ := h.made hu (nx1.ag hu) (y2.ag (by omega)) (q := 4) (by omega) (by omega) (D := spX (σ.2 (36 + 2 * a) 2) (nI k).toInt64) (C := fun v => spX (σ.2 (36 + 2 * a + 1) v) (nI k).toInt64) (sd.2.2 da) (fun v hv => (spl (h.okX ha v hv) hk).2.1) (by rw [wL_k (by omega), pL_at]) (fun v hv => by rw [wL_at0 hv, pL_nk (by omega)]) (by rw [y3]; exact sd.1) (fun v hv => by rw [y4 v hv]; exact (spl (h.okX ha v hv) hk).1)
          refine ⟨nI u, σ2, τ2, ?_, ?_, u + 1, _, k3⟩
          · simp (disch := omega) only [f_X7_split, b_X7_split_22, lit, pLeT, pLeF, pLtT, pLtF, pEqT, pEqF, nLeF, nLtF, nI_clamp, or_self, or_false, false_or, not_true_eq_false, not_false_eq_true, ↓reduceIte, nmS_eq, bd1_eq, bd2_eq, nI_add, pEqS, pk_mul, Nat.reduceAdd, Bool.false_eq_true, or_true, true_or, h1, r1, hnx, layC hu, hX, k1]
          · rw [k2] at y1
            simp (disch := omega) only [f_X8_split, lit, pLeT, pLeF, pLtT, pLtF, pEqT, pEqF, nLeF, nLtF, nI_clamp, or_self, or_false, false_or, not_true_eq_false, not_false_eq_true, ↓reduceIte, nmS_eq, bd1_eq, bd2_eq, nI_add, pEqS, pk_mul, Nat.reduceAdd, Bool.false_eq_true, or_true, true_or, hF, h2, hfu, t1]
            exact y1
        · rw [if_neg hu] at r1
          rw [if_neg hu] at hfu
          refine ⟨-nI 1000003, σ, τ, ?_, ?_, u, lv, h⟩
          · simp (disch := omega) only [f_X7_split, b_X7_split_22, lit, pLeT, pLeF, pLtT, pLtF, pEqT, pEqF, nLeF, nLtF, nI_clamp, or_self, or_false, false_or, not_true_eq_false, not_false_eq_true, ↓reduceIte, nmS_eq, bd1_eq, bd2_eq, nI_add, pEqS, pk_mul, Nat.reduceAdd, Bool.false_eq_true, or_true, true_or, h1, r1, neF]
          · simp (disch := omega) only [f_X8_split, lit, pLeT, pLeF, pLtT, pLtF, pEqT, pEqF, nLeF, nLtF, nI_clamp, or_self, or_false, false_or, not_true_eq_false, not_false_eq_true, ↓reduceIte, nmS_eq, bd1_eq, bd2_eq, nI_add, pEqS, pk_mul, Nat.reduceAdd, Bool.false_eq_true, or_true, true_or, hF, h2, hfu]
/-! saturate -/
def saX (d x : Int64) : Int64 := mmax (-d) (mmin d x)
theorem sat_eq {d x : Int64} (hd : 0 ≤ d.toInt) (hx : ok x) : (if 0 ≤ x then (if mabs x ≤ d then mabs x else d) else -(if mabs x ≤ d then mabs x else d)) = saX d x ∧ ok (saX d x) := by
  have rx := rngL x
  have rd := rngL d
  have ox : x.toInt ≠ -9223372036854775808 := hx
  have hm := mabs_int hx
  have nd : (-d).toInt = -d.toInt := negL (by omega)
  have nx : (-x).toInt = -x.toInt := negL (by omega)
  have nm : (-mabs x).toInt = -(mabs x).toInt := negL (by have := mabs_nn hx; omega)
  have key : (saX d x).toInt = if x.toInt < -d.toInt then -d.toInt else if d.toInt < x.toInt then d.toInt else x.toInt := by
    unfold saX mmin
    by_cases q : x < d
    · rw [if_pos q]
      rw [ltL] at q
      unfold mmax
      by_cases q2 : x < -d
      · rw [if_pos q2, nd]
        rw [ltL, nd] at q2
        rw [if_pos q2]
      · rw [if_neg q2]
        rw [ltL, nd] at q2
        rw [if_neg q2, if_neg (by omega)]
    · rw [if_neg q]
      rw [ltL] at q
      unfold mmax
      by_cases q2 : d < -d
      · rw [ltL, nd] at q2
        omega
      · rw [if_neg q2]
        by_cases q3 : x.toInt = d.toInt
        · rw [if_neg (by omega), if_neg (by omega)]
          omega
        · rw [if_neg (by omega), if_pos (by omega)]
  refine ⟨?_, ?_⟩
  · apply Int64.toInt_inj.mp
    rw [key]
    by_cases q : (0 : Int64) ≤ x
    · rw [if_pos q]
      rw [leL, toI0] at q
      by_cases q2 : mabs x ≤ d
      · rw [if_pos q2]
        rw [leL] at q2
        rw [hm] at q2 ⊢
        split at q2 <;> (split <;> split <;> omega)
      · rw [if_neg q2]
        rw [leL] at q2
        rw [hm] at q2
        split at q2 <;> (split <;> (try split) <;> omega)
    · rw [if_neg q]
      rw [leL, toI0] at q
      by_cases q2 : mabs x ≤ d
      · rw [if_pos q2, nm]
        rw [leL] at q2
        rw [hm] at q2 ⊢
        rw [if_neg (by omega)] at q2 ⊢
        split <;> (try split) <;> omega
      · rw [if_neg q2, nd]
        rw [leL] at q2
        rw [hm] at q2
        rw [if_neg (by omega)] at q2
        split <;> (try split) <;> omega
  · show (saX d x).toInt ≠ _
    rw [key]
    split
    · omega
    · split <;> omega
theorem l_X3_becomeSaturated (k k1 : Nat) (σ : Sto) (hk1 : k1 + 1 < k ∨ k + 1 < k1) (n : Nat) (j : Nat) : ∀ i, i + j = 8 →
    l_X3_becomeSaturated_10 k k1 (n + 1 + j) (nI i) (wL σ (k + 1) 0 i (fun v => saX (σ.2 k 2) (σ.2 (k1 + 1) v))) = some (wL σ (k + 1) 0 8 (fun v => saX (σ.2 k 2) (σ.2 (k1 + 1) v))) := by
  induction j with
  | zero =>
    intro i hi
    have e : i = 8 := by omega
    subst e
    show b_X3_becomeSaturated_10 _ k k1 (nI 8) _ = _
    simp (disch := omega) only [b_X3_becomeSaturated_10, lit, pLeT, pLeF, pLtT, pLtF, pEqT, pEqF, nLeF, nLtF, nI_clamp, or_self, or_false, false_or, not_true_eq_false, not_false_eq_true, ↓reduceIte, nmS_eq, bd1_eq, bd2_eq, nI_add, pEqS, pk_mul, Nat.reduceAdd, Bool.false_eq_true, or_true, true_or]
  | succ j ih0 =>
    intro i hi
    have ih := ih0 (i + 1) (by omega)
    have e1 : (wL σ (k + 1) 0 i (fun v => saX (σ.2 k 2) (σ.2 (k1 + 1) v))).2 (k1 + 1) i = σ.2 (k1 + 1) i := wL_k (by omega)
    have e2 : (wL σ (k + 1) 0 i (fun v => saX (σ.2 k 2) (σ.2 (k1 + 1) v))).2 k 2 = σ.2 k 2 := wL_k (by omega)
    have e3 := wL_s0 (σ := σ) (k := k + 1) (n := i) (g := fun v => saX (σ.2 k 2) (σ.2 (k1 + 1) v)) (x := mmax (-(σ.2 k 2)) (mmin (σ.2 k 2) (σ.2 (k1 + 1) i))) rfl
    show b_X3_becomeSaturated_10 (l_X3_becomeSaturated_10 k k1 (n + 1 + j)) k k1 (nI i) (wL σ (k + 1) 0 i (fun v => saX (σ.2 k 2) (σ.2 (k1 + 1) v))) = _
    simp (disch := omega) only [b_X3_becomeSaturated_10, lit, pLeT, pLeF, pLtT, pLtF, pEqT, pEqF, nLeF, nLtF, nI_clamp, or_self, or_false, false_or, not_true_eq_false, not_false_eq_true, ↓reduceIte, nmS_eq, bd1_eq, bd2_eq, nI_add, pEqS, pk_mul, Nat.reduceAdd, Bool.false_eq_true, or_true, true_or, e1, e2, e3, ih]
theorem sat_st (c3 : Int32 → Sto → Option (Int32 × Sto)) {i : Nat} (hi : 2 ≤ i ∧ i < 10) (τ : Sto) (hd : 0 ≤ (τ.2 11 1).toInt) (hx : ok (τ.2 11 i)) : b_X8_saturate_38 c3 (nI i) τ = c3 (nI (i + 1)) (pL τ 11 i (saX (τ.2 11 1) (τ.2 11 i))) := by
  rw [← (sat_eq hd hx).1]
  by_cases q : mabs (τ.2 11 i) ≤ τ.2 11 1 <;> by_cases q2 : 0 ≤ τ.2 11 i <;> simp (disch := omega) only [b_X8_saturate_38, b_X8_saturate_81, b_X8_saturate_104, lit, pLeT, pLeF, pLtT, pLtF, pEqT, pEqF, nLeF, nLtF, nI_clamp, or_self, or_false, false_or, not_true_eq_false, not_false_eq_true, ↓reduceIte, nmS_eq, bd1_eq, bd2_eq, nI_add, pEqS, pk_mul, Nat.reduceAdd, Bool.false_eq_true, or_true, true_or, e_X8_size, q, q2]
theorem l_X8_saturate (τ0 : Sto) (d : Int64) (hd : 0 ≤ d.toInt) (x : Nat → Int64) (hx : okC x) (n : Nat) (j : Nat) : ∀ i (τ : Sto), i + j = 8 → Mx 11 τ0 τ → τ.2 11 1 = d → (∀ v, v < i → τ.2 11 (2 + v) = saX d (x v)) → (∀ v, i ≤ v → v < 8 → τ.2 11 (2 + v) = x v) →
    ∃ τ', l_X8_saturate_38 (n + 1 + j) (nI (2 + i)) τ = (bd2 (f_X8_comes (nI 4) τ') fun r s => some (r, s)) ∧ Mx 11 τ0 τ' ∧ τ'.2 11 1 = d ∧ ∀ v, v < 8 → τ'.2 11 (2 + v) = saX d (x v) := by
  induction j with
  | zero =>
    intro i τ hi hn h0 h1 h2
    have e : i = 8 := by omega
    subst e
    refine ⟨τ, ?_, hn, h0, h1⟩
    show b_X8_saturate_38 _ (nI 10) τ = _
    simp (disch := omega) only [b_X8_saturate_38, lit, pLeT, pLeF, pLtT, pLtF, pEqT, pEqF, nLeF, nLtF, nI_clamp, or_self, or_false, false_or, not_true_eq_false, not_false_eq_true, ↓reduceIte, nmS_eq, bd1_eq, bd2_eq, nI_add, pEqS, pk_mul, Nat.reduceAdd, Bool.false_eq_true, or_true, true_or]
  | succ j ih =>
    intro i τ hi hn h0 h1 h2
    have e1 : τ.2 11 (2 + i) = x i := h2 i (Nat.le_refl _) (by omega)
    have hl : l_X8_saturate_38 (n + 1 + (j + 1)) (nI (2 + i)) τ = b_X8_saturate_38 (l_X8_saturate_38 (n + 1 + j)) (nI (2 + i)) τ := rfl
    rw [hl, sat_st _ (by omega) τ (by rw [h0]; exact hd) (by rw [e1]; exact hx i (by omega)), e1, h0, Nat.add_assoc 2 i 1]
    exact ih (i + 1) (pL τ 11 (2 + i) (saX d (x i))) (by omega) (hn.trans (Mx.p _ _)) (by rw [pL_nj (by omega)]; exact h0) (fun v hv => by
        by_cases e : v = i
        · subst e; rw [pL_at]
        · rw [pL_nj (by omega)]; exact h1 v (by omega)) (fun v hv hv2 => by rw [pL_nj (by omega)]; exact h2 v (by omega) hv2)
theorem s_saturate (x : Int32) : Sim RR (f_X7_saturate x) (f_X8_saturate x) := by
  intro σ τ ⟨u, lv, h⟩
  have r0 := h.refuse0
  have r1 := h.refuse1
  have hF := e_X8_isFormula h
  have hfu := (e_X2_isFull h).2
  obtain ⟨h1, h2, h3⟩ := h.has x
  rcases h.rd with q | q
  · rw [q] at r0 r1 hF
    refine ⟨-nI 1000002, σ, τ, ?_, ?_, u, lv, h⟩
    · cases hx : hs lv x
      · rw [hx] at h1
        rw [if_neg (by decide)] at h1
        simp (disch := omega) only [f_X7_saturate, lit, pLeT, pLeF, pLtT, pLtF, pEqT, pEqF, nLeF, nLtF, nI_clamp, or_self, or_false, false_or, not_true_eq_false, not_false_eq_true, ↓reduceIte, nmS_eq, bd1_eq, bd2_eq, nI_add, pEqS, pk_mul, Nat.reduceAdd, Bool.false_eq_true, or_true, true_or, h1, r0, neS]
      · rw [hx] at h1
        rw [if_pos rfl] at h1
        simp (disch := omega) only [f_X7_saturate, lit, pLeT, pLeF, pLtT, pLtF, pEqT, pEqF, nLeF, nLtF, nI_clamp, or_self, or_false, false_or, not_true_eq_false, not_false_eq_true, ↓reduceIte, nmS_eq, bd1_eq, bd2_eq, nI_add, pEqS, pk_mul, Nat.reduceAdd, Bool.false_eq_true, or_true, true_or, h1, r1, neS]
    · simp (disch := omega) only [f_X8_saturate, lit, pLeT, pLeF, pLtT, pLtF, pEqT, pEqF, nLeF, nLtF, nI_clamp, or_self, or_false, false_or, not_true_eq_false, not_false_eq_true, ↓reduceIte, nmS_eq, bd1_eq, bd2_eq, nI_add, pEqS, pk_mul, Nat.reduceAdd, Bool.false_eq_true, or_true, true_or, hF]
  · rw [q] at hF
    rw [q, if_neg (show ¬ nI 1 = nI 0 by decide)] at r0 r1
    cases hx : hs lv x
    · rw [hx, if_neg (by decide)] at h1 h2
      refine ⟨-nI 1000001, σ, τ, ?_, ?_, u, lv, h⟩
      · simp (disch := omega) only [f_X7_saturate, lit, pLeT, pLeF, pLtT, pLtF, pEqT, pEqF, nLeF, nLtF, nI_clamp, or_self, or_false, false_or, not_true_eq_false, not_false_eq_true, ↓reduceIte, nmS_eq, bd1_eq, bd2_eq, nI_add, pEqS, pk_mul, Nat.reduceAdd, Bool.false_eq_true, or_true, true_or, h1, r0, neB]
      · simp (disch := omega) only [f_X8_saturate, lit, pLeT, pLeF, pLtT, pLtF, pEqT, pEqF, nLeF, nLtF, nI_clamp, or_self, or_false, false_or, not_true_eq_false, not_false_eq_true, ↓reduceIte, nmS_eq, bd1_eq, bd2_eq, nI_add, pEqS, pk_mul, Nat.reduceAdd, Bool.false_eq_true, or_true, true_or, hF, h2]
    · rw [hx, if_pos rfl] at h1 h2
      obtain ⟨a, ha, ha2, e, -⟩ := h3 hx
      subst e
      by_cases hu : u < 30
      · rw [if_pos hu] at r1 hfu
        have hnx := h.next hu
        obtain ⟨τ1, t1, t2, t3, t4⟩ := h.takes ha
        have da := (h.clm ha).dn
        have hX := l_X3_becomeSaturated (36 + 2 * u) (36 + 2 * a) (pL σ (36 + 2 * u) 2 (σ.2 (36 + 2 * a) 2)) (by omega) 391 8 0 (by omega)
        rw [wL_0, pL_at] at hX
        have hX0 : f_X3_becomeSaturated (36 + 2 * u) (36 + 2 * a) σ = l_X3_becomeSaturated_10 (36 + 2 * u) (36 + 2 * a) (391 + 1 + 8) (nI 0) (pL σ (36 + 2 * u) 2 (σ.2 (36 + 2 * a) 2)) := by
          simp (disch := omega) only [f_X3_becomeSaturated, lit, pLeT, pLeF, pLtT, pLtF, pEqT, pEqF, nLeF, nLtF, nI_clamp, or_self, or_false, false_or, not_true_eq_false, not_false_eq_true, ↓reduceIte, nmS_eq, bd1_eq, bd2_eq, nI_add, pEqS, pk_mul, Nat.reduceAdd, Bool.false_eq_true, or_true, true_or]
        rw [← hX0] at hX
        obtain ⟨τ', y1, y2, y3, y4⟩ := l_X8_saturate τ (σ.2 (36 + 2 * a) 2) da (σ.2 (36 + 2 * a + 1)) (h.okX ha) 391 8 0 τ1 (by omega) t2 t3 (fun v hv => by omega) (fun v _ hv => t4 v hv)
        have nx0 : Nx (36 + 2 * u) σ (pL σ (36 + 2 * u) 2 (σ.2 (36 + 2 * a) 2)) := Nx.p0 _ _
        have nx1 : Nx (36 + 2 * u) σ (wL (pL σ (36 + 2 * u) 2 (σ.2 (36 + 2 * a) 2)) (36 + 2 * u + 1) 0 8 (fun v => saX (σ.2 (36 + 2 * a) 2) ((pL σ (36 + 2 * u) 2 (σ.2 (36 + 2 * a) 2)).2 (36 + 2 * a + 1) v))) := nx0.trans (Nx.w1 0 8 _)
        obtain ⟨σ2, τ2, k1, k2, k3⟩ := h.made hu (nx1.ag hu) (y2.ag (by omega)) (q := 4) (by omega) (by omega) (D := σ.2 (36 + 2 * a) 2) (C := fun v => saX (σ.2 (36 + 2 * a) 2) (σ.2 (36 + 2 * a + 1) v)) da (fun v hv => (sat_eq da (h.okX ha v hv)).2) (by rw [wL_k (by omega), pL_at]) (fun v hv => by rw [wL_at0 hv, pL_nk (by omega)]) y3 y4
        refine ⟨nI u, σ2, τ2, ?_, ?_, u + 1, _, k3⟩
        · simp (disch := omega) only [f_X7_saturate, lit, pLeT, pLeF, pLtT, pLtF, pEqT, pEqF, nLeF, nLtF, nI_clamp, or_self, or_false, false_or, not_true_eq_false, not_false_eq_true, ↓reduceIte, nmS_eq, bd1_eq, bd2_eq, nI_add, pEqS, pk_mul, Nat.reduceAdd, Bool.false_eq_true, or_true, true_or, h1, r1, hnx, layC hu, hX, k1]
        · rw [k2] at y1
          simp (disch := omega) only [f_X8_saturate, lit, pLeT, pLeF, pLtT, pLtF, pEqT, pEqF, nLeF, nLtF, nI_clamp, or_self, or_false, false_or, not_true_eq_false, not_false_eq_true, ↓reduceIte, nmS_eq, bd1_eq, bd2_eq, nI_add, pEqS, pk_mul, Nat.reduceAdd, Bool.false_eq_true, or_true, true_or, hF, h2, hfu, t1]
          exact y1
      · rw [if_neg hu] at r1 hfu
        refine ⟨-nI 1000003, σ, τ, ?_, ?_, u, lv, h⟩
        · simp (disch := omega) only [f_X7_saturate, lit, pLeT, pLeF, pLtT, pLtF, pEqT, pEqF, nLeF, nLtF, nI_clamp, or_self, or_false, false_or, not_true_eq_false, not_false_eq_true, ↓reduceIte, nmS_eq, bd1_eq, bd2_eq, nI_add, pEqS, pk_mul, Nat.reduceAdd, Bool.false_eq_true, or_true, true_or, h1, r1, neF]
        · simp (disch := omega) only [f_X8_saturate, lit, pLeT, pLeF, pLtT, pLtF, pEqT, pEqF, nLeF, nLtF, nI_clamp, or_self, or_false, false_or, not_true_eq_false, not_false_eq_true, ↓reduceIte, nmS_eq, bd1_eq, bd2_eq, nI_add, pEqS, pk_mul, Nat.reduceAdd, Bool.false_eq_true, or_true, true_or, hF, h2, hfu]
/-! weaken -/
theorem s_weaken (x y : Int32) : Sim RR (f_X7_weaken x y) (f_X8_weaken x y) := by
  intro σ τ ⟨u, lv, h⟩
  have r0 := h.refuse0
  have r1 := h.refuse1
  have hF := e_X8_isFormula h
  have hfu := (e_X2_isFull h).2
  obtain ⟨h1, h2, h3⟩ := h.has x
  cases hx : hs lv x
  · rw [hx] at h1 h2
    rcases h.rd with q | q
    · rw [q] at r0 hF
      refine ⟨-nI 1000002, σ, τ, ?_, ?_, u, lv, h⟩
      · simp (disch := omega) only [f_X7_weaken, b_X7_weaken_42, b_X7_weaken_43, lit, pLeT, pLeF, pLtT, pLtF, pEqT, pEqF, nLeF, nLtF, nI_clamp, or_self, or_false, false_or, not_true_eq_false, not_false_eq_true, ↓reduceIte, nmS_eq, bd1_eq, bd2_eq, nI_add, pEqS, pk_mul, Nat.reduceAdd, Bool.false_eq_true, or_true, true_or, h1, r0, neS]
      · simp (disch := omega) only [f_X8_weaken, lit, pLeT, pLeF, pLtT, pLtF, pEqT, pEqF, nLeF, nLtF, nI_clamp, or_self, or_false, false_or, not_true_eq_false, not_false_eq_true, ↓reduceIte, nmS_eq, bd1_eq, bd2_eq, nI_add, pEqS, pk_mul, Nat.reduceAdd, Bool.false_eq_true, or_true, true_or, hF]
    · rw [q] at hF
      rw [q, if_neg (show ¬ nI 1 = nI 0 by decide)] at r0
      refine ⟨-nI 1000001, σ, τ, ?_, ?_, u, lv, h⟩
      · simp (disch := omega) only [f_X7_weaken, b_X7_weaken_42, b_X7_weaken_43, lit, pLeT, pLeF, pLtT, pLtF, pEqT, pEqF, nLeF, nLtF, nI_clamp, or_self, or_false, false_or, not_true_eq_false, not_false_eq_true, ↓reduceIte, nmS_eq, bd1_eq, bd2_eq, nI_add, pEqS, pk_mul, Nat.reduceAdd, Bool.false_eq_true, or_true, true_or, h1, r0, neB]
      · simp (disch := omega) only [f_X8_weaken, b_X8_weaken_49, lit, pLeT, pLeF, pLtT, pLtF, pEqT, pEqF, nLeF, nLtF, nI_clamp, or_self, or_false, false_or, not_true_eq_false, not_false_eq_true, ↓reduceIte, nmS_eq, bd1_eq, bd2_eq, nI_add, pEqS, pk_mul, Nat.reduceAdd, Bool.false_eq_true, or_true, true_or, hF, h2]
  · rw [hx] at h1 h2
    obtain ⟨a, ha, ha2, e, -⟩ := h3 hx
    subst e
    cases hy : inr y 8
    · rcases h.rd with q | q
      · rw [q] at r0 hF
        refine ⟨-nI 1000002, σ, τ, ?_, ?_, u, lv, h⟩
        · simp (disch := omega) only [f_X7_weaken, b_X7_weaken_42, b_X7_weaken_43, lit, pLeT, pLeF, pLtT, pLtF, pEqT, pEqF, nLeF, nLtF, nI_clamp, or_self, or_false, false_or, not_true_eq_false, not_false_eq_true, ↓reduceIte, nmS_eq, bd1_eq, bd2_eq, nI_add, pEqS, pk_mul, Nat.reduceAdd, Bool.false_eq_true, or_true, true_or, h1, e_X7_isVariable, hy, r0, neS]
        · simp (disch := omega) only [f_X8_weaken, lit, pLeT, pLeF, pLtT, pLtF, pEqT, pEqF, nLeF, nLtF, nI_clamp, or_self, or_false, false_or, not_true_eq_false, not_false_eq_true, ↓reduceIte, nmS_eq, bd1_eq, bd2_eq, nI_add, pEqS, pk_mul, Nat.reduceAdd, Bool.false_eq_true, or_true, true_or, hF]
      · rw [q] at hF
        rw [q, if_neg (show ¬ nI 1 = nI 0 by decide)] at r0
        refine ⟨-nI 1000001, σ, τ, ?_, ?_, u, lv, h⟩
        · simp (disch := omega) only [f_X7_weaken, b_X7_weaken_42, b_X7_weaken_43, lit, pLeT, pLeF, pLtT, pLtF, pEqT, pEqF, nLeF, nLtF, nI_clamp, or_self, or_false, false_or, not_true_eq_false, not_false_eq_true, ↓reduceIte, nmS_eq, bd1_eq, bd2_eq, nI_add, pEqS, pk_mul, Nat.reduceAdd, Bool.false_eq_true, or_true, true_or, h1, e_X7_isVariable, hy, r0, neB]
        · simp (disch := omega) only [f_X8_weaken, b_X8_weaken_49, lit, pLeT, pLeF, pLtT, pLtF, pEqT, pEqF, nLeF, nLtF, nI_clamp, or_self, or_false, false_or, not_true_eq_false, not_false_eq_true, ↓reduceIte, nmS_eq, bd1_eq, bd2_eq, nI_add, pEqS, pk_mul, Nat.reduceAdd, Bool.false_eq_true, or_true, true_or, hF, h2, e_inr, hy]
    · obtain ⟨v, hv, e⟩ := inr_of (by omega) hy
      subst e
      have hcf := h.cfm ha hv
      by_cases q0 : σ.2 (36 + 2 * a + 1) v = 0
      · rw [q0] at hcf
        rcases h.rd with q | q
        · rw [q] at r0 hF
          refine ⟨-nI 1000002, σ, τ, ?_, ?_, u, lv, h⟩
          · simp (disch := omega) only [f_X7_weaken, b_X7_weaken_42, b_X7_weaken_43, lit, pLeT, pLeF, pLtT, pLtF, pEqT, pEqF, nLeF, nLtF, nI_clamp, or_self, or_false, false_or, not_true_eq_false, not_false_eq_true, ↓reduceIte, nmS_eq, bd1_eq, bd2_eq, nI_add, pEqS, pk_mul, Nat.reduceAdd, Bool.false_eq_true, or_true, true_or, h1, e_X7_isVariable, hy, q0, r0, neS]
          · simp (disch := omega) only [f_X8_weaken, lit, pLeT, pLeF, pLtT, pLtF, pEqT, pEqF, nLeF, nLtF, nI_clamp, or_self, or_false, false_or, not_true_eq_false, not_false_eq_true, ↓reduceIte, nmS_eq, bd1_eq, bd2_eq, nI_add, pEqS, pk_mul, Nat.reduceAdd, Bool.false_eq_true, or_true, true_or, hF]
        · rw [q] at hF
          rw [q, if_neg (show ¬ nI 1 = nI 0 by decide)] at r0
          refine ⟨-nI 1000001, σ, τ, ?_, ?_, u, lv, h⟩
          · simp (disch := omega) only [f_X7_weaken, b_X7_weaken_42, b_X7_weaken_43, lit, pLeT, pLeF, pLtT, pLtF, pEqT, pEqF, nLeF, nLtF, nI_clamp, or_self, or_false, false_or, not_true_eq_false, not_false_eq_true, ↓reduceIte, nmS_eq, bd1_eq, bd2_eq, nI_add, pEqS, pk_mul, Nat.reduceAdd, Bool.false_eq_true, or_true, true_or, h1, e_X7_isVariable, hy, q0, r0, neB]
          · simp (disch := omega) only [f_X8_weaken, b_X8_weaken_49, lit, pLeT, pLeF, pLtT, pLtF, pEqT, pEqF, nLeF, nLtF, nI_clamp, or_self, or_false, false_or, not_true_eq_false, not_false_eq_true, ↓reduceIte, nmS_eq, bd1_eq, bd2_eq, nI_add, pEqS, pk_mul, Nat.reduceAdd, Bool.false_eq_true, or_true, true_or, hF, h2, e_inr, hy, hcf]
      · rcases h.rd with q | q
        · rw [q] at r1 hF
          refine ⟨-nI 1000002, σ, τ, ?_, ?_, u, lv, h⟩
          · simp (disch := omega) only [f_X7_weaken, b_X7_weaken_42, b_X7_weaken_43, lit, pLeT, pLeF, pLtT, pLtF, pEqT, pEqF, nLeF, nLtF, nI_clamp, or_self, or_false, false_or, not_true_eq_false, not_false_eq_true, ↓reduceIte, nmS_eq, bd1_eq, bd2_eq, nI_add, pEqS, pk_mul, Nat.reduceAdd, Bool.false_eq_true, or_true, true_or, h1, e_X7_isVariable, hy, q0, r1, neS]
          · simp (disch := omega) only [f_X8_weaken, lit, pLeT, pLeF, pLtT, pLtF, pEqT, pEqF, nLeF, nLtF, nI_clamp, or_self, or_false, false_or, not_true_eq_false, not_false_eq_true, ↓reduceIte, nmS_eq, bd1_eq, bd2_eq, nI_add, pEqS, pk_mul, Nat.reduceAdd, Bool.false_eq_true, or_true, true_or, hF]
        · rw [q] at hF
          rw [q, if_neg (show ¬ nI 1 = nI 0 by decide)] at r1
          by_cases hu : u < 30
          · rw [if_pos hu] at r1
            rw [if_pos hu] at hfu
            have hnx := h.next hu
            obtain ⟨τ1, t1, t2, t3, t4⟩ := h.takes ha
            have da := (h.clm ha).dn
            have ov := h.okX ha v hv
            have t5 := t4 v hv
            have mx := mx0 da (mabs_nn ov).1
            have mn := mx0_nn da (mabs_nn ov).1
            generalize hX : pL (pL (cpL σ (36 + 2 * a + 1) 0 (36 + 2 * u + 1) 0 8) (36 + 2 * u) 2 (mmax 0 (σ.2 (36 + 2 * a) 2 - mabs (σ.2 (36 + 2 * a + 1) v)))) (36 + 2 * u + 1) v 0 = σ'
            have x1 : f_X3_becomeWeakened (36 + 2 * u) (36 + 2 * a) (nI v) σ = some σ' := by
              simp (disch := omega) only [f_X3_becomeWeakened, lit, pLeT, pLeF, pLtT, pLtF, pEqT, pEqF, nLeF, nLtF, nI_clamp, or_self, or_false, false_or, not_true_eq_false, not_false_eq_true, ↓reduceIte, nmS_eq, bd1_eq, bd2_eq, nI_add, pEqS, pk_mul, Nat.reduceAdd, Bool.false_eq_true, or_true, true_or, cpL_k, hX]
            have x2 : Nx (36 + 2 * u) σ σ' := by
              rw [← hX]
              exact (Nx.c1.trans (Nx.p0 _ _)).trans (Nx.p1 _ _)
            generalize hM : pL (pL τ1 11 1 (mmax 0 (σ.2 (36 + 2 * a) 2 - mabs (σ.2 (36 + 2 * a + 1) v)))) 11 (2 + v) 0 = τ'
            have y2 : Mx 11 τ τ' := by
              rw [← hM]
              exact (t2.trans (Mx.p _ _)).trans (Mx.p _ _)
            obtain ⟨σ2, τ2, k1, k2, k3⟩ := h.made hu (x2.ag hu) (y2.ag (by omega)) (q := 4) (by omega) (by omega) (D := mmax 0 (σ.2 (36 + 2 * a) 2 - mabs (σ.2 (36 + 2 * a + 1) v))) (C := fun i => if i = v then 0 else σ.2 (36 + 2 * a + 1) i) mn.1 (fun i hi => by
                show ok (if i = v then 0 else σ.2 (36 + 2 * a + 1) i)
                split
                · show (0 : Int64).toInt ≠ _
                  rw [toI0]
                  decide
                · exact h.okX ha i hi) (by rw [← hX, pL_nk (by omega), pL_at]) (fun i hi => by
                rw [← hX]
                show _ = if i = v then 0 else σ.2 (36 + 2 * a + 1) i
                by_cases e : i = v
                · subst e; rw [if_pos rfl, pL_at]
                · rw [if_neg e, pL_nj (by omega), pL_nk (by omega), cpL_at0 hi]) (by rw [← hM, pL_nj (by omega), pL_at]) (fun i hi => by
                rw [← hM]
                show _ = if i = v then 0 else σ.2 (36 + 2 * a + 1) i
                by_cases e : i = v
                · subst e; rw [if_pos rfl, pL_at]
                · rw [if_neg e, pL_nj (by omega), pL_nj (by omega)]; exact t4 i hi)
            refine ⟨nI u, σ2, τ2, ?_, ?_, u + 1, _, k3⟩
            · simp (disch := omega) only [f_X7_weaken, b_X7_weaken_42, b_X7_weaken_43, lit, pLeT, pLeF, pLtT, pLtF, pEqT, pEqF, nLeF, nLtF, nI_clamp, or_self, or_false, false_or, not_true_eq_false, not_false_eq_true, ↓reduceIte, nmS_eq, bd1_eq, bd2_eq, nI_add, pEqS, pk_mul, Nat.reduceAdd, Bool.false_eq_true, or_true, true_or, h1, e_X7_isVariable, hy, q0, r1, hnx, layC hu, x1, k1]
            · rw [mx] at hM
              by_cases q2 : mabs (σ.2 (36 + 2 * a + 1) v) ≤ σ.2 (36 + 2 * a) 2
              · rw [if_pos q2] at hM
                simp (disch := omega) only [f_X8_weaken, b_X8_weaken_107, lit, pLeT, pLeF, pLtT, pLtF, pEqT, pEqF, nLeF, nLtF, nI_clamp, or_self, or_false, false_or, not_true_eq_false, not_false_eq_true, ↓reduceIte, nmS_eq, bd1_eq, bd2_eq, nI_add, pEqS, pk_mul, Nat.reduceAdd, Bool.false_eq_true, or_true, true_or, hF, h2, e_inr, hy, hcf, q0, hfu, t1, t3, t5, e_X8_size, q2, hM, k2]
              · rw [if_neg q2] at hM
                simp (disch := omega) only [f_X8_weaken, b_X8_weaken_107, lit, pLeT, pLeF, pLtT, pLtF, pEqT, pEqF, nLeF, nLtF, nI_clamp, or_self, or_false, false_or, not_true_eq_false, not_false_eq_true, ↓reduceIte, nmS_eq, bd1_eq, bd2_eq, nI_add, pEqS, pk_mul, Nat.reduceAdd, Bool.false_eq_true, or_true, true_or, hF, h2, e_inr, hy, hcf, q0, hfu, t1, t3, t5, e_X8_size, q2, hM, k2]
          · rw [if_neg hu] at r1
            rw [if_neg hu] at hfu
            refine ⟨-nI 1000003, σ, τ, ?_, ?_, u, lv, h⟩
            · simp (disch := omega) only [f_X7_weaken, b_X7_weaken_42, b_X7_weaken_43, lit, pLeT, pLeF, pLtT, pLtF, pEqT, pEqF, nLeF, nLtF, nI_clamp, or_self, or_false, false_or, not_true_eq_false, not_false_eq_true, ↓reduceIte, nmS_eq, bd1_eq, bd2_eq, nI_add, pEqS, pk_mul, Nat.reduceAdd, Bool.false_eq_true, or_true, true_or, h1, e_X7_isVariable, hy, q0, r1, neF]
            · simp (disch := omega) only [f_X8_weaken, lit, pLeT, pLeF, pLtT, pLtF, pEqT, pEqF, nLeF, nLtF, nI_clamp, or_self, or_false, false_or, not_true_eq_false, not_false_eq_true, ↓reduceIte, nmS_eq, bd1_eq, bd2_eq, nI_add, pEqS, pk_mul, Nat.reduceAdd, Bool.false_eq_true, or_true, true_or, hF, h2, e_inr, hy, hcf, q0, hfu]
/-! a literal -/
theorem l_J7_fillL (k N : Nat) (x : Int64) (σ : Sto) (hN : N < 2147483648) (n : Nat) (j : Nat) : ∀ i, i + j = N → l_J7_fill_d0a16_6 k N (n + 1 + j) x (nI i) (nI N) (wL σ k 0 i (fun _ => x)) = some (wL σ k 0 N (fun _ => x)) := by
  induction j with
  | zero =>
    intro i hi
    have e : i = N := by omega
    subst e
    show b_J7_fill_d0a16_6 _ k i x (nI i) (nI i) _ = _
    simp (disch := omega) only [b_J7_fill_d0a16_6, lit, pLeT, pLeF, pLtT, pLtF, pEqT, pEqF, nLeF, nLtF, nI_clamp, or_self, or_false, false_or, not_true_eq_false, not_false_eq_true, ↓reduceIte, nmS_eq, bd1_eq, bd2_eq, nI_add, pEqS, pk_mul, Nat.reduceAdd, Bool.false_eq_true, or_true, true_or]
  | succ j ih0 =>
    intro i hi
    have ih := ih0 (i + 1) (by omega)
    have e3 := wL_s0 (σ := σ) (k := k) (n := i) (g := fun _ => x) rfl
    show b_J7_fill_d0a16_6 (l_J7_fill_d0a16_6 k N (n + 1 + j)) k N x (nI i) (nI N) (wL σ k 0 i (fun _ => x)) = _
    simp (disch := omega) only [b_J7_fill_d0a16_6, lit, pLeT, pLeF, pLtT, pLtF, pEqT, pEqF, nLeF, nLtF, nI_clamp, or_self, or_false, false_or, not_true_eq_false, not_false_eq_true, ↓reduceIte, nmS_eq, bd1_eq, bd2_eq, nI_add, pEqS, pk_mul, Nat.reduceAdd, Bool.false_eq_true, or_true, true_or, e3, ih]
theorem e_X3_clear (k : Nat) (σ : Sto) : f_X3_clear k σ = some (pL (wL σ (k + 1) 0 8 (fun _ => 0)) k 2 0) := by
  have h := l_J7_fillL (k + 1) 8 0 σ (by omega) 391 8 0 (by omega)
  rw [wL_0] at h
  have h2 : f_J7_fill_d0a16 (k + 1) 8 0 σ = some (wL σ (k + 1) 0 8 (fun _ => 0)) := by
    unfold f_J7_fill_d0a16
    rw [nmS_eq]
    exact h
  simp (disch := omega) only [f_X3_clear, lit, pLeT, pLeF, pLtT, pLtF, pEqT, pEqF, nLeF, nLtF, nI_clamp, or_self, or_false, false_or, not_true_eq_false, not_false_eq_true, ↓reduceIte, nmS_eq, bd1_eq, bd2_eq, nI_add, pEqS, pk_mul, Nat.reduceAdd, Bool.false_eq_true, or_true, true_or, h2]
theorem l_X8_axiom (x y : Int32) (τ : Sto) (n : Nat) (j : Nat) : ∀ i, i + j = 10 → l_X8_axiom_44 (n + 1 + j) x y (nI i) (wL τ 11 0 i (fun _ => 0)) = if y = nI 1 then b_X8_axiom_82 1 (nI 2 + x) (wL τ 11 0 10 (fun _ => 0)) else b_X8_axiom_82 (-1) (nI 2 + x) (wL τ 11 0 10 (fun _ => 0)) := by
  induction j with
  | zero =>
    intro i hi
    have e : i = 10 := by omega
    subst e
    show b_X8_axiom_44 _ x y (nI 10) _ = _
    simp (disch := omega) only [b_X8_axiom_44, lit, pLeT, pLeF, pLtT, pLtF, pEqT, pEqF, nLeF, nLtF, nI_clamp, or_self, or_false, false_or, not_true_eq_false, not_false_eq_true, ↓reduceIte, nmS_eq, bd1_eq, bd2_eq, nI_add, pEqS, pk_mul, Nat.reduceAdd, Bool.false_eq_true, or_true, true_or]
  | succ j ih0 =>
    intro i hi
    have ih := ih0 (i + 1) (by omega)
    have e3 := wL_s0 (σ := τ) (k := 11) (n := i) (g := fun _ => (0 : Int64)) (x := 0) (Eq.refl _)
    show b_X8_axiom_44 (l_X8_axiom_44 (n + 1 + j)) x y (nI i) (wL τ 11 0 i (fun _ => 0)) = _
    simp (disch := omega) only [b_X8_axiom_44, lit, pLeT, pLeF, pLtT, pLtF, pEqT, pEqF, nLeF, nLtF, nI_clamp, or_self, or_false, false_or, not_true_eq_false, not_false_eq_true, ↓reduceIte, nmS_eq, bd1_eq, bd2_eq, nI_add, pEqS, pk_mul, Nat.reduceAdd, Bool.false_eq_true, or_true, true_or, e3, ih]
theorem s_axiom (x y : Int32) : Sim RR (f_X7_axiom x y) (f_X8_axiom x y) := by
  intro σ τ ⟨u, lv, h⟩
  have r0 := h.refuse0
  have r1 := h.refuse1
  have hF := e_X8_isFormula h
  have hfu := (e_X2_isFull h).2
  have key : ∃ z : Bool, f_X7_axiom x y σ = b_X7_axiom_22 x y (if z then nI 1 else nI 0) σ ∧ (z = false → inr x 8 = false ∨ inr y 2 = false) ∧ (z = true → inr x 8 = true ∧ inr y 2 = true) := by
    cases hx : inr x 8
    · refine ⟨false, ?_, fun _ => Or.inl rfl, (fun q => by cases q)⟩
      simp (disch := omega) only [f_X7_axiom, b_X7_axiom_21, b_X7_axiom_17, lit, pLeT, pLeF, pLtT, pLtF, pEqT, pEqF, nLeF, nLtF, nI_clamp, or_self, or_false, false_or, not_true_eq_false, not_false_eq_true, ↓reduceIte, nmS_eq, bd1_eq, bd2_eq, nI_add, pEqS, pk_mul, Nat.reduceAdd, Bool.false_eq_true, or_true, true_or, e_X7_isVariable, hx]
    · cases hy : inr y 2
      · refine ⟨false, ?_, fun _ => Or.inr rfl, (fun q => by cases q)⟩
        have y0 : (y = nI 0) = False := eq_false (fun e => by rw [e, inr_nI (by omega) (by omega)] at hy; exact absurd hy (by decide))
        have y1 : (y = nI 1) = False := eq_false (fun e => by rw [e, inr_nI (by omega) (by omega)] at hy; exact absurd hy (by decide))
        simp (disch := omega) only [f_X7_axiom, b_X7_axiom_21, b_X7_axiom_17, lit, pLeT, pLeF, pLtT, pLtF, pEqT, pEqF, nLeF, nLtF, nI_clamp, or_self, or_false, false_or, not_true_eq_false, not_false_eq_true, ↓reduceIte, nmS_eq, bd1_eq, bd2_eq, nI_add, pEqS, pk_mul, Nat.reduceAdd, Bool.false_eq_true, or_true, true_or, e_X7_isVariable, hx, y0, y1]
      · refine ⟨true, ?_, (fun q => by cases q), fun _ => ⟨rfl, rfl⟩⟩
        obtain ⟨b, hb, e⟩ := inr_of (by omega) hy
        subst e
        have hb2 : b = 0 ∨ b = 1 := by omega
        rcases hb2 with e | e <;> subst e <;> simp (disch := omega) only [f_X7_axiom, b_X7_axiom_21, b_X7_axiom_17, lit, pLeT, pLeF, pLtT, pLtF, pEqT, pEqF, nLeF, nLtF, nI_clamp, or_self, or_false, false_or, not_true_eq_false, not_false_eq_true, ↓reduceIte, nmS_eq, bd1_eq, bd2_eq, nI_add, pEqS, pk_mul, Nat.reduceAdd, Bool.false_eq_true, or_true, true_or, e_X7_isVariable, hx]
  obtain ⟨z, k1, k2, k3⟩ := key
  rcases h.rd with q | q
  · rw [q] at r0 r1 hF
    refine ⟨-nI 1000002, σ, τ, ?_, ?_, u, lv, h⟩
    · rw [k1]
      cases z
      · simp (disch := omega) only [b_X7_axiom_22, lit, pLeT, pLeF, pLtT, pLtF, pEqT, pEqF, nLeF, nLtF, nI_clamp, or_self, or_false, false_or, not_true_eq_false, not_false_eq_true, ↓reduceIte, nmS_eq, bd1_eq, bd2_eq, nI_add, pEqS, pk_mul, Nat.reduceAdd, Bool.false_eq_true, or_true, true_or, r0, neS]
      · simp (disch := omega) only [b_X7_axiom_22, lit, pLeT, pLeF, pLtT, pLtF, pEqT, pEqF, nLeF, nLtF, nI_clamp, or_self, or_false, false_or, not_true_eq_false, not_false_eq_true, ↓reduceIte, nmS_eq, bd1_eq, bd2_eq, nI_add, pEqS, pk_mul, Nat.reduceAdd, Bool.false_eq_true, or_true, true_or, r1, neS]
    · simp (disch := omega) only [f_X8_axiom, lit, pLeT, pLeF, pLtT, pLtF, pEqT, pEqF, nLeF, nLtF, nI_clamp, or_self, or_false, false_or, not_true_eq_false, not_false_eq_true, ↓reduceIte, nmS_eq, bd1_eq, bd2_eq, nI_add, pEqS, pk_mul, Nat.reduceAdd, Bool.false_eq_true, or_true, true_or, hF]
  · rw [q] at hF
    rw [q, if_neg (show ¬ nI 1 = nI 0 by decide)] at r0 r1
    cases z
    · refine ⟨-nI 1000001, σ, τ, ?_, ?_, u, lv, h⟩
      · rw [k1]
        simp (disch := omega) only [b_X7_axiom_22, lit, pLeT, pLeF, pLtT, pLtF, pEqT, pEqF, nLeF, nLtF, nI_clamp, or_self, or_false, false_or, not_true_eq_false, not_false_eq_true, ↓reduceIte, nmS_eq, bd1_eq, bd2_eq, nI_add, pEqS, pk_mul, Nat.reduceAdd, Bool.false_eq_true, or_true, true_or, r0, neB]
      · cases hx : inr x 8
        · simp (disch := omega) only [f_X8_axiom, b_X8_axiom_29, lit, pLeT, pLeF, pLtT, pLtF, pEqT, pEqF, nLeF, nLtF, nI_clamp, or_self, or_false, false_or, not_true_eq_false, not_false_eq_true, ↓reduceIte, nmS_eq, bd1_eq, bd2_eq, nI_add, pEqS, pk_mul, Nat.reduceAdd, Bool.false_eq_true, or_true, true_or, hF, e_inr, hx]
        · have hy : inr y 2 = false := by
            rcases k2 rfl with e | e
            · rw [e] at hx; cases hx
            · exact e
          simp (disch := omega) only [f_X8_axiom, b_X8_axiom_29, lit, pLeT, pLeF, pLtT, pLtF, pEqT, pEqF, nLeF, nLtF, nI_clamp, or_self, or_false, false_or, not_true_eq_false, not_false_eq_true, ↓reduceIte, nmS_eq, bd1_eq, bd2_eq, nI_add, pEqS, pk_mul, Nat.reduceAdd, Bool.false_eq_true, or_true, true_or, hF, e_inr, hx, hy]
    · obtain ⟨hx, hy⟩ := k3 rfl
      obtain ⟨v, hv, e⟩ := inr_of (by omega) hx
      subst e
      by_cases hu : u < 30
      · rw [if_pos hu] at r1
        rw [if_pos hu] at hfu
        have hnx := h.next hu
        have hM := l_X8_axiom (nI v) y τ 389 10 0 (by omega)
        rw [wL_0] at hM
        generalize hw : (if y = nI 1 then (1 : Int64) else -1) = w
        have okw : ok w := by
          rw [← hw]
          show (if y = nI 1 then (1 : Int64) else -1).toInt ≠ _
          split <;> decide
        generalize hX : pL (pL (wL σ (36 + 2 * u + 1) 0 8 (fun _ => 0)) (36 + 2 * u) 2 0) (36 + 2 * u + 1) v w = σ'
        have x2 : Nx (36 + 2 * u) σ σ' := by
          rw [← hX]
          exact ((Nx.w1 _ _ _).trans (Nx.p0 _ _)).trans (Nx.p1 _ _)
        generalize hT : pL (wL τ 11 0 10 (fun _ => 0)) 11 (2 + v) w = τ'
        have y2 : Mx 11 τ τ' := by
          rw [← hT]
          exact (Mx.w _ _ _).trans (Mx.p _ _)
        obtain ⟨σ2, τ2, j1, j2, j3⟩ := h.made hu (x2.ag hu) (y2.ag (by omega)) (q := 2) (by omega) (by omega) (D := 0) (C := fun i => if i = v then w else 0) (by rw [toI0]; exact Int.le_refl 0) (fun i hi => by
            show ok (if i = v then w else 0)
            split
            · exact okw
            · show (0 : Int64).toInt ≠ _
              rw [toI0]
              decide) (by rw [← hX, pL_nk (by omega), pL_at]) (fun i hi => by
            rw [← hX]
            show _ = if i = v then w else 0
            by_cases e : i = v
            · subst e; rw [if_pos rfl, pL_at]
            · rw [if_neg e, pL_nj (by omega), pL_nk (by omega), wL_at0 hi]) (by rw [← hT, pL_nj (by omega), wL_at0 (by omega)]) (fun i hi => by
            rw [← hT]
            show _ = if i = v then w else 0
            by_cases e : i = v
            · subst e; rw [if_pos rfl, pL_at]
            · rw [if_neg e, pL_nj (by omega), wL_at0 (by omega)])
        refine ⟨nI u, σ2, τ2, ?_, ?_, u + 1, _, j3⟩
        · rw [k1]
          by_cases e : y = nI 1
          · rw [if_pos e] at hw
            rw [← hw] at hX
            simp (disch := omega) only [b_X7_axiom_22, b_X7_axiom_64, lit, pLeT, pLeF, pLtT, pLtF, pEqT, pEqF, nLeF, nLtF, nI_clamp, or_self, or_false, false_or, not_true_eq_false, not_false_eq_true, ↓reduceIte, nmS_eq, bd1_eq, bd2_eq, nI_add, pEqS, pk_mul, Nat.reduceAdd, Bool.false_eq_true, or_true, true_or, r1, hnx, layC hu, e_X3_clear, e, hX, j1]
          · rw [if_neg e] at hw
            rw [← hw] at hX
            simp (disch := omega) only [b_X7_axiom_22, b_X7_axiom_64, lit, pLeT, pLeF, pLtT, pLtF, pEqT, pEqF, nLeF, nLtF, nI_clamp, or_self, or_false, false_or, not_true_eq_false, not_false_eq_true, ↓reduceIte, nmS_eq, bd1_eq, bd2_eq, nI_add, pEqS, pk_mul, Nat.reduceAdd, Bool.false_eq_true, or_true, true_or, r1, hnx, layC hu, e_X3_clear, e, hX, j1]
        · have hM1 : l_X8_axiom_44 400 (nI v) y (nI 0) τ = some (nI u, τ2) := by
            rw [show (400 : Nat) = 389 + 1 + 10 from rfl, hM]
            by_cases e : y = nI 1
            · rw [if_pos e] at hw
              rw [if_pos e]
              rw [← hw] at hT
              simp (disch := omega) only [b_X8_axiom_82, lit, pLeT, pLeF, pLtT, pLtF, pEqT, pEqF, nLeF, nLtF, nI_clamp, or_self, or_false, false_or, not_true_eq_false, not_false_eq_true, ↓reduceIte, nmS_eq, bd1_eq, bd2_eq, nI_add, pEqS, pk_mul, Nat.reduceAdd, Bool.false_eq_true, or_true, true_or, hT, j2]
            · rw [if_neg e] at hw
              rw [if_neg e]
              rw [← hw] at hT
              simp (disch := omega) only [b_X8_axiom_82, lit, pLeT, pLeF, pLtT, pLtF, pEqT, pEqF, nLeF, nLtF, nI_clamp, or_self, or_false, false_or, not_true_eq_false, not_false_eq_true, ↓reduceIte, nmS_eq, bd1_eq, bd2_eq, nI_add, pEqS, pk_mul, Nat.reduceAdd, Bool.false_eq_true, or_true, true_or, hT, j2]
          simp (disch := omega) only [f_X8_axiom, lit, pLeT, pLeF, pLtT, pLtF, pEqT, pEqF, nLeF, nLtF, nI_clamp, or_self, or_false, false_or, not_true_eq_false, not_false_eq_true, ↓reduceIte, nmS_eq, bd1_eq, bd2_eq, nI_add, pEqS, pk_mul, Nat.reduceAdd, Bool.false_eq_true, or_true, true_or, hF, e_inr, hx, hy, hfu, hM1]
      · rw [if_neg hu] at r1
        rw [if_neg hu] at hfu
        refine ⟨-nI 1000003, σ, τ, ?_, ?_, u, lv, h⟩
        · rw [k1]
          simp (disch := omega) only [b_X7_axiom_22, lit, pLeT, pLeF, pLtT, pLtF, pEqT, pEqF, nLeF, nLtF, nI_clamp, or_self, or_false, false_or, not_true_eq_false, not_false_eq_true, ↓reduceIte, nmS_eq, bd1_eq, bd2_eq, nI_add, pEqS, pk_mul, Nat.reduceAdd, Bool.false_eq_true, or_true, true_or, r1, neF]
        · simp (disch := omega) only [f_X8_axiom, lit, pLeT, pLeF, pLtT, pLtF, pEqT, pEqF, nLeF, nLtF, nI_clamp, or_self, or_false, false_or, not_true_eq_false, not_false_eq_true, ↓reduceIte, nmS_eq, bd1_eq, bd2_eq, nI_add, pEqS, pk_mul, Nat.reduceAdd, Bool.false_eq_true, or_true, true_or, hF, e_inr, hx, hy, hfu]
