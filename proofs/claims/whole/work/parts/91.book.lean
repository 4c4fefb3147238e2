/-! ===== the book changes ===== -/
def AcP (u : Nat) (σ τ : Sto) : Prop := ∃ (o s : Nat) (us ls : Nat → Nat), o < 12 ∧ s ≤ 12 ∧ σ.1 223 3 = nI o ∧ σ.1 223 4 = nI s ∧ τ.1 0 16 = nI s ∧ (∀ i, i < s → us i ≤ u ∧ σ.1 224 ((o + i) % 12) = nI (us i) ∧ σ.1 225 ((o + i) % 12) = nI (ls i) ∧ Fm σ 33 (us i) (ls i) (σ.1 226 ((o + i) % 12)) (fun x => τ.2 8 (312 * i + x))) ∧ ∀ i j, i ≤ j → j < s → us i ≤ us j
theorem RU.bkch {u lv u' lv' : Nat} {σ τ σ' τ' : Sto} (h : RU u lv σ τ) (x1 : ∀ c j, ¬ (33 ≤ c ∧ c < 97) → ¬ (223 ≤ c ∧ c < 227) → σ'.1 c j = σ.1 c j) (x2 : ∀ c j, ¬ (33 ≤ c ∧ c < 97) → σ'.2 c j = σ.2 c j) (m1 : ∀ c j, ¬ (c = 0 ∧ j = 16) → τ'.1 c j = τ.1 c j) (m2 : ∀ j, τ'.2 9 j = τ.2 9 j)
    (rd : σ'.1 33 2 = nI 0 ∨ σ'.1 33 2 = nI 1) (us : σ'.1 33 3 = nI u') (hlv : σ'.1 33 4 = nI lv') (bk : Fm σ' 33 u' lv' (σ'.1 33 5) (τ'.2 6)) (ac : AcP u' σ' τ') (nm : ∀ a, a < 30 → σ'.1 (36 + 2 * a) 1 = nI a) : RU u' lv' σ' τ' := by
  refine ⟨?_, ?_, ?_, ?_, rd, us, hlv, bk, ?_, ac, nm, ?_, ?_⟩
  · rw [x1 _ _ (by omega) (by omega), m1 _ _ (by omega)]; exact h.st
  · intro r hr
    unfold Rw
    rw [x1 12 r (by omega) (by omega), x1 11 r (by omega) (by omega), m1 1 r (by omega), m1 2 r (by omega)]
    rcases h.rw r hr with q | ⟨n, l, q1, q2, q3, q4, q5, q6, q7⟩
    · exact Or.inl q
    · refine Or.inr ⟨n, l, q1, q2, q3, q4, q5, q6, fun i hi => ?_⟩
      rw [x1 _ _ (by omega) (by omega), m1 _ _ (by omega)]
      exact q7 i hi
  · obtain ⟨L, l1, l2, l3, l4⟩ := h.tp
    refine ⟨L, l1, by rw [x1 _ _ (by omega) (by omega)]; exact l2, by rw [m1 _ _ (by omega)]; exact l3, fun i hi => ?_⟩
    rw [x1 _ _ (by omega) (by omega), m1 _ _ (by omega)]
    exact l4 i hi
  · rw [x1 _ _ (by omega) (by omega), m1 _ _ (by omega)]; exact h.ft
  · intro k hk
    unfold Im
    rw [x1 (97 + 63 * k) 2 (by omega) (by omega), x1 (97 + 63 * k) 3 (by omega) (by omega), x1 (97 + 63 * k) 4 (by omega) (by omega), x1 (97 + 63 * k) 5 (by omega) (by omega), m1 10 k (by omega)]
    rcases h.im k hk with q | ⟨q1, q2, u2, l2, q3, q4, q5⟩
    · exact Or.inl q
    · have hu2 := q5.hu
      refine Or.inr ⟨q1, q2, u2, l2, q3, q4, q5.cong (x1 _ _ (by omega) (by omega)) (fun v hv => x1 _ _ (by omega) (by omega)) (fun a ha => ⟨x1 _ _ (by omega) (by omega), x2 _ _ (by omega), fun v hv => x2 _ _ (by omega)⟩) (fun i _ => m2 _)⟩
  · refine ⟨by rw [x2 _ _ (by omega)]; exact h.no.1, fun v hv => ?_⟩
    rw [x2 _ _ (by omega)]
    exact h.no.2 v hv
  · obtain ⟨t, t1, t2, t3, t4⟩ := h.tr
    refine ⟨t, t1, by rw [x1 _ _ (by omega) (by omega)]; exact t2, by rw [m1 _ _ (by omega)]; exact t3, fun i hi => ?_⟩
    rw [x1 _ _ (by omega) (by omega), m1 _ _ (by omega)]
    exact t4 i hi
/-- the acts stay where clauses below u stay -/
theorem RU.acs {u lv u' : Nat} {σ τ σ' τ' : Sto} (h : RU u lv σ τ) (hu : u ≤ u') (x1 : ∀ c j, 223 ≤ c ∧ c < 227 → σ'.1 c j = σ.1 c j) (x2 : σ'.1 33 2 = σ.1 33 2) (x3 : ∀ j, σ'.1 35 j = σ.1 35 j) (x4 : ∀ a, a < u → σ'.1 (36 + 2 * a) 3 = σ.1 (36 + 2 * a) 3 ∧ σ'.2 (36 + 2 * a) 2 = σ.2 (36 + 2 * a) 2 ∧ ∀ v, v < 8 → σ'.2 (36 + 2 * a + 1) v = σ.2 (36 + 2 * a + 1) v) (m1 : τ'.1 0 16 = τ.1 0 16) (m2 : ∀ j, τ'.2 8 j = τ.2 8 j) : AcP u' σ' τ' := by
  obtain ⟨o, s, us, ls, a1, a2, a3, a4, a5, a6, a7⟩ := h.ac
  refine ⟨o, s, us, ls, a1, a2, by rw [x1 _ _ (by omega)]; exact a3, by rw [x1 _ _ (by omega)]; exact a4, by rw [m1]; exact a5, fun i hi => ?_, a7⟩
  obtain ⟨b1, b2, b3, b4⟩ := a6 i hi
  refine ⟨Nat.le_trans b1 hu, by rw [x1 _ _ (by omega)]; exact b2, by rw [x1 _ _ (by omega)]; exact b3, ?_⟩
  rw [x1 226 _ (by omega)]
  exact b4.cong x2 (fun v _ => x3 v) (fun a ha => x4 a (by omega)) (fun i _ => m2 _)
/-- one clause more -/
theorem RU.addP {u lv : Nat} {σ τ σ' τ' : Sto} (h : RU u lv σ τ) (hu : u < 30) (x1 : ∀ c j, ¬ (c = 33 ∧ 3 ≤ j ∧ j ≤ 5) → ¬ (c = 36 + 2 * u ∧ j = 3) → σ'.1 c j = σ.1 c j) (x2 : ∀ c j, c ≠ 36 + 2 * u → c ≠ 36 + 2 * u + 1 → σ'.2 c j = σ.2 c j) (us : σ'.1 33 3 = nI (u + 1)) (hlv : σ'.1 33 4 = nI (lv + 2 ^ u)) (cl : Cl σ' (36 + 2 * u) (fun i => τ'.2 6 (12 + 10 * u + i)))
    (m1 : ∀ c j, τ'.1 c j = τ.1 c j) (m2 : ∀ c j, c = 8 ∨ c = 9 → τ'.2 c j = τ.2 c j) (w8 : τ'.2 6 8 = (σ'.1 33 5).toInt64) (w9 : τ'.2 6 9 = lN (u + 1)) (w10 : τ'.2 6 10 = lN (lv + 2 ^ u)) (wr : ∀ i, i < 12 + 10 * u → i ≠ 8 → i ≠ 9 → i ≠ 10 → τ'.2 6 i = τ.2 6 i) : RU (u + 1) (lv + 2 ^ u) σ' τ' := by
  have hb := h.bk
  refine h.bkch (fun c j _ _ => x1 _ _ (by omega) (by omega)) (fun c j _ => x2 _ _ (by omega) (by omega)) (fun c j _ => m1 _ _) (fun j => m2 _ _ (by omega)) ?_ us hlv ?_ ?_ ?_
  · rw [x1 _ _ (by omega) (by omega)]; exact h.rd
  · refine ⟨by omega, ?_, w9, w10, w8, ?_, fun v hv => ?_, fun a ha => ?_⟩
    · have := hb.hl
      rw [Nat.pow_succ]
      omega
    · rw [wr 11 (by omega) (by omega) (by omega) (by omega), x1 _ _ (by omega) (by omega)]; exact hb.wi
    · rw [wr v (by omega) (by omega) (by omega) (by omega), x1 _ _ (by omega) (by omega)]; exact hb.pr v hv
    · by_cases e : a = u
      · subst e
        exact cl
      · exact (hb.cl a (by omega)).cong (x1 _ _ (by omega) (by omega)) (x2 _ _ (by omega) (by omega)) (fun v hv => x2 _ _ (by omega) (by omega)) (fun i hi => wr _ (by omega) (by omega) (by omega) (by omega))
  · exact h.acs (by omega) (fun c j hc => x1 _ _ (by omega) (by omega)) (x1 _ _ (by omega) (by omega)) (fun j => x1 _ _ (by omega) (by omega)) (fun a ha => ⟨x1 _ _ (by omega) (by omega), x2 _ _ (by omega) (by omega), fun v hv => x2 _ _ (by omega) (by omega)⟩) (m1 _ _) (fun j => m2 _ _ (by omega))
  · intro a ha
    rw [x1 _ _ (by omega) (by omega)]
    exact h.nm a ha
theorem tb_add {lv u b : Nat} (h : lv < 2 ^ u) : (lv + 2 ^ u).testBit b = (lv.testBit b || decide (b = u)) := by
  rw [Nat.add_comm]
  by_cases e : b = u
  · subst e
    rw [Nat.testBit_two_pow_add_eq, tb_of h (Nat.le_refl _), decide_eq_true rfl]
    rfl
  · rw [decide_eq_false e, Bool.or_false]
    rcases Nat.lt_or_gt_of_ne e with q | q
    · rw [Nat.testBit_two_pow_add_gt q]
    · rw [tb_of h (by omega)]
      apply Nat.testBit_lt_two_pow
      have : 2 ^ (u + 1) ≤ 2 ^ b := Nat.pow_le_pow_right (by decide) q
      rw [Nat.pow_succ] at this
      omega
theorem or32 {lv u : Nat} (h : lv < 2 ^ u) (hu : u < 30) : nI lv ||| (nI 1 <<< (nI u &&& nI 31)) = nI (lv + 2 ^ u) := by
  have h1 := pw30 h (by omega)
  have h2 : 2 ^ u ≤ 2 ^ 29 := Nat.pow_le_pow_right (by decide) (by omega)
  apply b_ext
  intro i hi
  rw [or_one (by omega) hi, nI_bt (by omega) hi, nI_bt (by omega) hi, tb_add h]
theorem or64 {lv u : Nat} (h : lv < 2 ^ u) (hu : u < 30) : lN lv ||| ((1 : Int64) <<< ((nI u).toInt64 &&& 63)) = lN (lv + 2 ^ u) := by
  have h1 := pw30 h (by omega)
  have h2 : 2 ^ u ≤ 2 ^ 29 := Nat.pow_le_pow_right (by decide) (by omega)
  have e : ((1 : Int64) <<< ((nI u).toInt64 &&& 63)) = lN (1 * 2 ^ u) := wb_shl 1 (by omega)
  rw [e, Nat.one_mul, wb_or (by omega) (by omega)]
  congr 1
  apply Nat.eq_of_testBit_eq
  intro b
  rw [Nat.testBit_or, Nat.testBit_two_pow, tb_add h]
  congr 1
  by_cases q : b = u
  · rw [decide_eq_true q, decide_eq_true q.symm]
  · rw [decide_eq_false q, decide_eq_false (fun z => q z.symm)]
/-- what is made comes as a clause -/
theorem RU.comes {u lv : Nat} {σ τ : Sto} (h : RU u lv σ τ) (hu : u < 30) {q : Nat} (q1 : 1 ≤ q) (q5 : q ≤ 5) (dn : 0 ≤ (σ.2 (36 + 2 * u) 2).toInt) (dg : τ.2 11 1 = σ.2 (36 + 2 * u) 2) (cf : ∀ v, v < 8 → ok (σ.2 (36 + 2 * u + 1) v) ∧ τ.2 11 (2 + v) = σ.2 (36 + 2 * u + 1) v) :
    ∃ σ' τ', f_X7_comes (nI q) σ = some (nI u, σ') ∧ f_X8_comes (nI q) τ = some (nI u, τ') ∧ RU (u + 1) (lv + 2 ^ u) σ' τ' := by
  obtain ⟨σ1, τ1, k1, k2, h1, kp⟩ := h.keep
  have e1 := h1.us
  have e2 := h1.lv
  have e3 := h1.bk.wu
  have e4 := h1.bk.wl
  have hl := h1.bk.hl
  have o1 := or32 hl hu
  have o2 := or64 hl hu
  generalize hs2 : pI (pI (pI σ1 (36 + 2 * u) 3 (nI q)) 33 4 (nI (lv + 2 ^ u))) 33 3 (nI (u + 1)) = σ2
  have cp := e_X8_copies 11 10 6 312 0 (12 + 10 * u) 10 (pL τ1 11 0 (lN q)) (by omega) (by omega) (by omega) (by omega) (by omega) (by omega)
  have cu : (wL (pL τ1 11 0 (lN q)) 6 (12 + 10 * u) 10 (fun t => (pL τ1 11 0 (lN q)).2 11 (0 + t))).2 6 10 = lN lv := by rw [wL_out (by omega), pL_nk (by omega)]; exact e4
  have cv : (wL (pL τ1 11 0 (lN q)) 6 (12 + 10 * u) 10 (fun t => (pL τ1 11 0 (lN q)).2 11 (0 + t))).2 6 9 = lN u := by rw [wL_out (by omega), pL_nk (by omega)]; exact e3
  generalize ht2 : wL (pL τ1 11 0 (lN q)) 6 (12 + 10 * u) 10 (fun t => (pL τ1 11 0 (lN q)).2 11 (0 + t)) = τ2 at cp cu cv
  have hR : RU (u + 1) (lv + 2 ^ u) σ2 (pL (pL τ2 6 10 (lN (lv + 2 ^ u))) 6 9 (lN (u + 1))) := by
    have s1 : ∀ c j, ¬ (c = 33 ∧ 3 ≤ j ∧ j ≤ 5) → ¬ (c = 36 + 2 * u ∧ j = 3) → σ2.1 c j = σ1.1 c j := by
      intro c j n1 n2
      rw [← hs2, pI_no (by omega), pI_no (by omega), pI_no (by omega)]
    have s2 : σ2.2 = σ.2 := by rw [← hs2, pI_2, pI_2, pI_2, kp.l]
    have s3 : σ2.1 (36 + 2 * u) 3 = nI q := by rw [← hs2, pI_nk (by omega), pI_nk (by omega), pI_at]
    have t0 : ∀ i, i < 10 → (pL (pL τ2 6 10 (lN (lv + 2 ^ u))) 6 9 (lN (u + 1))).2 6 (12 + 10 * u + i) = (pL τ1 11 0 (lN q)).2 11 (0 + i) := by
      intro i hi
      rw [pL_nj (by omega), pL_nj (by omega), ← ht2, wL_at hi]
    refine h1.addP hu s1 (fun c j _ _ => by rw [s2, kp.l]) (by rw [← hs2, pI_at]) (by rw [← hs2, pI_nj (by omega), pI_at]) ?_ ?_ ?_ ?_ ?_ ?_ ?_
    · refine ⟨⟨q, q1, q5, s3, ?_⟩, by rw [s2]; exact dn, ?_, fun v hv => ⟨by rw [s2]; exact (cf v hv).1, ?_⟩⟩
      · show (pL (pL τ2 6 10 (lN (lv + 2 ^ u))) 6 9 (lN (u + 1))).2 6 (12 + 10 * u + 0) = lN q
        rw [t0 0 (by omega), Nat.zero_add, pL_at]
      · show (pL (pL τ2 6 10 (lN (lv + 2 ^ u))) 6 9 (lN (u + 1))).2 6 (12 + 10 * u + 1) = _
        rw [t0 1 (by omega), Nat.zero_add, pL_nj (by omega), kp.n _ _ (by omega), s2]
        exact dg
      · show (pL (pL τ2 6 10 (lN (lv + 2 ^ u))) 6 9 (lN (u + 1))).2 6 (12 + 10 * u + (2 + v)) = _
        rw [t0 (2 + v) (by omega), Nat.zero_add, pL_nj (by omega), kp.n _ _ (by omega), s2]
        exact (cf v hv).2
    · intro c j
      rw [pL_1, pL_1, ← ht2, wL_1, pL_1]
    · intro c j hc
      rw [pL_nk (by omega), pL_nk (by omega), ← ht2, wL_k (by omega), pL_nk (by omega)]
    · have s4 : σ2.1 33 5 = σ1.1 33 5 := by rw [← hs2, pI_nj (by omega), pI_nj (by omega), pI_nk (by omega)]
      rw [pL_nj (by omega), pL_nj (by omega), ← ht2, wL_out (by omega), pL_nk (by omega), s4]
      exact h1.bk.wb
    · rw [pL_at]
    · rw [pL_nj (by omega), pL_at]
    · intro i n1 n2 n3 n4
      rw [pL_nj (by omega), pL_nj (by omega), ← ht2, wL_out (by omega), pL_nk (by omega)]
  have nq : (nI q).toInt64 = lN q := nI_l (by omega)
  refine ⟨σ2, _, ?_, ?_, hR⟩
  · rw [← hs2]
    simp (disch := omega) only [f_X7_comes, f_X2_add, lit, pLeT, pLeF, pLtT, pLtF, pEqT, pEqF, nLeF, nLtF, nI_clamp, or_self, or_false, false_or, not_true_eq_false, not_false_eq_true, ↓reduceIte, nmS_eq, bd1_eq, bd2_eq, nI_add, pEqS, pk_mul, Nat.reduceAdd, Bool.false_eq_true, or_true, true_or, k1, e1, e2, o1, pI_nk, pI_nj, pI_at, pk_sub, Nat.add_sub_cancel]
  · simp (disch := omega) only [f_X8_comes, lit, pLeT, pLeF, pLtT, pLtF, pEqT, pEqF, nLeF, nLtF, nI_clamp, or_self, or_false, false_or, not_true_eq_false, not_false_eq_true, ↓reduceIte, nmS_eq, bd1_eq, bd2_eq, nI_add, pEqS, pk_mul, Nat.reduceAdd, Bool.false_eq_true, or_true, true_or, k2, e3, lN_i, nq, cp, cu, cv, o2, lN_1, pL_nj, pL_at]
