/-! ===== remove, undo, image, restore ===== -/
theorem tb_xor {lv a : Nat} (h : lv.testBit a = true) (b : Nat) : (lv ^^^ 2 ^ a).testBit b = (lv.testBit b && !decide (b = a)) := by
  rw [Nat.testBit_xor, Nat.testBit_two_pow]
  by_cases e : b = a
  · subst e
    rw [h, decide_eq_true rfl]
    rfl
  · rw [decide_eq_false e, decide_eq_false (fun z => e z.symm)]
    cases lv.testBit b <;> rfl
theorem xor_lt {lv a u : Nat} (h : lv < 2 ^ u) (ha : a < u) : lv ^^^ 2 ^ a < 2 ^ u := Nat.xor_lt_two_pow h (Nat.pow_lt_pow_right (by decide) ha)
theorem and32 {lv a : Nat} (h30 : lv < 2 ^ 30) (ha : a < 30) (h : lv.testBit a = true) : nI lv &&& ((nI 1 <<< (nI a &&& nI 31)) ^^^ -nI 1) = nI (lv ^^^ 2 ^ a) := by
  have h2 := xor_lt h30 ha
  apply b_ext
  intro i hi
  rw [mem_but _ (by omega) hi, nI_bt (by omega) hi, nI_bt (by omega) hi, tb_xor h]
theorem and64 {lv a : Nat} (h30 : lv < 2 ^ 30) (ha : a < 30) (h : lv.testBit a = true) : lN lv &&& (((1 : Int64) <<< ((nI a).toInt64 &&& 63)) ^^^ (-1 : Int64)) = lN (lv ^^^ 2 ^ a) := by
  have e : ((1 : Int64) <<< ((nI a).toInt64 &&& 63)) = lN (1 * 2 ^ a) := wb_shl 1 (by omega)
  have h2 := xor_lt h30 ha
  have m1 : ∀ i, i < 64 → (-1 : Int64).toBitVec.getLsbD i = true := by decide +kernel
  rw [e, Nat.one_mul]
  apply wb_inj
  apply BitVec.eq_of_getLsbD_eq
  intro i hi
  rw [Int64.toBitVec_and, Int64.toBitVec_xor, BitVec.getLsbD_and, BitVec.getLsbD_xor, m1 i hi, wb_tb, wb_tb, wb_tb, BitVec.getLsbD_ofNat, BitVec.getLsbD_ofNat, BitVec.getLsbD_ofNat, decide_eq_true hi, Bool.true_and, Bool.true_and, Bool.true_and, tb_xor h, Nat.testBit_two_pow]
  by_cases q : i = a
  · rw [decide_eq_true q, decide_eq_true q.symm]
    rfl
  · rw [decide_eq_false q, decide_eq_false (fun z => q z.symm)]
    rfl
theorem RU.livch {u lv lv' : Nat} {σ τ : Sto} (h : RU u lv σ τ) (hl : lv' < 2 ^ u) : RU u lv' (pI σ 33 4 (nI lv')) (pL τ 6 10 (lN lv')) := by
  have hb := h.bk
  have x1 : ∀ c j, ¬ (c = 33 ∧ j = 4) → (pI σ 33 4 (nI lv')).1 c j = σ.1 c j := fun c j q => pI_no q
  have hu := hb.hu
  refine h.bkch (fun c j _ _ => x1 _ _ (by omega)) (fun c j _ => by rw [pI_2]) (fun c j _ => by rw [pL_1]) (fun j => pL_nk (by omega)) ?_ ?_ ?_ ?_ ?_ ?_
  · rw [x1 _ _ (by omega)]; exact h.rd
  · rw [x1 _ _ (by omega)]; exact h.us
  · exact pI_at _
  · refine ⟨hb.hu, hl, ?_, ?_, ?_, ?_, fun v hv => ?_, fun a ha => ?_⟩
    · rw [pL_nj (by omega)]; exact hb.wu
    · rw [pL_at]
    · rw [pL_nj (by omega), x1 _ _ (by omega)]; exact hb.wb
    · rw [pL_nj (by omega), x1 _ _ (by omega)]; exact hb.wi
    · rw [pL_nj (by omega), x1 _ _ (by omega)]; exact hb.pr v hv
    · exact (hb.cl a ha).cong (x1 _ _ (by omega)) (by rw [pI_2]) (fun v hv => by rw [pI_2]) (fun i hi => pL_nj (by omega))
  · exact h.acs (Nat.le_refl _) (fun c j hc => x1 _ _ (by omega)) (x1 _ _ (by omega)) (fun j => x1 _ _ (by omega)) (fun a ha => ⟨x1 _ _ (by omega), by rw [pI_2], fun v hv => by rw [pI_2]⟩) (by rw [pL_1]) (fun j => pL_nk (by omega))
  · intro a ha
    rw [x1 _ _ (by omega)]
    exact h.nm a ha
theorem RU.drops {u lv : Nat} {σ τ : Sto} (h : RU u lv σ τ) {a : Nat} (ha : a < u) (hb : lv.testBit a = true) : ∃ r σ' τ', b_X7_remove_81 (nI a) σ = some (r, σ') ∧ b_X8_remove_81 (nI a) τ = some (r, τ') ∧ RR σ' τ' := by
  obtain ⟨σ1, τ1, k1, k2, h1, kp⟩ := h.keep
  have hu := h.bk.hu
  have h30 := pw30 h.bk.hl hu
  have o1 := and32 h30 (show a < 30 by omega) hb
  have o2 := and64 h30 (show a < 30 by omega) hb
  have e1 := h1.lv
  have e2 := h1.bk.wl
  have h2 := h1.livch (xor_lt h.bk.hl ha)
  have b1 := h2.bits.1
  have b2 := h2.bits.2
  refine ⟨nI (pc 30 (lv ^^^ 2 ^ a)), _, _, ?_, ?_, u, _, h2.find (nI 0)⟩
  · simp (disch := omega) only [b_X7_remove_81, lit, pLeT, pLeF, pLtT, pLtF, pEqT, pEqF, nLeF, nLtF, nI_clamp, or_self, or_false, false_or, not_true_eq_false, not_false_eq_true, ↓reduceIte, nmS_eq, bd1_eq, bd2_eq, nI_add, pEqS, pk_mul, Nat.reduceAdd, Bool.false_eq_true, or_true, true_or, k1, e1, o1, b1, e_X7_well]
  · simp (disch := omega) only [b_X8_remove_81, lit, pLeT, pLeF, pLtT, pLtF, pEqT, pEqF, nLeF, nLtF, nI_clamp, or_self, or_false, false_or, not_true_eq_false, not_false_eq_true, ↓reduceIte, nmS_eq, bd1_eq, bd2_eq, nI_add, pEqS, pk_mul, Nat.reduceAdd, Bool.false_eq_true, or_true, true_or, k2, e2, o2, b2, e_X8_well]
theorem l4 {q : Nat} (h : q ≤ 5) : ((4 : Int64) ≤ lN q) = (4 ≤ q) := by
  have e : q = 0 ∨ q = 1 ∨ q = 2 ∨ q = 3 ∨ q = 4 ∨ q = 5 := by omega
  rcases e with e | e | e | e | e | e <;> subst e <;> decide
theorem s_remove (x : Int32) : Sim RR (f_X7_remove x) (f_X8_remove x) := by
  intro σ τ ⟨u, lv, h⟩
  have hF := e_X8_isFormula h
  obtain ⟨h1, h2, h3⟩ := h.has x
  rcases h.rd with q | q
  · rw [q] at hF
    refine ⟨-nI 1000002, σ, τ, ?_, ?_, u, lv, h⟩
    · simp (disch := omega) only [f_X7_remove, lit, pLeT, pLeF, pLtT, pLtF, pEqT, pEqF, nLeF, nLtF, nI_clamp, or_self, or_false, false_or, not_true_eq_false, not_false_eq_true, ↓reduceIte, nmS_eq, bd1_eq, bd2_eq, nI_add, pEqS, pk_mul, Nat.reduceAdd, Bool.false_eq_true, or_true, true_or, q]
    · simp (disch := omega) only [f_X8_remove, lit, pLeT, pLeF, pLtT, pLtF, pEqT, pEqF, nLeF, nLtF, nI_clamp, or_self, or_false, false_or, not_true_eq_false, not_false_eq_true, ↓reduceIte, nmS_eq, bd1_eq, bd2_eq, nI_add, pEqS, pk_mul, Nat.reduceAdd, Bool.false_eq_true, or_true, true_or, hF]
  · rw [q] at hF
    cases hx : hs lv x
    · rw [hx] at h1 h2
      refine ⟨-nI 1000001, σ, τ, ?_, ?_, u, lv, h⟩
      · simp (disch := omega) only [f_X7_remove, lit, pLeT, pLeF, pLtT, pLtF, pEqT, pEqF, nLeF, nLtF, nI_clamp, or_self, or_false, false_or, not_true_eq_false, not_false_eq_true, ↓reduceIte, nmS_eq, bd1_eq, bd2_eq, nI_add, pEqS, pk_mul, Nat.reduceAdd, Bool.false_eq_true, or_true, true_or, q, h1]
      · simp (disch := omega) only [f_X8_remove, lit, pLeT, pLeF, pLtT, pLtF, pEqT, pEqF, nLeF, nLtF, nI_clamp, or_self, or_false, false_or, not_true_eq_false, not_false_eq_true, ↓reduceIte, nmS_eq, bd1_eq, bd2_eq, nI_add, pEqS, pk_mul, Nat.reduceAdd, Bool.false_eq_true, or_true, true_or, hF, h2]
    · rw [hx] at h1 h2
      obtain ⟨a, ha, ha2, e, hb⟩ := h3 hx
      subst e
      obtain ⟨k, q1, q2, q3, q4⟩ := (h.clm ha).kd
      have q4 : τ.2 6 (12 + 10 * a) = lN k := q4
      have q5 := l4 q2
      have kk : f_X7_isOfKind (nI k) (nI 4) σ = some (if 4 ≤ k then nI 1 else nI 0, σ) := by
        have e : k = 1 ∨ k = 2 ∨ k = 3 ∨ k = 4 ∨ k = 5 := by omega
        rcases e with e | e | e | e | e <;> subst e <;> rfl
      by_cases k4 : 4 ≤ k
      · rw [if_pos k4] at kk
        obtain ⟨r, σ', τ', d1, d2, d3⟩ := h.drops ha hb
        refine ⟨r, σ', τ', ?_, ?_, d3⟩
        · simp (disch := omega) only [f_X7_remove, lit, pLeT, pLeF, pLtT, pLtF, pEqT, pEqF, nLeF, nLtF, nI_clamp, or_self, or_false, false_or, not_true_eq_false, not_false_eq_true, ↓reduceIte, nmS_eq, bd1_eq, bd2_eq, nI_add, pEqS, pk_mul, Nat.reduceAdd, Bool.false_eq_true, or_true, true_or, q, h1, q3, kk, d1]
        · simp (disch := omega) only [f_X8_remove, lit, pLeT, pLeF, pLtT, pLtF, pEqT, pEqF, nLeF, nLtF, nI_clamp, or_self, or_false, false_or, not_true_eq_false, not_false_eq_true, ↓reduceIte, nmS_eq, bd1_eq, bd2_eq, nI_add, pEqS, pk_mul, Nat.reduceAdd, Bool.false_eq_true, or_true, true_or, hF, h2, q4, q5, k4, d2]
      · rw [if_neg k4] at kk
        obtain ⟨z, z1, z2, z3⟩ := h.over
        cases z
        · obtain ⟨z, σ', τ', g1, g2, g3, g4⟩ := h.others ha hb (z3 rfl)
          have hR := h.ag (g3.ag (u := u)) g4.ag
          cases z
          · refine ⟨-nI 1000000, pI σ' 0 7 (nI 0), pI τ' 0 4 (nI 0), ?_, ?_, u, lv, hR.find (nI 0)⟩
            · simp (disch := omega) only [f_X7_remove, lit, pLeT, pLeF, pLtT, pLtF, pEqT, pEqF, nLeF, nLtF, nI_clamp, or_self, or_false, false_or, not_true_eq_false, not_false_eq_true, ↓reduceIte, nmS_eq, bd1_eq, bd2_eq, nI_add, pEqS, pk_mul, Nat.reduceAdd, Bool.false_eq_true, or_true, true_or, q, h1, q3, kk, z1, g1, e_X7_well]
            · simp (disch := omega) only [f_X8_remove, lit, pLeT, pLeF, pLtT, pLtF, pEqT, pEqF, nLeF, nLtF, nI_clamp, or_self, or_false, false_or, not_true_eq_false, not_false_eq_true, ↓reduceIte, nmS_eq, bd1_eq, bd2_eq, nI_add, pEqS, pk_mul, Nat.reduceAdd, Bool.false_eq_true, or_true, true_or, hF, h2, q4, q5, k4, z2, g2, e_X8_well]
          · obtain ⟨r, σ2, τ2, d1, d2, d3⟩ := hR.drops ha hb
            refine ⟨r, σ2, τ2, ?_, ?_, d3⟩
            · simp (disch := omega) only [f_X7_remove, lit, pLeT, pLeF, pLtT, pLtF, pEqT, pEqF, nLeF, nLtF, nI_clamp, or_self, or_false, false_or, not_true_eq_false, not_false_eq_true, ↓reduceIte, nmS_eq, bd1_eq, bd2_eq, nI_add, pEqS, pk_mul, Nat.reduceAdd, Bool.false_eq_true, or_true, true_or, q, h1, q3, kk, z1, g1, d1]
            · simp (disch := omega) only [f_X8_remove, lit, pLeT, pLeF, pLtT, pLtF, pEqT, pEqF, nLeF, nLtF, nI_clamp, or_self, or_false, false_or, not_true_eq_false, not_false_eq_true, ↓reduceIte, nmS_eq, bd1_eq, bd2_eq, nI_add, pEqS, pk_mul, Nat.reduceAdd, Bool.false_eq_true, or_true, true_or, hF, h2, q4, q5, k4, z2, g2, d2]
        · refine ⟨-nI 1000010 - nI 6, pI σ 0 7 (nI 6), pI τ 0 4 (nI 6), ?_, ?_, u, lv, h.find _⟩
          · simp (disch := omega) only [f_X7_remove, lit, pLeT, pLeF, pLtT, pLtF, pEqT, pEqF, nLeF, nLtF, nI_clamp, or_self, or_false, false_or, not_true_eq_false, not_false_eq_true, ↓reduceIte, nmS_eq, bd1_eq, bd2_eq, nI_add, pEqS, pk_mul, Nat.reduceAdd, Bool.false_eq_true, or_true, true_or, q, h1, q3, kk, z1, e_X7_found]
          · simp (disch := omega) only [f_X8_remove, lit, pLeT, pLeF, pLtT, pLtF, pEqT, pEqF, nLeF, nLtF, nI_clamp, or_self, or_false, false_or, not_true_eq_false, not_false_eq_true, ↓reduceIte, nmS_eq, bd1_eq, bd2_eq, nI_add, pEqS, pk_mul, Nat.reduceAdd, Bool.false_eq_true, or_true, true_or, hF, h2, q4, q5, k4, z2, e_X8_found]
/-! undo -/
theorem s_undo : Sim RR f_X7_undo f_X8_undo := by
  intro σ τ ⟨u, lv, h⟩
  obtain ⟨o, s, us, ls, a1, a2, a3, a4, a5, a6, a7⟩ := h.ac
  by_cases q : s = 0
  · subst q
    refine ⟨-nI 1000002, σ, τ, ?_, ?_, u, lv, h⟩
    · simp (disch := omega) only [f_X7_undo, lit, pLeT, pLeF, pLtT, pLtF, pEqT, pEqF, nLeF, nLtF, nI_clamp, or_self, or_false, false_or, not_true_eq_false, not_false_eq_true, ↓reduceIte, nmS_eq, bd1_eq, bd2_eq, nI_add, pEqS, pk_mul, Nat.reduceAdd, Bool.false_eq_true, or_true, true_or, a4]
    · simp (disch := omega) only [f_X8_undo, lit, pLeT, pLeF, pLtT, pLtF, pEqT, pEqF, nLeF, nLtF, nI_clamp, or_self, or_false, false_or, not_true_eq_false, not_false_eq_true, ↓reduceIte, nmS_eq, bd1_eq, bd2_eq, nI_add, pEqS, pk_mul, Nat.reduceAdd, Bool.false_eq_true, or_true, true_or, a5]
  · obtain ⟨s, rfl⟩ : ∃ z, s = z + 1 := ⟨s - 1, by omega⟩
    have r2 : nI (o + s) - nI (o + s) / nI 12 * nI 12 = nI ((o + s) % 12) := pk_rem (by omega) (by omega) (by omega)
    have hp : (o + s) % 12 < 12 := by omega
    obtain ⟨b1, b2, b3, b4⟩ := a6 s (by omega)
    have hu := h.bk.hu
    have s1 : nI (s + 1) - nI 1 = nI s := by rw [pk_sub (by omega), Nat.add_sub_cancel]
    generalize hs2 : pI (pI (pI (pI σ 223 4 (nI s)) 33 3 (nI (us s))) 33 4 (nI (ls s))) 33 5 (σ.1 226 ((o + s) % 12)) = σ2
    have x1 : ∀ c j, ¬ (c = 33 ∧ 3 ≤ j ∧ j ≤ 5) → ¬ (c = 223 ∧ j = 4) → σ2.1 c j = σ.1 c j := by
      intro c j n1 n2
      rw [← hs2, pI_no (by omega), pI_no (by omega), pI_no (by omega), pI_no (by omega)]
    have x2 : σ2.2 = σ.2 := by rw [← hs2, pI_2, pI_2, pI_2, pI_2]
    have cp := e_X8_copies 8 3744 6 312 (312 * s) 0 312 (pI τ 0 16 (nI s)) (by omega) (by omega) (by omega) (by omega) (by omega) (by omega)
    generalize ht2 : wL (pI τ 0 16 (nI s)) 6 0 312 (fun t => (pI τ 0 16 (nI s)).2 8 (312 * s + t)) = τ2 at cp
    have m1 : ∀ c j, ¬ (c = 0 ∧ j = 16) → τ2.1 c j = τ.1 c j := by
      intro c j n1
      rw [← ht2, wL_1, pI_no n1]
    have m2 : ∀ c j, c ≠ 6 → τ2.2 c j = τ.2 c j := by
      intro c j n1
      rw [← ht2, wL_k (by omega), pI_2]
    have m6 : ∀ i, i < 312 → τ2.2 6 i = τ.2 8 (312 * s + i) := by
      intro i hi
      rw [← ht2, wL_at0 hi, pI_2]
    have hR : RU (us s) (ls s) σ2 τ2 := by
      refine h.bkch (fun c j _ _ => x1 _ _ (by omega) (by omega)) (fun c j _ => by rw [x2]) m1 (fun j => m2 _ _ (by omega)) ?_ ?_ ?_ ?_ ?_ ?_
      · rw [x1 _ _ (by omega) (by omega)]; exact h.rd
      · rw [← hs2, pI_nj (by omega), pI_nj (by omega), pI_at]
      · rw [← hs2, pI_nj (by omega), pI_at]
      · have e5 : σ2.1 33 5 = σ.1 226 ((o + s) % 12) := by rw [← hs2, pI_at]
        rw [e5]
        exact b4.cong (x1 _ _ (by omega) (by omega)) (fun v hv => x1 _ _ (by omega) (by omega)) (fun a ha => ⟨x1 _ _ (by omega) (by omega), by rw [x2], fun v hv => by rw [x2]⟩) m6
      · refine ⟨o, s, us, ls, a1, by omega, by rw [x1 _ _ (by omega) (by omega)]; exact a3, ?_, ?_, fun i hi => ?_, fun i j hij hj => a7 i j hij (by omega)⟩
        · rw [← hs2, pI_nk (by omega), pI_nk (by omega), pI_nk (by omega), pI_at]
        · rw [← ht2, wL_1, pI_at]
        · obtain ⟨c1, c2, c3, c4⟩ := a6 i (by omega)
          refine ⟨a7 i s (by omega) (by omega), by rw [x1 _ _ (by omega) (by omega)]; exact c2, by rw [x1 _ _ (by omega) (by omega)]; exact c3, ?_⟩
          rw [x1 226 _ (by omega) (by omega)]
          exact c4.cong (x1 _ _ (by omega) (by omega)) (fun v hv => x1 _ _ (by omega) (by omega)) (fun a ha => ⟨x1 _ _ (by omega) (by omega), by rw [x2], fun v hv => by rw [x2]⟩) (fun i _ => m2 _ _ (by omega))
      · intro a ha
        rw [x1 _ _ (by omega) (by omega)]
        exact h.nm a ha
    refine ⟨nI s, σ2, τ2, ?_, ?_, us s, ls s, hR⟩
    · rw [← hs2]
      simp (disch := omega) only [f_X7_undo, f_X0_takeBack, lit, pLeT, pLeF, pLtT, pLtF, pEqT, pEqF, nLeF, nLtF, nI_clamp, or_self, or_false, false_or, not_true_eq_false, not_false_eq_true, ↓reduceIte, nmS_eq, bd1_eq, bd2_eq, nI_add, pEqS, pk_mul, Nat.reduceAdd, Bool.false_eq_true, or_true, true_or, a3, a4, s1, r2, pI_at, pI_nj, pI_nk, b2, b3]
    · have e16 : τ2.1 0 16 = nI s := by rw [← ht2, wL_1, pI_at]
      simp (disch := omega) only [f_X8_undo, lit, pLeT, pLeF, pLtT, pLtF, pEqT, pEqF, nLeF, nLtF, nI_clamp, or_self, or_false, false_or, not_true_eq_false, not_false_eq_true, ↓reduceIte, nmS_eq, bd1_eq, bd2_eq, nI_add, pEqS, pk_mul, Nat.reduceAdd, Bool.false_eq_true, or_true, true_or, a5, s1, pI_at, cp, e16]
/-! a book becomes another -/
theorem e_X2_begin (k k1 : Nat) (σ : Sto) : f_X2_begin k k1 8 σ = some (pI (pI (pI (pI (cpI σ k1 0 (k + 2) 0 8) k 2 (nI 1)) k 3 (nI 0)) k 4 (nI 0)) k 5 (-nI 1000000)) := by
  simp (disch := omega) only [f_X2_begin, lit, pLeT, pLeF, pLtT, pLtF, pEqT, pEqF, nLeF, nLtF, nI_clamp, or_self, or_false, false_or, not_true_eq_false, not_false_eq_true, ↓reduceIte, nmS_eq, bd1_eq, bd2_eq, nI_add, pEqS, pk_mul, Nat.reduceAdd, Bool.false_eq_true, or_true, true_or, Nat.zero_add]
theorem e_X3_become (k k1 : Nat) (σ : Sto) (h : k1 + 1 < k ∨ k + 1 < k1) : ∃ σ', f_X3_become k k1 σ = some σ' ∧ (∀ c j, ¬ (c = k ∧ j = 3) → σ'.1 c j = σ.1 c j) ∧ σ'.1 k 3 = σ.1 k1 3 ∧ (∀ c j, c ≠ k → c ≠ k + 1 → σ'.2 c j = σ.2 c j) ∧ σ'.2 k 2 = σ.2 k1 2 ∧ ∀ v, v < 8 → σ'.2 (k + 1) v = σ.2 (k1 + 1) v := by
  refine ⟨pI (pL (cpL σ (k1 + 1) 0 (k + 1) 0 8) k 2 (σ.2 k1 2)) k 3 (σ.1 k1 3), ?_, fun c j q => ?_, ?_, fun c j q r => ?_, ?_, fun v hv => ?_⟩
  · simp (disch := omega) only [f_X3_become, lit, pLeT, pLeF, pLtT, pLtF, pEqT, pEqF, nLeF, nLtF, nI_clamp, or_self, or_false, false_or, not_true_eq_false, not_false_eq_true, ↓reduceIte, nmS_eq, bd1_eq, bd2_eq, nI_add, pEqS, pk_mul, Nat.reduceAdd, Bool.false_eq_true, or_true, true_or, cpL_k, pL_1, cpL_1]
  · rw [pI_no q, pL_1, cpL_1]
  · rw [pI_at]
  · rw [pI_2, pL_nk (by omega), cpL_k (by omega)]
  · rw [pI_2, pL_at]
  · rw [pI_2, pL_nk (by omega), cpL_at0 hv]
/-- the clauses below i are those of the other book -/
abbrev Bk (k k1 i : Nat) (σ0 σ : Sto) : Prop := (∀ c j, ¬ (c = k) → ¬ (k + 2 ≤ c ∧ c < k + 63 ∧ (c = k + 2 ∨ j = 3)) → σ.1 c j = σ0.1 c j) ∧ (∀ c j, ¬ (k + 3 ≤ c ∧ c < k + 63) → σ.2 c j = σ0.2 c j) ∧ (∀ a, a < i → σ.1 (k + 3 + 2 * a) 3 = σ0.1 (k1 + 3 + 2 * a) 3 ∧ σ.2 (k + 3 + 2 * a) 2 = σ0.2 (k1 + 3 + 2 * a) 2 ∧ ∀ v, v < 8 → σ.2 (k + 3 + 2 * a + 1) v = σ0.2 (k1 + 3 + 2 * a + 1) v) ∧ (∀ v, v < 8 → σ.1 (k + 2) v = σ0.1 (k1 + 2) v) ∧ (σ.1 k 2 = nI 1)
theorem Bk.i {k k1 i : Nat} {σ0 σ : Sto} (h : Bk k k1 i σ0 σ) : ∀ c j, ¬ (c = k) → ¬ (k + 2 ≤ c ∧ c < k + 63 ∧ (c = k + 2 ∨ j = 3)) → σ.1 c j = σ0.1 c j := h.1
theorem Bk.l {k k1 i : Nat} {σ0 σ : Sto} (h : Bk k k1 i σ0 σ) : ∀ c j, ¬ (k + 3 ≤ c ∧ c < k + 63) → σ.2 c j = σ0.2 c j := h.2.1
theorem Bk.c {k k1 i : Nat} {σ0 σ : Sto} (h : Bk k k1 i σ0 σ) : ∀ a, a < i → σ.1 (k + 3 + 2 * a) 3 = σ0.1 (k1 + 3 + 2 * a) 3 ∧ σ.2 (k + 3 + 2 * a) 2 = σ0.2 (k1 + 3 + 2 * a) 2 ∧ ∀ v, v < 8 → σ.2 (k + 3 + 2 * a + 1) v = σ0.2 (k1 + 3 + 2 * a + 1) v := h.2.2.1
theorem Bk.p {k k1 i : Nat} {σ0 σ : Sto} (h : Bk k k1 i σ0 σ) : ∀ v, v < 8 → σ.1 (k + 2) v = σ0.1 (k1 + 2) v := h.2.2.2.1
theorem Bk.r {k k1 i : Nat} {σ0 σ : Sto} (h : Bk k k1 i σ0 σ) : σ.1 k 2 = nI 1 := h.2.2.2.2
theorem l_X2_become (k k1 u : Nat) (σ0 : Sto) (hk : k1 + 63 ≤ k ∨ k + 63 ≤ k1) (hu : u ≤ 30) (h3 : σ0.1 k1 3 = nI u) (n : Nat) (j : Nat) : ∀ i (σ : Sto), i + j = u → Bk k k1 i σ0 σ → ∃ σ', l_X2_become_10 k k1 (n + 1 + j) (nI i) σ = some σ' ∧ Bk k k1 u σ0 σ' ∧ σ'.1 k 3 = nI u ∧ σ'.1 k 4 = σ0.1 k1 4 ∧ σ'.1 k 5 = σ0.1 k1 5 := by
  induction j with
  | zero =>
    intro i σ hi hb
    have e : i = u := by omega
    subst e
    have e3 : σ.1 k1 3 = nI i := by rw [hb.i _ _ (by omega) (by omega)]; exact h3
    have e4 : σ.1 k1 4 = σ0.1 k1 4 := hb.i _ _ (by omega) (by omega)
    have e5 : σ.1 k1 5 = σ0.1 k1 5 := hb.i _ _ (by omega) (by omega)
    refine ⟨pI (pI (pI σ k 3 (nI i)) k 4 (σ0.1 k1 4)) k 5 (σ0.1 k1 5), ?_, ⟨fun c j q1 q2 => ?_, fun c j q => ?_, fun a ha => ?_, fun v hv => ?_, ?_⟩, ?_, ?_, ?_⟩
    · show b_X2_become_10 _ k k1 (nI i) σ = _
      simp (disch := omega) only [b_X2_become_10, lit, pLeT, pLeF, pLtT, pLtF, pEqT, pEqF, nLeF, nLtF, nI_clamp, or_self, or_false, false_or, not_true_eq_false, not_false_eq_true, ↓reduceIte, nmS_eq, bd1_eq, bd2_eq, nI_add, pEqS, pk_mul, Nat.reduceAdd, Bool.false_eq_true, or_true, true_or, e3, e4, e5, pI_nk]
    · rw [pI_nk (by omega), pI_nk (by omega), pI_nk (by omega)]; exact hb.i c j q1 q2
    · rw [pI_2, pI_2, pI_2]; exact hb.l c j q
    · rw [pI_2, pI_2, pI_2, pI_nk (by omega), pI_nk (by omega), pI_nk (by omega)]; exact hb.c a ha
    · rw [pI_nk (by omega), pI_nk (by omega), pI_nk (by omega)]; exact hb.p v hv
    · rw [pI_nj (by omega), pI_nj (by omega), pI_nj (by omega)]; exact hb.r
    · rw [pI_nj (by omega), pI_nj (by omega), pI_at]
    · rw [pI_nj (by omega), pI_at]
    · rw [pI_at]
  | succ j ih =>
    intro i σ hi hb
    have e3 : σ.1 k1 3 = nI u := by rw [hb.i _ _ (by omega) (by omega)]; exact h3
    obtain ⟨σ1, b1, b2, b3, b4, b5, b6⟩ := e_X3_become (k + 3 + 2 * i) (k1 + 3 + 2 * i) σ (by omega)
    have hl : l_X2_become_10 k k1 (n + 1 + (j + 1)) (nI i) σ = l_X2_become_10 k k1 (n + 1 + j) (nI (i + 1)) σ1 := by
      show b_X2_become_10 (l_X2_become_10 k k1 (n + 1 + j)) k k1 (nI i) σ = _
      simp (disch := omega) only [b_X2_become_10, lit, pLeT, pLeF, pLtT, pLtF, pEqT, pEqF, nLeF, nLtF, nI_clamp, or_self, or_false, false_or, not_true_eq_false, not_false_eq_true, ↓reduceIte, nmS_eq, bd1_eq, bd2_eq, nI_add, pEqS, pk_mul, Nat.reduceAdd, Bool.false_eq_true, or_true, true_or, e3, b1]
    rw [hl]
    refine ih (i + 1) σ1 (by omega) ⟨fun c j q1 q2 => ?_, fun c j q => ?_, fun a ha => ?_, fun v hv => ?_, ?_⟩
    · rw [b2 _ _ (by omega)]; exact hb.i c j q1 q2
    · rw [b4 _ _ (by omega) (by omega)]; exact hb.l c j q
    · by_cases e : a = i
      · subst e
        refine ⟨?_, ?_, fun v hv => ?_⟩
        · rw [b3]; exact hb.i _ _ (by omega) (by omega)
        · rw [b5]; exact hb.l _ _ (by omega)
        · rw [b6 v hv]; exact hb.l _ _ (by omega)
      · rw [b2 _ _ (by omega), b4 _ _ (by omega) (by omega)]
        obtain ⟨c1, c2, c3⟩ := hb.c a (by omega)
        exact ⟨c1, c2, fun v hv => by rw [b4 _ _ (by omega) (by omega)]; exact c3 v hv⟩
    · rw [b2 _ _ (by omega)]; exact hb.p v hv
    · rw [b2 _ _ (by omega)]; exact hb.r
theorem e_X2_become (k k1 u : Nat) (σ : Sto) (hk : k1 + 63 ≤ k ∨ k + 63 ≤ k1) (hu : u ≤ 30) (h3 : σ.1 k1 3 = nI u) : ∃ σ', f_X2_become k k1 σ = some σ' ∧ Bk k k1 u σ σ' ∧ σ'.1 k 3 = nI u ∧ σ'.1 k 4 = σ.1 k1 4 ∧ σ'.1 k 5 = σ.1 k1 5 := by
  have hb := e_X2_begin k (k1 + 2) σ
  generalize hs : pI (pI (pI (pI (cpI σ (k1 + 2) 0 (k + 2) 0 8) k 2 (nI 1)) k 3 (nI 0)) k 4 (nI 0)) k 5 (-nI 1000000) = σ1 at hb
  have hB : Bk k k1 0 σ σ1 := by
    refine ⟨fun c j q1 q2 => ?_, fun c j q => ?_, fun a ha => by omega, fun v hv => ?_, ?_⟩
    · rw [← hs, pI_nk (by omega), pI_nk (by omega), pI_nk (by omega), pI_nk (by omega), cpI_k (by omega)]
    · rw [← hs, pI_2, pI_2, pI_2, pI_2, cpI_2]
    · rw [← hs, pI_nk (by omega), pI_nk (by omega), pI_nk (by omega), pI_nk (by omega), cpI_in (by omega), Nat.zero_add, Nat.sub_zero]
    · rw [← hs, pI_nj (by omega), pI_nj (by omega), pI_nj (by omega), pI_at]
  obtain ⟨σ', l1, l2, l3, l4, l5⟩ := l_X2_become k k1 u σ hk hu h3 (399 - u) u 0 σ1 (by omega) hB
  rw [show 399 - u + 1 + u = 400 by omega] at l1
  refine ⟨σ', ?_, l2, l3, l4, l5⟩
  simp (disch := omega) only [f_X2_become, lit, pLeT, pLeF, pLtT, pLtF, pEqT, pEqF, nLeF, nLtF, nI_clamp, or_self, or_false, false_or, not_true_eq_false, not_false_eq_true, ↓reduceIte, nmS_eq, bd1_eq, bd2_eq, nI_add, pEqS, pk_mul, Nat.reduceAdd, Bool.false_eq_true, or_true, true_or, hb, l1]
/-- a formula that is read goes over into another book -/
theorem Fm.over {k k1 u lv : Nat} {σ σ' : Sto} {best : Int32} {w w' : Nat → Int64} (h : Fm σ k1 u lv best w) (hb : Bk k k1 u σ σ') (hr : σ.1 k1 2 = nI 1) (hw : ∀ i, i < 312 → w' i = w i) : Fm σ' k u lv best w' := by
  refine h.cong ?_ hb.p hb.c hw
  rw [hb.r, hr]
theorem imgC_eq {k : Nat} (h : k < 2) : imgC k = 97 + 63 * k := by
  have e : k = 0 ∨ k = 1 := by omega
  rcases e with e | e <;> subst e <;> rfl
theorem s_image (x : Int32) : Sim RR (f_X7_image x) (f_X8_image x) := by
  intro σ τ ⟨u, lv, h⟩
  have hF := e_X8_isFormula h
  cases hx : inr x 2
  · refine ⟨-nI 1000001, σ, τ, ?_, ?_, u, lv, h⟩
    · rcases inr_not hx with q | q
      · simp (disch := omega) only [f_X7_image, b_X7_image_9, lit, pLeT, pLeF, pLtT, pLtF, pEqT, pEqF, nLeF, nLtF, nI_clamp, or_self, or_false, false_or, not_true_eq_false, not_false_eq_true, ↓reduceIte, nmS_eq, bd1_eq, bd2_eq, nI_add, pEqS, pk_mul, Nat.reduceAdd, Bool.false_eq_true, or_true, true_or, q]
      · have q' : ¬ x < nI 2 := Int32.not_lt.mpr q
        simp (disch := omega) only [f_X7_image, b_X7_image_9, lit, pLeT, pLeF, pLtT, pLtF, pEqT, pEqF, nLeF, nLtF, nI_clamp, or_self, or_false, false_or, not_true_eq_false, not_false_eq_true, ↓reduceIte, nmS_eq, bd1_eq, bd2_eq, nI_add, pEqS, pk_mul, Nat.reduceAdd, Bool.false_eq_true, or_true, true_or, q', ite_self]
    · simp (disch := omega) only [f_X8_image, lit, pLeT, pLeF, pLtT, pLtF, pEqT, pEqF, nLeF, nLtF, nI_clamp, or_self, or_false, false_or, not_true_eq_false, not_false_eq_true, ↓reduceIte, nmS_eq, bd1_eq, bd2_eq, nI_add, pEqS, pk_mul, Nat.reduceAdd, Bool.false_eq_true, or_true, true_or, e_inr, hx]
  · obtain ⟨k, hk, e⟩ := inr_of (by omega) hx
    subst e
    rcases h.rd with q | q
    · rw [q] at hF
      refine ⟨-nI 1000002, σ, τ, ?_, ?_, u, lv, h⟩
      · simp (disch := omega) only [f_X7_image, b_X7_image_9, lit, pLeT, pLeF, pLtT, pLtF, pEqT, pEqF, nLeF, nLtF, nI_clamp, or_self, or_false, false_or, not_true_eq_false, not_false_eq_true, ↓reduceIte, nmS_eq, bd1_eq, bd2_eq, nI_add, pEqS, pk_mul, Nat.reduceAdd, Bool.false_eq_true, or_true, true_or, q]
      · simp (disch := omega) only [f_X8_image, lit, pLeT, pLeF, pLtT, pLtF, pEqT, pEqF, nLeF, nLtF, nI_clamp, or_self, or_false, false_or, not_true_eq_false, not_false_eq_true, ↓reduceIte, nmS_eq, bd1_eq, bd2_eq, nI_add, pEqS, pk_mul, Nat.reduceAdd, Bool.false_eq_true, or_true, true_or, e_inr, hx, hF]
    · rw [q] at hF
      have hu := h.bk.hu
      obtain ⟨σ', b1, b2, b3, b4, b5⟩ := e_X2_become (97 + 63 * k) 33 u σ (by omega) hu h.us
      have cp := e_X8_copies 6 312 9 624 0 (312 * k) 312 τ (by omega) (by omega) (by omega) (by omega) (by omega) (by omega)
      generalize ht : pI (wL τ 9 (312 * k) 312 (fun t => τ.2 6 (0 + t))) 10 k (nI 1) = τ'
      have hF : ∀ (b u' l' : Nat) (best : Int32) (w w' : Nat → Int64), Fm σ b u' l' best w → (b = 33 ∨ b = 97 ∨ b = 160) → b ≠ 97 + 63 * k → (∀ i, i < 312 → w' i = w i) → Fm σ' b u' l' best w' := by
        intro b u' l' best w w' hF hb hb2 hw
        have hu' := hF.hu
        exact hF.cong (b2.i _ _ (by omega) (by omega)) (fun v hv => b2.i _ _ (by omega) (by omega)) (fun a ha => ⟨b2.i _ _ (by omega) (by omega), b2.l _ _ (by omega), fun v hv => b2.l _ _ (by omega)⟩) hw
      have m1 : ∀ c j, ¬ (c = 10 ∧ j = k) → τ'.1 c j = τ.1 c j := by
        intro c j n1
        rw [← ht, pI_no n1, wL_1]
      have m2 : ∀ c j, c ≠ 9 → τ'.2 c j = τ.2 c j := by
        intro c j n1
        rw [← ht, pI_2, wL_k (by omega)]
      have x1 : ∀ c j, ¬ (97 ≤ c ∧ c < 223) → σ'.1 c j = σ.1 c j := fun c j n1 => b2.i c j (by omega) (by omega)
      have x2 : ∀ c j, ¬ (97 ≤ c ∧ c < 223) → σ'.2 c j = σ.2 c j := fun c j n1 => b2.l c j (by omega)
      have hR : RU u lv σ' τ' := by
        refine ⟨?_, ?_, ?_, ?_, ?_, ?_, ?_, ?_, ?_, ?_, ?_, ?_, ?_⟩
        · rw [x1 _ _ (by omega), m1 _ _ (by omega)]; exact h.st
        · intro r hr
          unfold Rw
          rw [x1 12 r (by omega), x1 11 r (by omega), m1 1 r (by omega), m1 2 r (by omega)]
          rcases h.rw r hr with q | ⟨n, l, q1, q2, q3, q4, q5, q6, q7⟩
          · exact Or.inl q
          · refine Or.inr ⟨n, l, q1, q2, q3, q4, q5, q6, fun i hi => ?_⟩
            rw [x1 _ _ (by omega), m1 _ _ (by omega)]
            exact q7 i hi
        · obtain ⟨L, l1, l2, l3, l4⟩ := h.tp
          refine ⟨L, l1, by rw [x1 _ _ (by omega)]; exact l2, by rw [m1 _ _ (by omega)]; exact l3, fun i hi => ?_⟩
          rw [x1 _ _ (by omega), m1 _ _ (by omega)]
          exact l4 i hi
        · rw [x1 _ _ (by omega), m1 _ _ (by omega)]; exact h.ft
        · rw [x1 _ _ (by omega)]; exact h.rd
        · rw [x1 _ _ (by omega)]; exact h.us
        · rw [x1 _ _ (by omega)]; exact h.lv
        · rw [x1 _ _ (by omega)]
          exact hF 33 u lv _ _ _ h.bk (by omega) (by omega) (fun i _ => m2 _ _ (by omega))
        · intro t ht2
          by_cases e : t = k
          · subst e
            refine Or.inr ⟨b2.r, by rw [← ht, pI_at], u, lv, b3, by rw [b4]; exact h.lv, ?_⟩
            rw [b5]
            refine h.bk.over b2 q (fun i hi => ?_)
            rw [← ht, pI_2, wL_at hi, Nat.zero_add]
          · unfold Im
            have y1 : ∀ j, σ'.1 (97 + 63 * t) j = σ.1 (97 + 63 * t) j := fun j => b2.i _ _ (by omega) (by omega)
            rw [y1 2, y1 3, y1 4, y1 5, m1 10 t (by omega)]
            rcases h.im t ht2 with q | ⟨q1, q2, u', l', q3, q4, q5⟩
            · exact Or.inl q
            · exact Or.inr ⟨q1, q2, u', l', q3, q4, hF _ _ _ _ _ _ q5 (by omega) (by omega) (fun i hi => by rw [← ht, pI_2, wL_out (by omega)])⟩
        · obtain ⟨o, s, us, ls, a1, a2, a3, a4, a5, a6, a7⟩ := h.ac
          refine ⟨o, s, us, ls, a1, a2, by rw [x1 _ _ (by omega)]; exact a3, by rw [x1 _ _ (by omega)]; exact a4, by rw [m1 _ _ (by omega)]; exact a5, fun i hi => ?_, a7⟩
          obtain ⟨c1, c2, c3, c4⟩ := a6 i hi
          refine ⟨c1, by rw [x1 _ _ (by omega)]; exact c2, by rw [x1 _ _ (by omega)]; exact c3, ?_⟩
          rw [x1 226 _ (by omega)]
          exact hF 33 (us i) (ls i) _ _ _ c4 (by omega) (by omega) (fun i _ => m2 _ _ (by omega))
        · intro a ha
          rw [x1 _ _ (by omega)]
          exact h.nm a ha
        · refine ⟨by rw [x2 _ _ (by omega)]; exact h.no.1, fun v hv => ?_⟩
          rw [x2 _ _ (by omega)]
          exact h.no.2 v hv
        · obtain ⟨t, t1, t2, t3, t4⟩ := h.tr
          refine ⟨t, t1, by rw [x1 _ _ (by omega)]; exact t2, by rw [m1 _ _ (by omega)]; exact t3, fun i hi => ?_⟩
          rw [x1 _ _ (by omega), m1 _ _ (by omega)]
          exact t4 i hi
      have hF2 := e_X8_isFormula h
      rw [q] at hF2
      refine ⟨nI (pc 30 lv), σ', τ', ?_, ?_, u, lv, hR⟩
      · have bb := hR.bits.1
        simp (disch := omega) only [f_X7_image, lit, pLeT, pLeF, pLtT, pLtF, pEqT, pEqF, nLeF, nLtF, nI_clamp, or_self, or_false, false_or, not_true_eq_false, not_false_eq_true, ↓reduceIte, nmS_eq, bd1_eq, bd2_eq, nI_add, pEqS, pk_mul, Nat.reduceAdd, Bool.false_eq_true, or_true, true_or, q, imgC_eq hk, b1, bb]
      · have bb := hR.bits.2
        simp (disch := omega) only [f_X8_image, lit, pLeT, pLeF, pLtT, pLtF, pEqT, pEqF, nLeF, nLtF, nI_clamp, or_self, or_false, false_or, not_true_eq_false, not_false_eq_true, ↓reduceIte, nmS_eq, bd1_eq, bd2_eq, nI_add, pEqS, pk_mul, Nat.reduceAdd, Bool.false_eq_true, or_true, true_or, e_inr, hx, hF2, cp, ht, bb]
theorem s_restore (x : Int32) : Sim RR (f_X7_restore x) (f_X8_restore x) := by
  intro σ τ ⟨u, lv, h⟩
  cases hx : inr x 2
  · refine ⟨-nI 1000001, σ, τ, ?_, ?_, u, lv, h⟩
    · rcases inr_not hx with q | q
      · simp (disch := omega) only [f_X7_restore, b_X7_restore_9, lit, pLeT, pLeF, pLtT, pLtF, pEqT, pEqF, nLeF, nLtF, nI_clamp, or_self, or_false, false_or, not_true_eq_false, not_false_eq_true, ↓reduceIte, nmS_eq, bd1_eq, bd2_eq, nI_add, pEqS, pk_mul, Nat.reduceAdd, Bool.false_eq_true, or_true, true_or, q]
      · have q' : ¬ x < nI 2 := Int32.not_lt.mpr q
        simp (disch := omega) only [f_X7_restore, b_X7_restore_9, lit, pLeT, pLeF, pLtT, pLtF, pEqT, pEqF, nLeF, nLtF, nI_clamp, or_self, or_false, false_or, not_true_eq_false, not_false_eq_true, ↓reduceIte, nmS_eq, bd1_eq, bd2_eq, nI_add, pEqS, pk_mul, Nat.reduceAdd, Bool.false_eq_true, or_true, true_or, q', ite_self]
    · simp (disch := omega) only [f_X8_restore, lit, pLeT, pLeF, pLtT, pLtF, pEqT, pEqF, nLeF, nLtF, nI_clamp, or_self, or_false, false_or, not_true_eq_false, not_false_eq_true, ↓reduceIte, nmS_eq, bd1_eq, bd2_eq, nI_add, pEqS, pk_mul, Nat.reduceAdd, Bool.false_eq_true, or_true, true_or, e_inr, hx]
  · obtain ⟨k, hk, e⟩ := inr_of (by omega) hx
    subst e
    rcases h.im k hk with ⟨q1, q2⟩ | ⟨q1, q2, u', l', q3, q4, q5⟩
    · refine ⟨-nI 1000002, σ, τ, ?_, ?_, u, lv, h⟩
      · simp (disch := omega) only [f_X7_restore, b_X7_restore_9, lit, pLeT, pLeF, pLtT, pLtF, pEqT, pEqF, nLeF, nLtF, nI_clamp, or_self, or_false, false_or, not_true_eq_false, not_false_eq_true, ↓reduceIte, nmS_eq, bd1_eq, bd2_eq, nI_add, pEqS, pk_mul, Nat.reduceAdd, Bool.false_eq_true, or_true, true_or, imgC_eq hk, q1]
      · simp (disch := omega) only [f_X8_restore, lit, pLeT, pLeF, pLtT, pLtF, pEqT, pEqF, nLeF, nLtF, nI_clamp, or_self, or_false, false_or, not_true_eq_false, not_false_eq_true, ↓reduceIte, nmS_eq, bd1_eq, bd2_eq, nI_add, pEqS, pk_mul, Nat.reduceAdd, Bool.false_eq_true, or_true, true_or, e_inr, hx, q2]
    · have hu := q5.hu
      obtain ⟨σ1, b1, b2, b3, b4, b5⟩ := e_X2_become 33 (97 + 63 * k) u' σ (by omega) hu q3
      have cp := e_X8_copies 9 624 6 312 (312 * k) 0 312 τ (by omega) (by omega) (by omega) (by omega) (by omega) (by omega)
      generalize ht : pI (wL τ 6 0 312 (fun t => τ.2 9 (312 * k + t))) 0 16 (nI 0) = τ'
      generalize hs : pI (pI σ1 223 3 (nI 0)) 223 4 (nI 0) = σ'
      have m1 : ∀ c j, ¬ (c = 0 ∧ j = 16) → τ'.1 c j = τ.1 c j := by
        intro c j n1
        rw [← ht, pI_no n1, wL_1]
      have m2 : ∀ c j, c ≠ 6 → τ'.2 c j = τ.2 c j := by
        intro c j n1
        rw [← ht, pI_2, wL_k (by omega)]
      have y1 : ∀ c j, c ≠ 223 → σ'.1 c j = σ1.1 c j := by
        intro c j n1
        rw [← hs, pI_nk (by omega), pI_nk (by omega)]
      have y2 : σ'.2 = σ1.2 := by rw [← hs, pI_2, pI_2]
      have hR : RU u' l' σ' τ' := by
        refine h.bkch (fun c j n1 n2 => ?_) (fun c j n1 => ?_) m1 (fun j => m2 _ _ (by omega)) ?_ ?_ ?_ ?_ ?_ ?_
        · rw [y1 _ _ (by omega)]; exact b2.i _ _ (by omega) (by omega)
        · rw [y2]; exact b2.l _ _ (by omega)
        · rw [y1 _ _ (by omega)]; exact Or.inr b2.r
        · rw [y1 _ _ (by omega)]; exact b3
        · rw [y1 _ _ (by omega), b4]; exact q4
        · rw [y1 _ _ (by omega), b5]
          have f1 : Fm σ1 33 u' l' (σ.1 (97 + 63 * k) 5) (τ'.2 6) := q5.over b2 q1 (fun i hi => by rw [← ht, pI_2, wL_at0 hi])
          exact f1.cong (y1 _ _ (by omega)) (fun v hv => y1 _ _ (by omega)) (fun a ha => ⟨y1 _ _ (by omega), by rw [y2], fun v hv => by rw [y2]⟩) (fun i _ => rfl)
        · refine ⟨0, 0, fun _ => 0, fun _ => 0, by omega, by omega, ?_, ?_, ?_, fun i hi => by omega, fun i j _ hj => by omega⟩
          · rw [← hs, pI_nj (by omega), pI_at]
          · rw [← hs, pI_at]
          · rw [← ht, pI_at]
        · intro a ha
          rw [y1 _ _ (by omega), b2.i _ _ (by omega) (by omega)]
          exact h.nm a ha
      refine ⟨nI (pc 30 l'), σ', τ', ?_, ?_, u', l', hR⟩
      · have bb := hR.bits.1
        simp (disch := omega) only [f_X7_restore, f_X0_forget, lit, pLeT, pLeF, pLtT, pLtF, pEqT, pEqF, nLeF, nLtF, nI_clamp, or_self, or_false, false_or, not_true_eq_false, not_false_eq_true, ↓reduceIte, nmS_eq, bd1_eq, bd2_eq, nI_add, pEqS, pk_mul, Nat.reduceAdd, Bool.false_eq_true, or_true, true_or, imgC_eq hk, q1, b1, hs, bb]
      · have bb := hR.bits.2
        simp (disch := omega) only [f_X8_restore, lit, pLeT, pLeF, pLtT, pLtF, pEqT, pEqF, nLeF, nLtF, nI_clamp, or_self, or_false, false_or, not_true_eq_false, not_false_eq_true, ↓reduceIte, nmS_eq, bd1_eq, bd2_eq, nI_add, pEqS, pk_mul, Nat.reduceAdd, Bool.false_eq_true, or_true, true_or, e_inr, hx, q2, cp, ht, bb]
