/-! ===== that the price is not raised ===== -/
theorem pr_deg {r : Nat} (p : Nat → Nat) (hp : ∀ v, v < 8 → p v ≤ 9) (σ0 : Sto) (hX : ∀ v, v < 8 → σ0.1 35 v = nI (p v)) (A : Int) (hA : A ≤ 1000) (n : Nat) (j : Nat) : ∀ (i : Nat) (σ : Sto), i + j = 8 → Nx 234 σ0 σ → (∀ x, x < 8 → σ.2 (234 + 1) x = 0) → 0 ≤ (σ.2 234 2).toInt → (σ.2 234 2).toInt + smI (fun v => (p v : Int)) j i = A → ∃ σ', l_X3_becomePriceKept_6 234 35 8 (3 + r) 40 (n + 1 + j) (nI i) σ = l_X3_becomePriceKept_33 234 35 8 (3 + r) 40 400 (nI 0) σ' ∧ Nx 234 σ0 σ' ∧ (∀ x, x < 8 → σ'.2 (234 + 1) x = 0) ∧ (σ'.2 234 2).toInt = A := by
  induction j with
  | zero =>
    intro i σ hi nx hc h0 hA
    have e : i = 8 := by omega
    subst e
    refine ⟨σ, ?_, nx, hc, by simp only [smI] at hA; omega⟩
    show b_X3_becomePriceKept_6 _ 234 35 8 (3 + r) 40 (nI 8) σ = _
    simp (disch := omega) only [b_X3_becomePriceKept_6, lit, pLeT, pLeF, pLtT, pLtF, pEqT, pEqF, nLeF, nLtF, nI_clamp, or_self, or_false, false_or, not_true_eq_false, not_false_eq_true, ↓reduceIte, nmS_eq, bd1_eq, bd2_eq, nI_add, pEqS, pk_mul, Nat.reduceAdd, Bool.false_eq_true, or_true, true_or]
  | succ j ih =>
    intro i σ hi nx hc h0 hA2
    have hA2 : (σ.2 234 2).toInt + ((p i : Int) + smI (fun v => (p v : Int)) j (i + 1)) = A := hA2
    have hr := smI_nn (f := fun v => (p v : Int)) j (i + 1) (fun v _ _ => by show (0 : Int) ≤ (p v : Int); omega)
    have hp1 := hp i (by omega)
    have e5 : σ.1 35 i = nI (p i) := by rw [nx.i]; exact hX i (by omega)
    have hl : (nI (p i)).toInt64.toInt = p i := toL (by omega)
    have e1 : l_X3_becomePriceKept_6 234 35 8 (3 + r) 40 (n + 1 + (j + 1)) (nI i) σ = l_X3_becomePriceKept_6 234 35 8 (3 + r) 40 (n + 1 + j) (nI (i + 1)) (pL σ 234 2 (σ.2 234 2 + (nI (p i)).toInt64)) := by
      show b_X3_becomePriceKept_6 (l_X3_becomePriceKept_6 234 35 8 (3 + r) 40 (n + 1 + j)) 234 35 8 (3 + r) 40 (nI i) σ = _
      simp (disch := omega) only [b_X3_becomePriceKept_6, lit, pLeT, pLeF, pLtT, pLtF, pEqT, pEqF, nLeF, nLtF, nI_clamp, or_self, or_false, false_or, not_true_eq_false, not_false_eq_true, ↓reduceIte, nmS_eq, bd1_eq, bd2_eq, nI_add, pEqS, pk_mul, Nat.reduceAdd, Bool.false_eq_true, or_true, true_or, e5]
    have ea : (σ.2 234 2 + (nI (p i)).toInt64).toInt = (σ.2 234 2).toInt + p i := by rw [addL (by omega) (by omega), hl]
    rw [e1]
    refine ih (i + 1) _ (by omega) (nx.trans (Nx.p0 _ _)) (fun x hx => by rw [pL_nk (by omega)]; exact hc x hx) ?_ ?_
    · rw [pL_at, ea]
      omega
    · rw [pL_at, ea]
      omega
theorem pr_zero {r : Nat} (τ : Sto) (n : Nat) (j : Nat) : ∀ i, i + j = 8 → l_X8_pricesPut_5 (n + 1 + j) (nI r) 0 (nI i) (wL τ 15 0 i (fun v => τ.2 6 v)) = l_X8_pricesPut_35 400 (nI r) 0 (nI 0) (wL τ 15 0 8 (fun v => τ.2 6 v)) := by
  induction j with
  | zero =>
    intro i hi
    have e : i = 8 := by omega
    subst e
    show b_X8_pricesPut_5 _ (nI r) 0 (nI 8) _ = _
    simp (disch := omega) only [b_X8_pricesPut_5, lit, pLeT, pLeF, pLtT, pLtF, pEqT, pEqF, nLeF, nLtF, nI_clamp, or_self, or_false, false_or, not_true_eq_false, not_false_eq_true, ↓reduceIte, nmS_eq, bd1_eq, bd2_eq, nI_add, pEqS, pk_mul, Nat.reduceAdd, Bool.false_eq_true, or_true, true_or]
  | succ j ih0 =>
    intro i hi
    have ih := ih0 (i + 1) (by omega)
    have e1 : (wL τ 15 0 i (fun v => τ.2 6 v)).2 6 i = τ.2 6 i := wL_k (by omega)
    have e3 := wL_s0 (σ := τ) (k := 15) (n := i) (g := fun v => τ.2 6 v) rfl
    show b_X8_pricesPut_5 (l_X8_pricesPut_5 (n + 1 + j)) (nI r) 0 (nI i) (wL τ 15 0 i (fun v => τ.2 6 v)) = _
    simp (disch := omega) only [b_X8_pricesPut_5, lit, pLeT, pLeF, pLtT, pLtF, pEqT, pEqF, nLeF, nLtF, nI_clamp, or_self, or_false, false_or, not_true_eq_false, not_false_eq_true, ↓reduceIte, nmS_eq, bd1_eq, bd2_eq, nI_add, pEqS, pk_mul, Nat.reduceAdd, Bool.false_eq_true, or_true, true_or, e1, e3, ih]
theorem pr_loop {r : Nat} (hr : r < 8) (p : Nat → Nat) (hp : ∀ v, v < 8 → p v ≤ 9) (b : Nat → Nat) (hb : ∀ v, v < 8 → b v < 18) (σ0 τ0 : Sto) (hX : ∀ v, v < 8 → σ0.1 35 v = nI (p v)) (hM : ∀ v, v < 8 → τ0.2 6 v = lN (p v)) (hbX : ∀ v, v < 8 → σ0.1 (3 + r) v = nI (b v)) (hbM : ∀ v, v < 8 → τ0.1 3 (40 * r + v) = nI (b v)) (A D : Int) (nX nM : Nat) (j : Nat) : ∀ (i : Nat) (σ τ : Sto) (P N : Nat → Int) (K S : Int) (Q : Int64), i + j = 8 → S + 18 * j ≤ 1000 → Nx 234 σ0 σ → Mp τ0 τ → Pt 234 P N K D σ → Nn P N K S → 0 ≤ Q.toInt → Q.toInt + 9 * j ≤ 1000 → (∀ x, x < 8 → (τ.2 15 x).toInt = P x - N x + (if x < i then 0 else (p x : Int))) → Q.toInt + K + smI N 8 0 + smI (fun v => (p v : Int)) j i = A →
    ∃ (σ' τ' : Sto) (P' N' : Nat → Int) (K' S' : Int) (Q' : Int64), l_X3_becomePriceKept_33 234 35 8 (3 + r) 40 (nX + 1 + j) (nI i) σ = some σ' ∧ l_X8_pricesPut_35 (nM + 1 + j) (nI r) Q (nI i) τ = l_X8_pricesPut_149 400 Q' (nI 0) τ' ∧ Nx 234 σ0 σ' ∧ Mp τ0 τ' ∧ Pt 234 P' N' K' D σ' ∧ Nn P' N' K' S' ∧ S' ≤ 1000 ∧ 0 ≤ Q'.toInt ∧ Q'.toInt ≤ 1000 ∧ (∀ x, x < 8 → (τ'.2 15 x).toInt = P' x - N' x) ∧ Q'.toInt + K' + smI N' 8 0 = A := by
  induction j with
  | zero =>
    intro i σ τ P N K S Q hi hS nx mp hP hn hQ0 hQ1 hs hA
    have e : i = 8 := by omega
    subst e
    refine ⟨σ, τ, P, N, K, S, Q, ?_, ?_, nx, mp, hP, hn, by omega, hQ0, by omega, fun x hx => ?_, ?_⟩
    · show b_X3_becomePriceKept_33 _ 234 35 8 (3 + r) 40 (nI 8) σ = _
      simp (disch := omega) only [b_X3_becomePriceKept_33, lit, pLeT, pLeF, pLtT, pLtF, pEqT, pEqF, nLeF, nLtF, nI_clamp, or_self, or_false, false_or, not_true_eq_false, not_false_eq_true, ↓reduceIte, nmS_eq, bd1_eq, bd2_eq, nI_add, pEqS, pk_mul, Nat.reduceAdd, Bool.false_eq_true, or_true, true_or]
    · show b_X8_pricesPut_35 _ (nI r) Q (nI 8) τ = _
      simp (disch := omega) only [b_X8_pricesPut_35, lit, pLeT, pLeF, pLtT, pLtF, pEqT, pEqF, nLeF, nLtF, nI_clamp, or_self, or_false, false_or, not_true_eq_false, not_false_eq_true, ↓reduceIte, nmS_eq, bd1_eq, bd2_eq, nI_add, pEqS, pk_mul, Nat.reduceAdd, Bool.false_eq_true, or_true, true_or]
    · rw [hs x hx, if_pos hx, Int.add_zero]
    · simp only [smI] at hA ⊢
      omega
  | succ j ih =>
    intro i σ τ P N K S Q hi hS nx mp hP hn hQ0 hQ1 hs hA
    have hA : Q.toInt + K + smI N 8 0 + ((p i : Int) + smI (fun v => (p v : Int)) j (i + 1)) = A := hA
    have hp1 := hp i (by omega)
    have hb1 := hb i (by omega)
    have e5 : σ.1 35 i = nI (p i) := by rw [nx.i]; exact hX i (by omega)
    have hl : (nI (p i)).toInt64.toInt = p i := toL (by omega)
    have hll : (nI (p i)).toInt64 = lN (p i) := nI_l (by omega)
    have bX : σ.1 (3 + r) i = nI (b i) := by rw [nx.i]; exact hbX i (by omega)
    have bM : τ.1 3 (40 * r + i) = nI (b i) := by rw [mp.i]; exact hbM i (by omega)
    have m6 : τ.2 6 i = lN (p i) := by rw [mp.l _ _ (by omega) (by omega)]; exact hM i (by omega)
    have lpi : (lN (p i)).toInt = p i := lN_toInt (by omega)
    have p0 : (0 : Int) ≤ (p i : Int) := by omega
    obtain ⟨σ1, s1, s2, s3⟩ := hP.addP hn hl p0 (by omega) (x := i) (by omega)
    have hn1 := hn.addP p0 (x := i) (by omega)
    have e51 : σ1.1 35 i = nI (p i) := by rw [s2.i]; exact e5
    have bX1 : σ1.1 (3 + r) i = nI (b i) := by rw [s2.i]; exact bX
    have hc := ctr_lt hb1
    obtain ⟨σ2, u1, u2, u3⟩ := e_X3_joinsPut s3 hn1 hl p0 (by omega) hc
    have hn2 := eff_nn hn1 p0 hc
    have e1 : l_X3_becomePriceKept_33 234 35 8 (3 + r) 40 (nX + 1 + (j + 1)) (nI i) σ = l_X3_becomePriceKept_33 234 35 8 (3 + r) 40 (nX + 1 + j) (nI (i + 1)) σ2 := by
      show b_X3_becomePriceKept_33 (l_X3_becomePriceKept_33 234 35 8 (3 + r) 40 (nX + 1 + j)) 234 35 8 (3 + r) 40 (nI i) σ = _
      simp (disch := omega) only [b_X3_becomePriceKept_33, lit, pLeT, pLeF, pLtT, pLtF, pEqT, pEqF, nLeF, nLtF, nI_clamp, or_self, or_false, false_or, not_true_eq_false, not_false_eq_true, ↓reduceIte, nmS_eq, bd1_eq, bd2_eq, nI_add, pEqS, pk_mul, Nat.reduceAdd, Bool.false_eq_true, or_true, true_or, e5, s1, bX1, e_X3_contraryOf hb1, e51, u1]
    have hMl : l_X8_pricesPut_35 (nM + 1 + (j + 1)) (nI r) Q (nI i) τ = b_X8_pricesPut_35 (l_X8_pricesPut_35 (nM + 1 + j)) (nI r) Q (nI i) τ := rfl
    rw [e1]
    have hsi : ∀ x, x < 8 → P x - N x + (if x < i then 0 else (p x : Int)) = up P i (p i : Int) x - N x + (if x < i + 1 then 0 else (p x : Int)) := by
      intro x hx
      by_cases e : x = i
      · subst e
        rw [up_at, if_neg (by omega), if_pos (by omega)]
        omega
      · rw [up_no _ _ e]
        by_cases e2 : x < i
        · rw [if_pos e2, if_pos (by omega)]
        · rw [if_neg e2, if_neg (by omega)]
    have hb4 : b i = 0 ∨ b i = 1 ∨ (2 ≤ b i ∧ b i < 10) ∨ (10 ≤ b i ∧ b i < 18) := by omega
    rcases hb4 with e | e | e | e
    · have ec : ctr (b i) = 1 := by rw [e]; rfl
      have x1 : effP (ctr (b i)) (up P i (p i : Int)) (p i : Int) = up P i (p i : Int) := by unfold effP; rw [ec, if_neg (by omega)]
      have x2 : effN (ctr (b i)) N (p i : Int) = N := by unfold effN; rw [ec, if_neg (by omega)]
      have x3 : effK (ctr (b i)) K (p i : Int) = K + p i := by unfold effK; rw [ec, if_pos rfl]
      rw [x1, x2, x3] at u3 hn2
      have e2 : l_X8_pricesPut_35 (nM + 1 + (j + 1)) (nI r) Q (nI i) τ = l_X8_pricesPut_35 (nM + 1 + j) (nI r) Q (nI (i + 1)) τ := by
        rw [hMl]
        simp (disch := omega) only [b_X8_pricesPut_35, b_X8_pricesPut_140, lit, pLeT, pLeF, pLtT, pLtF, pEqT, pEqF, nLeF, nLtF, nI_clamp, or_self, or_false, false_or, not_true_eq_false, not_false_eq_true, ↓reduceIte, nmS_eq, bd1_eq, bd2_eq, nI_add, pEqS, pk_mul, Nat.reduceAdd, Bool.false_eq_true, or_true, true_or, bM, e]
      rw [e2]
      exact ih (i + 1) σ2 τ _ _ _ (S + p i + p i) Q (by omega) (by omega) (nx.trans (s2.trans u2)) mp u3 hn2 hQ0 (by omega) (fun x hx => by rw [hs x hx]; exact hsi x hx) (by omega)
    · have ec : ctr (b i) = 0 := by rw [e]; rfl
      have x1 : effP (ctr (b i)) (up P i (p i : Int)) (p i : Int) = up P i (p i : Int) := by unfold effP; rw [ec, if_neg (by omega)]
      have x2 : effN (ctr (b i)) N (p i : Int) = N := by unfold effN; rw [ec, if_neg (by omega)]
      have x3 : effK (ctr (b i)) K (p i : Int) = K := by unfold effK; rw [ec, if_neg (by omega)]
      rw [x1, x2, x3] at u3 hn2
      have e2 : l_X8_pricesPut_35 (nM + 1 + (j + 1)) (nI r) Q (nI i) τ = l_X8_pricesPut_35 (nM + 1 + j) (nI r) (Q + lN (p i)) (nI (i + 1)) τ := by
        rw [hMl]
        simp (disch := omega) only [b_X8_pricesPut_35, b_X8_pricesPut_140, lit, pLeT, pLeF, pLtT, pLtF, pEqT, pEqF, nLeF, nLtF, nI_clamp, or_self, or_false, false_or, not_true_eq_false, not_false_eq_true, ↓reduceIte, nmS_eq, bd1_eq, bd2_eq, nI_add, pEqS, pk_mul, Nat.reduceAdd, Bool.false_eq_true, or_true, true_or, bM, e, m6]
      have eq : (Q + lN (p i)).toInt = Q.toInt + p i := by rw [addL (by omega) (by omega), lpi]
      rw [e2]
      exact ih (i + 1) σ2 τ _ _ _ (S + p i + p i) (Q + lN (p i)) (by omega) (by omega) (nx.trans (s2.trans u2)) mp u3 hn2 (by omega) (by omega) (fun x hx => by rw [hs x hx]; exact hsi x hx) (by omega)
    · have ec : ctr (b i) = b i + 8 := by unfold ctr; rw [if_neg (by omega), if_pos (by omega)]
      have x1 : effP (ctr (b i)) (up P i (p i : Int)) (p i : Int) = up P i (p i : Int) := by unfold effP; rw [ec, if_neg (by omega)]
      have x2 : effN (ctr (b i)) N (p i : Int) = up N (b i - 2) (p i : Int) := by unfold effN; rw [ec, if_pos (by omega), show b i + 8 - 10 = b i - 2 by omega]
      have x3 : effK (ctr (b i)) K (p i : Int) = K := by unfold effK; rw [ec, if_neg (by omega)]
      rw [x1, x2, x3] at u3 hn2
      have hb2 : b i - 2 < 8 := by omega
      have e2 : l_X8_pricesPut_35 (nM + 1 + (j + 1)) (nI r) Q (nI i) τ = l_X8_pricesPut_35 (nM + 1 + j) (nI r) Q (nI (i + 1)) (pL τ 15 (b i - 2) (τ.2 15 (b i - 2) - lN (p i))) := by
        rw [hMl]
        simp (disch := omega) only [b_X8_pricesPut_35, b_X8_pricesPut_140, lit, pLeT, pLeF, pLtT, pLtF, pEqT, pEqF, nLeF, nLtF, nI_clamp, or_self, or_false, false_or, not_true_eq_false, not_false_eq_true, ↓reduceIte, nmS_eq, bd1_eq, bd2_eq, nI_add, pEqS, pk_mul, Nat.reduceAdd, Bool.false_eq_true, or_true, true_or, bM, m6, pk_sub]
      have so := hs (b i - 2) hb2
      have h1 := hn.one hb2
      have h2 := hn.p (b i - 2) hb2
      have sb : -2000 ≤ (τ.2 15 (b i - 2)).toInt ∧ (τ.2 15 (b i - 2)).toInt ≤ 2000 := by
        have := hp (b i - 2) hb2
        split at so <;> omega
      have es : (τ.2 15 (b i - 2) - lN (p i)).toInt = (τ.2 15 (b i - 2)).toInt - p i := by rw [subL (by omega) (by omega), lpi]
      have sN := smI_upd (f := N) (g := up N (b i - 2) (p i : Int)) (x := b i - 2) (e := (p i : Int)) (up_at _ _ _) (fun v hv => up_no _ _ hv) 8 0 (by omega) (by omega)
      rw [e2]
      refine ih (i + 1) σ2 _ _ _ _ (S + p i + p i) Q (by omega) (by omega) (nx.trans (s2.trans u2)) (mp.trans (Mp.p5 _ _)) u3 hn2 hQ0 (by omega) (fun x hx => ?_) (by omega)
      by_cases ex : x = b i - 2
      · rw [ex, pL_at, es, so, hsi _ hb2, up_at N]
        omega
      · rw [pL_nj (by omega), hs x hx, hsi x hx, up_no N _ ex]
    · have ec : ctr (b i) = b i - 8 := by unfold ctr; rw [if_neg (by omega), if_neg (by omega)]
      have x1 : effP (ctr (b i)) (up P i (p i : Int)) (p i : Int) = up (up P i (p i : Int)) (b i - 10) (p i : Int) := by unfold effP; rw [ec, if_pos (by omega), show b i - 8 - 2 = b i - 10 by omega]
      have x2 : effN (ctr (b i)) N (p i : Int) = N := by unfold effN; rw [ec, if_neg (by omega)]
      have x3 : effK (ctr (b i)) K (p i : Int) = K := by unfold effK; rw [ec, if_neg (by omega)]
      rw [x1, x2, x3] at u3 hn2
      have hb2 : b i - 10 < 8 := by omega
      have e2 : l_X8_pricesPut_35 (nM + 1 + (j + 1)) (nI r) Q (nI i) τ = l_X8_pricesPut_35 (nM + 1 + j) (nI r) (Q + lN (p i)) (nI (i + 1)) (pL τ 15 (b i - 10) (τ.2 15 (b i - 10) + lN (p i))) := by
        rw [hMl]
        simp (disch := omega) only [b_X8_pricesPut_35, b_X8_pricesPut_140, lit, pLeT, pLeF, pLtT, pLtF, pEqT, pEqF, nLeF, nLtF, nI_clamp, or_self, or_false, false_or, not_true_eq_false, not_false_eq_true, ↓reduceIte, nmS_eq, bd1_eq, bd2_eq, nI_add, pEqS, pk_mul, Nat.reduceAdd, Bool.false_eq_true, or_true, true_or, bM, m6, pk_sub]
      have eq : (Q + lN (p i)).toInt = Q.toInt + p i := by rw [addL (by omega) (by omega), lpi]
      have so := hs (b i - 10) hb2
      have h1 := hn.one hb2
      have h2 := hn.p (b i - 10) hb2
      have sb : -2000 ≤ (τ.2 15 (b i - 10)).toInt ∧ (τ.2 15 (b i - 10)).toInt ≤ 2000 := by
        have := hp (b i - 10) hb2
        split at so <;> omega
      have es : (τ.2 15 (b i - 10) + lN (p i)).toInt = (τ.2 15 (b i - 10)).toInt + p i := by rw [addL (by omega) (by omega), lpi]
      rw [e2]
      refine ih (i + 1) σ2 _ _ _ _ (S + p i + p i) (Q + lN (p i)) (by omega) (by omega) (nx.trans (s2.trans u2)) (mp.trans (Mp.p5 _ _)) u3 hn2 (by omega) (by omega) (fun x hx => ?_) (by omega)
      by_cases ex : x = b i - 10
      · rw [ex, pL_at, es, so, hsi _ hb2, up_at (up P i (p i : Int))]
        omega
      · rw [pL_nj (by omega), hs x hx, hsi x hx, up_no (up P i (p i : Int)) _ ex]
theorem pr_end {C : Nat → Int} (hC : ∀ x, x < 8 → -1000 ≤ C x ∧ C x ≤ 1000) {F : Int} (τ0 : Sto) (n : Nat) (j : Nat) : ∀ (i : Nat) (τ : Sto) (Q : Int64), i + j = 8 → Mp τ0 τ → 0 ≤ Q.toInt → Q.toInt + 1000 * j ≤ 100000 → (∀ x, x < 8 → (τ.2 15 x).toInt = C x) → (∀ x, x < i → (τ.2 12 (2 + x)).toInt = C x) → Q.toInt + smI (fun x => mxI (-C x)) j i = F →
    ∃ τ', l_X8_pricesPut_149 (n + 1 + j) Q (nI i) τ = some τ' ∧ Mp τ0 τ' ∧ (∀ x, x < 8 → (τ'.2 12 (2 + x)).toInt = C x) ∧ (τ'.2 12 1).toInt = mxI F := by
  induction j with
  | zero =>
    intro i τ Q hi mp hQ0 hQ1 h15 h12 hF
    have e : i = 8 := by omega
    subst e
    simp only [smI] at hF
    have s1 := mxI_s F
    have q : 0 ≤ Q := by rw [leL, toI0]; exact hQ0
    refine ⟨pL τ 12 1 Q, ?_, mp.trans (Mp.p2 _ _), fun x hx => by rw [pL_nj (by omega)]; exact h12 x hx, by rw [pL_at]; omega⟩
    show b_X8_pricesPut_149 _ Q (nI 8) τ = _
    simp (disch := omega) only [b_X8_pricesPut_149, b_X8_pricesPut_221, lit, pLeT, pLeF, pLtT, pLtF, pEqT, pEqF, nLeF, nLtF, nI_clamp, or_self, or_false, false_or, not_true_eq_false, not_false_eq_true, ↓reduceIte, nmS_eq, bd1_eq, bd2_eq, nI_add, pEqS, pk_mul, Nat.reduceAdd, Bool.false_eq_true, or_true, true_or, q]
  | succ j ih =>
    intro i τ Q hi mp hQ0 hQ1 h15 h12 hF
    have hF : Q.toInt + (mxI (-C i) + smI (fun x => mxI (-C x)) j (i + 1)) = F := hF
    have hc := h15 i (by omega)
    have hc2 := hC i (by omega)
    have s1 := mxI_s (-C i)
    have n15 : ∀ x, (pL τ 12 (2 + i) (τ.2 15 i)).2 15 x = τ.2 15 x := fun x => pL_nk (by omega)
    have hs : ∀ x, x < i + 1 → ((pL τ 12 (2 + i) (τ.2 15 i)).2 12 (2 + x)).toInt = C x := by
      intro x hx
      by_cases e : x = i
      · subst e
        rw [pL_at, hc]
      · rw [pL_nj (by omega)]
        exact h12 x (by omega)
    by_cases q : 0 ≤ τ.2 15 i
    · have e1 : l_X8_pricesPut_149 (n + 1 + (j + 1)) Q (nI i) τ = l_X8_pricesPut_149 (n + 1 + j) (Q + 0) (nI (i + 1)) (pL τ 12 (2 + i) (τ.2 15 i)) := by
        show b_X8_pricesPut_149 (l_X8_pricesPut_149 (n + 1 + j)) Q (nI i) τ = _
        simp (disch := omega) only [b_X8_pricesPut_149, b_X8_pricesPut_197, lit, pLeT, pLeF, pLtT, pLtF, pEqT, pEqF, nLeF, nLtF, nI_clamp, or_self, or_false, false_or, not_true_eq_false, not_false_eq_true, ↓reduceIte, nmS_eq, bd1_eq, bd2_eq, nI_add, pEqS, pk_mul, Nat.reduceAdd, Bool.false_eq_true, or_true, true_or, pL_nk, q]
      rw [e1, addz]
      rw [leL, toI0, hc] at q
      exact ih (i + 1) _ Q (by omega) (mp.trans (Mp.p2 _ _)) hQ0 (by omega) (fun x hx => by rw [n15]; exact h15 x hx) hs (by omega)
    · have e1 : l_X8_pricesPut_149 (n + 1 + (j + 1)) Q (nI i) τ = l_X8_pricesPut_149 (n + 1 + j) (Q + -(τ.2 15 i)) (nI (i + 1)) (pL τ 12 (2 + i) (τ.2 15 i)) := by
        show b_X8_pricesPut_149 (l_X8_pricesPut_149 (n + 1 + j)) Q (nI i) τ = _
        simp (disch := omega) only [b_X8_pricesPut_149, b_X8_pricesPut_197, lit, pLeT, pLeF, pLtT, pLtF, pEqT, pEqF, nLeF, nLtF, nI_clamp, or_self, or_false, false_or, not_true_eq_false, not_false_eq_true, ↓reduceIte, nmS_eq, bd1_eq, bd2_eq, nI_add, pEqS, pk_mul, Nat.reduceAdd, Bool.false_eq_true, or_true, true_or, pL_nk, q]
      have en : (-(τ.2 15 i)).toInt = -C i := by rw [negL (by omega), hc]
      have ea : (Q + -(τ.2 15 i)).toInt = Q.toInt - C i := by rw [addL (by omega) (by omega), en]; omega
      rw [leL, toI0, hc] at q
      rw [e1]
      exact ih (i + 1) _ _ (by omega) (mp.trans (Mp.p2 _ _)) (by omega) (by omega) (fun x hx => by rw [n15]; exact h15 x hx) hs (by omega)
theorem sm_mn {P N : Nat → Int} (j : Nat) : ∀ i, smI (fun x => mnI (P x) (N x)) j i + smI (fun x => mxI (-(P x - N x))) j i = smI N j i := by
  induction j with
  | zero => intro i; rfl
  | succ j ih =>
    intro i
    have h1 := ih (i + 1)
    have h2 := mnI_s (P i) (N i)
    have h3 := mxI_s (-(P i - N i))
    show (mnI (P i) (N i) + smI (fun x => mnI (P x) (N x)) j (i + 1)) + (mxI (-(P i - N i)) + smI (fun x => mxI (-(P x - N x))) j (i + 1)) = N i + smI N j (i + 1)
    omega
/-- the clause of the prices, in both -/
theorem price_all {r : Nat} (hr : r < 8) (p : Nat → Nat) (hp : ∀ v, v < 8 → p v ≤ 9) (b : Nat → Nat) (hb : ∀ v, v < 8 → b v < 18) (σ τ : Sto) (hX : ∀ v, v < 8 → σ.1 35 v = nI (p v)) (hM : ∀ v, v < 8 → τ.2 6 v = lN (p v)) (hbX : ∀ v, v < 8 → σ.1 (3 + r) v = nI (b v)) (hbM : ∀ v, v < 8 → τ.1 3 (40 * r + v) = nI (b v)) :
    ∃ σ' τ', f_X3_becomePriceKept 234 35 8 (3 + r) 40 σ = some σ' ∧ f_X8_pricesPut (nI r) τ = some τ' ∧ Nx 234 σ σ' ∧ Mp τ τ' ∧ (∀ v, v < 8 → ok (σ'.2 (234 + 1) v) ∧ τ'.2 12 (0 + 2 + v) = σ'.2 (234 + 1) v) ∧ τ'.2 12 (0 + 1) = σ'.2 234 2 ∧ 0 ≤ (σ'.2 234 2).toInt ∧ 0 ≤ tot (σ'.2 (234 + 1)) := by
  have hA : smI (fun v => (p v : Int)) 8 0 ≤ 72 := by
    have h1 := smI_le (f := fun v => (p v : Int)) (g := fun _ => 9) 8 0 (fun v _ hv => by have := hp v (by omega); show (p v : Int) ≤ 9; omega)
    have h2 : smI (fun _ => (9 : Int)) 8 0 = 72 := by decide
    omega
  have hA0 := smI_nn (f := fun v => (p v : Int)) 8 0 (fun v _ _ => by show (0 : Int) ≤ (p v : Int); omega)
  generalize hAe : smI (fun v => (p v : Int)) 8 0 = A at hA hA0
  generalize hs : pL (wL σ (234 + 1) 0 8 (fun _ => 0)) 234 2 0 = σ1
  have nx1 : Nx 234 σ σ1 := by
    rw [← hs]
    exact (Nx.w1 _ _ _).trans (Nx.p0 _ _)
  have c1 : ∀ x, x < 8 → σ1.2 (234 + 1) x = 0 := by
    intro x hx
    rw [← hs, pL_nk (by omega), wL_at0 hx]
  have d1 : (σ1.2 234 2).toInt = 0 := by rw [← hs, pL_at, toI0]
  obtain ⟨σ2, a1, a2, a3, a4⟩ := pr_deg (r := r) p hp σ hX A (by omega) 391 8 0 σ1 (by omega) nx1 c1 (by omega) (by rw [d1, hAe]; omega)
  have eX : f_X3_becomePriceKept 234 35 8 (3 + r) 40 σ = l_X3_becomePriceKept_33 234 35 8 (3 + r) 40 400 (nI 0) σ2 := by
    rw [← a1]
    simp (disch := omega) only [f_X3_becomePriceKept, e_X3_clear, lit, pLeT, pLeF, pLtT, pLtF, pEqT, pEqF, nLeF, nLtF, nI_clamp, or_self, or_false, false_or, not_true_eq_false, not_false_eq_true, ↓reduceIte, nmS_eq, bd1_eq, bd2_eq, nI_add, pEqS, pk_mul, Nat.reduceAdd, Bool.false_eq_true, or_true, true_or, hs]
  have z1 := pr_zero (r := r) τ 391 8 0 (by omega)
  rw [wL_0] at z1
  generalize ht : wL τ 15 0 8 (fun v => τ.2 6 v) = τ1 at z1
  have mp1 : Mp τ τ1 := by
    rw [← ht]
    exact ⟨wL_1, fun c j _ q => wL_k (by omega)⟩
  have mn0 : smI (fun _ => mnI 0 0) 8 0 = 0 := by decide
  have sm0 : smI (fun _ => (0 : Int) + 0) 8 0 = 0 := by decide
  have sm1 : smI (fun _ => (0 : Int)) 8 0 = 0 := by decide
  have hPt : Pt 234 (fun _ => 0) (fun _ => 0) 0 A σ2 := by
    refine ⟨fun x hx => by rw [a3 x hx, toI0]; rfl, ?_⟩
    rw [a4]
    show A = mxI (A - (0 + smI (fun _ => mnI 0 0) 8 0))
    rw [mn0]
    have := mxI_s (A - (0 + 0))
    omega
  have hNn : Nn (fun _ => 0) (fun _ => 0) 0 0 := ⟨fun x _ => ⟨Int.le_refl _, Int.le_refl _⟩, Int.le_refl _, by rw [sm0]; decide⟩
  obtain ⟨σ3, τ3, P, N, K, S, Q, b1, b2, b3, b4, b5, b6, b7, b8, b9, b10, b11⟩ := pr_loop hr p hp b hb σ τ hX hM hbX hbM A A 391 391 8 0 σ2 τ1 (fun _ => 0) (fun _ => 0) 0 0 0 (by omega) (by omega) a2 mp1 hPt hNn (by rw [toI0]; omega) (by rw [toI0]; omega) (fun x hx => by
      rw [← ht, wL_at0 hx, hM x hx, lN_toInt (by have := hp x hx; omega), if_neg (by omega)]
      show (p x : Int) = 0 - 0 + (p x : Int)
      omega) (by rw [toI0, sm1, hAe]; omega)
  have hsm := sm_mn (P := P) (N := N) 8 0
  obtain ⟨τ4, c1, c2, c3, c4⟩ := pr_end (C := fun x => P x - N x) (fun x hx => by
      have h1 := b6.one hx
      have h2 := b6.p x hx
      show -1000 ≤ P x - N x ∧ P x - N x ≤ 1000
      omega) (F := A - (K + smI (fun x => mnI (P x) (N x)) 8 0)) τ 391 8 0 τ3 Q (by omega) b4 b8 (by omega) b10 (fun x hx => by omega) (by
      show Q.toInt + smI (fun x => mxI (-(P x - N x))) 8 0 = _
      omega)
  have hf := b5.fin b6 (by omega) c3 c4
  refine ⟨σ3, τ4, ?_, ?_, b3, c2, hf⟩
  · rw [eX]
    exact b1
  · exact (z1.trans b2).trans c1
