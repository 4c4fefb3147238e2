/-! ===== formula: prices, the end ===== -/
/-- what the prices come to: the model still looks whether all is read -/
def GO (L : Nat) (t : Nat → Nat) (n : Nat) (fx : Option (Int32 × Sto)) (fm : Option (Int32 × Sto)) (σ τ : Sto) : Prop :=
  ∃ (σ' τ' τ'' : Sto) (z y : Bool), fx = some (if z then nI 1 else nI 0, σ') ∧ fm = b_X8_formula_280 τ' ∧ (τ'.1 0 11 = nI 0) = (y = true) ∧ f_X8_must (if y then nI 1 else nI 0) τ' = some τ'' ∧ (z = true → τ''.1 0 8 = -nI 1 ∧ σ'.1 13 7 = τ''.1 0 7 ∧ Dr n σ' τ'') ∧ (z = false → Fy σ' τ'') ∧ Rf σ τ σ' τ''
theorem GO.mono {L : Nat} {t : Nat → Nat} {n : Nat} {fx : Option (Int32 × Sto)} {fm : Option (Int32 × Sto)} {σ τ σ1 τ1 : Sto} (r : Rf σ τ σ1 τ1) (h : GO L t n fx fm σ1 τ1) : GO L t n fx fm σ τ := by
  obtain ⟨σ', τ', τ'', z, y, h1, h2, h3, h4, h5, h6, h7⟩ := h
  exact ⟨σ', τ', τ'', z, y, h1, h2, h3, h4, h5, h6, r.trans h7⟩
theorem GO.flt {L : Nat} {t : Nat → Nat} {n : Nat} {σ τ σ1 τ1 : Sto} {m : Nat} {seen : Int32} (r : Rf σ τ σ1 τ1) (h : Fy σ1 τ1) : GO L t n (some (nI 0, σ1)) (l_X8_formula_192 (m + 1) seen τ1) σ τ := by
  have hw := h.well
  refine ⟨σ1, τ1, τ1, false, decide (τ1.1 0 11 = nI 0), rfl, ?_, propext ⟨fun z => decide_eq_true z, fun z => of_decide_eq_true z⟩, flt_must hw _, (fun z => by cases z), fun _ => h, r⟩
  show b_X8_formula_192 (l_X8_formula_192 m) seen τ1 = _
  simp (disch := omega) only [b_X8_formula_192, lit, pLeT, pLeF, pLtT, pLtF, pEqT, pEqF, nLeF, nLtF, nI_clamp, or_self, or_false, false_or, not_true_eq_false, not_false_eq_true, ↓reduceIte, nmS_eq, bd1_eq, bd2_eq, nI_add, pEqS, pk_mul, Nat.reduceAdd, Bool.false_eq_true, or_true, true_or, hw]
theorem fo251 {c192 : Int32 → Sto → Option (Int32 × Sto)} {τ : Sto} (h : f_X8_isWell τ = some (nI 0, τ)) (v1 v2 v3 s0 : Int32) : b_X8_formula_251 c192 v1 v2 v3 s0 τ = c192 v1 τ := by
  simp (disch := omega) only [b_X8_formula_251, b_X8_formula_277, lit, pLeT, pLeF, pLtT, pLtF, pEqT, pEqF, nLeF, nLtF, nI_clamp, or_self, or_false, false_or, not_true_eq_false, not_false_eq_true, ↓reduceIte, nmS_eq, bd1_eq, bd2_eq, nI_add, pEqS, pk_mul, Nat.reduceAdd, Bool.false_eq_true, or_true, true_or, h, flt_takes h]
set_option maxHeartbeats 8000000 in
theorem fo_pr {L : Nat} {t : Nat → Nat} {n : Nat} (nX nM : Nat) (j : Nat) : ∀ (i : Nat) (seen : Int32) (p : Nat) (σ τ : Sto), i + j = 9 → unk seen 8 < j → Sy L t p σ τ → Dr n σ τ → GO L t n (l_X5_readsPrices_4 (nX + 1 + j) seen (nI i) σ) (l_X8_formula_192 (nM + 1 + j) seen τ) σ τ := by
  induction j with
  | zero => intro i seen p σ τ hi hu; omega
  | succ j ih =>
    intro i seen p σ τ hi hu h d
    have hX : l_X5_readsPrices_4 (nX + 1 + (j + 1)) seen (nI i) σ = b_X5_readsPrices_4 (l_X5_readsPrices_4 (nX + 1 + j)) seen (nI i) σ := rfl
    have hM : l_X8_formula_192 (nM + 1 + (j + 1)) seen τ = b_X8_formula_192 (l_X8_formula_192 (nM + 1 + j)) seen τ := rfl
    have hn := h.tx.n
    have hp := h.hp
    have hl := e_X5_letter h.tx (by omega) h.px
    have hw := well1 h.sm.w
    have hk := h.sm.k
    have h6 := h.px
    rw [hX, hM]
    by_cases q0 : tok L t p = 0
    · have el : ltr L t p = -nI 1 := by
        rcases tok_cases (L := L) (t := t) (p := p) with z | ⟨z1, z2, -⟩
        · exact z.2
        · exact absurd q0 z2
      rw [el] at hl
      rw [q0] at hk
      refine ⟨σ, τ, τ, true, true, ?_, ?_, ?_, ?_, fun _ => ⟨h.sm.w, h.ft, d⟩, (fun z => by cases z), Rf.rfl⟩
      · simp (disch := omega) only [b_X5_readsPrices_4, lit, pLeT, pLeF, pLtT, pLtF, pEqT, pEqF, nLeF, nLtF, nI_clamp, or_self, or_false, false_or, not_true_eq_false, not_false_eq_true, ↓reduceIte, nmS_eq, bd1_eq, bd2_eq, nI_add, pEqS, pk_mul, Nat.reduceAdd, Bool.false_eq_true, or_true, true_or, hl]
      · simp (disch := omega) only [b_X8_formula_192, lit, pLeT, pLeF, pLtT, pLtF, pEqT, pEqF, nLeF, nLtF, nI_clamp, or_self, or_false, false_or, not_true_eq_false, not_false_eq_true, ↓reduceIte, nmS_eq, bd1_eq, bd2_eq, nI_add, pEqS, pk_mul, Nat.reduceAdd, Bool.false_eq_true, or_true, true_or, hw, hk]
      · rw [hk]
        exact propext ⟨fun _ => rfl, fun _ => rfl⟩
      · simp (disch := omega) only [f_X8_must, b_X8_must_18, lit, pLeT, pLeF, pLtT, pLtF, pEqT, pEqF, nLeF, nLtF, nI_clamp, or_self, or_false, false_or, not_true_eq_false, not_false_eq_true, ↓reduceIte, nmS_eq, bd1_eq, bd2_eq, nI_add, pEqS, pk_mul, Nat.reduceAdd, Bool.false_eq_true, or_true, true_or, hw]
    · have el : (ltr L t p = -nI 1) = False := eq_false (fun e => by
        rcases tok_cases (L := L) (t := t) (p := p) with z | ⟨z1, z2, z3, -⟩
        · exact q0 z.1
        · rw [z3] at e
          have hc := (h.tx.t p z1).1
          have h2 := congrArg Int32.toInt e
          rw [nI_toInt (by omega)] at h2
          have : (-nI 1).toInt = -1 := by decide
          omega)
      by_cases qm : tok L t p = 1 ∧ t p = 109
      · have hq := tok1 qm.1
        have hv := (h.sm.a qm.1).1
        rw [qm.1] at hk
        rw [qm.2] at hv
        have el2 : ltr L t p = nI 109 := by rw [hq.2.1, qm.2]
        obtain ⟨τ1, g1, g2, g3⟩ := h.go (σ1 := pI σ 13 6 (nI (p + 1))) (p' := p + 1) (by omega) (h.sm.a qm.1).2 (fun c j z => pI_no (by omega)) (pI_2 _) (pI_at _) (nI 1)
        have tk : f_X5_takes (nI 109) σ = some (nI 1, pI σ 13 6 (nI (p + 1))) := by
          have hl2 := hl
          rw [el2] at hl2
          simp (disch := omega) only [f_X5_takes, lit, pLeT, pLeF, pLtT, pLtF, pEqT, pEqF, nLeF, nLtF, nI_clamp, or_self, or_false, false_or, not_true_eq_false, not_false_eq_true, ↓reduceIte, nmS_eq, bd1_eq, bd2_eq, nI_add, pEqS, pk_mul, Nat.reduceAdd, Bool.false_eq_true, or_true, true_or, hl2, h6]
        have e2 : ∀ c192, b_X8_formula_192 c192 seen τ = (bd2 (f_X8_variable seen τ1) fun r s => bd2 (f_X8_behind (nI 1) (nI 9) s) fun r2 s => if s.1 0 11 = nI 4 then b_X8_formula_251 c192 seen r r2 (nI 1) s else b_X8_formula_251 c192 seen r r2 (nI 0) s) := by
          intro c192
          simp (disch := omega) only [b_X8_formula_192, lit, pLeT, pLeF, pLtT, pLtF, pEqT, pEqF, nLeF, nLtF, nI_clamp, or_self, or_false, false_or, not_true_eq_false, not_false_eq_true, ↓reduceIte, nmS_eq, bd1_eq, bd2_eq, nI_add, pEqS, pk_mul, Nat.reduceAdd, Bool.false_eq_true, or_true, true_or, hw, hk, hv, g1]
        rw [e2]
        rcases g2.var seen with ⟨m, p2, σ2, τ2, a1, a2, a3, a4, a5, a6, a7⟩ | ⟨σ2, τ2, a3, a5, a6, a7⟩
        · have f2 := g3.trans a7
          have hk2 := a6.sm.k
          rcases a6.sign (ch := 44) (k := 3) (by omega) with ⟨q3, σ3, τ3, r, b1, b2, b3, b4, b5⟩ | ⟨q3, σ3, τ3, b1, b2, b3, b4⟩
          · rw [q3] at hk2
            have f3 := f2.trans b4
            rcases b3.num (lo := 1) (hi := 9) (by omega) (by omega) with ⟨m2, p4, σ4, τ4, c1, c2, c3, c4, c5, c6, c7⟩ | ⟨σ4, τ4, c3, c5, c6, c7⟩
            · have f4 := f3.trans c7
              have hk4 := c6.sm.k
              have bh : f_X8_behind (nI 1) (nI 9) τ2 = some (nI m2, τ4) := by
                simp (disch := omega) only [f_X8_behind, b_X8_behind_14, lit, pLeT, pLeF, pLtT, pLtF, pEqT, pEqF, nLeF, nLtF, nI_clamp, or_self, or_false, false_or, not_true_eq_false, not_false_eq_true, ↓reduceIte, nmS_eq, bd1_eq, bd2_eq, nI_add, pEqS, pk_mul, Nat.reduceAdd, Bool.false_eq_true, or_true, true_or, hk2, b2, c5]
              rcases c6.sign (ch := 59) (k := 4) (by omega) with ⟨q5, σ5, τ5, r5, d1, d2, d3, d4, d5⟩ | ⟨q5, σ5, τ5, d1, d2, d3, d4⟩
              · rw [q5] at hk4
                have f5 := f4.trans d4
                generalize hs : seen ||| (nI 1 <<< (nI m &&& nI 31)) = seen'
                have n8 : σ5.1 13 8 = nI m2 := by rw [d5, c4]
                have wl5 := well1 d3.sm.w
                have nl : (nI m2).toInt64 = lN m2 := nI_l (by omega)
                have e3 : b_X5_readsPrices_4 (l_X5_readsPrices_4 (nX + 1 + j)) seen (nI i) σ = l_X5_readsPrices_4 (nX + 1 + j) seen' (nI (i + 1)) (pI σ5 16 m (nI m2)) := by
                  simp (disch := omega) only [b_X5_readsPrices_4, lit, pLeT, pLeF, pLtT, pLtF, pEqT, pEqF, nLeF, nLtF, nI_clamp, or_self, or_false, false_or, not_true_eq_false, not_false_eq_true, ↓reduceIte, nmS_eq, bd1_eq, bd2_eq, nI_add, pEqS, pk_mul, Nat.reduceAdd, Bool.false_eq_true, or_true, true_or, hl, el, tk, a3, a4, b1, c3, d1, n8, hs]
                have e4 : (bd2 (f_X8_variable seen τ1) fun r s => bd2 (f_X8_behind (nI 1) (nI 9) s) fun r2 s => if s.1 0 11 = nI 4 then b_X8_formula_251 (l_X8_formula_192 (nM + 1 + j)) seen r r2 (nI 1) s else b_X8_formula_251 (l_X8_formula_192 (nM + 1 + j)) seen r r2 (nI 0) s) = l_X8_formula_192 (nM + 1 + j) seen' (pL τ5 7 m (lN m2)) := by
                  simp (disch := omega) only [b_X8_formula_251, b_X8_formula_277, lit, pLeT, pLeF, pLtT, pLtF, pEqT, pEqF, nLeF, nLtF, nI_clamp, or_self, or_false, false_or, not_true_eq_false, not_false_eq_true, ↓reduceIte, nmS_eq, bd1_eq, bd2_eq, nI_add, pEqS, pk_mul, Nat.reduceAdd, Bool.false_eq_true, or_true, true_or, a5, bh, hk4, d2, wl5, hs, nl]
                rw [e3, e4]
                have dd := d.fr f5
                have rr : Rf σ5 τ5 (pI σ5 16 m (nI m2)) (pL τ5 7 m (lN m2)) := ⟨fun c j _ z => pI_nk (by omega), fun c j _ => by rw [pI_2], fun c j _ => by rw [pL_1], fun c j z _ => pL_nk (by omega)⟩
                have s5 : Sy L t (p4 + 1) (pI σ5 16 m (nI m2)) (pL τ5 7 m (lN m2)) := by
                  refine ⟨⟨d3.tx.n, by rw [pI_nk (by omega)]; exact d3.tx.e, fun i hi => by rw [pI_nk (by omega)]; exact d3.tx.t i hi⟩, ?_, d3.hp, by rw [pI_nk (by omega)]; exact d3.px, ?_, by rw [pI_nk (by omega), pL_1]; exact d3.ft⟩
                  · unfold TM
                    rw [pL_1]
                    exact d3.tm
                  · unfold SM
                    rw [pL_1]
                    exact d3.sm
                refine GO.mono (f5.rf.trans rr) (ih (i + 1) seen' _ _ _ (by omega) ?_ s5 ?_)
                · have hb : bt seen' m = true := by rw [← hs, or_one (by omega) (by omega)]; simp
                  have := unk_lt (a := seen) (b := seen') (fun x hx hx2 => by rw [← hs, or_one (by omega) hx, hx2, Bool.true_or]) m a2 hb 8 (by omega) a1
                  omega
                · have ms : ∀ i, i ≠ m → (pL τ5 7 m (lN m2)).2 7 i = τ5.2 7 i := fun i hi => pL_nj (by omega)
                  refine ⟨dd.n8, by rw [pI_nk (by omega)]; exact dd.cn, by rw [ms _ (by omega)]; exact dd.us, by rw [ms _ (by omega)]; exact dd.lv, by rw [ms _ (by omega)]; exact dd.bs, by rw [ms _ (by omega)]; exact dd.rd, fun v hv => ?_, fun a ha => ?_⟩
                  · by_cases e : v = m
                    · subst e
                      exact ⟨m2, c2, pI_at _, pL_at _⟩
                    · rw [ms v e, pI_nj (by omega)]
                      exact dd.pr v hv
                  · have hc := dd.cl a ha
                    refine ⟨by rw [ms _ (by omega)]; exact hc.k, by rw [pI_2]; exact hc.a, by rw [pI_2]; exact hc.b, by rw [ms _ (by omega), pI_2]; exact hc.d, fun v hv => ?_⟩
                    rw [ms _ (by omega), pI_2]
                    exact hc.c v hv
              · have hk5 := tokE q5 (by omega)
                have hw5 := d3.well
                have e3 : b_X5_readsPrices_4 (l_X5_readsPrices_4 (nX + 1 + j)) seen (nI i) σ = some (nI 0, σ5) := by
                  simp (disch := omega) only [b_X5_readsPrices_4, b_X5_readsPrices_82, lit, pLeT, pLeF, pLtT, pLtF, pEqT, pEqF, nLeF, nLtF, nI_clamp, or_self, or_false, false_or, not_true_eq_false, not_false_eq_true, ↓reduceIte, nmS_eq, bd1_eq, bd2_eq, nI_add, pEqS, pk_mul, Nat.reduceAdd, Bool.false_eq_true, or_true, true_or, hl, el, tk, a3, a4, b1, c3, d1]
                have e4 : (bd2 (f_X8_variable seen τ1) fun r s => bd2 (f_X8_behind (nI 1) (nI 9) s) fun r2 s => if s.1 0 11 = nI 4 then b_X8_formula_251 (l_X8_formula_192 (nM + 1 + j)) seen r r2 (nI 1) s else b_X8_formula_251 (l_X8_formula_192 (nM + 1 + j)) seen r r2 (nI 0) s) = l_X8_formula_192 (nM + 1 + j) seen τ5 := by
                  simp (disch := omega) only [b_X8_formula_251, b_X8_formula_277, lit, pLeT, pLeF, pLtT, pLtF, pEqT, pEqF, nLeF, nLtF, nI_clamp, or_self, or_false, false_or, not_true_eq_false, not_false_eq_true, ↓reduceIte, nmS_eq, bd1_eq, bd2_eq, nI_add, pEqS, pk_mul, Nat.reduceAdd, Bool.false_eq_true, or_true, true_or, a5, bh, hk4, hk5, d2, hw5]
                rw [e3, e4, show nM + 1 + j = (nM + j) + 1 by omega]
                exact GO.flt (f4.trans d4).rf d3
            · have hw4 := c6.well
              have bh : f_X8_behind (nI 1) (nI 9) τ2 = some (nI 0, τ4) := by
                simp (disch := omega) only [f_X8_behind, b_X8_behind_14, lit, pLeT, pLeF, pLtT, pLtF, pEqT, pEqF, nLeF, nLtF, nI_clamp, or_self, or_false, false_or, not_true_eq_false, not_false_eq_true, ↓reduceIte, nmS_eq, bd1_eq, bd2_eq, nI_add, pEqS, pk_mul, Nat.reduceAdd, Bool.false_eq_true, or_true, true_or, hk2, b2, c5]
              have e3 : b_X5_readsPrices_4 (l_X5_readsPrices_4 (nX + 1 + j)) seen (nI i) σ = some (nI 0, σ4) := by
                simp (disch := omega) only [b_X5_readsPrices_4, b_X5_readsPrices_82, lit, pLeT, pLeF, pLtT, pLtF, pEqT, pEqF, nLeF, nLtF, nI_clamp, or_self, or_false, false_or, not_true_eq_false, not_false_eq_true, ↓reduceIte, nmS_eq, bd1_eq, bd2_eq, nI_add, pEqS, pk_mul, Nat.reduceAdd, Bool.false_eq_true, or_true, true_or, hl, el, tk, a3, a4, b1, c3]
              have e4 : (bd2 (f_X8_variable seen τ1) fun r s => bd2 (f_X8_behind (nI 1) (nI 9) s) fun r2 s => if s.1 0 11 = nI 4 then b_X8_formula_251 (l_X8_formula_192 (nM + 1 + j)) seen r r2 (nI 1) s else b_X8_formula_251 (l_X8_formula_192 (nM + 1 + j)) seen r r2 (nI 0) s) = l_X8_formula_192 (nM + 1 + j) seen τ4 := by
                simp (disch := omega) only [lit, bd2_eq, a5, bh, fo251 hw4, ite_self]
              rw [e3, e4, show nM + 1 + j = (nM + j) + 1 by omega]
              exact GO.flt (f3.trans c7).rf c6
          · have hk3 := tokE q3 (by omega)
            have hw3 := b3.well
            have bh : f_X8_behind (nI 1) (nI 9) τ2 = some (nI 0, τ3) := by
              simp (disch := omega) only [f_X8_behind, b_X8_behind_14, lit, pLeT, pLeF, pLtT, pLtF, pEqT, pEqF, nLeF, nLtF, nI_clamp, or_self, or_false, false_or, not_true_eq_false, not_false_eq_true, ↓reduceIte, nmS_eq, bd1_eq, bd2_eq, nI_add, pEqS, pk_mul, Nat.reduceAdd, Bool.false_eq_true, or_true, true_or, hk2, hk3, b2, flt_figure hw3]
            have e3 : b_X5_readsPrices_4 (l_X5_readsPrices_4 (nX + 1 + j)) seen (nI i) σ = some (nI 0, σ3) := by
              simp (disch := omega) only [b_X5_readsPrices_4, b_X5_readsPrices_82, lit, pLeT, pLeF, pLtT, pLtF, pEqT, pEqF, nLeF, nLtF, nI_clamp, or_self, or_false, false_or, not_true_eq_false, not_false_eq_true, ↓reduceIte, nmS_eq, bd1_eq, bd2_eq, nI_add, pEqS, pk_mul, Nat.reduceAdd, Bool.false_eq_true, or_true, true_or, hl, el, tk, a3, a4, b1]
            have e4 : (bd2 (f_X8_variable seen τ1) fun r s => bd2 (f_X8_behind (nI 1) (nI 9) s) fun r2 s => if s.1 0 11 = nI 4 then b_X8_formula_251 (l_X8_formula_192 (nM + 1 + j)) seen r r2 (nI 1) s else b_X8_formula_251 (l_X8_formula_192 (nM + 1 + j)) seen r r2 (nI 0) s) = l_X8_formula_192 (nM + 1 + j) seen τ3 := by
              simp (disch := omega) only [lit, bd2_eq, a5, bh, fo251 hw3, ite_self]
            rw [e3, e4, show nM + 1 + j = (nM + j) + 1 by omega]
            exact GO.flt (f2.trans b4).rf b3
        · have hw2 := a6.well
          have e3 : b_X5_readsPrices_4 (l_X5_readsPrices_4 (nX + 1 + j)) seen (nI i) σ = some (nI 0, σ2) := by
            simp (disch := omega) only [b_X5_readsPrices_4, b_X5_readsPrices_40, lit, pLeT, pLeF, pLtT, pLtF, pEqT, pEqF, nLeF, nLtF, nI_clamp, or_self, or_false, false_or, not_true_eq_false, not_false_eq_true, ↓reduceIte, nmS_eq, bd1_eq, bd2_eq, nI_add, pEqS, pk_mul, Nat.reduceAdd, Bool.false_eq_true, or_true, true_or, hl, el, tk, a3]
          have e4 : (bd2 (f_X8_variable seen τ1) fun r s => bd2 (f_X8_behind (nI 1) (nI 9) s) fun r2 s => if s.1 0 11 = nI 4 then b_X8_formula_251 (l_X8_formula_192 (nM + 1 + j)) seen r r2 (nI 1) s else b_X8_formula_251 (l_X8_formula_192 (nM + 1 + j)) seen r r2 (nI 0) s) = l_X8_formula_192 (nM + 1 + j) seen τ2 := by
            simp (disch := omega) only [lit, bd2_eq, a5, flt_behind hw2, fo251 hw2, ite_self]
          rw [e3, e4, show nM + 1 + j = (nM + j) + 1 by omega]
          exact GO.flt (g3.trans a7).rf a6
      · have hbb : p < L → t p < 256 := fun z => (h.tx.t p z).1
        have nm : (ltr L t p = nI 109) = False := by
          by_cases q1 : tok L t p = 1
          · have hq := tok1 q1
            rw [hq.2.1]
            exact eq_false (fun e => qm ⟨q1, (nI_eq (by omega) (by omega)).mp e⟩)
          · exact tokn1 q1 hbb (by omega)
        obtain ⟨g1, g2, g3⟩ := h.fail (σ1 := σ) 1 (fun c j _ => rfl) rfl
        generalize hτ : pI (pI τ 0 8 (nI p)) 0 7 (nI 1) = τ1 at g1 g2 g3
        refine ⟨pI σ 13 7 (nI 1), τ, τ1, false, false, ?_, ?_, ?_, ?_, (fun z => by cases z), fun _ => g2, g3.rf⟩
        · simp (disch := omega) only [b_X5_readsPrices_4, b_X5_readsPrices_40, f_X5_takes, f_X5_faulty, lit, pLeT, pLeF, pLtT, pLtF, pEqT, pEqF, nLeF, nLtF, nI_clamp, or_self, or_false, false_or, not_true_eq_false, not_false_eq_true, ↓reduceIte, nmS_eq, bd1_eq, bd2_eq, nI_add, pEqS, pk_mul, Nat.reduceAdd, Bool.false_eq_true, or_true, true_or, hl, el, nm]
        · by_cases q1 : tok L t p = 1
          · have hq := tok1 q1
            have hv := (h.sm.a q1).1
            rw [q1] at hk
            have n1 : (nI (t p) = nI 109) = False := eq_false (fun e => qm ⟨q1, (nI_eq (by omega) (by omega)).mp e⟩)
            simp (disch := omega) only [b_X8_formula_192, lit, pLeT, pLeF, pLtT, pLtF, pEqT, pEqF, nLeF, nLtF, nI_clamp, or_self, or_false, false_or, not_true_eq_false, not_false_eq_true, ↓reduceIte, nmS_eq, bd1_eq, bd2_eq, nI_add, pEqS, pk_mul, Nat.reduceAdd, Bool.false_eq_true, or_true, true_or, hw, hk, hv, n1]
          · have hk1 := tokE q1 (by omega)
            simp (disch := omega) only [b_X8_formula_192, lit, pLeT, pLeF, pLtT, pLtF, pEqT, pEqF, nLeF, nLtF, nI_clamp, or_self, or_false, false_or, not_true_eq_false, not_false_eq_true, ↓reduceIte, nmS_eq, bd1_eq, bd2_eq, nI_add, pEqS, pk_mul, Nat.reduceAdd, Bool.false_eq_true, or_true, true_or, hw, hk, hk1]
        · rw [hk, tokE q0 (by omega)]
          exact propext ⟨fun z => z.elim, fun z => by cases z⟩
        · simp (disch := omega) only [f_X8_must, b_X8_must_18, lit, pLeT, pLeF, pLtT, pLtF, pEqT, pEqF, nLeF, nLtF, nI_clamp, or_self, or_false, false_or, not_true_eq_false, not_false_eq_true, ↓reduceIte, nmS_eq, bd1_eq, bd2_eq, nI_add, pEqS, pk_mul, Nat.reduceAdd, Bool.false_eq_true, or_true, true_or, hw, g1]
/-! the book of a formula that was read -/
abbrev Bf (i : Nat) (σ0 σ : Sto) : Prop := (∀ c j, ¬ (33 ≤ c ∧ c < 97) → σ.1 c j = σ0.1 c j) ∧ (∀ a, a < 30 → σ.1 (36 + 2 * a) 1 = σ0.1 (36 + 2 * a) 1) ∧ (∀ c j, ¬ (36 ≤ c ∧ c < 97) → σ.2 c j = σ0.2 c j) ∧ (σ.1 33 2 = nI 1) ∧ (σ.1 33 3 = nI i) ∧ (σ.1 33 4 = nI (2 ^ i - 1)) ∧ (σ.1 33 5 = -nI 1000000) ∧ (∀ v, v < 8 → σ.1 35 v = σ0.1 16 v) ∧ (∀ a, a < i → σ.1 (36 + 2 * a) 3 = nI 1 ∧ σ.2 (36 + 2 * a) 2 = σ0.2 (17 + 2 * a) 2 ∧ ∀ v, v < 8 → σ.2 (36 + 2 * a + 1) v = σ0.2 (17 + 2 * a + 1) v)
theorem Bf.i {i : Nat} {σ0 σ : Sto} (h : Bf i σ0 σ) : ∀ c j, ¬ (33 ≤ c ∧ c < 97) → σ.1 c j = σ0.1 c j := h.1
theorem Bf.m {i : Nat} {σ0 σ : Sto} (h : Bf i σ0 σ) : ∀ a, a < 30 → σ.1 (36 + 2 * a) 1 = σ0.1 (36 + 2 * a) 1 := h.2.1
theorem Bf.l {i : Nat} {σ0 σ : Sto} (h : Bf i σ0 σ) : ∀ c j, ¬ (36 ≤ c ∧ c < 97) → σ.2 c j = σ0.2 c j := h.2.2.1
theorem Bf.rd {i : Nat} {σ0 σ : Sto} (h : Bf i σ0 σ) : σ.1 33 2 = nI 1 := h.2.2.2.1
theorem Bf.us {i : Nat} {σ0 σ : Sto} (h : Bf i σ0 σ) : σ.1 33 3 = nI i := h.2.2.2.2.1
theorem Bf.lv {i : Nat} {σ0 σ : Sto} (h : Bf i σ0 σ) : σ.1 33 4 = nI (2 ^ i - 1) := h.2.2.2.2.2.1
theorem Bf.bs {i : Nat} {σ0 σ : Sto} (h : Bf i σ0 σ) : σ.1 33 5 = -nI 1000000 := h.2.2.2.2.2.2.1
theorem Bf.pr {i : Nat} {σ0 σ : Sto} (h : Bf i σ0 σ) : ∀ v, v < 8 → σ.1 35 v = σ0.1 16 v := h.2.2.2.2.2.2.2.1
theorem Bf.cl {i : Nat} {σ0 σ : Sto} (h : Bf i σ0 σ) : ∀ a, a < i → σ.1 (36 + 2 * a) 3 = nI 1 ∧ σ.2 (36 + 2 * a) 2 = σ0.2 (17 + 2 * a) 2 ∧ ∀ v, v < 8 → σ.2 (36 + 2 * a + 1) v = σ0.2 (17 + 2 * a + 1) v := h.2.2.2.2.2.2.2.2
theorem bf_loop {n : Nat} (hn : n ≤ 8) (σ0 : Sto) (h5 : σ0.1 13 5 = nI n) (m : Nat) (j : Nat) : ∀ (i : Nat) (σ : Sto), i + j = n → Bf i σ0 σ → ∃ σ', l_X7_formula_37 (m + 1 + j) (nI i) σ = some (nI n, pI (pI σ' 223 3 (nI 0)) 223 4 (nI 0)) ∧ Bf n σ0 σ' := by
  induction j with
  | zero =>
    intro i σ hi b
    have e : i = n := by omega
    subst e
    have e5 : σ.1 13 5 = nI i := by rw [b.i _ _ (by omega)]; exact h5
    refine ⟨σ, ?_, b⟩
    show b_X7_formula_37 _ (nI i) σ = _
    simp (disch := omega) only [b_X7_formula_37, f_X0_forget, lit, pLeT, pLeF, pLtT, pLtF, pEqT, pEqF, nLeF, nLtF, nI_clamp, or_self, or_false, false_or, not_true_eq_false, not_false_eq_true, ↓reduceIte, nmS_eq, bd1_eq, bd2_eq, nI_add, pEqS, pk_mul, Nat.reduceAdd, Bool.false_eq_true, or_true, true_or, e5, pI_nk]
  | succ j ih =>
    intro i σ hi b
    have e5 : σ.1 13 5 = nI n := by rw [b.i _ _ (by omega)]; exact h5
    have us := b.us
    have hnx : f_X2_next 33 σ = some (36 + 2 * i, σ) := by
      simp (disch := omega) only [f_X2_next, lit, pLeT, pLeF, pLtT, pLtF, pEqT, pEqF, nLeF, nLtF, nI_clamp, or_self, or_false, false_or, not_true_eq_false, not_false_eq_true, ↓reduceIte, nmS_eq, bd1_eq, bd2_eq, nI_add, pEqS, pk_mul, Nat.reduceAdd, Bool.false_eq_true, or_true, true_or, us]
    obtain ⟨σ1, c1, c2, c3, c4, c5, c6⟩ := e_X3_become (36 + 2 * i) (17 + 2 * i) σ (by omega)
    have t3 : σ1.1 33 3 = nI i := by rw [c2 _ _ (by omega)]; exact us
    have t4 : σ1.1 33 4 = nI (2 ^ i - 1) := by rw [c2 _ _ (by omega)]; exact b.lv
    have o1 := or32 (pow_1 i).1 (show i < 30 by omega)
    rw [(pow_1 i).2] at o1
    generalize hs4 : pI (pI (pI σ1 (36 + 2 * i) 3 (nI 1)) 33 4 (nI (2 ^ (i + 1) - 1))) 33 3 (nI (i + 1)) = σ4
    have ad : f_X2_add 33 (nI 1) σ1 = some (nI i, σ4) := by
      rw [← hs4]
      simp (disch := omega) only [f_X2_add, lit, pLeT, pLeF, pLtT, pLtF, pEqT, pEqF, nLeF, nLtF, nI_clamp, or_self, or_false, false_or, not_true_eq_false, not_false_eq_true, ↓reduceIte, nmS_eq, bd1_eq, bd2_eq, nI_add, pEqS, pk_mul, Nat.reduceAdd, Bool.false_eq_true, or_true, true_or, t3, t4, o1, pI_nk, pI_nj, pI_at, pk_sub, Nat.add_sub_cancel]
    have x1 : ∀ c j, ¬ (c = 33 ∧ 3 ≤ j ∧ j ≤ 4) → ¬ (c = 36 + 2 * i ∧ j = 3) → σ4.1 c j = σ.1 c j := by
      intro c j n1 n2
      rw [← hs4, pI_no (by omega), pI_no (by omega), pI_no (by omega), c2 _ _ (by omega)]
    have x2 : σ4.2 = σ1.2 := by rw [← hs4, pI_2, pI_2, pI_2]
    have e1 : l_X7_formula_37 (m + 1 + (j + 1)) (nI i) σ = l_X7_formula_37 (m + 1 + j) (nI (i + 1)) σ4 := by
      show b_X7_formula_37 (l_X7_formula_37 (m + 1 + j)) (nI i) σ = _
      simp (disch := omega) only [b_X7_formula_37, lit, pLeT, pLeF, pLtT, pLtF, pEqT, pEqF, nLeF, nLtF, nI_clamp, or_self, or_false, false_or, not_true_eq_false, not_false_eq_true, ↓reduceIte, nmS_eq, bd1_eq, bd2_eq, nI_add, pEqS, pk_mul, Nat.reduceAdd, Bool.false_eq_true, or_true, true_or, e5, hnx, layC (show i < 30 by omega), c1, ad]
    rw [e1]
    refine ih (i + 1) σ4 (by omega) ⟨fun c j n1 => ?_, fun a ha => ?_, fun c j n1 => ?_, ?_, ?_, ?_, ?_, fun v hv => ?_, fun a ha => ?_⟩
    · rw [x1 _ _ (by omega) (by omega)]; exact b.i c j n1
    · rw [x1 _ _ (by omega) (by omega)]; exact b.m a ha
    · rw [x2, c4 _ _ (by omega) (by omega)]; exact b.l c j n1
    · rw [x1 _ _ (by omega) (by omega)]; exact b.rd
    · rw [← hs4, pI_at]
    · rw [← hs4, pI_nj (by omega), pI_at]
    · rw [x1 _ _ (by omega) (by omega)]; exact b.bs
    · rw [x1 _ _ (by omega) (by omega)]; exact b.pr v hv
    · by_cases e : a = i
      · subst e
        refine ⟨by rw [← hs4, pI_nk (by omega), pI_nk (by omega), pI_at], by rw [x2, c5]; exact b.l _ _ (by omega), fun v hv => ?_⟩
        rw [x2, c6 v hv]
        exact b.l _ _ (by omega)
      · obtain ⟨d1, d2, d3⟩ := b.cl a (by omega)
        refine ⟨by rw [x1 _ _ (by omega) (by omega)]; exact d1, by rw [x2, c4 _ _ (by omega) (by omega)]; exact d2, fun v hv => ?_⟩
        rw [x2, c4 _ _ (by omega) (by omega)]
        exact d3 v hv
theorem l_X8_formula2 (τ : Sto) (n : Nat) (j : Nat) : ∀ i, i + j = 312 → l_X8_formula_2 (n + 1 + j) (nI i) (wL τ 7 0 i (fun _ => 0)) = (bd1 (f_X8_begins (pL (pL (wL τ 7 0 312 (fun _ => 0)) 7 8 (-1000000)) 7 11 1)) fun s => l_X8_formula_44 400 s) := by
  induction j with
  | zero =>
    intro i hi
    have e : i = 312 := by omega
    subst e
    show b_X8_formula_2 _ (nI 312) _ = _
    simp (disch := omega) only [b_X8_formula_2, lit, pLeT, pLeF, pLtT, pLtF, pEqT, pEqF, nLeF, nLtF, nI_clamp, or_self, or_false, false_or, not_true_eq_false, not_false_eq_true, ↓reduceIte, nmS_eq, bd1_eq, bd2_eq, nI_add, pEqS, pk_mul, Nat.reduceAdd, Bool.false_eq_true, or_true, true_or]
  | succ j ih0 =>
    intro i hi
    have ih := ih0 (i + 1) (by omega)
    have e3 := wL_s0 (σ := τ) (k := 7) (n := i) (g := fun _ => (0 : Int64)) (x := 0) (Eq.refl _)
    show b_X8_formula_2 (l_X8_formula_2 (n + 1 + j)) (nI i) (wL τ 7 0 i (fun _ => 0)) = _
    simp (disch := omega) only [b_X8_formula_2, lit, pLeT, pLeF, pLtT, pLtF, pEqT, pEqF, nLeF, nLtF, nI_clamp, or_self, or_false, false_or, not_true_eq_false, not_false_eq_true, ↓reduceIte, nmS_eq, bd1_eq, bd2_eq, nI_add, pEqS, pk_mul, Nat.reduceAdd, Bool.false_eq_true, or_true, true_or, e3, ih]
theorem s_formula : Sim RR f_X7_formula f_X8_formula := by
  intro σ τ ⟨u, lv, h⟩
  have hM := l_X8_formula2 τ 87 312 0 (by omega)
  rw [wL_0] at hM
  have hM : f_X8_formula τ = (bd1 (f_X8_begins (pL (pL (wL τ 7 0 312 (fun _ => 0)) 7 8 (-1000000)) 7 11 1)) fun s => l_X8_formula_44 400 s) := hM
  generalize hτ : pL (pL (wL τ 7 0 312 (fun _ => 0)) 7 8 (-1000000)) 7 11 1 = τ0 at hM
  have ag0 : AgM τ τ0 := by
    rw [← hτ]
    refine ⟨fun c j _ => by rw [pL_1, pL_1, wL_1], fun c j q => ?_⟩
    rw [pL_nk (by omega), pL_nk (by omega), wL_k (by omega)]
  have h0 := h.ag (AgX.rfl (u := u) (σ := σ)) ag0
  obtain ⟨L, t, σ1, τ1, a1, a2, a3, a4, a5, a6, a7, a8, a9, a10⟩ := h0.startR
  have d0 : Dr 0 σ1 τ1 := by
    have z7 : ∀ i, i < 312 → i ≠ 8 → i ≠ 11 → τ1.2 7 i = 0 := by
      intro i hi n1 n2
      rw [a10, ← hτ, pL_nj (by omega), pL_nj (by omega), wL_at0 hi]
    have ln0 : lN 0 = 0 := rfl
    refine ⟨by omega, a6, by rw [z7 _ (by omega) (by omega) (by omega)]; rfl, by rw [z7 _ (by omega) (by omega) (by omega)]; rfl, ?_, ?_, fun v hv => ⟨0, by omega, a7 v hv, by rw [z7 _ (by omega) (by omega) (by omega)]; rfl⟩, fun a ha => by omega⟩
    · rw [a10, ← hτ, pL_nj (by omega), pL_at]
      decide
    · rw [a10, ← hτ, pL_at]
  rw [bd1_of a2] at hM
  have hcl := fo_cl (L := L) (t := t) 390 390 9 0 0 σ1 τ1 (by omega) a3 d0 (Or.inl rfl)
  have hcl : FO L t (f_X5_readsClauses σ1) (l_X8_formula_44 400 τ1) σ1 τ1 := hcl
  rw [← hM] at hcl
  have key : ∃ n, GO L t n (f_X5_readsFormula σ) (f_X8_formula τ) σ1 τ1 := by
    rcases hcl with ⟨p', n', σ2, τ2, b1, b2, b3, b4, b5⟩ | ⟨σ2, τ2, b1, b2, b3, b4⟩
    · refine ⟨n', ?_⟩
      have hpr := fo_pr (L := L) (t := t) (n := n') 390 390 9 0 (nI 0) p' σ2 τ2 (by omega) unk0 b3 b4
      have hpr : GO L t n' (f_X5_readsPrices σ2) (b_X8_formula_190 τ2) σ2 τ2 := hpr
      rw [b2]
      obtain ⟨σ', τ', τ'', z, y, g1, g2, g3, g4, g5, g6, g7⟩ := hpr
      refine ⟨σ', τ', τ'', z, y, ?_, g2, g3, g4, g5, g6, b5.trans g7⟩
      cases z <;> simp (disch := omega) only [f_X5_readsFormula, b_X5_readsFormula_22, b_X5_readsFormula_23, lit, pLeT, pLeF, pLtT, pLtF, pEqT, pEqF, nLeF, nLtF, nI_clamp, or_self, or_false, false_or, not_true_eq_false, not_false_eq_true, ↓reduceIte, nmS_eq, bd1_eq, bd2_eq, nI_add, pEqS, pk_mul, Nat.reduceAdd, Bool.false_eq_true, or_true, true_or, a1, b1, g1]
    · refine ⟨0, ?_⟩
      have hw := b3.well
      rw [b2, fo190 hw]
      refine ⟨σ2, τ2, τ2, false, decide (τ2.1 0 11 = nI 0), ?_, rfl, propext ⟨fun z => decide_eq_true z, fun z => of_decide_eq_true z⟩, flt_must hw _, (fun z => by cases z), fun _ => b3, b4⟩
      simp (disch := omega) only [f_X5_readsFormula, b_X5_readsFormula_22, b_X5_readsFormula_23, lit, pLeT, pLeF, pLtT, pLtF, pEqT, pEqF, nLeF, nLtF, nI_clamp, or_self, or_false, false_or, not_true_eq_false, not_false_eq_true, ↓reduceIte, nmS_eq, bd1_eq, bd2_eq, nI_add, pEqS, pk_mul, Nat.reduceAdd, Bool.false_eq_true, or_true, true_or, a1, b1]
  obtain ⟨n, σ2, τ2, τ3, z, y, g1, g2, g3, g4, g5, g6, g7⟩ := key
  have e280 : f_X8_formula τ = b_X8_formula_293 (if y then nI 1 else nI 0) τ2 := by
    rw [g2]
    cases y <;> simp (disch := omega) only [b_X8_formula_280, lit, pLeT, pLeF, pLtT, pLtF, pEqT, pEqF, nLeF, nLtF, nI_clamp, or_self, or_false, false_or, not_true_eq_false, not_false_eq_true, ↓reduceIte, nmS_eq, bd1_eq, bd2_eq, nI_add, pEqS, pk_mul, Nat.reduceAdd, Bool.false_eq_true, or_true, true_or, g3]
  have ft : σ2.1 13 7 = τ3.1 0 7 := by
    cases z
    · exact (g6 rfl).ft
    · exact (g5 rfl).2.1
  have hE : RU u lv σ2 (pI τ3 0 6 (nI 0)) := by
    refine h0.endR (fun c j n1 n2 => by rw [g7.i _ _ (by omega) n2, a4 _ _ (by omega) n2]) (by rw [g7.i _ _ (by omega) (by omega)]; exact a5) (fun c j n1 => by rw [g7.l _ _ n1, a8]) (fun c j n1 => by rw [pI_no (by omega), g7.m _ _ (by omega), a9 _ _ (by omega)]) (pI_at _) (fun c j n1 n2 => by rw [pI_2, g7.n _ _ n1 n2, a10]) ?_
    rw [pI_nj (by omega)]
    exact ft
  generalize hτ4 : pI τ3 0 6 (nI 0) = τ4 at hE
  have e48 : τ4.1 0 8 = τ3.1 0 8 := by rw [← hτ4, pI_nj (by omega)]
  have e42 : τ4.2 = τ3.2 := by rw [← hτ4, pI_2]
  rw [e280]
  cases z
  · obtain ⟨p, p1, p2, p3⟩ := (g6 rfl).pl
    have hw : f_X8_isWell τ4 = some (nI 0, τ4) := flt p1 (by rw [e48]; exact p3)
    refine ⟨-nI 1000100 - nI p, σ2, τ4, ?_, ?_, u, lv, hE⟩
    · simp (disch := omega) only [f_X7_formula, lit, pLeT, pLeF, pLtT, pLtF, pEqT, pEqF, nLeF, nLtF, nI_clamp, or_self, or_false, false_or, not_true_eq_false, not_false_eq_true, ↓reduceIte, nmS_eq, bd1_eq, bd2_eq, nI_add, pEqS, pk_mul, Nat.reduceAdd, Bool.false_eq_true, or_true, true_or, g1, p2]
    · simp (disch := omega) only [b_X8_formula_293, bd1_of g4, lit, nmS_eq, hτ4, hw, bd2_eq, ↓reduceIte, e48, p3]
  · obtain ⟨w8, -, dr⟩ := g5 rfl
    have hw : f_X8_isWell τ4 = some (nI 1, τ4) := well1 (by rw [e48]; exact w8)
    have n8 := dr.n8
    -- the model
    have cp := e_X8_copies 7 312 6 312 0 0 312 τ4 (by omega) (by omega) (by omega) (by omega) (by omega) (by omega)
    generalize hτ5 : pI (wL τ4 6 0 312 (fun t => τ4.2 7 (0 + t))) 0 16 (nI 0) = τ5
    have m1 : ∀ c j, ¬ (c = 0 ∧ j = 16) → τ5.1 c j = τ4.1 c j := by
      intro c j n1
      rw [← hτ5, pI_no n1, wL_1]
    have m2 : ∀ c j, c ≠ 6 → τ5.2 c j = τ4.2 c j := by
      intro c j n1
      rw [← hτ5, pI_2, wL_k (by omega)]
    have m6 : ∀ i, i < 312 → τ5.2 6 i = τ3.2 7 i := by
      intro i hi
      rw [← hτ5, pI_2, wL_at0 hi, Nat.zero_add, e42]
    -- the component
    have hb := e_X2_begin 33 16 σ2
    generalize hs : pI (pI (pI (pI (cpI σ2 16 0 (33 + 2) 0 8) 33 2 (nI 1)) 33 3 (nI 0)) 33 4 (nI 0)) 33 5 (-nI 1000000) = σ3 at hb
    have b0 : Bf 0 σ2 σ3 := by
      refine ⟨fun c j n1 => ?_, fun a ha => ?_, fun c j n1 => ?_, ?_, ?_, ?_, ?_, fun v hv => ?_, fun a ha => by omega⟩
      · rw [← hs, pI_nk (by omega), pI_nk (by omega), pI_nk (by omega), pI_nk (by omega), cpI_k (by omega)]
      · rw [← hs, pI_nk (by omega), pI_nk (by omega), pI_nk (by omega), pI_nk (by omega), cpI_k (by omega)]
      · rw [← hs, pI_2, pI_2, pI_2, pI_2, cpI_2]
      · rw [← hs, pI_nj (by omega), pI_nj (by omega), pI_nj (by omega), pI_at]
      · rw [← hs, pI_nj (by omega), pI_nj (by omega), pI_at]
      · rw [← hs, pI_nj (by omega), pI_at]
      · rw [← hs, pI_at]
      · rw [← hs, pI_nk (by omega), pI_nk (by omega), pI_nk (by omega), pI_nk (by omega), cpI_in (by omega), Nat.zero_add, Nat.sub_zero]
    obtain ⟨σ4, l1, l2⟩ := bf_loop n8 σ2 dr.cn (399 - n) n 0 σ3 (by omega) b0
    rw [show 399 - n + 1 + n = 400 by omega] at l1
    generalize hs5 : pI (pI σ4 223 3 (nI 0)) 223 4 (nI 0) = σ5 at l1
    have y1 : ∀ c j, c ≠ 223 → σ5.1 c j = σ4.1 c j := by
      intro c j n1
      rw [← hs5, pI_nk (by omega), pI_nk (by omega)]
    have y2 : σ5.2 = σ4.2 := by rw [← hs5, pI_2, pI_2]
    have hR : RU n (2 ^ n - 1) σ5 τ5 := by
      refine hE.bkch (fun c j n1 n2 => by rw [y1 _ _ (by omega)]; exact l2.i _ _ n1) (fun c j n1 => by rw [y2]; exact l2.l _ _ (by omega)) m1 (fun j => m2 _ _ (by omega)) ?_ ?_ ?_ ?_ ?_ ?_
      · rw [y1 _ _ (by omega)]; exact Or.inr l2.rd
      · rw [y1 _ _ (by omega)]; exact l2.us
      · rw [y1 _ _ (by omega)]; exact l2.lv
      · refine ⟨by omega, (pow_1 n).1, by rw [m6 _ (by omega)]; exact dr.us, by rw [m6 _ (by omega)]; exact dr.lv, ?_, ?_, fun v hv => ?_, fun a ha => ?_⟩
        · rw [m6 _ (by omega), y1 _ _ (by omega), l2.bs]; exact dr.bs
        · rw [m6 _ (by omega), y1 _ _ (by omega), l2.rd, if_pos rfl]; exact dr.rd
        · obtain ⟨q, q1, q2, q3⟩ := dr.pr v hv
          refine ⟨q, q1, ?_, by rw [m6 _ (by omega)]; exact q3⟩
          rw [y1 _ _ (by omega), l2.pr v hv]
          exact q2
        · have hc := dr.cl a ha
          obtain ⟨c1, c2, c3⟩ := l2.cl a ha
          refine ⟨⟨1, by omega, by omega, by rw [y1 _ _ (by omega)]; exact c1, ?_⟩, ?_, ?_, fun v hv => ⟨?_, ?_⟩⟩
          · show τ5.2 6 (12 + 10 * a + 0) = lN 1
            rw [m6 _ (by omega)]
            exact hc.k
          · rw [y2, c2]; exact hc.a
          · show τ5.2 6 (12 + 10 * a + 1) = _
            rw [m6 _ (by omega), y2, c2]
            exact hc.d
          · rw [y2, c3 v hv]
            have := hc.c v hv
            show (σ2.2 (17 + 2 * a + 1) v).toInt ≠ _
            omega
          · show τ5.2 6 (12 + 10 * a + (2 + v)) = _
            rw [m6 _ (by omega), y2, c3 v hv]
            exact (hc.c v hv).2.2
      · refine ⟨0, 0, fun _ => 0, fun _ => 0, by omega, by omega, ?_, ?_, ?_, fun i hi => by omega, fun i j _ hj => by omega⟩
        · rw [← hs5, pI_nj (by omega), pI_at]
        · rw [← hs5, pI_at]
        · rw [← hτ5, pI_at]
      · intro a ha
        rw [y1 _ _ (by omega), l2.m a ha]
        exact hE.nm a ha
    refine ⟨nI n, σ5, τ5, ?_, ?_, n, _, hR⟩
    · simp (disch := omega) only [f_X7_formula, lit, pLeT, pLeF, pLtT, pLtF, pEqT, pEqF, nLeF, nLtF, nI_clamp, or_self, or_false, false_or, not_true_eq_false, not_false_eq_true, ↓reduceIte, nmS_eq, bd1_eq, bd2_eq, nI_add, pEqS, pk_mul, Nat.reduceAdd, Bool.false_eq_true, or_true, true_or, g1, hb, l1]
    · have e9 : (τ5.2 6 9).toInt32 = nI n := by rw [hR.bk.wu, lN_i]
      simp (disch := omega) only [b_X8_formula_293, bd1_of g4, lit, pLeT, pLeF, pLtT, pLtF, pEqT, pEqF, nLeF, nLtF, nI_clamp, or_self, or_false, false_or, not_true_eq_false, not_false_eq_true, ↓reduceIte, nmS_eq, bd1_eq, bd2_eq, nI_add, pEqS, pk_mul, Nat.reduceAdd, Bool.false_eq_true, or_true, true_or, hτ4, hw, cp, hτ5, e9]
