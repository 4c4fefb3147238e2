/-! ===== solution ===== -/
theorem prA_N {c : Nat → Int32} (hc : ∀ v, v < 8 → c v = nI (c v).toNatClampNeg) (x : Int32) (j : Nat) : ∀ i s, i + j = 8 → ∃ p, prA c x j i (nI s) = nI p ∧ ∀ t, s ≤ t → p ≤ prN c j i t := by
  induction j with
  | zero => intro i s _; exact ⟨s, rfl, fun t ht => ht⟩
  | succ j ih =>
    intro i s hi
    have e := hc i (by omega)
    cases hb : bt x i
    · obtain ⟨p, p1, p2⟩ := ih (i + 1) s (by omega)
      refine ⟨p, ?_, fun t ht => p2 _ (by omega)⟩
      show prA c x j (i + 1) (if bt x i then nI s + c i else nI s) = nI p
      rw [hb]
      exact p1
    · obtain ⟨p, p1, p2⟩ := ih (i + 1) (s + (c i).toNatClampNeg) (by omega)
      refine ⟨p, ?_, fun t ht => p2 _ (by omega)⟩
      show prA c x j (i + 1) (if bt x i then nI s + c i else nI s) = nI p
      rw [hb, if_pos rfl, e, nI_add]
      exact p1
theorem RU.prp {u lv : Nat} {σ τ : Sto} (h : RU u lv σ τ) (x : Int32) : ∃ p, prc (σ.1 35) x = nI p ∧ p ≤ prN (σ.1 35) 8 0 0 := by
  obtain ⟨p, p1, p2⟩ := prA_N (c := σ.1 35) (fun v hv => (h.prs hv).2.1) x 8 0 0 (by omega)
  exact ⟨p, p1, p2 0 (Nat.le_refl _)⟩
theorem neg9 : ∀ p, p < 10 → (-nI p).toInt64 = -lN p ∧ (-lN p).toInt = -(p : Int) := by decide +kernel
theorem l_X3_becomeBound (k : Nat) (σ : Sto) (x y : Int32) (n : Nat) (j : Nat) : ∀ i, i + j = 8 → l_X3_becomeBound_3 k 35 8 (n + 1 + j) x y (nI i) (wL σ (k + 1) 0 i (fun v => (-(σ.1 35 v)).toInt64)) = some (pL (wL σ (k + 1) 0 8 (fun v => (-(σ.1 35 v)).toInt64)) k 2 ((x - y + nI 1).toInt64)) := by
  induction j with
  | zero =>
    intro i hi
    have e : i = 8 := by omega
    subst e
    show b_X3_becomeBound_3 _ k 35 8 x y (nI 8) _ = _
    simp (disch := omega) only [b_X3_becomeBound_3, lit, pLeT, pLeF, pLtT, pLtF, pEqT, pEqF, nLeF, nLtF, nI_clamp, or_self, or_false, false_or, not_true_eq_false, not_false_eq_true, ↓reduceIte, nmS_eq, bd1_eq, bd2_eq, nI_add, pEqS, pk_mul, Nat.reduceAdd, Bool.false_eq_true, or_true, true_or]
  | succ j ih0 =>
    intro i hi
    have ih := ih0 (i + 1) (by omega)
    have e1 : (wL σ (k + 1) 0 i (fun v => (-(σ.1 35 v)).toInt64)).1 35 i = σ.1 35 i := by rw [wL_1]
    have e3 := wL_s0 (σ := σ) (k := k + 1) (n := i) (g := fun v => (-(σ.1 35 v)).toInt64) rfl
    show b_X3_becomeBound_3 (l_X3_becomeBound_3 k 35 8 (n + 1 + j)) k 35 8 x y (nI i) (wL σ (k + 1) 0 i (fun v => (-(σ.1 35 v)).toInt64)) = _
    simp (disch := omega) only [b_X3_becomeBound_3, lit, pLeT, pLeF, pLtT, pLtF, pEqT, pEqF, nLeF, nLtF, nI_clamp, or_self, or_false, false_or, not_true_eq_false, not_false_eq_true, ↓reduceIte, nmS_eq, bd1_eq, bd2_eq, nI_add, pEqS, pk_mul, Nat.reduceAdd, Bool.false_eq_true, or_true, true_or, e1, e3, ih]
theorem l_X8_solution (x : Int32) (τ : Sto) (n : Nat) (j : Nat) : ∀ i, i + j = 8 → l_X8_solution_110 (n + 1 + j) x (nI i) (wL τ 11 2 i (fun v => -(τ.2 6 v))) = (bd2 (f_X8_comes (nI 3) (wL τ 11 2 8 (fun v => -(τ.2 6 v)))) fun _ s => b_X8_solution_153 x s) := by
  induction j with
  | zero =>
    intro i hi
    have e : i = 8 := by omega
    subst e
    show b_X8_solution_110 _ x (nI 8) _ = _
    simp (disch := omega) only [b_X8_solution_110, lit, pLeT, pLeF, pLtT, pLtF, pEqT, pEqF, nLeF, nLtF, nI_clamp, or_self, or_false, false_or, not_true_eq_false, not_false_eq_true, ↓reduceIte, nmS_eq, bd1_eq, bd2_eq, nI_add, pEqS, pk_mul, Nat.reduceAdd, Bool.false_eq_true, or_true, true_or]
  | succ j ih0 =>
    intro i hi
    have ih := ih0 (i + 1) (by omega)
    have e1 : (wL τ 11 2 i (fun v => -(τ.2 6 v))).2 6 i = τ.2 6 i := wL_k (by omega)
    have e3 := wL_s (σ := τ) (k := 11) (lo := 2) (n := i) (g := fun v => -(τ.2 6 v)) rfl
    show b_X8_solution_110 (l_X8_solution_110 (n + 1 + j)) x (nI i) (wL τ 11 2 i (fun v => -(τ.2 6 v))) = _
    simp (disch := omega) only [b_X8_solution_110, lit, pLeT, pLeF, pLtT, pLtF, pEqT, pEqF, nLeF, nLtF, nI_clamp, or_self, or_false, false_or, not_true_eq_false, not_false_eq_true, ↓reduceIte, nmS_eq, bd1_eq, bd2_eq, nI_add, pEqS, pk_mul, Nat.reduceAdd, Bool.false_eq_true, or_true, true_or, e1, e3, ih]
/-- what comes in the model, on its own -/
theorem RU.comesM {u lv : Nat} {σ1 τ τ1 : Sto} (h1 : RU u lv σ1 τ1) (hu : u < 30) (k2 : f_X8_notes τ = some τ1) {q : Nat} (q5 : q ≤ 5) : ∃ τ2, f_X8_comes (nI q) τ = some (nI u, τ2) ∧ (∀ c j, τ2.1 c j = τ1.1 c j) ∧ (∀ c j, c = 8 ∨ c = 9 → τ2.2 c j = τ1.2 c j) ∧ τ2.2 6 9 = lN (u + 1) ∧ τ2.2 6 10 = lN (lv + 2 ^ u) ∧ τ2.2 6 (12 + 10 * u) = lN q ∧ (∀ i, 1 ≤ i → i < 10 → τ2.2 6 (12 + 10 * u + i) = τ1.2 11 i) ∧ ∀ i, i < 12 + 10 * u → i ≠ 9 → i ≠ 10 → τ2.2 6 i = τ1.2 6 i := by
  have e3 := h1.bk.wu
  have e4 := h1.bk.wl
  have o2 := or64 h1.bk.hl hu
  have cp := e_X8_copies 11 10 6 312 0 (12 + 10 * u) 10 (pL τ1 11 0 (lN q)) (by omega) (by omega) (by omega) (by omega) (by omega) (by omega)
  have cu : (wL (pL τ1 11 0 (lN q)) 6 (12 + 10 * u) 10 (fun t => (pL τ1 11 0 (lN q)).2 11 (0 + t))).2 6 10 = lN lv := by rw [wL_out (by omega), pL_nk (by omega)]; exact e4
  have cv : (wL (pL τ1 11 0 (lN q)) 6 (12 + 10 * u) 10 (fun t => (pL τ1 11 0 (lN q)).2 11 (0 + t))).2 6 9 = lN u := by rw [wL_out (by omega), pL_nk (by omega)]; exact e3
  generalize ht2 : wL (pL τ1 11 0 (lN q)) 6 (12 + 10 * u) 10 (fun t => (pL τ1 11 0 (lN q)).2 11 (0 + t)) = τ2 at cp cu cv
  have nq : (nI q).toInt64 = lN q := nI_l (by omega)
  refine ⟨pL (pL τ2 6 10 (lN (lv + 2 ^ u))) 6 9 (lN (u + 1)), ?_, ?_, ?_, ?_, ?_, ?_, ?_, ?_⟩
  · simp (disch := omega) only [f_X8_comes, lit, pLeT, pLeF, pLtT, pLtF, pEqT, pEqF, nLeF, nLtF, nI_clamp, or_self, or_false, false_or, not_true_eq_false, not_false_eq_true, ↓reduceIte, nmS_eq, bd1_eq, bd2_eq, nI_add, pEqS, pk_mul, Nat.reduceAdd, Bool.false_eq_true, or_true, true_or, k2, e3, lN_i, nq, cp, cu, cv, o2, lN_1, pL_nj, pL_at]
  · intro c j
    rw [pL_1, pL_1, ← ht2, wL_1, pL_1]
  · intro c j hc
    rw [pL_nk (by omega), pL_nk (by omega), ← ht2, wL_k (by omega), pL_nk (by omega)]
  · rw [pL_at]
  · rw [pL_nj (by omega), pL_at]
  · rw [pL_nj (by omega), pL_nj (by omega), ← ht2]
    show (wL (pL τ1 11 0 (lN q)) 6 (12 + 10 * u) 10 (fun t => (pL τ1 11 0 (lN q)).2 11 (0 + t))).2 6 (12 + 10 * u + 0) = _
    rw [wL_at (by omega), Nat.zero_add, pL_at]
  · intro i i1 i2
    rw [pL_nj (by omega), pL_nj (by omega), ← ht2, wL_at i2, Nat.zero_add, pL_nj (by omega)]
  · intro i n1 n2 n3
    rw [pL_nj (by omega), pL_nj (by omega), ← ht2, wL_out (by omega), pL_nk (by omega)]
/-- the best one is put down -/
theorem RU.bestch {u lv : Nat} {σ τ : Sto} (h : RU u lv σ τ) (x : Int32) : RU u lv (pI σ 33 5 x) (pL τ 6 8 x.toInt64) := by
  have hb := h.bk
  have x1 : ∀ c j, ¬ (c = 33 ∧ j = 5) → (pI σ 33 5 x).1 c j = σ.1 c j := fun c j q => pI_no q
  have hu := hb.hu
  refine h.bkch (fun c j _ _ => x1 _ _ (by omega)) (fun c j _ => by rw [pI_2]) (fun c j _ => by rw [pL_1]) (fun j => pL_nk (by omega)) ?_ ?_ ?_ ?_ ?_ ?_
  · rw [x1 _ _ (by omega)]; exact h.rd
  · rw [x1 _ _ (by omega)]; exact h.us
  · rw [x1 _ _ (by omega)]; exact h.lv
  · refine ⟨hb.hu, hb.hl, ?_, ?_, ?_, ?_, fun v hv => ?_, fun a ha => ?_⟩
    · rw [pL_nj (by omega)]; exact hb.wu
    · rw [pL_nj (by omega)]; exact hb.wl
    · rw [pL_at, pI_at]
    · rw [pL_nj (by omega), x1 _ _ (by omega)]; exact hb.wi
    · rw [pL_nj (by omega), x1 _ _ (by omega)]; exact hb.pr v hv
    · exact (hb.cl a ha).cong (x1 _ _ (by omega)) (by rw [pI_2]) (fun v hv => by rw [pI_2]) (fun i hi => pL_nj (by omega))
  · exact h.acs (Nat.le_refl _) (fun c j hc => x1 _ _ (by omega)) (x1 _ _ (by omega)) (fun j => x1 _ _ (by omega)) (fun a ha => ⟨x1 _ _ (by omega), by rw [pI_2], fun v hv => by rw [pI_2]⟩) (by rw [pL_1]) (fun j => pL_nk (by omega))
  · intro a ha
    rw [x1 _ _ (by omega)]
    exact h.nm a ha
theorem s_solution (x : Int32) : Sim RR (f_X7_solution x) (f_X8_solution x) := by
  intro σ τ ⟨u, lv, h⟩
  have hF := e_X8_isFormula h
  have hfx := (e_X2_isFull h).1
  have hfu := (e_X2_isFull h).2
  have hX := h.allX
  have hM := h.allM
  have hap := h.allp
  generalize hP : prN (σ.1 35) 8 0 0 = P at hX hM hap
  rcases h.rd with q | q
  · rw [q] at hF
    refine ⟨-nI 1000002, σ, τ, ?_, ?_, u, lv, h⟩
    · simp (disch := omega) only [f_X7_solution, lit, pLeT, pLeF, pLtT, pLtF, pEqT, pEqF, nLeF, nLtF, nI_clamp, or_self, or_false, false_or, not_true_eq_false, not_false_eq_true, ↓reduceIte, nmS_eq, bd1_eq, bd2_eq, nI_add, pEqS, pk_mul, Nat.reduceAdd, Bool.false_eq_true, or_true, true_or, q]
    · simp (disch := omega) only [f_X8_solution, lit, pLeT, pLeF, pLtT, pLtF, pEqT, pEqF, nLeF, nLtF, nI_clamp, or_self, or_false, false_or, not_true_eq_false, not_false_eq_true, ↓reduceIte, nmS_eq, bd1_eq, bd2_eq, nI_add, pEqS, pk_mul, Nat.reduceAdd, Bool.false_eq_true, or_true, true_or, hF]
  · rw [q] at hF
    cases hx : inr x 256
    · refine ⟨-nI 1000001, σ, τ, ?_, ?_, u, lv, h⟩
      · simp (disch := omega) only [f_X7_solution, lit, pLeT, pLeF, pLtT, pLtF, pEqT, pEqF, nLeF, nLtF, nI_clamp, or_self, or_false, false_or, not_true_eq_false, not_false_eq_true, ↓reduceIte, nmS_eq, bd1_eq, bd2_eq, nI_add, pEqS, pk_mul, Nat.reduceAdd, Bool.false_eq_true, or_true, true_or, q, e_X7_isSet, hx]
      · simp (disch := omega) only [f_X8_solution, lit, pLeT, pLeF, pLtT, pLtF, pEqT, pEqF, nLeF, nLtF, nI_clamp, or_self, or_false, false_or, not_true_eq_false, not_false_eq_true, ↓reduceIte, nmS_eq, bd1_eq, bd2_eq, nI_add, pEqS, pk_mul, Nat.reduceAdd, Bool.false_eq_true, or_true, true_or, hF, e_inr, hx]
    · have key : ∀ z : Bool, (z = true → u < 30) → ∃ r σ' τ', b_X7_solution_56 x (if z then nI 1 else nI 0) σ = some (r, σ') ∧ b_X8_solution_53 x (if z then nI 1 else nI 0) τ = some (r, τ') ∧ RR σ' τ' := by
        intro z hz
        obtain ⟨o, z1, z2, z3⟩ := h.over
        cases o
        · obtain ⟨w1, w2⟩ := h.hold x
          cases hw : anyA (nho σ lv x) u 0
          · rw [hw] at w1 w2
            obtain ⟨p, p1, p2⟩ := h.prp x
            rw [hP] at p2
            have pm := h.prcM x
            rw [p1] at pm
            cases z
            · obtain ⟨σ1, τ1, k1, k2, h1, kp⟩ := h.keep
              have e35 : σ1.1 35 = σ.1 35 := funext fun j => kp.i 35 j (by omega)
              have px := e_X2_priceOf x σ1
              rw [e35, p1] at px
              refine ⟨nI p, pI (pI σ1 33 5 (nI p)) 0 7 (nI 0), pI (pL τ1 6 8 (nI p).toInt64) 0 4 (nI 0), ?_, ?_, u, lv, (h1.bestch _).find _⟩
              · simp (disch := omega) only [b_X7_solution_56, b_X7_solution_161, lit, pLeT, pLeF, pLtT, pLtF, pEqT, pEqF, nLeF, nLtF, nI_clamp, or_self, or_false, false_or, not_true_eq_false, not_false_eq_true, ↓reduceIte, nmS_eq, bd1_eq, bd2_eq, nI_add, pEqS, pk_mul, Nat.reduceAdd, Bool.false_eq_true, or_true, true_or, z1, w1, k1, px, pI_at, e_X7_well]
              · simp (disch := omega) only [b_X8_solution_53, b_X8_solution_153, lit, pLeT, pLeF, pLtT, pLtF, pEqT, pEqF, nLeF, nLtF, nI_clamp, or_self, or_false, false_or, not_true_eq_false, not_false_eq_true, ↓reduceIte, nmS_eq, bd1_eq, bd2_eq, nI_add, pEqS, pk_mul, Nat.reduceAdd, Bool.false_eq_true, or_true, true_or, z2, w2, pm, k2, e_X8_well]
            · have hu := hz rfl
              -- the model makes the bound first
              have sM := l_X8_solution (nI p) (pL τ 11 1 (lN (P - p + 1))) 391 8 0 (by omega)
              rw [wL_0] at sM
              generalize hta : wL (pL τ 11 1 (lN (P - p + 1))) 11 2 8 (fun v => -((pL τ 11 1 (lN (P - p + 1))).2 6 v)) = τa at sM
              have ma : Mx 11 τ τa := by
                rw [← hta]
                exact (Mx.p _ _).trans (Mx.w _ _ _)
              have da : τa.2 11 1 = lN (P - p + 1) := by rw [← hta, wL_out (by omega), pL_at]
              have ca : ∀ v, v < 8 → τa.2 11 (2 + v) = -(τ.2 6 v) := by
                intro v hv
                rw [← hta, wL_at hv, pL_nk (by omega)]
              have ha := h.ag (AgX.rfl (u := u) (σ := σ)) (ma.ag (by omega))
              obtain ⟨σ1, τ1, k1, k2, h1, kp⟩ := ha.keep
              obtain ⟨τ2, c1, c2, c3, c4, c5, c6, c7, c8⟩ := h1.comesM hu k2 (q := 3) (by omega)
              have e35 : σ1.1 35 = σ.1 35 := funext fun j => kp.i 35 j (by omega)
              have px := e_X2_priceOf x σ1
              rw [e35, p1] at px
              have e35b : (pI σ1 33 5 (nI p)).1 35 = σ.1 35 := by
                rw [← e35]
                funext j
                exact pI_nk (by omega)
              have pa := e_X2_priceOf (nI 255) (pI σ1 33 5 (nI p))
              rw [e35b, hap.1] at pa
              have u1 : (pI σ1 33 5 (nI p)).1 33 3 = nI u := by rw [pI_nj (by omega)]; exact h1.us
              have bd := l_X3_becomeBound (36 + 2 * u) (pI σ1 33 5 (nI p)) (nI P) (nI p) 391 8 0 (by omega)
              rw [wL_0, e35b] at bd
              have sub1 : (nI P - nI p + nI 1).toInt64 = lN (P - p + 1) := by
                rw [pk_sub p2, nI_add, nI_l (by omega)]
              rw [sub1] at bd
              generalize hs3 : pL (wL (pI σ1 33 5 (nI p)) (36 + 2 * u + 1) 0 8 (fun v => (-(σ.1 35 v)).toInt64)) (36 + 2 * u) 2 (lN (P - p + 1)) = σ3 at bd
              have bd : f_X3_becomeBound (36 + 2 * u) 35 8 (nI P) (nI p) (pI σ1 33 5 (nI p)) = some σ3 := bd
              have s31 : σ3.1 = (pI σ1 33 5 (nI p)).1 := by rw [← hs3, pL_1, wL_1]
              have s32 : ∀ c j, c ≠ 36 + 2 * u → c ≠ 36 + 2 * u + 1 → σ3.2 c j = σ1.2 c j := by
                intro c j n1 n2
                rw [← hs3, pL_nk (by omega), wL_k (by omega), pI_2]
              have s33 : σ3.2 (36 + 2 * u) 2 = lN (P - p + 1) := by rw [← hs3, pL_at]
              have s34 : ∀ v, v < 8 → σ3.2 (36 + 2 * u + 1) v = (-(σ.1 35 v)).toInt64 := by
                intro v hv
                rw [← hs3, pL_nk (by omega), wL_at0 hv]
              have o1 := or32 h1.bk.hl hu
              have t3 : σ3.1 33 3 = nI u := by rw [s31]; exact u1
              have t4 : σ3.1 33 4 = nI lv := by rw [s31, pI_nj (by omega)]; exact h1.lv
              generalize hs4 : pI (pI (pI σ3 (36 + 2 * u) 3 (nI 3)) 33 4 (nI (lv + 2 ^ u))) 33 3 (nI (u + 1)) = σ4
              have ad : f_X2_add 33 (nI 3) σ3 = some (nI u, σ4) := by
                rw [← hs4]
                simp (disch := omega) only [f_X2_add, lit, pLeT, pLeF, pLtT, pLtF, pEqT, pEqF, nLeF, nLtF, nI_clamp, or_self, or_false, false_or, not_true_eq_false, not_false_eq_true, ↓reduceIte, nmS_eq, bd1_eq, bd2_eq, nI_add, pEqS, pk_mul, Nat.reduceAdd, Bool.false_eq_true, or_true, true_or, t3, t4, o1, pI_nk, pI_nj, pI_at, pk_sub, Nat.add_sub_cancel]
              have x1 : ∀ c j, ¬ (c = 33 ∧ 3 ≤ j ∧ j ≤ 5) → ¬ (c = 36 + 2 * u ∧ j = 3) → σ4.1 c j = σ1.1 c j := by
                intro c j n1 n2
                rw [← hs4, pI_no (by omega), pI_no (by omega), pI_no (by omega), s31, pI_no (by omega)]
              have x2 : σ4.2 = σ3.2 := by rw [← hs4, pI_2, pI_2, pI_2]
              have x5 : σ4.1 33 5 = nI p := by rw [← hs4, pI_nj (by omega), pI_nj (by omega), pI_nk (by omega), s31, pI_at]
              have hR : RU (u + 1) (lv + 2 ^ u) σ4 (pL τ2 6 8 (nI p).toInt64) := by
                refine h1.addP hu x1 (fun c j n1 n2 => by rw [x2]; exact s32 c j n1 n2) (by rw [← hs4, pI_at]) (by rw [← hs4, pI_nj (by omega), pI_at]) ?_ (fun c j => by rw [pL_1]; exact c2 c j) (fun c j hc => by rw [pL_nk (by omega)]; exact c3 c j hc) (by rw [pL_at, x5]) (by rw [pL_nj (by omega)]; exact c4) (by rw [pL_nj (by omega)]; exact c5) (fun i n1 n2 n3 n4 => by rw [pL_nj (by omega)]; exact c8 i n1 n3 n4)
                refine ⟨⟨3, by omega, by omega, by rw [← hs4, pI_nk (by omega), pI_nk (by omega), pI_at], ?_⟩, ?_, ?_, fun v hv => ⟨?_, ?_⟩⟩
                · show (pL τ2 6 8 (nI p).toInt64).2 6 (12 + 10 * u + 0) = _
                  rw [pL_nj (by omega)]
                  exact c6
                · rw [x2, s33, lN_toInt (by omega)]
                  omega
                · show (pL τ2 6 8 (nI p).toInt64).2 6 (12 + 10 * u + 1) = _
                  rw [pL_nj (by omega), c7 1 (by omega) (by omega), kp.n _ _ (by omega), da, x2, s33]
                · have hp := h.prs hv
                  rw [x2, s34 v hv, hp.2.1, (neg9 _ (by omega)).1]
                  show (-lN (σ.1 35 v).toNatClampNeg).toInt ≠ _
                  rw [(neg9 _ (by omega)).2]
                  omega
                · have hp := h.prs hv
                  show (pL τ2 6 8 (nI p).toInt64).2 6 (12 + 10 * u + (2 + v)) = _
                  rw [pL_nj (by omega), c7 (2 + v) (by omega) (by omega), kp.n _ _ (by omega), ca v hv, x2, s34 v hv, hp.2.2]
                  have e := (neg9 _ (show (σ.1 35 v).toNatClampNeg < 10 by omega)).1
                  rw [← hp.2.1] at e
                  exact e.symm
              refine ⟨nI p, pI σ4 0 7 (nI 0), pI (pL τ2 6 8 (nI p).toInt64) 0 4 (nI 0), ?_, ?_, u + 1, _, hR.find _⟩
              · simp (disch := omega) only [b_X7_solution_56, b_X7_solution_161, f_X2_next, f_X2_allPrices, lit, pLeT, pLeF, pLtT, pLtF, pEqT, pEqF, nLeF, nLtF, nI_clamp, or_self, or_false, false_or, not_true_eq_false, not_false_eq_true, ↓reduceIte, nmS_eq, bd1_eq, bd2_eq, nI_add, pEqS, pk_mul, Nat.reduceAdd, Bool.false_eq_true, or_true, true_or, z1, w1, k1, px, u1, layC hu, pa, pI_at, bd, ad, x5, e_X7_well]
              · have sub2 : lN P - (nI p).toInt64 + 1 = lN (P - p + 1) := by rw [nI_l (by omega), lN_sub p2, lN_1]
                have sM : l_X8_solution_110 400 (nI p) (nI 0) (pL τ 11 1 (lN (P - p + 1))) = some (nI p, pI (pL τ2 6 8 (nI p).toInt64) 0 4 (nI 0)) := by
                  refine sM.trans ?_
                  rw [bd2_of c1]
                  rfl
                simp (disch := omega) only [b_X8_solution_53, lit, pLeT, pLeF, pLtT, pLtF, pEqT, pEqF, nLeF, nLtF, nI_clamp, or_self, or_false, false_or, not_true_eq_false, not_false_eq_true, ↓reduceIte, nmS_eq, bd1_eq, bd2_eq, nI_add, pEqS, pk_mul, Nat.reduceAdd, Bool.false_eq_true, or_true, true_or, z2, w2, pm, hM, sub2, sM]
          · rw [hw] at w1 w2
            refine ⟨-nI 1000000, pI σ 0 7 (nI 0), pI τ 0 4 (nI 0), ?_, ?_, u, lv, h.find _⟩
            · simp (disch := omega) only [b_X7_solution_56, lit, pLeT, pLeF, pLtT, pLtF, pEqT, pEqF, nLeF, nLtF, nI_clamp, or_self, or_false, false_or, not_true_eq_false, not_false_eq_true, ↓reduceIte, nmS_eq, bd1_eq, bd2_eq, nI_add, pEqS, pk_mul, Nat.reduceAdd, Bool.false_eq_true, or_true, true_or, z1, w1, e_X7_well]
            · simp (disch := omega) only [b_X8_solution_53, lit, pLeT, pLeF, pLtT, pLtF, pEqT, pEqF, nLeF, nLtF, nI_clamp, or_self, or_false, false_or, not_true_eq_false, not_false_eq_true, ↓reduceIte, nmS_eq, bd1_eq, bd2_eq, nI_add, pEqS, pk_mul, Nat.reduceAdd, Bool.false_eq_true, or_true, true_or, z2, w2, e_X8_well]
        · refine ⟨-nI 1000010 - nI 6, pI σ 0 7 (nI 6), pI τ 0 4 (nI 6), ?_, ?_, u, lv, h.find _⟩
          · simp (disch := omega) only [b_X7_solution_56, lit, pLeT, pLeF, pLtT, pLtF, pEqT, pEqF, nLeF, nLtF, nI_clamp, or_self, or_false, false_or, not_true_eq_false, not_false_eq_true, ↓reduceIte, nmS_eq, bd1_eq, bd2_eq, nI_add, pEqS, pk_mul, Nat.reduceAdd, Bool.false_eq_true, or_true, true_or, z1, e_X7_found]
          · simp (disch := omega) only [b_X8_solution_53, lit, pLeT, pLeF, pLtT, pLtF, pEqT, pEqF, nLeF, nLtF, nI_clamp, or_self, or_false, false_or, not_true_eq_false, not_false_eq_true, ↓reduceIte, nmS_eq, bd1_eq, bd2_eq, nI_add, pEqS, pk_mul, Nat.reduceAdd, Bool.false_eq_true, or_true, true_or, z2, e_X8_found]
      by_cases P0 : P = 0
      · subst P0
        obtain ⟨r, σ', τ', j1, j2, j3⟩ := key false (fun z => by cases z)
        have l0 : (lN 0 ≤ (0 : Int64)) = True := eq_true (by decide)
        refine ⟨r, σ', τ', ?_, ?_, j3⟩
        · rw [if_neg (by decide)] at j1
          simp (disch := omega) only [f_X7_solution, b_X7_solution_38, lit, pLeT, pLeF, pLtT, pLtF, pEqT, pEqF, nLeF, nLtF, nI_clamp, or_self, or_false, false_or, not_true_eq_false, not_false_eq_true, ↓reduceIte, nmS_eq, bd1_eq, bd2_eq, nI_add, pEqS, pk_mul, Nat.reduceAdd, Bool.false_eq_true, or_true, true_or, q, e_X7_isSet, hx, hX, j1]
        · rw [if_neg (by decide)] at j2
          simp (disch := omega) only [f_X8_solution, b_X8_solution_38, lit, pLeT, pLeF, pLtT, pLtF, pEqT, pEqF, nLeF, nLtF, nI_clamp, or_self, or_false, false_or, not_true_eq_false, not_false_eq_true, ↓reduceIte, nmS_eq, bd1_eq, bd2_eq, nI_add, pEqS, pk_mul, Nat.reduceAdd, Bool.false_eq_true, or_true, true_or, hF, e_inr, hx, hM, l0, j2]
      · have lp : (lN P ≤ (0 : Int64)) = False := eq_false (fun z => by
          rw [leL, lN_toInt (by omega), toI0] at z
          omega)
        by_cases hu : u < 30
        · rw [if_pos hu] at hfx hfu
          obtain ⟨r, σ', τ', j1, j2, j3⟩ := key true (fun _ => hu)
          refine ⟨r, σ', τ', ?_, ?_, j3⟩
          · rw [if_pos rfl] at j1
            simp (disch := omega) only [f_X7_solution, b_X7_solution_38, lit, pLeT, pLeF, pLtT, pLtF, pEqT, pEqF, nLeF, nLtF, nI_clamp, or_self, or_false, false_or, not_true_eq_false, not_false_eq_true, ↓reduceIte, nmS_eq, bd1_eq, bd2_eq, nI_add, pEqS, pk_mul, Nat.reduceAdd, Bool.false_eq_true, or_true, true_or, q, e_X7_isSet, hx, hX, hfx, j1]
          · rw [if_pos rfl] at j2
            simp (disch := omega) only [f_X8_solution, b_X8_solution_38, lit, pLeT, pLeF, pLtT, pLtF, pEqT, pEqF, nLeF, nLtF, nI_clamp, or_self, or_false, false_or, not_true_eq_false, not_false_eq_true, ↓reduceIte, nmS_eq, bd1_eq, bd2_eq, nI_add, pEqS, pk_mul, Nat.reduceAdd, Bool.false_eq_true, or_true, true_or, hF, e_inr, hx, hM, lp, hfu, j2]
        · rw [if_neg hu] at hfx hfu
          refine ⟨-nI 1000003, σ, τ, ?_, ?_, u, lv, h⟩
          · simp (disch := omega) only [f_X7_solution, b_X7_solution_38, lit, pLeT, pLeF, pLtT, pLtF, pEqT, pEqF, nLeF, nLtF, nI_clamp, or_self, or_false, false_or, not_true_eq_false, not_false_eq_true, ↓reduceIte, nmS_eq, bd1_eq, bd2_eq, nI_add, pEqS, pk_mul, Nat.reduceAdd, Bool.false_eq_true, or_true, true_or, q, e_X7_isSet, hx, hX, hfx]
          · simp (disch := omega) only [f_X8_solution, b_X8_solution_38, lit, pLeT, pLeF, pLtT, pLtF, pEqT, pEqF, nLeF, nLtF, nI_clamp, or_self, or_false, false_or, not_true_eq_false, not_false_eq_true, ↓reduceIte, nmS_eq, bd1_eq, bd2_eq, nI_add, pEqS, pk_mul, Nat.reduceAdd, Bool.false_eq_true, or_true, true_or, hF, e_inr, hx, hM, lp, hfu]
