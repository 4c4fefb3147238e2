/-! ===== claim ===== -/
theorem RU.startR {u lv : Nat} {σ τ : Sto} (h : RU u lv σ τ) : ∃ (L : Nat) (t : Nat → Nat) (σ1 τ1 : Sto), f_X5_begin σ = some σ1 ∧ f_X8_begins τ = some τ1 ∧ Sy L t 0 σ1 τ1 ∧ (∀ c j, ¬ (c = 13 ∧ 3 ≤ j ∧ j ≤ 6) → c ≠ 16 → σ1.1 c j = σ.1 c j) ∧ σ1.1 13 3 = nI 0 ∧ σ1.1 13 5 = nI 0 ∧ (∀ v, v < 8 → σ1.1 16 v = nI 0) ∧ σ1.2 = σ.2 ∧ (∀ c j, ¬ (c = 0 ∧ 8 ≤ j ∧ j ≤ 12) → τ1.1 c j = τ.1 c j) ∧ τ1.2 = τ.2 := by
  obtain ⟨L, l1, l2, l3, l4⟩ := h.tp
  have hfill : ∀ s : Sto, f_J7_fill_53178 16 8 (nI 0) s = some (wI s 16 0 8 (fun _ => nI 0)) := by
    intro s
    have h := l_J7_fillI 16 8 (nI 0) s (by omega) 391 8 0 (by omega)
    rw [wI_0] at h
    unfold f_J7_fill_53178
    rw [nmS_eq]
    exact h
  generalize hs : wI (pI (pI (pI (pI σ 13 4 (nI L)) 13 3 (nI 0)) 13 6 (nI 0)) 13 5 (nI 0)) 16 0 8 (fun _ => nI 0) = σ1
  have hX : f_X5_begin σ = some σ1 := by
    rw [← hs]
    simp (disch := omega) only [f_X5_begin, lit, pLeT, pLeF, pLtT, pLtF, pEqT, pEqF, nLeF, nLtF, nI_clamp, or_self, or_false, false_or, not_true_eq_false, not_false_eq_true, ↓reduceIte, nmS_eq, bd1_eq, bd2_eq, nI_add, pEqS, pk_mul, Nat.reduceAdd, Bool.false_eq_true, or_true, true_or, l2, hfill]
  have x1 : ∀ c j, ¬ (c = 13 ∧ 3 ≤ j ∧ j ≤ 6) → c ≠ 16 → σ1.1 c j = σ.1 c j := by
    intro c j n1 n2
    rw [← hs, wI_k (by omega), pI_no (by omega), pI_no (by omega), pI_no (by omega), pI_no (by omega)]
  have ht : ∀ i, i < L → (σ.1 14 i).toNatClampNeg < 256 ∧ σ.1 14 i = nI (σ.1 14 i).toNatClampNeg ∧ τ.1 5 i = nI (σ.1 14 i).toNatClampNeg := by
    intro i hi
    obtain ⟨c, c1, c2, c3⟩ := l4 i hi
    rw [c2, nI_clamp (by omega)]
    exact ⟨c1, rfl, c3⟩
  generalize hT : pI (pI τ 0 9 (nI 0)) 0 8 (-nI 1) = τ0
  have m0 : ∀ c j, ¬ (c = 0 ∧ 8 ≤ j ∧ j ≤ 12) → τ0.1 c j = τ.1 c j := by
    intro c j n1
    rw [← hT, pI_no (by omega), pI_no (by omega)]
  have tm0 : TM L (fun i => (σ.1 14 i).toNatClampNeg) τ0 := ⟨l1, by rw [m0 _ _ (by omega)]; exact l3, fun i hi => ⟨(ht i hi).1, by rw [m0 _ _ (by omega)]; exact (ht i hi).2.2⟩⟩
  obtain ⟨τ1, a1, a2, a3⟩ := e_X8_advances tm0 (Nat.zero_le L) (show τ0.1 0 9 = nI 0 by rw [← hT, pI_nj (by omega), pI_at]) (show τ0.1 0 8 = -nI 1 by rw [← hT, pI_at])
  refine ⟨L, fun i => (σ.1 14 i).toNatClampNeg, σ1, τ1, hX, ?_, ⟨⟨l1, ?_, fun i hi => ⟨(ht i hi).1, by rw [x1 _ _ (by omega) (by omega)]; exact (ht i hi).2.1⟩⟩, tm0.lm a3, Nat.zero_le _, ?_, a2, ?_⟩, x1, ?_, ?_, ?_, ?_, ?_, ?_⟩
  · simp (disch := omega) only [f_X8_begins, lit, pLeT, pLeF, pLtT, pLtF, pEqT, pEqF, nLeF, nLtF, nI_clamp, or_self, or_false, false_or, not_true_eq_false, not_false_eq_true, ↓reduceIte, nmS_eq, bd1_eq, bd2_eq, nI_add, pEqS, pk_mul, Nat.reduceAdd, Bool.false_eq_true, or_true, true_or, hT, a1]
  · rw [← hs, wI_k (by omega), pI_nj (by omega), pI_nj (by omega), pI_nj (by omega), pI_at]
  · rw [← hs, wI_k (by omega), pI_nj (by omega), pI_at]
  · rw [x1 _ _ (by omega) (by omega), a3.i _ _ (by omega), m0 _ _ (by omega)]
    exact h.ft
  · rw [← hs, wI_k (by omega), pI_nj (by omega), pI_nj (by omega), pI_at]
  · rw [← hs, wI_k (by omega), pI_at]
  · intro v hv
    rw [← hs, wI_at0 hv]
  · rw [← hs, wI_2, pI_2, pI_2, pI_2, pI_2]
  · intro c j n1
    rw [a3.i _ _ (by omega), m0 _ _ n1]
  · rw [a3.l, ← hT, pI_2, pI_2]
theorem RU.endR {u lv : Nat} {σ τ σ' τ' : Sto} (h : RU u lv σ τ) (x1 : ∀ c j, c ≠ 13 → c ≠ 16 → σ'.1 c j = σ.1 c j) (x3 : σ'.1 13 3 = nI 0) (x2 : ∀ c j, ¬ (17 ≤ c ∧ c < 33) → σ'.2 c j = σ.2 c j) (m1 : ∀ c j, ¬ (c = 0 ∧ 6 ≤ j ∧ j ≤ 12) → τ'.1 c j = τ.1 c j) (m6 : τ'.1 0 6 = nI 0) (m2 : ∀ c j, c ≠ 7 → c ≠ 11 → τ'.2 c j = τ.2 c j) (ft : σ'.1 13 7 = τ'.1 0 7) : RU u lv σ' τ' := by
  refine h.upd (fun c j _ _ => x1 _ _ (by omega) (by omega)) (fun c j _ _ => x2 _ _ (by omega)) (fun c j q => m1 _ _ (by omega)) (fun c j q => m2 _ _ (by omega) (by omega)) ?_ ?_ ⟨0, by omega, x3, m6, fun i hi => by omega⟩ ft
  · rw [x1 _ _ (by omega) (by omega), m1 _ _ (by omega)]; exact h.st
  · intro r hr
    unfold Rw
    rw [x1 12 r (by omega) (by omega), x1 11 r (by omega) (by omega), m1 1 r (by omega), m1 2 r (by omega)]
    rcases h.rw r hr with q | ⟨n, l, q1, q2, q3, q4, q5, q6, q7⟩
    · exact Or.inl q
    · refine Or.inr ⟨n, l, q1, q2, q3, q4, q5, q6, fun i hi => ?_⟩
      rw [x1 _ _ (by omega) (by omega), m1 _ _ (by omega)]
      exact q7 i hi
/-- a claim is read -/
abbrev Cd (σ τ : Sto) : Prop := (Ck 17 σ τ) ∧ (0 ≤ (σ.2 17 2).toInt) ∧ ((σ.2 17 2).toInt ≤ 99) ∧ (τ.2 11 1 = σ.2 17 2)
theorem Cd.c {σ τ : Sto} (h : Cd σ τ) : Ck 17 σ τ := h.1
theorem Cd.a {σ τ : Sto} (h : Cd σ τ) : 0 ≤ (σ.2 17 2).toInt := h.2.1
theorem Cd.b {σ τ : Sto} (h : Cd σ τ) : (σ.2 17 2).toInt ≤ 99 := h.2.2.1
theorem Cd.d {σ τ : Sto} (h : Cd σ τ) : τ.2 11 1 = σ.2 17 2 := h.2.2.2
theorem RU.rdClaim {u lv : Nat} {σ τ : Sto} (h : RU u lv σ τ) : ∃ (σ' τ1 τ2 τ3 : Sto) (z y : Bool), f_X5_readsClaim σ = some (if z then nI 1 else nI 0, σ') ∧ f_X8_begins τ = some τ1 ∧ f_X8_readsClause τ1 = some τ2 ∧ (τ2.1 0 11 = nI 0) = (y = true) ∧ f_X8_must (if y then nI 1 else nI 0) τ2 = some τ3 ∧ RU u lv σ' (pI τ3 0 6 (nI 0)) ∧ f_X8_isWell (pI τ3 0 6 (nI 0)) = some (if z then nI 1 else nI 0, pI τ3 0 6 (nI 0)) ∧ (z = false → σ'.1 13 6 = τ3.1 0 8) ∧ (z = true → Cd σ' (pI τ3 0 6 (nI 0))) ∧ (∀ c j, c ≠ 13 → c ≠ 16 → σ'.1 c j = σ.1 c j) := by
  obtain ⟨L, t, σ1, τ1, a1, a2, a3, a4, a5, a6, a7, a8, a9, a10⟩ := h.startR
  have fin : ∀ (σ' τ3 : Sto), Rc 17 σ1 τ1 σ' τ3 → σ'.1 13 7 = τ3.1 0 7 → RU u lv σ' (pI τ3 0 6 (nI 0)) := by
    intro σ' τ3 r ft
    refine h.endR (fun c j n1 n2 => by rw [r.i _ _ (by omega), a4 _ _ (by omega) n2]) (by rw [r.i _ _ (by omega)]; exact a5) (fun c j n1 => by rw [r.l _ _ (by omega) (by omega), a8]) (fun c j n1 => by rw [pI_no (by omega), r.m _ _ (by omega), a9 _ _ (by omega)]) (pI_at _) (fun c j n1 n2 => by rw [pI_2, r.n _ _ n2, a10]) ?_
    rw [pI_nj (by omega)]
    exact ft
  have frm : ∀ (σ' τ3 : Sto), Rc 17 σ1 τ1 σ' τ3 → ∀ c j, c ≠ 13 → c ≠ 16 → σ'.1 c j = σ.1 c j := fun σ' τ3 r c j n1 n2 => by rw [r.i _ _ (by omega), a4 _ _ (by omega) n2]
  rcases a3.clause (k := 17) (by omega) with ⟨p, σ2, τ2, b1, b2, b3, b4, b5, b6, b7, b8⟩ | ⟨σ2, τ2, b1, b2, b3, b4⟩
  · have hn := b3.tx.n
    have hp := b3.hp
    have hl := e_X5_letter b3.tx (by omega) b3.px
    have hw := well1 b3.sm.w
    have hk := b3.sm.k
    by_cases q : tok L t p = 0
    · have el : ltr L t p = -nI 1 := by
        rcases tok_cases (L := L) (t := t) (p := p) with z | ⟨z1, z2, -⟩
        · exact z.2
        · exact absurd q z2
      rw [el] at hl
      refine ⟨σ2, τ1, τ2, τ2, true, true, ?_, a2, b2, ?_, ?_, fin _ _ b8 b3.ft, ?_, (fun z => by cases z), fun _ => ?_, frm _ _ b8⟩
      · simp (disch := omega) only [f_X5_readsClaim, b_X5_readsClaim_33, b_X5_readsClaim_38, lit, pLeT, pLeF, pLtT, pLtF, pEqT, pEqF, nLeF, nLtF, nI_clamp, or_self, or_false, false_or, not_true_eq_false, not_false_eq_true, ↓reduceIte, nmS_eq, bd1_eq, bd2_eq, nI_add, pEqS, pk_mul, Nat.reduceAdd, Bool.false_eq_true, or_true, true_or, a1, b1, hl, Nat.mul_zero, Nat.add_zero]
      · rw [hk, q]
        exact propext ⟨fun _ => rfl, fun _ => rfl⟩
      · simp (disch := omega) only [f_X8_must, b_X8_must_18, lit, pLeT, pLeF, pLtT, pLtF, pEqT, pEqF, nLeF, nLtF, nI_clamp, or_self, or_false, false_or, not_true_eq_false, not_false_eq_true, ↓reduceIte, nmS_eq, bd1_eq, bd2_eq, nI_add, pEqS, pk_mul, Nat.reduceAdd, Bool.false_eq_true, or_true, true_or, hw]
      · exact well1 (by rw [pI_nj (by omega)]; exact b3.sm.w)
      · refine ⟨?_, b5, b6, by rw [pI_2]; exact b7⟩
        intro v hv
        rw [pI_2]
        exact b4 v hv
    · have el : (ltr L t p = -nI 1) = False := eq_false (fun e => by
        rcases tok_cases (L := L) (t := t) (p := p) with z | ⟨z1, z2, z3, -⟩
        · exact q z.1
        · rw [z3] at e
          have hc := (b3.tx.t p z1).1
          have h2 := congrArg Int32.toInt e
          rw [nI_toInt (by omega)] at h2
          have : (-nI 1).toInt = -1 := by decide
          omega)
      obtain ⟨g1, g2, g3⟩ := b3.fail (σ1 := σ2) 1 (fun c j _ => rfl) rfl
      refine ⟨pI σ2 13 7 (nI 1), τ1, τ2, _, false, false, ?_, a2, b2, ?_, ?_, fin _ _ (b8.trans g3.rc) g2.ft, ?_, fun _ => ?_, (fun z => by cases z), frm _ _ (b8.trans g3.rc)⟩
      · simp (disch := omega) only [f_X5_readsClaim, b_X5_readsClaim_33, b_X5_readsClaim_37, b_X5_readsClaim_38, f_X5_faulty, lit, pLeT, pLeF, pLtT, pLtF, pEqT, pEqF, nLeF, nLtF, nI_clamp, or_self, or_false, false_or, not_true_eq_false, not_false_eq_true, ↓reduceIte, nmS_eq, bd1_eq, bd2_eq, nI_add, pEqS, pk_mul, Nat.reduceAdd, Bool.false_eq_true, or_true, true_or, a1, b1, hl, el, Nat.mul_zero, Nat.add_zero]
      · rw [hk, tokE q (by omega)]
        exact propext ⟨fun z => z.elim, fun z => by cases z⟩
      · simp (disch := omega) only [f_X8_must, b_X8_must_18, lit, pLeT, pLeF, pLtT, pLtF, pEqT, pEqF, nLeF, nLtF, nI_clamp, or_self, or_false, false_or, not_true_eq_false, not_false_eq_true, ↓reduceIte, nmS_eq, bd1_eq, bd2_eq, nI_add, pEqS, pk_mul, Nat.reduceAdd, Bool.false_eq_true, or_true, true_or, hw, g1]
      · exact flt (p := p) (by omega) (by rw [pI_nj (by omega), pI_nj (by omega), pI_at])
      · obtain ⟨p9, q1, q2, q3⟩ := g2.pl
        rw [q2, q3]
  · have hw := b3.well
    obtain ⟨p, p1, p2, p3⟩ := b3.pl
    refine ⟨σ2, τ1, τ2, τ2, false, decide (τ2.1 0 11 = nI 0), ?_, a2, b2, ?_, flt_must hw _, fin _ _ b4 b3.ft, ?_, fun _ => by rw [p2, p3], (fun z => by cases z), frm _ _ b4⟩
    · simp (disch := omega) only [f_X5_readsClaim, b_X5_readsClaim_37, b_X5_readsClaim_38, lit, pLeT, pLeF, pLtT, pLtF, pEqT, pEqF, nLeF, nLtF, nI_clamp, or_self, or_false, false_or, not_true_eq_false, not_false_eq_true, ↓reduceIte, nmS_eq, bd1_eq, bd2_eq, nI_add, pEqS, pk_mul, Nat.reduceAdd, Bool.false_eq_true, or_true, true_or, a1, b1, Nat.mul_zero, Nat.add_zero]
    · exact propext ⟨fun z => decide_eq_true z, fun z => of_decide_eq_true z⟩
    · exact flt p1 (by rw [pI_nj (by omega)]; exact p3)
theorem tot_small {c : Nat → Int64} (hc : ∀ v, v < 8 → -99 ≤ (c v).toInt ∧ (c v).toInt ≤ 99) : okC c ∧ 0 ≤ tot c ∧ (tot c).toInt ≤ 792 := by
  have okc : okC c := fun v hv => by
    show (c v).toInt ≠ _
    have := hc v hv
    omega
  have hm : ∀ v, v < 8 → (mabs (c v)).toInt ≤ 99 := by
    intro v hv
    rw [mabs_int (okc v hv)]
    have := hc v hv
    split <;> omega
  have hs : ∀ (j i : Nat), i + j ≤ 8 → sumN c j i ≤ 99 * j := by
    intro j
    induction j with
    | zero => intro i _; exact Int.le_refl _
    | succ j ih =>
      intro i hi
      have h1 := ih (i + 1) (by omega)
      have h2 := hm i (by omega)
      unfold sumN
      omega
  have h8 := hs 8 0 (by omega)
  have hn := sumN_nn okc 8 0 (by omega)
  rcases tot_int okc with z | z
  · exact ⟨okc, by rw [leL, toI0, z.2]; exact hn, by rw [z.2]; exact h8⟩
  · omega
/-- a claim that is proved comes -/
theorem RU.claimed {u lv : Nat} {σ τ : Sto} (h : RU u lv σ τ) (hu : u < 30) (hc : Cd σ τ) : ∃ σ' τ', b_X7_claimOfTape_93 17 (nI 1) σ = some (nI u, pI σ' 0 7 (nI 0)) ∧ f_X8_comes (nI 5) τ = some (nI u, τ') ∧ RU (u + 1) (lv + 2 ^ u) σ' τ' := by
  obtain ⟨σ1, b1, b2, b3, b4, b5, b6⟩ := e_X3_become (36 + 2 * u) 17 σ (by omega)
  have hnx := h.next hu
  have ag : AgX u σ σ1 := ⟨fun c j q => b2 _ _ (by omega), fun c j q => b4 _ _ (by omega) (by omega)⟩
  have ok0 := (tot_small (c := σ.2 (17 + 1)) (fun v hv => ⟨(hc.c v hv).1, (hc.c v hv).2.1⟩)).1
  obtain ⟨σ2, τ2, k1, k2, k3⟩ := h.made hu ag AgM.rfl (q := 5) (by omega) (by omega) (D := σ.2 17 2) (C := σ.2 (17 + 1)) hc.a ok0 b5 b6 hc.d (fun v hv => (hc.c v hv).2.2)
  refine ⟨σ2, τ2, ?_, k2, k3⟩
  simp (disch := omega) only [b_X7_claimOfTape_93, lit, pLeT, pLeF, pLtT, pLtF, pEqT, pEqF, nLeF, nLtF, nI_clamp, or_self, or_false, false_or, not_true_eq_false, not_false_eq_true, ↓reduceIte, nmS_eq, bd1_eq, bd2_eq, nI_add, pEqS, pk_mul, Nat.reduceAdd, Bool.false_eq_true, or_true, true_or, hnx, layC hu, b1, k1, e_X7_well]
theorem s_claim : Sim RR f_X7_claim f_X8_claim := by
  intro σ τ ⟨u, lv, h⟩
  have hF := e_X8_isFormula h
  rcases h.rd with q | q
  · rw [q] at hF
    refine ⟨-nI 1000002, σ, τ, ?_, ?_, u, lv, h⟩
    · simp (disch := omega) only [f_X7_claim, lit, pLeT, pLeF, pLtT, pLtF, pEqT, pEqF, nLeF, nLtF, nI_clamp, or_self, or_false, false_or, not_true_eq_false, not_false_eq_true, ↓reduceIte, nmS_eq, bd1_eq, bd2_eq, nI_add, pEqS, pk_mul, Nat.reduceAdd, Bool.false_eq_true, or_true, true_or, q]
    · simp (disch := omega) only [f_X8_claim, lit, pLeT, pLeF, pLtT, pLtF, pEqT, pEqF, nLeF, nLtF, nI_clamp, or_self, or_false, false_or, not_true_eq_false, not_false_eq_true, ↓reduceIte, nmS_eq, bd1_eq, bd2_eq, nI_add, pEqS, pk_mul, Nat.reduceAdd, Bool.false_eq_true, or_true, true_or, hF]
  · rw [q] at hF
    obtain ⟨σ1, τ1, τ2, τ3, z, y, a1, a2, a3, a4, a5, a6, a7, a8, a9, a10⟩ := h.rdClaim
    have eM : f_X8_claim τ = b_X8_claim_31 (if y then nI 1 else nI 0) τ2 := by
      cases y <;> simp (disch := omega) only [f_X8_claim, lit, pLeT, pLeF, pLtT, pLtF, pEqT, pEqF, nLeF, nLtF, nI_clamp, or_self, or_false, false_or, not_true_eq_false, not_false_eq_true, ↓reduceIte, nmS_eq, bd1_eq, bd2_eq, nI_add, pEqS, pk_mul, Nat.reduceAdd, Bool.false_eq_true, or_true, true_or, hF, a2, a3, a4]
    rw [eM]
    have eX : f_X7_claim σ = (bd2 (f_X7_claimOfTape (-nI 1) σ) fun r s => some (r, s)) := by
      simp (disch := omega) only [f_X7_claim, lit, pLeT, pLeF, pLtT, pLtF, pEqT, pEqF, nLeF, nLtF, nI_clamp, or_self, or_false, false_or, not_true_eq_false, not_false_eq_true, ↓reduceIte, nmS_eq, bd1_eq, bd2_eq, nI_add, pEqS, pk_mul, Nat.reduceAdd, Bool.false_eq_true, or_true, true_or, q]
    rw [eX, bd2_eta]
    generalize hτ : pI τ3 0 6 (nI 0) = τ4 at a6 a7 a9
    cases z
    · have e8 : τ4.1 0 8 = σ1.1 13 6 := by rw [← hτ, pI_nj (by omega)]; exact (a8 rfl).symm
      refine ⟨-nI 1000100 - σ1.1 13 6, σ1, τ4, ?_, ?_, u, lv, a6⟩
      · simp (disch := omega) only [f_X7_claimOfTape, lit, pLeT, pLeF, pLtT, pLtF, pEqT, pEqF, nLeF, nLtF, nI_clamp, or_self, or_false, false_or, not_true_eq_false, not_false_eq_true, ↓reduceIte, nmS_eq, bd1_eq, bd2_eq, nI_add, pEqS, pk_mul, Nat.reduceAdd, Bool.false_eq_true, or_true, true_or, a1]
      · simp (disch := omega) only [b_X8_claim_31, bd1_of a5, lit, nmS_eq, hτ, a7, Bool.false_eq_true, bd2_eq, ↓reduceIte, e8]
    · have hc := a9 rfl
      have fx := (e_X2_isFull a6).1
      have fm := (e_X2_isFull a6).2
      by_cases hu : u < 30
      · rw [if_pos hu] at fx fm
        obtain ⟨o, o1, o2, o3⟩ := a6.over
        cases o
        · have ts := tot_small (c := σ1.2 (17 + 1)) (fun v hv => ⟨(hc.c v hv).1, (hc.c v hv).2.1⟩)
          obtain ⟨w, σ5, τ5, g1, g2, g3, g4⟩ := a6.follow 17 11 10 0 228 (σ1.1 33 4) (-nI 1000000) false (fun b hb => by rw [lvb a6 hb, memM_none hb]) (by omega) (Or.inl rfl) (by omega) (by omega) (by omega) (fun v hv => ⟨ts.1 v hv, by rw [Nat.zero_add]; exact (hc.c v hv).2.2⟩) (by rw [Nat.zero_add]; exact hc.d) hc.a ts.2.1 a6.noth.1 a6.noth.2
          rw [if_neg (by decide)] at g2
          have hR := a6.ag (g3.ag (u := u)) g4.ag
          have hF1 : f_X4_followsFromAll 17 σ1 = some (if w then nI 1 else nI 0, σ5) := by
            cases w <;> simp (disch := omega) only [f_X4_followsFromAll, lit, pLeT, pLeF, pLtT, pLtF, pEqT, pEqF, nLeF, nLtF, nI_clamp, or_self, or_false, false_or, not_true_eq_false, not_false_eq_true, ↓reduceIte, nmS_eq, bd1_eq, bd2_eq, nI_add, pEqS, pk_mul, Nat.reduceAdd, Bool.false_eq_true, or_true, true_or, g1]
          cases w
          · refine ⟨-nI 1000000, pI σ5 0 7 (nI 0), pI τ5 0 4 (nI 0), ?_, ?_, u, lv, hR.find _⟩
            · simp (disch := omega) only [f_X7_claimOfTape, b_X7_claimOfTape_93, lit, pLeT, pLeF, pLtT, pLtF, pEqT, pEqF, nLeF, nLtF, nI_clamp, or_self, or_false, false_or, not_true_eq_false, not_false_eq_true, ↓reduceIte, nmS_eq, bd1_eq, bd2_eq, nI_add, pEqS, pk_mul, Nat.reduceAdd, Bool.false_eq_true, or_true, true_or, a1, fx, o1, neg1, hF1, e_X7_well, Nat.mul_zero, Nat.add_zero]
            · simp (disch := omega) only [b_X8_claim_31, b_X8_claim_104, bd1_of a5, lit, pLeT, pLeF, pLtT, pLtF, pEqT, pEqF, nLeF, nLtF, nI_clamp, or_self, or_false, false_or, not_true_eq_false, not_false_eq_true, ↓reduceIte, nmS_eq, bd1_eq, bd2_eq, nI_add, pEqS, pk_mul, Nat.reduceAdd, Bool.false_eq_true, or_true, true_or, hτ, a7, fm, o2, g2, e_X8_well]
          · have hc5 : Cd σ5 τ5 := by
              refine ⟨fun v hv => ?_, ?_, ?_, ?_⟩
              · rw [g3.l _ _ (by omega) (by omega), g4.l _ _ (by omega)]
                exact hc.c v hv
              · rw [g3.l _ _ (by omega) (by omega)]; exact hc.a
              · rw [g3.l _ _ (by omega) (by omega)]; exact hc.b
              · rw [g3.l _ _ (by omega) (by omega), g4.l _ _ (by omega)]; exact hc.d
            obtain ⟨σ6, τ6, k1, k2, k3⟩ := hR.claimed hu hc5
            refine ⟨nI u, pI σ6 0 7 (nI 0), pI τ6 0 4 (nI 0), ?_, ?_, u + 1, _, k3.find _⟩
            · simp (disch := omega) only [f_X7_claimOfTape, lit, pLeT, pLeF, pLtT, pLtF, pEqT, pEqF, nLeF, nLtF, nI_clamp, or_self, or_false, false_or, not_true_eq_false, not_false_eq_true, ↓reduceIte, nmS_eq, bd1_eq, bd2_eq, nI_add, pEqS, pk_mul, Nat.reduceAdd, Bool.false_eq_true, or_true, true_or, a1, fx, o1, neg1, hF1, Nat.mul_zero, Nat.add_zero, k1]
            · simp (disch := omega) only [b_X8_claim_31, b_X8_claim_104, bd1_of a5, lit, pLeT, pLeF, pLtT, pLtF, pEqT, pEqF, nLeF, nLtF, nI_clamp, or_self, or_false, false_or, not_true_eq_false, not_false_eq_true, ↓reduceIte, nmS_eq, bd1_eq, bd2_eq, nI_add, pEqS, pk_mul, Nat.reduceAdd, Bool.false_eq_true, or_true, true_or, hτ, a7, fm, o2, g2, k2, e_X8_well]
        · refine ⟨-nI 1000010 - nI 6, pI σ1 0 7 (nI 6), pI τ4 0 4 (nI 6), ?_, ?_, u, lv, a6.find _⟩
          · simp (disch := omega) only [f_X7_claimOfTape, lit, pLeT, pLeF, pLtT, pLtF, pEqT, pEqF, nLeF, nLtF, nI_clamp, or_self, or_false, false_or, not_true_eq_false, not_false_eq_true, ↓reduceIte, nmS_eq, bd1_eq, bd2_eq, nI_add, pEqS, pk_mul, Nat.reduceAdd, Bool.false_eq_true, or_true, true_or, a1, fx, o1, e_X7_found]
          · simp (disch := omega) only [b_X8_claim_31, bd1_of a5, lit, pLeT, pLeF, pLtT, pLtF, pEqT, pEqF, nLeF, nLtF, nI_clamp, or_self, or_false, false_or, not_true_eq_false, not_false_eq_true, ↓reduceIte, nmS_eq, bd1_eq, bd2_eq, nI_add, pEqS, pk_mul, Nat.reduceAdd, Bool.false_eq_true, or_true, true_or, hτ, a7, fm, o2, e_X8_found]
      · rw [if_neg hu] at fx fm
        refine ⟨-nI 1000003, σ1, τ4, ?_, ?_, u, lv, a6⟩
        · simp (disch := omega) only [f_X7_claimOfTape, lit, pLeT, pLeF, pLtT, pLtF, pEqT, pEqF, nLeF, nLtF, nI_clamp, or_self, or_false, false_or, not_true_eq_false, not_false_eq_true, ↓reduceIte, nmS_eq, bd1_eq, bd2_eq, nI_add, pEqS, pk_mul, Nat.reduceAdd, Bool.false_eq_true, or_true, true_or, a1, fx]
        · simp (disch := omega) only [b_X8_claim_31, bd1_of a5, lit, pLeT, pLeF, pLtT, pLtF, pEqT, pEqF, nLeF, nLtF, nI_clamp, or_self, or_false, false_or, not_true_eq_false, not_false_eq_true, ↓reduceIte, nmS_eq, bd1_eq, bd2_eq, nI_add, pEqS, pk_mul, Nat.reduceAdd, Bool.false_eq_true, or_true, true_or, hτ, a7, fm]
