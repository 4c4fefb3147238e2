/-! ===== forced, follows ===== -/
theorem mem_but (x : Int32) {a b : Nat} (ha : a < 32) (hb : b < 32) : bt (x &&& ((nI 1 <<< (nI a &&& nI 31)) ^^^ -nI 1)) b = (bt x b && !decide (b = a)) := by
  have h : bt (-nI 1) b = true := b_m1 b hb
  rw [b_and, b_xor, one_bt ha hb, h]
  cases decide (b = a) <;> rfl
theorem memM_none {lv a : Nat} (ha : a < 30) : memM lv (-nI 1000000) a = lv.testBit a := by
  unfold memM
  rw [decide_eq_false (of_eq_false (encne (by omega)))]
  simp
theorem memM_but {lv a b : Nat} (ha : a < 30) (hb : b < 30) : memM lv (nI b) a = (lv.testBit a && !decide (a = b)) := by
  unfold memM
  by_cases e : a = b
  · subst e
    rw [decide_eq_true rfl, decide_eq_true rfl]
  · rw [decide_eq_false e, decide_eq_false (of_eq_false (pEqF (by omega) (by omega) (by omega)))]
theorem RU.noth {u lv : Nat} {σ τ : Sto} (h : RU u lv σ τ) : (∀ v, v < 8 → σ.2 (228 + 1) v = fl2 false (fun v => τ.2 13 (0 + 2 + v)) v) ∧ σ.2 228 2 = fd2 false (τ.2 13 (0 + 1)) := by
  refine ⟨fun v hv => ?_, ?_⟩
  · rw [fl2_f]
    exact h.no.2 v hv
  · rw [fd2_f]
    exact h.no.1
theorem and_cm (x y : Int32) : x &&& y = y &&& x := b_ext (fun i _ => by rw [b_and, b_and, Bool.and_comm])
theorem s_forced (x y w : Int32) : Sim RR (f_X7_forced x y w) (f_X8_forced x y w) := by
  intro σ τ ⟨u, lv, h⟩
  have hF := e_X8_isFormula h
  rcases h.rd with q | q
  · rw [q] at hF
    refine ⟨-nI 1000002, σ, τ, ?_, ?_, u, lv, h⟩
    · simp (disch := omega) only [f_X7_forced, lit, pLeT, pLeF, pLtT, pLtF, pEqT, pEqF, nLeF, nLtF, nI_clamp, or_self, or_false, false_or, not_true_eq_false, not_false_eq_true, ↓reduceIte, nmS_eq, bd1_eq, bd2_eq, nI_add, pEqS, pk_mul, Nat.reduceAdd, Bool.false_eq_true, or_true, true_or, q]
    · simp (disch := omega) only [f_X8_forced, lit, pLeT, pLeF, pLtT, pLtF, pEqT, pEqF, nLeF, nLtF, nI_clamp, or_self, or_false, false_or, not_true_eq_false, not_false_eq_true, ↓reduceIte, nmS_eq, bd1_eq, bd2_eq, nI_add, pEqS, pk_mul, Nat.reduceAdd, Bool.false_eq_true, or_true, true_or, hF]
  · rw [q] at hF
    have e5 : w ≤ nI 2 ↔ ¬ nI 3 ≤ w := by rw [← lt_le1 (n := 2) (by omega)]; exact (Int32.not_lt).symm
    cases hx : inr x 256
    · refine ⟨-nI 1000001, σ, τ, ?_, ?_, u, lv, h⟩
      · simp (disch := omega) only [f_X7_forced, b_X7_forced_36, lit, pLeT, pLeF, pLtT, pLtF, pEqT, pEqF, nLeF, nLtF, nI_clamp, or_self, or_false, false_or, not_true_eq_false, not_false_eq_true, ↓reduceIte, nmS_eq, bd1_eq, bd2_eq, nI_add, pEqS, pk_mul, Nat.reduceAdd, Bool.false_eq_true, or_true, true_or, q, e_X7_isSet, hx]
      · simp (disch := omega) only [f_X8_forced, b_X8_forced_41, lit, pLeT, pLeF, pLtT, pLtF, pEqT, pEqF, nLeF, nLtF, nI_clamp, or_self, or_false, false_or, not_true_eq_false, not_false_eq_true, ↓reduceIte, nmS_eq, bd1_eq, bd2_eq, nI_add, pEqS, pk_mul, Nat.reduceAdd, Bool.false_eq_true, or_true, true_or, hF, e_inr, hx]
    · cases hy : inr y 256
      · refine ⟨-nI 1000001, σ, τ, ?_, ?_, u, lv, h⟩
        · simp (disch := omega) only [f_X7_forced, b_X7_forced_36, lit, pLeT, pLeF, pLtT, pLtF, pEqT, pEqF, nLeF, nLtF, nI_clamp, or_self, or_false, false_or, not_true_eq_false, not_false_eq_true, ↓reduceIte, nmS_eq, bd1_eq, bd2_eq, nI_add, pEqS, pk_mul, Nat.reduceAdd, Bool.false_eq_true, or_true, true_or, q, e_X7_isSet, hx, hy]
        · simp (disch := omega) only [f_X8_forced, b_X8_forced_41, lit, pLeT, pLeF, pLtT, pLtF, pEqT, pEqF, nLeF, nLtF, nI_clamp, or_self, or_false, false_or, not_true_eq_false, not_false_eq_true, ↓reduceIte, nmS_eq, bd1_eq, bd2_eq, nI_add, pEqS, pk_mul, Nat.reduceAdd, Bool.false_eq_true, or_true, true_or, hF, e_inr, hx, hy]
      · cases hw : inr w 3
        · refine ⟨-nI 1000001, σ, τ, ?_, ?_, u, lv, h⟩
          · rcases inr_not hw with q2 | q2 <;> simp (disch := omega) only [f_X7_forced, b_X7_forced_36, lit, pLeT, pLeF, pLtT, pLtF, pEqT, pEqF, nLeF, nLtF, nI_clamp, or_self, or_false, false_or, not_true_eq_false, not_false_eq_true, ↓reduceIte, nmS_eq, bd1_eq, bd2_eq, nI_add, pEqS, pk_mul, Nat.reduceAdd, Bool.false_eq_true, or_true, true_or, q, e_X7_isSet, hx, hy, e5, q2, ite_self]
          · simp (disch := omega) only [f_X8_forced, b_X8_forced_41, lit, pLeT, pLeF, pLtT, pLtF, pEqT, pEqF, nLeF, nLtF, nI_clamp, or_self, or_false, false_or, not_true_eq_false, not_false_eq_true, ↓reduceIte, nmS_eq, bd1_eq, bd2_eq, nI_add, pEqS, pk_mul, Nat.reduceAdd, Bool.false_eq_true, or_true, true_or, hF, e_inr, hx, hy, hw]
        · have hw2 := inr_yes hw
          obtain ⟨z, z1, z2, z3⟩ := h.over
          cases z
          · have s1 : pI (pI σ 227 5 x) 227 6 (x &&& y) = setX σ (x, x &&& y) := rfl
            have s2 : pI (pI τ 0 24 x) 0 25 (y &&& x) = setM τ (x, x &&& y) := by rw [and_cm y x]; rfl
            have h2 := h.ag ((setX_fr σ (x, x &&& y)).ag (u := u)) (setM_fr τ (x, x &&& y)).ag
            have hlv : (setX σ (x, x &&& y)).1 33 4 = σ.1 33 4 := setX_k _ _ (by omega)
            obtain ⟨z, y1, y2, g1, g2, g3⟩ := h2.conf (σ.1 33 4) (-nI 1000000) (fun a ha => by rw [lvb h ha, memM_none ha]) 228 228 false false h2.noth.1 h2.noth.2 (fun v hv => by rw [fl2_f]; exact h2.no.2 v hv) (by rw [fd2_f]; exact h2.no.1) (by rw [setX_at5, setM_at4]) (by rw [setX_at6, setM_at5])
            rw [setX_X] at g1
            rw [setM_M] at g2
            have hR : RU u lv (setX σ y1) (setM τ y2) := h.ag ((setX_fr σ y1).ag (u := u)) (setM_fr τ y2).ag
            simp only [Bool.false_eq_true, ↓reduceIte] at g2
            cases z
            · have e9 := g3 rfl
              subst e9
              refine ⟨if w = nI 0 then nI 0 else if w = nI 1 then y1.1 else y1.2, _, _, ?_, ?_, u, lv, hR.find (nI 0)⟩
              · by_cases w0 : w = nI 0
                · subst w0
                  simp (disch := omega) only [f_X7_forced, f_X4_conflictByKnown, b_X7_forced_82, lit, pLeT, pLeF, pLtT, pLtF, pEqT, pEqF, nLeF, nLtF, nI_clamp, or_self, or_false, false_or, not_true_eq_false, not_false_eq_true, ↓reduceIte, nmS_eq, bd1_eq, bd2_eq, nI_add, pEqS, pk_mul, Nat.reduceAdd, Bool.false_eq_true, or_true, true_or, q, e_X7_isSet, hx, hy, z1, s1, hlv, g1, e_X7_well]
                · by_cases w1 : w = nI 1
                  · subst w1
                    simp (disch := omega) only [f_X7_forced, f_X4_conflictByKnown, b_X7_forced_121, lit, pLeT, pLeF, pLtT, pLtF, pEqT, pEqF, nLeF, nLtF, nI_clamp, or_self, or_false, false_or, not_true_eq_false, not_false_eq_true, ↓reduceIte, nmS_eq, bd1_eq, bd2_eq, nI_add, pEqS, pk_mul, Nat.reduceAdd, Bool.false_eq_true, or_true, true_or, q, e_X7_isSet, hx, hy, z1, s1, hlv, g1, e_X7_well, setX_at5]
                  · simp (disch := omega) only [f_X7_forced, f_X4_conflictByKnown, b_X7_forced_121, lit, pLeT, pLeF, pLtT, pLtF, pEqT, pEqF, nLeF, nLtF, nI_clamp, or_self, or_false, false_or, not_true_eq_false, not_false_eq_true, ↓reduceIte, nmS_eq, bd1_eq, bd2_eq, nI_add, pEqS, pk_mul, Nat.reduceAdd, Bool.false_eq_true, or_true, true_or, q, e_X7_isSet, hx, hy, hw2.1, hw2.2, e5, w0, w1, z1, s1, hlv, g1, e_X7_well, setX_at6]
              · by_cases w0 : w = nI 0
                · subst w0
                  simp (disch := omega) only [f_X8_forced, b_X8_forced_124, lit, pLeT, pLeF, pLtT, pLtF, pEqT, pEqF, nLeF, nLtF, nI_clamp, or_self, or_false, false_or, not_true_eq_false, not_false_eq_true, ↓reduceIte, nmS_eq, bd1_eq, bd2_eq, nI_add, pEqS, pk_mul, Nat.reduceAdd, Bool.false_eq_true, or_true, true_or, hF, e_inr, hx, hy, hw, z2, s2, g2, e_X8_well]
                · by_cases w1 : w = nI 1
                  · subst w1
                    simp (disch := omega) only [f_X8_forced, b_X8_forced_124, lit, pLeT, pLeF, pLtT, pLtF, pEqT, pEqF, nLeF, nLtF, nI_clamp, or_self, or_false, false_or, not_true_eq_false, not_false_eq_true, ↓reduceIte, nmS_eq, bd1_eq, bd2_eq, nI_add, pEqS, pk_mul, Nat.reduceAdd, Bool.false_eq_true, or_true, true_or, hF, e_inr, hx, hy, hw, z2, s2, g2, e_X8_well, setM_at4]
                  · simp (disch := omega) only [f_X8_forced, b_X8_forced_124, lit, pLeT, pLeF, pLtT, pLtF, pEqT, pEqF, nLeF, nLtF, nI_clamp, or_self, or_false, false_or, not_true_eq_false, not_false_eq_true, ↓reduceIte, nmS_eq, bd1_eq, bd2_eq, nI_add, pEqS, pk_mul, Nat.reduceAdd, Bool.false_eq_true, or_true, true_or, hF, e_inr, hx, hy, hw, w0, w1, z2, s2, g2, e_X8_well, setM_at5]
            · refine ⟨if w = nI 0 then nI 1 else -nI 1000000, _, _, ?_, ?_, u, lv, hR.find (nI 0)⟩
              · by_cases w0 : w = nI 0
                · subst w0
                  simp (disch := omega) only [f_X7_forced, f_X4_conflictByKnown, b_X7_forced_82, lit, pLeT, pLeF, pLtT, pLtF, pEqT, pEqF, nLeF, nLtF, nI_clamp, or_self, or_false, false_or, not_true_eq_false, not_false_eq_true, ↓reduceIte, nmS_eq, bd1_eq, bd2_eq, nI_add, pEqS, pk_mul, Nat.reduceAdd, Bool.false_eq_true, or_true, true_or, q, e_X7_isSet, hx, hy, z1, s1, hlv, g1, e_X7_well]
                · simp (disch := omega) only [f_X7_forced, f_X4_conflictByKnown, b_X7_forced_121, lit, pLeT, pLeF, pLtT, pLtF, pEqT, pEqF, nLeF, nLtF, nI_clamp, or_self, or_false, false_or, not_true_eq_false, not_false_eq_true, ↓reduceIte, nmS_eq, bd1_eq, bd2_eq, nI_add, pEqS, pk_mul, Nat.reduceAdd, Bool.false_eq_true, or_true, true_or, q, e_X7_isSet, hx, hy, hw2.1, hw2.2, e5, w0, z1, s1, hlv, g1, e_X7_well]
              · by_cases w0 : w = nI 0
                · subst w0
                  simp (disch := omega) only [f_X8_forced, b_X8_forced_124, lit, pLeT, pLeF, pLtT, pLtF, pEqT, pEqF, nLeF, nLtF, nI_clamp, or_self, or_false, false_or, not_true_eq_false, not_false_eq_true, ↓reduceIte, nmS_eq, bd1_eq, bd2_eq, nI_add, pEqS, pk_mul, Nat.reduceAdd, Bool.false_eq_true, or_true, true_or, hF, e_inr, hx, hy, hw, z2, s2, g2, e_X8_well]
                · simp (disch := omega) only [f_X8_forced, b_X8_forced_124, lit, pLeT, pLeF, pLtT, pLtF, pEqT, pEqF, nLeF, nLtF, nI_clamp, or_self, or_false, false_or, not_true_eq_false, not_false_eq_true, ↓reduceIte, nmS_eq, bd1_eq, bd2_eq, nI_add, pEqS, pk_mul, Nat.reduceAdd, Bool.false_eq_true, or_true, true_or, hF, e_inr, hx, hy, hw, w0, z2, s2, g2, e_X8_well]
          · refine ⟨-nI 1000010 - nI 6, pI σ 0 7 (nI 6), pI τ 0 4 (nI 6), ?_, ?_, u, lv, h.find _⟩
            · simp (disch := omega) only [f_X7_forced, lit, pLeT, pLeF, pLtT, pLtF, pEqT, pEqF, nLeF, nLtF, nI_clamp, or_self, or_false, false_or, not_true_eq_false, not_false_eq_true, ↓reduceIte, nmS_eq, bd1_eq, bd2_eq, nI_add, pEqS, pk_mul, Nat.reduceAdd, Bool.false_eq_true, or_true, true_or, q, e_X7_isSet, hx, hy, hw2.1, hw2.2, e5, z1, e_X7_found]
            · simp (disch := omega) only [f_X8_forced, lit, pLeT, pLeF, pLtT, pLtF, pEqT, pEqF, nLeF, nLtF, nI_clamp, or_self, or_false, false_or, not_true_eq_false, not_false_eq_true, ↓reduceIte, nmS_eq, bd1_eq, bd2_eq, nI_add, pEqS, pk_mul, Nat.reduceAdd, Bool.false_eq_true, or_true, true_or, hF, e_inr, hx, hy, hw, z2, e_X8_found]
/-- a clause of the book from the others -/
theorem RU.others {u lv : Nat} {σ τ : Sto} (h : RU u lv σ τ) {a : Nat} (ha : a < u) (hb : lv.testBit a = true) (hz : ∀ a, lv.testBit a = true → 0 ≤ tot (σ.2 (36 + 2 * a + 1))) :
    ∃ (z : Bool) (σ' τ' : Sto), f_X4_followsFromOthers (nI a) σ = some (if z then nI 1 else nI 0, σ') ∧ f_X8_isFollowing 6 312 (nI (12 + 10 * a)) (nI a) (nI 0) τ = some (if z then nI 1 else nI 0, τ') ∧ FrX σ σ' ∧ FrM τ τ' := by
  have hu := h.bk.hu
  obtain ⟨z, σ', τ', g1, g2, g3, g4⟩ := h.follow (36 + 2 * a) 6 312 (12 + 10 * a) 228 (σ.1 33 4 &&& ((nI 1 <<< (nI a &&& nI 31)) ^^^ -nI 1)) (nI a) false (fun b hb => by rw [mem_but _ (by omega) (by omega), lvb h hb, memM_but hb (by omega)]) (by omega) (Or.inl rfl) (by omega) (by omega) (by omega) (fun v hv => ⟨h.okX ha v hv, h.cfm ha hv⟩) (h.dgm ha) (h.clm ha).dn (hz a hb) h.noth.1 h.noth.2
  simp only [Bool.false_eq_true, ↓reduceIte] at g2
  refine ⟨z, σ', τ', ?_, g2, g3, g4⟩
  cases z <;> simp (disch := omega) only [f_X4_followsFromOthers, lit, pLeT, pLeF, pLtT, pLtF, pEqT, pEqF, nLeF, nLtF, nI_clamp, or_self, or_false, false_or, not_true_eq_false, not_false_eq_true, ↓reduceIte, nmS_eq, bd1_eq, bd2_eq, nI_add, pEqS, pk_mul, Nat.reduceAdd, Bool.false_eq_true, or_true, true_or, g1]
theorem s_follows (x : Int32) : Sim RR (f_X7_follows x) (f_X8_follows x) := by
  intro σ τ ⟨u, lv, h⟩
  obtain ⟨h1, h2, h3⟩ := h.has x
  cases hx : hs lv x
  · rw [hx] at h1 h2
    refine ⟨-nI 1000001, σ, τ, ?_, ?_, u, lv, h⟩
    · simp (disch := omega) only [f_X7_follows, lit, pLeT, pLeF, pLtT, pLtF, pEqT, pEqF, nLeF, nLtF, nI_clamp, or_self, or_false, false_or, not_true_eq_false, not_false_eq_true, ↓reduceIte, nmS_eq, bd1_eq, bd2_eq, nI_add, pEqS, pk_mul, Nat.reduceAdd, Bool.false_eq_true, or_true, true_or, h1]
    · simp (disch := omega) only [f_X8_follows, lit, pLeT, pLeF, pLtT, pLtF, pEqT, pEqF, nLeF, nLtF, nI_clamp, or_self, or_false, false_or, not_true_eq_false, not_false_eq_true, ↓reduceIte, nmS_eq, bd1_eq, bd2_eq, nI_add, pEqS, pk_mul, Nat.reduceAdd, Bool.false_eq_true, or_true, true_or, h2]
  · rw [hx] at h1 h2
    obtain ⟨a, ha, ha2, e, hb⟩ := h3 hx
    subst e
    obtain ⟨z, z1, z2, z3⟩ := h.over
    cases z
    · obtain ⟨z, σ', τ', g1, g2, g3, g4⟩ := h.others ha hb (z3 rfl)
      have hR := h.ag (g3.ag (u := u)) g4.ag
      refine ⟨if z then nI 1 else nI 0, _, _, ?_, ?_, u, lv, hR.find (nI 0)⟩
      · cases z <;> simp (disch := omega) only [f_X7_follows, b_X7_follows_48, lit, pLeT, pLeF, pLtT, pLtF, pEqT, pEqF, nLeF, nLtF, nI_clamp, or_self, or_false, false_or, not_true_eq_false, not_false_eq_true, ↓reduceIte, nmS_eq, bd1_eq, bd2_eq, nI_add, pEqS, pk_mul, Nat.reduceAdd, Bool.false_eq_true, or_true, true_or, h1, z1, g1, e_X7_well]
      · cases z <;> simp (disch := omega) only [f_X8_follows, b_X8_follows_51, lit, pLeT, pLeF, pLtT, pLtF, pEqT, pEqF, nLeF, nLtF, nI_clamp, or_self, or_false, false_or, not_true_eq_false, not_false_eq_true, ↓reduceIte, nmS_eq, bd1_eq, bd2_eq, nI_add, pEqS, pk_mul, Nat.reduceAdd, Bool.false_eq_true, or_true, true_or, h2, z2, g2, e_X8_well]
    · refine ⟨-nI 1000010 - nI 6, pI σ 0 7 (nI 6), pI τ 0 4 (nI 6), ?_, ?_, u, lv, h.find _⟩
      · simp (disch := omega) only [f_X7_follows, lit, pLeT, pLeF, pLtT, pLtF, pEqT, pEqF, nLeF, nLtF, nI_clamp, or_self, or_false, false_or, not_true_eq_false, not_false_eq_true, ↓reduceIte, nmS_eq, bd1_eq, bd2_eq, nI_add, pEqS, pk_mul, Nat.reduceAdd, Bool.false_eq_true, or_true, true_or, h1, z1, e_X7_found]
      · simp (disch := omega) only [f_X8_follows, lit, pLeT, pLeF, pLtT, pLtF, pEqT, pEqF, nLeF, nLtF, nI_clamp, or_self, or_false, false_or, not_true_eq_false, not_false_eq_true, ↓reduceIte, nmS_eq, bd1_eq, bd2_eq, nI_add, pEqS, pk_mul, Nat.reduceAdd, Bool.false_eq_true, or_true, true_or, h2, z2, e_X8_found]
