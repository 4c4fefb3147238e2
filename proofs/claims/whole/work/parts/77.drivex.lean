/-! ===== the prover's rounds ===== -/
theorem setX_at5 (σ : Sto) (q : Int32 × Int32) : (setX σ q).1 227 5 = q.1 := by
  unfold setX
  rw [pI_nj (by omega), pI_at]
theorem setX_at6 (σ : Sto) (q : Int32 × Int32) : (setX σ q).1 227 6 = q.2 := by
  unfold setX
  rw [pI_at]
theorem setX_k (σ : Sto) (q : Int32 × Int32) {a b : Nat} (h : a < 227 ∨ 227 < a) : (setX σ q).1 a b = σ.1 a b := by
  unfold setX
  rw [pI_nk h, pI_nk h]
theorem setX_X (σ : Sto) (q q' : Int32 × Int32) : setX (setX σ q) q' = setX σ q' := by
  show setX (pI (pI σ 227 5 q.1) 227 6 q.2) q' = _
  rw [setX_6, setX_5]
theorem setX_eta (σ : Sto) (q : Int32 × Int32) : ((setX σ q).1 227 5, (setX σ q).1 227 6) = q := by
  rw [setX_at5, setX_at6]
/-- what the rounds come to, as an answer: 1 a conflict, 0 none and what is known then -/
def Out (fx : Option (Int32 × Sto)) (set : Int32 × Int32 → Sto) (r : Option (Int32 × Int32)) : Prop := match r with
  | none => ∃ q, fx = some (nI 1, set q)
  | some q => fx = some (nI 0, set q)
def memX (m : Int32) : Nat → Bool := fun a => bt m a
def clX (σ : Sto) : Nat → Nat → Int64 := fun a => σ.2 (36 + 2 * a + 1)
def dgX (σ : Sto) : Nat → Int64 := fun a => σ.2 (36 + 2 * a) 2
/-- the clauses one after another -/
theorem l_X4_drives_in (c3 : Int32 → Int32 → Sto → Option (Int32 × Sto)) (k0 k1 : Nat) (m v4 v5 : Int32) (n u : Nat) (hu : u ≤ 30) (j : Nat) : ∀ (i : Nat) (σ : Sto), i + j = u → σ.1 33 3 = nI u →
    (match rdA (memX m) (clX σ) (dgX σ) j i (σ.1 227 5, σ.1 227 6) with
    | none => ∃ q, l_X4_drives_19 c3 k0 k1 (n + 1 + j) m v4 v5 (nI i) σ = some (nI 1, setX σ q)
    | some q => l_X4_drives_19 c3 k0 k1 (n + 1 + j) m v4 v5 (nI i) σ = l_X4_drives_19 c3 k0 k1 (n + 1) m v4 v5 (nI u) (setX σ q)) := by
  induction j with
  | zero =>
    intro i σ h hs
    have e : i = u := by omega
    subst e
    show l_X4_drives_19 c3 k0 k1 (n + 1) m v4 v5 (nI i) σ = l_X4_drives_19 c3 k0 k1 (n + 1) m v4 v5 (nI i) (setX σ (σ.1 227 5, σ.1 227 6))
    rw [setX_self]
  | succ j ih =>
    intro i σ h hs
    have hl : l_X4_drives_19 c3 k0 k1 (n + 1 + (j + 1)) m v4 v5 (nI i) σ = b_X4_drives_19 c3 (l_X4_drives_19 c3 k0 k1 (n + 1 + j)) k0 k1 m v4 v5 (nI i) σ := rfl
    rw [rdA_s]
    by_cases hm : memX m i = true
    · have hm2 : bt m i = true := hm
      have hc := e_X4_conflicts (36 + 2 * i) σ
      rw [if_pos hm]
      have e2 : clX σ i = σ.2 (36 + 2 * i + 1) := rfl
      have e3 : dgX σ i = σ.2 (36 + 2 * i) 2 := rfl
      rw [e2, e3]
      cases e : fc (σ.2 (36 + 2 * i + 1)) (σ.2 (36 + 2 * i) 2) (σ.1 227 5, σ.1 227 6) with
      | none =>
        rw [e] at hc
        refine ⟨(σ.1 227 5, σ.1 227 6), ?_⟩
        rw [hl, setX_self]
        simp (disch := omega) only [b_X4_drives_19, lit, pLeT, pLeF, pLtT, pLtF, pEqT, pEqF, nLeF, nLtF, nI_clamp, or_self, or_false, false_or, not_true_eq_false, not_false_eq_true, ↓reduceIte, nmS_eq, bd1_eq, bd2_eq, nI_add, pEqS, hs, ub, iE1, hm2, hc]
      | some q1 =>
        rw [e] at hc
        have h1 : b_X4_drives_19 c3 (l_X4_drives_19 c3 k0 k1 (n + 1 + j)) k0 k1 m v4 v5 (nI i) σ = l_X4_drives_19 c3 k0 k1 (n + 1 + j) m v4 v5 (nI (i + 1)) (setX σ q1) := by
          simp (disch := omega) only [b_X4_drives_19, b_X4_drives_60, lit, pLeT, pLeF, pLtT, pLtF, pEqT, pEqF, nLeF, nLtF, nI_clamp, or_self, or_false, false_or, not_true_eq_false, not_false_eq_true, ↓reduceIte, nmS_eq, bd1_eq, bd2_eq, nI_add, pEqS, hs, ub, iE1, hm2, hc]
        rw [hl, h1]
        have h2 := ih (i + 1) (setX σ q1) (by omega) (by rw [setX_k _ _ (by omega)]; exact hs)
        rw [setX_eta] at h2
        have e4 : clX (setX σ q1) = clX σ := by
          funext a
          show (setX σ q1).2 _ = σ.2 _
          rw [setX_2]
        have e5 : dgX (setX σ q1) = dgX σ := by
          funext a
          show (setX σ q1).2 _ _ = σ.2 _ _
          rw [setX_2]
        rw [e4, e5] at h2
        show (match rdA (memX m) (clX σ) (dgX σ) j (i + 1) q1 with
          | none => ∃ q, _ = some (nI 1, setX σ q)
          | some q => _ = l_X4_drives_19 c3 k0 k1 (n + 1) m v4 v5 (nI u) (setX σ q))
        cases e6 : rdA (memX m) (clX σ) (dgX σ) j (i + 1) q1 with
        | none =>
          rw [e6] at h2
          obtain ⟨q, hq⟩ := h2
          exact ⟨q, by rw [hq, setX_X]⟩
        | some q =>
          rw [e6] at h2
          show l_X4_drives_19 c3 k0 k1 (n + 1 + j) m v4 v5 (nI (i + 1)) (setX σ q1) = _
          rw [h2, setX_X]
    · have hm2 : bt m i = false := by
        cases hq : bt m i
        · rfl
        · exact absurd hq hm
      rw [if_neg hm]
      have h1 : b_X4_drives_19 c3 (l_X4_drives_19 c3 k0 k1 (n + 1 + j)) k0 k1 m v4 v5 (nI i) σ = l_X4_drives_19 c3 k0 k1 (n + 1 + j) m v4 v5 (nI (i + 1)) σ := by
        simp (disch := omega) only [b_X4_drives_19, b_X4_drives_60, lit, pLeT, pLeF, pLtT, pLtF, pEqT, pEqF, nLeF, nLtF, nI_clamp, or_self, or_false, false_or, not_true_eq_false, not_false_eq_true, ↓reduceIte, nmS_eq, bd1_eq, bd2_eq, nI_add, pEqS, hs, ub, iE1, hm2, Bool.false_eq_true]
      rw [hl, h1]
      exact ih (i + 1) σ (by omega) hs
/-- a round behind the clauses: the one beside, the last -/
theorem l_X4_drives_out (c3 : Int32 → Int32 → Sto → Option (Int32 × Sto)) (k0 k1 : Nat) (m v4 v5 : Int32) (n u : Nat) (hu : u ≤ 30) (σ : Sto) (hs : σ.1 33 3 = nI u) :
    (match fc (σ.2 (k0 + 1)) (σ.2 k0 2) (σ.1 227 5, σ.1 227 6) with
    | none => ∃ q, l_X4_drives_19 c3 k0 k1 (n + 1) m v4 v5 (nI u) σ = some (nI 1, setX σ q)
    | some q1 => match fc (σ.2 (k1 + 1)) (σ.2 k1 2) q1 with
      | none => ∃ q, l_X4_drives_19 c3 k0 k1 (n + 1) m v4 v5 (nI u) σ = some (nI 1, setX σ q)
      | some q2 => l_X4_drives_19 c3 k0 k1 (n + 1) m v4 v5 (nI u) σ = if q2.1 = v5 then some (nI 0, setX σ q2) else c3 m (v4 + nI 1) (setX σ q2)) := by
  have hl : l_X4_drives_19 c3 k0 k1 (n + 1) m v4 v5 (nI u) σ = b_X4_drives_19 c3 (l_X4_drives_19 c3 k0 k1 n) k0 k1 m v4 v5 (nI u) σ := rfl
  have hc := e_X4_conflicts k0 σ
  cases e : fc (σ.2 (k0 + 1)) (σ.2 k0 2) (σ.1 227 5, σ.1 227 6) with
  | none =>
    rw [e] at hc
    refine ⟨(σ.1 227 5, σ.1 227 6), ?_⟩
    rw [hl, setX_self]
    simp (disch := omega) only [b_X4_drives_19, b_X4_drives_82, lit, pLeT, pLeF, pLtT, pLtF, pEqT, pEqF, nLeF, nLtF, nI_clamp, or_self, or_false, false_or, not_true_eq_false, not_false_eq_true, ↓reduceIte, nmS_eq, bd1_eq, bd2_eq, nI_add, pEqS, hs, hc]
  | some q1 =>
    rw [e] at hc
    have hc2 := e_X4_conflicts k1 (setX σ q1)
    rw [setX_eta, setX_2] at hc2
    show (match fc (σ.2 (k1 + 1)) (σ.2 k1 2) q1 with
      | none => ∃ q, l_X4_drives_19 c3 k0 k1 (n + 1) m v4 v5 (nI u) σ = some (nI 1, setX σ q)
      | some q2 => l_X4_drives_19 c3 k0 k1 (n + 1) m v4 v5 (nI u) σ = if q2.1 = v5 then some (nI 0, setX σ q2) else c3 m (v4 + nI 1) (setX σ q2))
    cases e2 : fc (σ.2 (k1 + 1)) (σ.2 k1 2) q1 with
    | none =>
      rw [e2] at hc2
      refine ⟨q1, ?_⟩
      rw [hl]
      simp (disch := omega) only [b_X4_drives_19, b_X4_drives_82, lit, pLeT, pLeF, pLtT, pLtF, pEqT, pEqF, nLeF, nLtF, nI_clamp, or_self, or_false, false_or, not_true_eq_false, not_false_eq_true, ↓reduceIte, nmS_eq, bd1_eq, bd2_eq, nI_add, pEqS, hs, hc, hc2]
    | some q2 =>
      rw [e2] at hc2
      show l_X4_drives_19 c3 k0 k1 (n + 1) m v4 v5 (nI u) σ = _
      rw [hl]
      simp (disch := omega) only [b_X4_drives_19, b_X4_drives_82, lit, pLeT, pLeF, pLtT, pLtF, pEqT, pEqF, nLeF, nLtF, nI_clamp, or_self, or_false, false_or, not_true_eq_false, not_false_eq_true, ↓reduceIte, nmS_eq, bd1_eq, bd2_eq, nI_add, pEqS, hs, hc, hc2, setX_X, setX_at5]
/-- the rounds -/
theorem l_X4_drives (k0 k1 : Nat) (m : Int32) (n u : Nat) (hu : u ≤ 30) (j : Nat) : ∀ (i : Nat) (σ : Sto), i + j = 9 → σ.1 33 3 = nI u →
    Out (l_X4_drives_3 k0 k1 (n + 1 + j) m (nI i) σ) (setX σ) (itr (rnd (memX m) (clX σ) (dgX σ) u (σ.2 (k0 + 1)) (σ.2 k0 2) (σ.2 (k1 + 1)) (σ.2 k1 2)) j (σ.1 227 5, σ.1 227 6)) := by
  induction j with
  | zero =>
    intro i σ h hs
    have e : i = 9 := by omega
    subst e
    show b_X4_drives_3 _ k0 k1 m (nI 9) σ = some (nI 0, setX σ (σ.1 227 5, σ.1 227 6))
    rw [setX_self]
    simp (disch := omega) only [b_X4_drives_3, lit, pLeT, pLeF, pLtT, pLtF, pEqT, pEqF, nLeF, nLtF, nI_clamp, or_self, or_false, false_or, not_true_eq_false, not_false_eq_true, ↓reduceIte, nmS_eq, bd1_eq, bd2_eq, nI_add, pEqS]
  | succ j ih =>
    intro i σ h hs
    have hl : l_X4_drives_3 k0 k1 (n + 1 + (j + 1)) m (nI i) σ = l_X4_drives_19 (l_X4_drives_3 k0 k1 (n + 1 + j)) k0 k1 400 m (nI i) (σ.1 227 5) (nI 0) σ := by
      show b_X4_drives_3 (l_X4_drives_3 k0 k1 (n + 1 + j)) k0 k1 m (nI i) σ = _
      simp (disch := omega) only [b_X4_drives_3, lit, pLeT, pLeF, pLtT, pLtF, pEqT, pEqF, nLeF, nLtF, nI_clamp, or_self, or_false, false_or, not_true_eq_false, not_false_eq_true, ↓reduceIte, nmS_eq, bd1_eq, bd2_eq, nI_add, pEqS]
    have hin := l_X4_drives_in (l_X4_drives_3 k0 k1 (n + 1 + j)) k0 k1 m (nI i) (σ.1 227 5) (399 - u) u hu u 0 σ (by omega) hs
    rw [show 399 - u + 1 + u = 400 by omega] at hin
    rw [hl]
    show Out _ _ (match rnd (memX m) (clX σ) (dgX σ) u (σ.2 (k0 + 1)) (σ.2 k0 2) (σ.2 (k1 + 1)) (σ.2 k1 2) (σ.1 227 5, σ.1 227 6) with
      | none => none
      | some q1 => if q1.1 = σ.1 227 5 then some q1 else itr (rnd (memX m) (clX σ) (dgX σ) u (σ.2 (k0 + 1)) (σ.2 k0 2) (σ.2 (k1 + 1)) (σ.2 k1 2)) j q1)
    unfold rnd
    cases e : rdA (memX m) (clX σ) (dgX σ) u 0 (σ.1 227 5, σ.1 227 6) with
    | none =>
      rw [e] at hin
      exact hin
    | some q =>
      rw [e] at hin
      have hin : l_X4_drives_19 (l_X4_drives_3 k0 k1 (n + 1 + j)) k0 k1 400 m (nI i) (σ.1 227 5) (nI 0) σ = l_X4_drives_19 (l_X4_drives_3 k0 k1 (n + 1 + j)) k0 k1 (399 - u + 1) m (nI i) (σ.1 227 5) (nI u) (setX σ q) := hin
      have hout := l_X4_drives_out (l_X4_drives_3 k0 k1 (n + 1 + j)) k0 k1 m (nI i) (σ.1 227 5) (399 - u) u hu (setX σ q) (by rw [setX_k _ _ (by omega)]; exact hs)
      rw [setX_eta, setX_2, ← hin] at hout
      simp only
      cases e2 : fc (σ.2 (k0 + 1)) (σ.2 k0 2) q with
      | none =>
        rw [e2] at hout
        obtain ⟨q9, h9⟩ := hout
        exact ⟨q9, by rw [h9, setX_X]⟩
      | some q1 =>
        rw [e2] at hout
        simp only at hout ⊢
        cases e3 : fc (σ.2 (k1 + 1)) (σ.2 k1 2) q1 with
        | none =>
          rw [e3] at hout
          obtain ⟨q9, h9⟩ := hout
          exact ⟨q9, by rw [h9, setX_X]⟩
        | some q2 =>
          rw [e3] at hout
          simp only at hout ⊢
          by_cases e4 : q2.1 = σ.1 227 5
          · rw [if_pos e4] at hout ⊢
            show _ = some (nI 0, setX σ q2)
            rw [hout, setX_X]
          · rw [if_neg e4] at hout ⊢
            have h2 := ih (i + 1) (setX σ q2) (by omega) (by rw [setX_k _ _ (by omega)]; exact hs)
            have e6 : clX (setX σ q2) = clX σ := by
              funext a
              show (setX σ q2).2 _ = σ.2 _
              rw [setX_2]
            have e7 : dgX (setX σ q2) = dgX σ := by
              funext a
              show (setX σ q2).2 _ _ = σ.2 _ _
              rw [setX_2]
            rw [setX_eta, setX_2, e6, e7] at h2
            rw [hout, setX_X, nI_add]
            revert h2
            unfold Out rnd
            generalize itr _ j q2 = z
            cases z with
            | none =>
              intro h2
              obtain ⟨q9, h9⟩ := h2
              exact ⟨q9, by rw [h9, setX_X]⟩
            | some q9 =>
              intro h2
              show _ = some (nI 0, setX σ q9)
              have h2 : l_X4_drives_3 k0 k1 (n + 1 + j) m (nI (i + 1)) (setX σ q2) = some (nI 0, setX (setX σ q2) q9) := h2
              rw [h2, setX_X]
theorem e_X4_drives (k0 k1 : Nat) (m : Int32) (u : Nat) (hu : u ≤ 30) (σ : Sto) (hs : σ.1 33 3 = nI u) : Out (f_X4_drives m k0 k1 σ) (setX σ) (itr (rnd (memX m) (clX σ) (dgX σ) u (σ.2 (k0 + 1)) (σ.2 k0 2) (σ.2 (k1 + 1)) (σ.2 k1 2)) 9 (σ.1 227 5, σ.1 227 6)) :=
  l_X4_drives k0 k1 m 390 u hu 9 0 σ rfl hs
