/-! ===== the model's sums ===== -/
abbrev Qm (P N : Nat → Int) (K D : Int) (τ : Sto) : Prop := (∀ x, x < 8 → (τ.2 15 x).toInt = P x) ∧ (∀ x, x < 8 → (τ.2 12 (2 + x)).toInt = N x) ∧ ((τ.2 12 1).toInt = D - K)
theorem Qm.s {P N : Nat → Int} {K D : Int} {τ : Sto} (h : Qm P N K D τ) : ∀ x, x < 8 → (τ.2 15 x).toInt = P x := h.1
theorem Qm.n {P N : Nat → Int} {K D : Int} {τ : Sto} (h : Qm P N K D τ) : ∀ x, x < 8 → (τ.2 12 (2 + x)).toInt = N x := h.2.1
theorem Qm.d {P N : Nat → Int} {K D : Int} {τ : Sto} (h : Qm P N K D τ) : (τ.2 12 1).toInt = D - K := h.2.2
abbrev Mp (τ τ' : Sto) : Prop := (τ'.1 = τ.1) ∧ (∀ c j, c ≠ 12 → c ≠ 15 → τ'.2 c j = τ.2 c j)
theorem Mp.i {τ τ' : Sto} (h : Mp τ τ') : τ'.1 = τ.1 := h.1
theorem Mp.l {τ τ' : Sto} (h : Mp τ τ') : ∀ c j, c ≠ 12 → c ≠ 15 → τ'.2 c j = τ.2 c j := h.2
theorem Mp.rfl {τ : Sto} : Mp τ τ := ⟨Eq.refl _, fun _ _ _ _ => Eq.refl _⟩
theorem Mp.trans {τ τ1 τ2 : Sto} (h : Mp τ τ1) (h2 : Mp τ1 τ2) : Mp τ τ2 := ⟨h2.i.trans h.i, fun c j q r => (h2.l c j q r).trans (h.l c j q r)⟩
theorem Mp.p2 {τ : Sto} (j : Nat) (x : Int64) : Mp τ (pL τ 12 j x) := ⟨pL_1 x, fun c _ q _ => pL_nk (by omega)⟩
theorem Mp.p5 {τ : Sto} (j : Nat) (x : Int64) : Mp τ (pL τ 15 j x) := ⟨pL_1 x, fun c _ _ q => pL_nk (by omega)⟩
theorem Mp.ag {τ τ' : Sto} (h : Mp τ τ') : AgM τ τ' := ⟨fun c j _ => by rw [h.i], fun c j q => h.l c j (by omega) (by omega)⟩
theorem subz (x : Int64) : x - 0 = x := by
  rw [eqL, subL (by rw [toI0]; have := rngL x; omega) (by rw [toI0]; have := rngL x; omega), toI0, Int.sub_zero]
theorem Qm.toP {P N : Nat → Int} {K D S a : Int} {τ : Sto} (h : Qm P N K D τ) (hn : Nn P N K S) {y : Int64} (hy : y.toInt = a) (ha : 0 ≤ a) (hm : S + a ≤ 9223372036854775807) {x : Nat} (hx : x < 8) : Qm (up P x a) N K D (pL (pL τ 15 x (τ.2 15 x + y)) 12 (2 + x) (τ.2 12 (2 + x) + 0)) := by
  have h1 := hn.one hx
  have h2 := hn.p x hx
  have h3 := h.s x hx
  refine ⟨fun v hv => ?_, fun v hv => ?_, ?_⟩
  · rw [pL_nk (by omega)]
    by_cases e : v = x
    · subst e
      rw [pL_at, up_at, addL (by omega) (by omega), h3, hy]
    · rw [pL_nj (by omega), up_no _ _ e]
      exact h.s v hv
  · by_cases e : v = x
    · subst e
      rw [pL_at, addz]
      exact h.n v hv
    · rw [pL_nj (by omega), pL_nk (by omega)]
      exact h.n v hv
  · rw [pL_nj (by omega), pL_nk (by omega)]
    exact h.d
theorem Qm.toN {P N : Nat → Int} {K D S a : Int} {τ : Sto} (h : Qm P N K D τ) (hn : Nn P N K S) {y : Int64} (hy : y.toInt = a) (ha : 0 ≤ a) (hm : S + a ≤ 9223372036854775807) {x : Nat} (hx : x < 8) : Qm P (up N x a) K D (pL (pL τ 15 x (τ.2 15 x + 0)) 12 (2 + x) (τ.2 12 (2 + x) + y)) := by
  have h1 := hn.one hx
  have h2 := hn.p x hx
  have h3 := h.n x hx
  refine ⟨fun v hv => ?_, fun v hv => ?_, ?_⟩
  · rw [pL_nk (by omega)]
    by_cases e : v = x
    · subst e
      rw [pL_at, addz]
      exact h.s v hv
    · rw [pL_nj (by omega)]
      exact h.s v hv
  · by_cases e : v = x
    · subst e
      rw [pL_at, up_at, addL (by omega) (by omega), h3, hy]
    · rw [pL_nj (by omega), pL_nk (by omega), up_no _ _ e]
      exact h.n v hv
  · rw [pL_nj (by omega), pL_nk (by omega)]
    exact h.d
theorem Qm.toK {P N : Nat → Int} {K D S a : Int} {τ : Sto} (h : Qm P N K D τ) (hn : Nn P N K S) (hD : 0 ≤ D ∧ D ≤ 9223372036854775807) {y : Int64} (hy : y.toInt = a) (ha : 0 ≤ a) (hm : S + a ≤ 9223372036854775807) : Qm P N (K + a) D (pL τ 12 1 (τ.2 12 1 - y)) := by
  have h1 := hn.s
  have h2 := hn.k
  have h3 := smI_nn (f := fun x => P x + N x) 8 0 (fun v _ hv => by have := hn.p v (by omega); show 0 ≤ P v + N v; omega)
  have h4 := h.d
  refine ⟨fun v hv => by rw [pL_nk (by omega)]; exact h.s v hv, fun v hv => by rw [pL_nj (by omega)]; exact h.n v hv, ?_⟩
  rw [pL_at, subL (by omega) (by omega), h4, hy]
  omega
theorem Qm.to0 {P N : Nat → Int} {K D : Int} {τ : Sto} (h : Qm P N K D τ) : Qm P N K D (pL τ 12 1 (τ.2 12 1 - 0)) := by
  rw [subz, pL_same (σ := τ) (k := 12) (j := 1) (x := τ.2 12 1) rfl]
  exact h
/-- a coefficient is put in the model -/
theorem e_X8_puts {P N : Nat → Int} {K D S : Int} {τ : Sto} (h : Qm P N K D τ) (hn : Nn P N K S) (hD : 0 ≤ D ∧ D ≤ 9223372036854775807) {w : Int64} (hw : ¬ w = 0) (okw : ok w) (hm : S + (mabs w).toInt ≤ 9223372036854775807) {r v b : Nat} (hr : r < 8) (hv : v < 8) (hb : b < 18) (hi : τ.1 3 (40 * r + v) = nI b) : ∃ τ', f_X8_puts (nI r) (nI v) w τ = some τ' ∧ Mp τ τ' ∧ Qm (effP (if 0 < w then b else ctr b) P (mabs w).toInt) (effN (if 0 < w then b else ctr b) N (mabs w).toInt) (effK (if 0 < w then b else ctr b) K (mabs w).toInt) D τ' := by
  have ha := (mabs_nn okw).1
  have z1 : ∀ x, x < 8 → ¬ x + 2 = 1 := fun x _ => by omega
  rcases tri w with a | ⟨a1, a2, a3, a4, a5⟩ | ⟨a1, a2, a3, a4, a5⟩
  · exact absurd a hw
  · rw [if_neg a5]
    have hb4 : b = 0 ∨ b = 1 ∨ (2 ≤ b ∧ b < 10) ∨ (10 ≤ b ∧ b < 18) := by omega
    rcases hb4 with e | e | e | e
    · subst e
      have ec : ctr 0 = 1 := rfl
      rw [ec]
      refine ⟨_, ?_, Mp.p2 _ _, h.toK hn hD (y := mabs w) (Eq.refl _) ha hm⟩
      simp (disch := omega) only [f_X8_puts, b_X8_puts_24, b_X8_puts_50, b_X8_puts_63, b_X8_puts_161, lit, pLeT, pLeF, pLtT, pLtF, pEqT, pEqF, nLeF, nLtF, nI_clamp, or_self, or_false, false_or, not_true_eq_false, not_false_eq_true, ↓reduceIte, nmS_eq, bd1_eq, bd2_eq, nI_add, pEqS, pk_mul, Nat.reduceAdd, Bool.false_eq_true, or_true, true_or, hi, a3, e_X8_size]
    · subst e
      have ec : ctr 1 = 0 := rfl
      rw [ec]
      refine ⟨_, ?_, Mp.p2 _ _, h.to0⟩
      simp (disch := omega) only [f_X8_puts, b_X8_puts_24, b_X8_puts_50, b_X8_puts_63, b_X8_puts_161, lit, pLeT, pLeF, pLtT, pLtF, pEqT, pEqF, nLeF, nLtF, nI_clamp, or_self, or_false, false_or, not_true_eq_false, not_false_eq_true, ↓reduceIte, nmS_eq, bd1_eq, bd2_eq, nI_add, pEqS, pk_mul, Nat.reduceAdd, Bool.false_eq_true, or_true, true_or, hi, a3, e_X8_size]
    · have ec : ctr b = b + 8 := by unfold ctr; rw [if_neg (by omega), if_pos (by omega)]
      have e1 : effP (ctr b) P (mabs w).toInt = P := by unfold effP; rw [ec, if_neg (by omega)]
      have e2 : effN (ctr b) N (mabs w).toInt = up N (b - 2) (mabs w).toInt := by unfold effN; rw [ec, if_pos (by omega), show b + 8 - 10 = b - 2 by omega]
      have e3 : effK (ctr b) K (mabs w).toInt = K := by unfold effK; rw [ec, if_neg (by omega)]
      rw [e1, e2, e3]
      refine ⟨_, ?_, (Mp.p5 _ _).trans (Mp.p2 _ _), h.toN hn (y := mabs w) (Eq.refl _) ha hm (x := b - 2) (by omega)⟩
      simp (disch := omega) only [f_X8_puts, b_X8_puts_24, b_X8_puts_87, b_X8_puts_101, b_X8_puts_111, b_X8_puts_134, b_X8_puts_159, b_X8_puts_161, lit, pLeT, pLeF, pLtT, pLtF, pEqT, pEqF, nLeF, nLtF, nI_clamp, or_self, or_false, false_or, not_true_eq_false, not_false_eq_true, ↓reduceIte, nmS_eq, bd1_eq, bd2_eq, nI_add, pEqS, pk_mul, Nat.reduceAdd, Bool.false_eq_true, or_true, true_or, hi, a3, e_X8_size, pk_sub, pL_nk]
    · have ec : ctr b = b - 8 := by unfold ctr; rw [if_neg (by omega), if_neg (by omega)]
      have e1 : effP (ctr b) P (mabs w).toInt = up P (b - 10) (mabs w).toInt := by unfold effP; rw [ec, if_pos (by omega), show b - 8 - 2 = b - 10 by omega]
      have e2 : effN (ctr b) N (mabs w).toInt = N := by unfold effN; rw [ec, if_neg (by omega)]
      have e3 : effK (ctr b) K (mabs w).toInt = K := by unfold effK; rw [ec, if_neg (by omega)]
      rw [e1, e2, e3]
      refine ⟨_, ?_, (Mp.p5 _ _).trans (Mp.p2 _ _), h.toP hn (y := mabs w) (Eq.refl _) ha hm (x := b - 10) (by omega)⟩
      simp (disch := omega) only [f_X8_puts, b_X8_puts_24, b_X8_puts_87, b_X8_puts_101, b_X8_puts_111, b_X8_puts_134, b_X8_puts_159, b_X8_puts_161, lit, pLeT, pLeF, pLtT, pLtF, pEqT, pEqF, nLeF, nLtF, nI_clamp, or_self, or_false, false_or, not_true_eq_false, not_false_eq_true, ↓reduceIte, nmS_eq, bd1_eq, bd2_eq, nI_add, pEqS, pk_mul, Nat.reduceAdd, Bool.false_eq_true, or_true, true_or, hi, a3, e_X8_size, pk_sub, pL_nk]
  · rw [if_pos a1]
    have hb4 : b = 0 ∨ b = 1 ∨ (2 ≤ b ∧ b < 10) ∨ (10 ≤ b ∧ b < 18) := by omega
    rcases hb4 with e | e | e | e
    · subst e
      refine ⟨_, ?_, Mp.p2 _ _, h.to0⟩
      simp (disch := omega) only [f_X8_puts, b_X8_puts_24, b_X8_puts_50, b_X8_puts_63, b_X8_puts_161, lit, pLeT, pLeF, pLtT, pLtF, pEqT, pEqF, nLeF, nLtF, nI_clamp, or_self, or_false, false_or, not_true_eq_false, not_false_eq_true, ↓reduceIte, nmS_eq, bd1_eq, bd2_eq, nI_add, pEqS, pk_mul, Nat.reduceAdd, Bool.false_eq_true, or_true, true_or, hi, a3, e_X8_size]
    · subst e
      refine ⟨_, ?_, Mp.p2 _ _, h.toK hn hD (y := mabs w) (Eq.refl _) ha hm⟩
      simp (disch := omega) only [f_X8_puts, b_X8_puts_24, b_X8_puts_50, b_X8_puts_63, b_X8_puts_161, lit, pLeT, pLeF, pLtT, pLtF, pEqT, pEqF, nLeF, nLtF, nI_clamp, or_self, or_false, false_or, not_true_eq_false, not_false_eq_true, ↓reduceIte, nmS_eq, bd1_eq, bd2_eq, nI_add, pEqS, pk_mul, Nat.reduceAdd, Bool.false_eq_true, or_true, true_or, hi, a3, e_X8_size]
    · have e1 : effP b P (mabs w).toInt = up P (b - 2) (mabs w).toInt := by unfold effP; rw [if_pos e]
      have e2 : effN b N (mabs w).toInt = N := by unfold effN; rw [if_neg (by omega)]
      have e3 : effK b K (mabs w).toInt = K := by unfold effK; rw [if_neg (by omega)]
      rw [e1, e2, e3]
      refine ⟨_, ?_, (Mp.p5 _ _).trans (Mp.p2 _ _), h.toP hn (y := mabs w) (Eq.refl _) ha hm (x := b - 2) (by omega)⟩
      simp (disch := omega) only [f_X8_puts, b_X8_puts_24, b_X8_puts_87, b_X8_puts_101, b_X8_puts_111, b_X8_puts_134, b_X8_puts_159, b_X8_puts_161, lit, pLeT, pLeF, pLtT, pLtF, pEqT, pEqF, nLeF, nLtF, nI_clamp, or_self, or_false, false_or, not_true_eq_false, not_false_eq_true, ↓reduceIte, nmS_eq, bd1_eq, bd2_eq, nI_add, pEqS, pk_mul, Nat.reduceAdd, Bool.false_eq_true, or_true, true_or, hi, a3, e_X8_size, pk_sub, pL_nk]
    · have e1 : effP b P (mabs w).toInt = P := by unfold effP; rw [if_neg (by omega)]
      have e2 : effN b N (mabs w).toInt = up N (b - 10) (mabs w).toInt := by unfold effN; rw [if_pos e.1]
      have e3 : effK b K (mabs w).toInt = K := by unfold effK; rw [if_neg (by omega)]
      rw [e1, e2, e3]
      refine ⟨_, ?_, (Mp.p5 _ _).trans (Mp.p2 _ _), h.toN hn (y := mabs w) (Eq.refl _) ha hm (x := b - 10) (by omega)⟩
      simp (disch := omega) only [f_X8_puts, b_X8_puts_24, b_X8_puts_87, b_X8_puts_101, b_X8_puts_111, b_X8_puts_134, b_X8_puts_159, b_X8_puts_161, lit, pLeT, pLeF, pLtT, pLtF, pEqT, pEqF, nLeF, nLtF, nI_clamp, or_self, or_false, false_or, not_true_eq_false, not_false_eq_true, ↓reduceIte, nmS_eq, bd1_eq, bd2_eq, nI_add, pEqS, pk_mul, Nat.reduceAdd, Bool.false_eq_true, or_true, true_or, hi, a3, e_X8_size, pk_sub, pL_nk]
/-- all coefficients, in both -/
theorem put_loop {r n0 k0 p k1 : Nat} (w : Nat → Int64) (b : Nat → Nat) (hb : ∀ v, v < 8 → b v < 18) (okw : okC w) (σ0 τ0 : Sto) (hwX : ∀ v, v < 8 → σ0.2 (k1 + 1) v = w v) (hwM : ∀ v, v < 8 → τ0.2 k0 (p + 2 + v) = w v) (hk1 : k1 + 1 < 234 ∨ 235 < k1) (hk0 : k0 ≠ 12 ∧ k0 ≠ 15) (hp : p + 10 ≤ n0) (hn0 : n0 < 100000) (hbX : ∀ v, v < 8 → σ0.1 (3 + r) v = nI (b v)) (hbM : ∀ v, v < 8 → τ0.1 3 (40 * r + v) = nI (b v)) (hr : r < 8) (D : Int) (hD : 0 ≤ D ∧ D ≤ 9223372036854775807) (nX nM : Nat) (j : Nat) : ∀ (i : Nat) (σ τ : Sto) (P N : Nat → Int) (K S : Int), i + j = 8 → S + sumN w j i ≤ 9223372036854775807 → Nx 234 σ0 σ → Mp τ0 τ → Pt 234 P N K D σ → Qm P N K D τ → Nn P N K S →
    ∃ (σ' τ' : Sto) (P' N' : Nat → Int) (K' S' : Int), l_X3_becomePut_14 234 k1 (3 + r) 40 (nX + 1 + j) (nI i) σ = some σ' ∧ l_X8_putsAll_48 k0 n0 (nM + 1 + j) (nI p) (nI r) (nI i) τ = l_X8_putsAll_92 k0 n0 400 (nI 0) τ' ∧ Nx 234 σ0 σ' ∧ Mp τ0 τ' ∧ Pt 234 P' N' K' D σ' ∧ Qm P' N' K' D τ' ∧ Nn P' N' K' S' ∧ S' ≤ 9223372036854775807 := by
  induction j with
  | zero =>
    intro i σ τ P N K S hi hS nx mp hP hQ hn
    have e : i = 8 := by omega
    subst e
    refine ⟨σ, τ, P, N, K, S, ?_, ?_, nx, mp, hP, hQ, hn, ?_⟩
    · show b_X3_becomePut_14 _ 234 k1 (3 + r) 40 (nI 8) σ = _
      simp (disch := omega) only [b_X3_becomePut_14, lit, pLeT, pLeF, pLtT, pLtF, pEqT, pEqF, nLeF, nLtF, nI_clamp, or_self, or_false, false_or, not_true_eq_false, not_false_eq_true, ↓reduceIte, nmS_eq, bd1_eq, bd2_eq, nI_add, pEqS, pk_mul, Nat.reduceAdd, Bool.false_eq_true, or_true, true_or]
    · show b_X8_putsAll_48 _ k0 n0 (nI p) (nI r) (nI 8) τ = _
      simp (disch := omega) only [b_X8_putsAll_48, lit, pLeT, pLeF, pLtT, pLtF, pEqT, pEqF, nLeF, nLtF, nI_clamp, or_self, or_false, false_or, not_true_eq_false, not_false_eq_true, ↓reduceIte, nmS_eq, bd1_eq, bd2_eq, nI_add, pEqS, pk_mul, Nat.reduceAdd, Bool.false_eq_true, or_true, true_or]
    · simp only [sumN] at hS
      omega
  | succ j ih =>
    intro i σ τ P N K S hi hS nx mp hP hQ hn
    have hX : l_X3_becomePut_14 234 k1 (3 + r) 40 (nX + 1 + (j + 1)) (nI i) σ = b_X3_becomePut_14 (l_X3_becomePut_14 234 k1 (3 + r) 40 (nX + 1 + j)) 234 k1 (3 + r) 40 (nI i) σ := rfl
    have hM : l_X8_putsAll_48 k0 n0 (nM + 1 + (j + 1)) (nI p) (nI r) (nI i) τ = b_X8_putsAll_48 (l_X8_putsAll_48 k0 n0 (nM + 1 + j)) k0 n0 (nI p) (nI r) (nI i) τ := rfl
    have wX : σ.2 (k1 + 1) i = w i := by rw [nx.l _ _ (by omega) (by omega)]; exact hwX i (by omega)
    have wM : τ.2 k0 (p + 2 + i) = w i := by rw [mp.l _ _ hk0.1 hk0.2]; exact hwM i (by omega)
    have okw1 := okw i (by omega)
    have ha := (mabs_nn okw1).1
    have hs0 := sumN_nn okw j (i + 1) (by omega)
    have hS2 : S + ((mabs (w i)).toInt + sumN w j (i + 1)) ≤ 9223372036854775807 := hS
    have hb1 := hb i (by omega)
    by_cases q : w i = 0
    · have e1 : l_X3_becomePut_14 234 k1 (3 + r) 40 (nX + 1 + (j + 1)) (nI i) σ = l_X3_becomePut_14 234 k1 (3 + r) 40 (nX + 1 + j) (nI (i + 1)) σ := by
        rw [hX]
        simp (disch := omega) only [b_X3_becomePut_14, b_X3_becomePut_63, lit, pLeT, pLeF, pLtT, pLtF, pEqT, pEqF, nLeF, nLtF, nI_clamp, or_self, or_false, false_or, not_true_eq_false, not_false_eq_true, ↓reduceIte, nmS_eq, bd1_eq, bd2_eq, nI_add, pEqS, pk_mul, Nat.reduceAdd, Bool.false_eq_true, or_true, true_or, wX, q]
      have e2 : l_X8_putsAll_48 k0 n0 (nM + 1 + (j + 1)) (nI p) (nI r) (nI i) τ = l_X8_putsAll_48 k0 n0 (nM + 1 + j) (nI p) (nI r) (nI (i + 1)) τ := by
        rw [hM]
        simp (disch := omega) only [b_X8_putsAll_48, b_X8_putsAll_83, lit, pLeT, pLeF, pLtT, pLtF, pEqT, pEqF, nLeF, nLtF, nI_clamp, or_self, or_false, false_or, not_true_eq_false, not_false_eq_true, ↓reduceIte, nmS_eq, bd1_eq, bd2_eq, nI_add, pEqS, pk_mul, Nat.reduceAdd, Bool.false_eq_true, or_true, true_or, wM, q]
      rw [e1, e2]
      exact ih (i + 1) σ τ P N K S (by omega) (by omega) nx mp hP hQ hn
    · have bX : σ.1 (3 + r) i = nI (b i) := by rw [nx.i]; exact hbX i (by omega)
      have bM : τ.1 3 (40 * r + i) = nI (b i) := by rw [mp.i]; exact hbM i (by omega)
      have he : (if 0 < w i then b i else ctr (b i)) < 18 := by
        split
        · exact hb1
        · exact ctr_lt hb1
      obtain ⟨τ1, t1, t2, t3⟩ := e_X8_puts hQ hn hD q okw1 (by omega) hr (v := i) (by omega) hb1 bM
      obtain ⟨σ1, s1, s2, s3⟩ := e_X3_joinsPut hP hn (y := mabs (w i)) (Eq.refl _) ha (by omega) he
      have e1 : l_X3_becomePut_14 234 k1 (3 + r) 40 (nX + 1 + (j + 1)) (nI i) σ = l_X3_becomePut_14 234 k1 (3 + r) 40 (nX + 1 + j) (nI (i + 1)) σ1 := by
        rw [hX]
        rcases tri (w i) with a | ⟨a1, a2, a3, a4, a5⟩ | ⟨a1, a2, a3, a4, a5⟩
        · exact absurd a q
        · rw [if_neg a5] at s1
          simp (disch := omega) only [b_X3_becomePut_14, b_X3_becomePut_55, b_X3_becomePut_63, lit, pLeT, pLeF, pLtT, pLtF, pEqT, pEqF, nLeF, nLtF, nI_clamp, or_self, or_false, false_or, not_true_eq_false, not_false_eq_true, ↓reduceIte, nmS_eq, bd1_eq, bd2_eq, nI_add, pEqS, pk_mul, Nat.reduceAdd, Bool.false_eq_true, or_true, true_or, wX, q, a3, bX, e_X3_contraryOf hb1, s1]
        · rw [if_pos a1] at s1
          simp (disch := omega) only [b_X3_becomePut_14, b_X3_becomePut_55, b_X3_becomePut_63, lit, pLeT, pLeF, pLtT, pLtF, pEqT, pEqF, nLeF, nLtF, nI_clamp, or_self, or_false, false_or, not_true_eq_false, not_false_eq_true, ↓reduceIte, nmS_eq, bd1_eq, bd2_eq, nI_add, pEqS, pk_mul, Nat.reduceAdd, Bool.false_eq_true, or_true, true_or, wX, q, a3, bX, s1]
      have e2 : l_X8_putsAll_48 k0 n0 (nM + 1 + (j + 1)) (nI p) (nI r) (nI i) τ = l_X8_putsAll_48 k0 n0 (nM + 1 + j) (nI p) (nI r) (nI (i + 1)) τ1 := by
        rw [hM]
        simp (disch := omega) only [b_X8_putsAll_48, b_X8_putsAll_83, lit, pLeT, pLeF, pLtT, pLtF, pEqT, pEqF, nLeF, nLtF, nI_clamp, or_self, or_false, false_or, not_true_eq_false, not_false_eq_true, ↓reduceIte, nmS_eq, bd1_eq, bd2_eq, nI_add, pEqS, pk_mul, Nat.reduceAdd, Bool.false_eq_true, or_true, true_or, wM, q, t1]
      rw [e1, e2]
      exact ih (i + 1) σ1 τ1 _ _ _ (S + (mabs (w i)).toInt) (by omega) (by omega) (nx.trans s2) (mp.trans t2) s3 t3 (eff_nn hn ha he)
/-- the sums come together in the model -/
theorem put_end {k0 n0 : Nat} {P N : Nat → Int} {K D S T0 : Int} (hn : Nn P N K S) (hS : S ≤ 9223372036854775807) (hD : 0 ≤ D ∧ D ≤ 9223372036854775807) (hT : T0 = D - (K + smI (fun x => mnI (P x) (N x)) 8 0)) (τ0 : Sto) (n : Nat) (j : Nat) : ∀ (i : Nat) (τ : Sto), i + j = 8 → Mp τ0 τ → (∀ x, x < 8 → (τ.2 15 x).toInt = P x) → (∀ x, i ≤ x → x < 8 → (τ.2 12 (2 + x)).toInt = N x) → (∀ x, x < i → (τ.2 12 (2 + x)).toInt = P x - N x) → (τ.2 12 1).toInt = T0 + smI (fun x => mnI (P x) (N x)) j i → (T0 + smI (fun x => mnI (P x) (N x)) j i ≤ D) →
    ∃ τ', l_X8_putsAll_92 k0 n0 (n + 1 + j) (nI i) τ = some τ' ∧ Mp τ0 τ' ∧ (∀ x, x < 8 → (τ'.2 12 (2 + x)).toInt = P x - N x) ∧ (τ'.2 12 1).toInt = mxI T0 := by
  have hk := hn.k
  have hle := smI_le (f := fun x => mnI (P x) (N x)) (g := fun x => P x + N x) 8 0 (fun v _ hv => by
    have h1 := hn.p v (by omega)
    have h2 := mnI_s (P v) (N v)
    show mnI (P v) (N v) ≤ P v + N v
    omega)
  have hs := hn.s
  have hT1 : -9223372036854775807 ≤ T0 := by omega
  have mnn : ∀ v, v < 8 → 0 ≤ mnI (P v) (N v) := by
    intro v hv
    have h1 := hn.p v hv
    have h2 := mnI_s (P v) (N v)
    omega
  induction j with
  | zero =>
    intro i τ hi mp h15 h12 h12' h1 hle
    have e : i = 8 := by omega
    subst e
    have h1 : (τ.2 12 1).toInt = T0 := by rw [h1]; simp only [smI]; omega
    have s1 := mxI_s T0
    have hl : l_X8_putsAll_92 k0 n0 (n + 1 + 0) (nI 8) τ = b_X8_putsAll_92 (l_X8_putsAll_92 k0 n0 n) k0 n0 (nI 8) τ := rfl
    by_cases q : 0 ≤ τ.2 12 1
    · refine ⟨pL τ 12 1 (τ.2 12 1), ?_, mp.trans (Mp.p2 _ _), fun x hx => by rw [pL_nj (by omega)]; exact h12' x hx, ?_⟩
      · rw [hl]
        simp (disch := omega) only [b_X8_putsAll_92, b_X8_putsAll_209, lit, pLeT, pLeF, pLtT, pLtF, pEqT, pEqF, nLeF, nLtF, nI_clamp, or_self, or_false, false_or, not_true_eq_false, not_false_eq_true, ↓reduceIte, nmS_eq, bd1_eq, bd2_eq, nI_add, pEqS, pk_mul, Nat.reduceAdd, Bool.false_eq_true, or_true, true_or, q]
      · rw [pL_at, h1]
        rw [leL, toI0] at q
        omega
    · refine ⟨pL τ 12 1 0, ?_, mp.trans (Mp.p2 _ _), fun x hx => by rw [pL_nj (by omega)]; exact h12' x hx, ?_⟩
      · rw [hl]
        simp (disch := omega) only [b_X8_putsAll_92, b_X8_putsAll_209, lit, pLeT, pLeF, pLtT, pLtF, pEqT, pEqF, nLeF, nLtF, nI_clamp, or_self, or_false, false_or, not_true_eq_false, not_false_eq_true, ↓reduceIte, nmS_eq, bd1_eq, bd2_eq, nI_add, pEqS, pk_mul, Nat.reduceAdd, Bool.false_eq_true, or_true, true_or, q]
      · rw [pL_at, toI0]
        rw [leL, toI0] at q
        omega
  | succ j ih =>
    intro i τ hi mp h15 h12 h12' h1 hle2
    have hl : l_X8_putsAll_92 k0 n0 (n + 1 + (j + 1)) (nI i) τ = b_X8_putsAll_92 (l_X8_putsAll_92 k0 n0 (n + 1 + j)) k0 n0 (nI i) τ := rfl
    have p1 := h15 i (by omega)
    have n1 := h12 i (Nat.le_refl _) (by omega)
    have hpn := hn.p i (by omega)
    have hone := hn.one (x := i) (by omega)
    have ms := mnI_s (P i) (N i)
    have hrest := smI_nn (f := fun x => mnI (P x) (N x)) j (i + 1) (fun v _ hv => mnn v (by omega))
    have h1 : (τ.2 12 1).toInt = T0 + (mnI (P i) (N i) + smI (fun x => mnI (P x) (N x)) j (i + 1)) := h1
    have hle2 : T0 + (mnI (P i) (N i) + smI (fun x => mnI (P x) (N x)) j (i + 1)) ≤ D := hle2
    generalize hm : (if τ.2 12 (2 + i) ≤ τ.2 15 i then τ.2 12 (2 + i) else τ.2 15 i) = m
    have hmi : m.toInt = mnI (P i) (N i) := by
      rw [← hm]
      by_cases q : τ.2 12 (2 + i) ≤ τ.2 15 i
      · rw [if_pos q, n1]
        rw [leL, n1, p1] at q
        omega
      · rw [if_neg q, p1]
        rw [leL, n1, p1] at q
        omega
    have e1 : l_X8_putsAll_92 k0 n0 (n + 1 + (j + 1)) (nI i) τ = l_X8_putsAll_92 k0 n0 (n + 1 + j) (nI (i + 1)) (pL (pL τ 12 1 (τ.2 12 1 - m)) 12 (2 + i) (τ.2 15 i - τ.2 12 (2 + i))) := by
      rw [hl, ← hm]
      by_cases q : τ.2 12 (2 + i) ≤ τ.2 15 i
      · simp (disch := omega) only [b_X8_putsAll_92, b_X8_putsAll_138, lit, pLeT, pLeF, pLtT, pLtF, pEqT, pEqF, nLeF, nLtF, nI_clamp, or_self, or_false, false_or, not_true_eq_false, not_false_eq_true, ↓reduceIte, nmS_eq, bd1_eq, bd2_eq, nI_add, pEqS, pk_mul, Nat.reduceAdd, Bool.false_eq_true, or_true, true_or, q, pL_nk, pL_nj]
      · simp (disch := omega) only [b_X8_putsAll_92, b_X8_putsAll_138, lit, pLeT, pLeF, pLtT, pLtF, pEqT, pEqF, nLeF, nLtF, nI_clamp, or_self, or_false, false_or, not_true_eq_false, not_false_eq_true, ↓reduceIte, nmS_eq, bd1_eq, bd2_eq, nI_add, pEqS, pk_mul, Nat.reduceAdd, Bool.false_eq_true, or_true, true_or, q, pL_nk, pL_nj]
    rw [e1]
    refine ih (i + 1) _ (by omega) (mp.trans ((Mp.p2 _ _).trans (Mp.p2 _ _))) (fun x hx => by rw [pL_nk (by omega), pL_nk (by omega)]; exact h15 x hx) (fun x hx hx2 => by rw [pL_nj (by omega), pL_nj (by omega)]; exact h12 x (by omega) hx2) (fun x hx => ?_) ?_ (by omega)
    · by_cases e : x = i
      · subst e
        rw [pL_at, subL (by omega) (by omega), p1, n1]
      · rw [pL_nj (by omega), pL_nj (by omega)]
        exact h12' x (by omega)
    · rw [pL_nj (by omega), pL_at, subL (by omega) (by omega), h1, hmi]
      omega
theorem put_zero {k0 n0 p r : Nat} (hp : p + 10 ≤ n0) (hn0 : n0 < 100000) (hk0 : k0 ≠ 12 ∧ k0 ≠ 15) (τ0 : Sto) (n : Nat) (j : Nat) : ∀ (i : Nat) (τ : Sto), i + j = 8 → Mp τ0 τ → (∀ x, x < i → τ.2 15 x = 0 ∧ τ.2 12 (2 + x) = 0) → ∃ τ', l_X8_putsAll_3 k0 n0 (n + 1 + j) (nI p) (nI r) (nI i) τ = l_X8_putsAll_48 k0 n0 400 (nI p) (nI r) (nI 0) τ' ∧ Mp τ0 τ' ∧ (∀ x, x < 8 → τ'.2 15 x = 0 ∧ τ'.2 12 (2 + x) = 0) ∧ τ'.2 12 1 = τ0.2 k0 (p + 1) := by
  induction j with
  | zero =>
    intro i τ hi mp h
    have e : i = 8 := by omega
    subst e
    have hd : τ.2 k0 (p + 1) = τ0.2 k0 (p + 1) := mp.l _ _ hk0.1 hk0.2
    refine ⟨pL τ 12 1 (τ0.2 k0 (p + 1)), ?_, mp.trans (Mp.p2 _ _), fun x hx => ⟨by rw [pL_nk (by omega)]; exact (h x hx).1, by rw [pL_nj (by omega)]; exact (h x hx).2⟩, pL_at _⟩
    show b_X8_putsAll_3 _ k0 n0 (nI p) (nI r) (nI 8) τ = _
    simp (disch := omega) only [b_X8_putsAll_3, lit, pLeT, pLeF, pLtT, pLtF, pEqT, pEqF, nLeF, nLtF, nI_clamp, or_self, or_false, false_or, not_true_eq_false, not_false_eq_true, ↓reduceIte, nmS_eq, bd1_eq, bd2_eq, nI_add, pEqS, pk_mul, Nat.reduceAdd, Bool.false_eq_true, or_true, true_or, hd]
  | succ j ih =>
    intro i τ hi mp h
    have e1 : l_X8_putsAll_3 k0 n0 (n + 1 + (j + 1)) (nI p) (nI r) (nI i) τ = l_X8_putsAll_3 k0 n0 (n + 1 + j) (nI p) (nI r) (nI (i + 1)) (pL (pL τ 15 i 0) 12 (2 + i) 0) := by
      show b_X8_putsAll_3 (l_X8_putsAll_3 k0 n0 (n + 1 + j)) k0 n0 (nI p) (nI r) (nI i) τ = _
      simp (disch := omega) only [b_X8_putsAll_3, lit, pLeT, pLeF, pLtT, pLtF, pEqT, pEqF, nLeF, nLtF, nI_clamp, or_self, or_false, false_or, not_true_eq_false, not_false_eq_true, ↓reduceIte, nmS_eq, bd1_eq, bd2_eq, nI_add, pEqS, pk_mul, Nat.reduceAdd, Bool.false_eq_true, or_true, true_or]
    rw [e1]
    refine ih (i + 1) _ (by omega) (mp.trans ((Mp.p5 _ _).trans (Mp.p2 _ _))) (fun x hx => ?_)
    by_cases e : x = i
    · subst e
      rw [pL_nk (by omega), pL_at, pL_at]
      exact ⟨rfl, rfl⟩
    · rw [pL_nk (by omega), pL_nj (by omega), pL_nj (by omega), pL_nk (by omega)]
      exact h x (by omega)
theorem sumN_le {c : Nat → Int64} {P N : Nat → Int} (hc : ∀ v, v < 8 → (c v).toInt = P v - N v) (hp : ∀ v, v < 8 → 0 ≤ P v ∧ 0 ≤ N v) (okc : okC c) (j : Nat) : ∀ i, i + j ≤ 8 → sumN c j i ≤ smI (fun x => P x + N x) j i := by
  induction j with
  | zero => intros; exact Int.le_refl _
  | succ j ih =>
    intro i hi
    have h1 := ih (i + 1) (by omega)
    have h2 := hc i (by omega)
    have h3 := hp i (by omega)
    have h4 := mabs_int (okc i (by omega))
    unfold sumN smI
    have h5 : (mabs (c i)).toInt ≤ P i + N i := by
      rw [h4]
      split <;> omega
    show (mabs (c i)).toInt + sumN c j (i + 1) ≤ (P i + N i) + smI (fun x => P x + N x) j (i + 1)
    omega
/-- what is put follows from its sums -/
theorem Pt.fin {P N : Nat → Int} {K D S : Int} {σ τ : Sto} (h : Pt 234 P N K D σ) (hn : Nn P N K S) (hS : S ≤ 9223372036854775807) (hm : ∀ x, x < 8 → (τ.2 12 (2 + x)).toInt = P x - N x) (hd : (τ.2 12 1).toInt = mxI (D - (K + smI (fun x => mnI (P x) (N x)) 8 0))) : (∀ v, v < 8 → ok (σ.2 (234 + 1) v) ∧ τ.2 12 (0 + 2 + v) = σ.2 (234 + 1) v) ∧ τ.2 12 (0 + 1) = σ.2 234 2 ∧ 0 ≤ (σ.2 234 2).toInt ∧ 0 ≤ tot (σ.2 (234 + 1)) := by
  have hc : okC (σ.2 (234 + 1)) := by
    intro v hv
    have h1 := h.c v hv
    have h2 := hn.p v hv
    have h3 := hn.one hv
    show (σ.2 (234 + 1) v).toInt ≠ _
    omega
  refine ⟨fun v hv => ⟨hc v hv, ?_⟩, ?_, h.dnn, ?_⟩
  · rw [Nat.zero_add, eqL, hm v hv, h.c v hv]
  · rw [Nat.zero_add, eqL, hd, h.d]
  · have h1 := sumN_le h.c hn.p hc 8 0 (by omega)
    have h2 := hn.s
    have h3 := hn.k
    have h4 := sumN_nn hc 8 0 (by omega)
    rw [leL, toI0]
    rcases tot_int hc with z | z
    · omega
    · omega
/-- a clause with a witness put, in both -/
theorem put_all {r n0 k0 p k1 : Nat} (b : Nat → Nat) (hb : ∀ v, v < 8 → b v < 18) (σ τ : Sto) (hc : ∀ v, v < 8 → ok (σ.2 (k1 + 1) v) ∧ τ.2 k0 (p + 2 + v) = σ.2 (k1 + 1) v) (hd : τ.2 k0 (p + 1) = σ.2 k1 2) (dn : 0 ≤ (σ.2 k1 2).toInt) (tt : 0 ≤ tot (σ.2 (k1 + 1))) (hk1 : k1 + 1 < 234 ∨ 235 < k1) (hk0 : k0 ≠ 12 ∧ k0 ≠ 15) (hp : p + 10 ≤ n0) (hn0 : n0 < 100000) (hbX : ∀ v, v < 8 → σ.1 (3 + r) v = nI (b v)) (hbM : ∀ v, v < 8 → τ.1 3 (40 * r + v) = nI (b v)) (hr : r < 8) :
    ∃ σ' τ', f_X3_becomePut 234 k1 (3 + r) 40 σ = some σ' ∧ f_X8_putsAll k0 n0 (nI p) (nI r) τ = some τ' ∧ Nx 234 σ σ' ∧ Mp τ τ' ∧ (∀ v, v < 8 → ok (σ'.2 (234 + 1) v) ∧ τ'.2 12 (0 + 2 + v) = σ'.2 (234 + 1) v) ∧ τ'.2 12 (0 + 1) = σ'.2 234 2 ∧ 0 ≤ (σ'.2 234 2).toInt ∧ 0 ≤ tot (σ'.2 (234 + 1)) := by
  have okw : okC (σ.2 (k1 + 1)) := fun v hv => (hc v hv).1
  have hsum : sumN (σ.2 (k1 + 1)) 8 0 ≤ 9223372036854775807 := by
    rcases tot_int okw with z | z
    · exact z.1
    · rw [leL, z.2] at tt
      exact absurd tt (by decide)
  have rd := rngL (σ.2 k1 2)
  have hD : 0 ≤ (σ.2 k1 2).toInt ∧ (σ.2 k1 2).toInt ≤ 9223372036854775807 := by omega
  obtain ⟨τ1, z1, z2, z3, z4⟩ := put_zero (r := r) hp hn0 hk0 τ 391 8 0 τ (by omega) Mp.rfl (fun x hx => by omega)
  have eM : f_X8_putsAll k0 n0 (nI p) (nI r) τ = l_X8_putsAll_48 k0 n0 400 (nI p) (nI r) (nI 0) τ1 := z1
  generalize hs : pL (pL (wL σ (234 + 1) 0 8 (fun _ => 0)) 234 2 0) 234 2 (σ.2 k1 2) = σ1
  have nx1 : Nx 234 σ σ1 := by
    rw [← hs]
    exact ((Nx.w1 _ _ _).trans (Nx.p0 _ _)).trans (Nx.p0 _ _)
  have eX : f_X3_becomePut 234 k1 (3 + r) 40 σ = l_X3_becomePut_14 234 k1 (3 + r) 40 400 (nI 0) σ1 := by
    rw [← hs]
    simp (disch := omega) only [f_X3_becomePut, e_X3_clear, lit, pLeT, pLeF, pLtT, pLtF, pEqT, pEqF, nLeF, nLtF, nI_clamp, or_self, or_false, false_or, not_true_eq_false, not_false_eq_true, ↓reduceIte, nmS_eq, bd1_eq, bd2_eq, nI_add, pEqS, pk_mul, Nat.reduceAdd, Bool.false_eq_true, or_true, true_or, pL_nk, wL_k]
  have mn0 : smI (fun _ => mnI 0 0) 8 0 = 0 := by decide
  have sm0 : smI (fun _ => (0 : Int) + 0) 8 0 = 0 := by decide
  have hPt : Pt 234 (fun _ => 0) (fun _ => 0) 0 (σ.2 k1 2).toInt σ1 := by
    refine ⟨fun x hx => ?_, ?_⟩
    · rw [← hs, pL_nk (by omega), pL_nk (by omega), wL_at0 hx, toI0]
      rfl
    · rw [← hs, pL_at]
      show (σ.2 k1 2).toInt = mxI ((σ.2 k1 2).toInt - (0 + smI (fun _ => mnI 0 0) 8 0))
      rw [mn0]
      have := mxI_s ((σ.2 k1 2).toInt - (0 + 0))
      omega
  have hQt : Qm (fun _ => 0) (fun _ => 0) 0 (σ.2 k1 2).toInt τ1 := by
    refine ⟨fun x hx => by rw [(z3 x hx).1, toI0], fun x hx => by rw [(z3 x hx).2, toI0], ?_⟩
    rw [z4, hd, Int.sub_zero]
  have hNn : Nn (fun _ => 0) (fun _ => 0) 0 0 := ⟨fun x _ => ⟨Int.le_refl _, Int.le_refl _⟩, Int.le_refl _, by rw [sm0]; decide⟩
  obtain ⟨σ2, τ2, P, N, K, S, b1, b2, b3, b4, b5, b6, b7, b8⟩ := put_loop (r := r) (n0 := n0) (k0 := k0) (p := p) (k1 := k1) (σ.2 (k1 + 1)) b hb okw σ τ (fun v _ => rfl) (fun v hv => (hc v hv).2) hk1 hk0 hp hn0 hbX hbM hr (σ.2 k1 2).toInt hD 391 391 8 0 σ1 τ1 (fun _ => 0) (fun _ => 0) 0 0 (by omega) (by omega) nx1 z2 hPt hQt hNn
  have hsm : smI (fun x => mnI (P x) (N x)) 8 0 + ((σ.2 k1 2).toInt - (K + smI (fun x => mnI (P x) (N x)) 8 0)) = (σ.2 k1 2).toInt - K := by omega
  have hk := b7.k
  obtain ⟨τ3, c1, c2, c3, c4⟩ := put_end (k0 := k0) (n0 := n0) b7 b8 hD (T0 := (σ.2 k1 2).toInt - (K + smI (fun x => mnI (P x) (N x)) 8 0)) rfl τ 391 8 0 τ2 (by omega) b4 b6.s (fun x _ hx => b6.n x hx) (fun x hx => by omega) (by rw [b6.d]; omega) (by omega)
  have hf := b5.fin b7 b8 c3 c4
  refine ⟨σ2, τ3, ?_, ?_, b3, c2, hf⟩
  · rw [eX]
    exact b1
  · rw [eM]
    exact b2.trans c1
