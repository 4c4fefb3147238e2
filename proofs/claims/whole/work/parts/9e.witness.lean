/-! ===== witness ===== -/
def witA (f : Nat → Int32) : Nat → Nat → Bool
  | 0, _ => true
  | j + 1, i => inr (f i) 18 && witA f j (i + 1)
theorem witA_t {f : Nat → Int32} (j : Nat) : ∀ i, witA f j i = true → ∀ v, i ≤ v → v < i + j → (f v).toNatClampNeg < 18 ∧ f v = nI (f v).toNatClampNeg := by
  induction j with
  | zero => intro i _ v h1 h2; omega
  | succ j ih =>
    intro i h v h1 h2
    unfold witA at h
    rw [Bool.and_eq_true] at h
    by_cases e : v = i
    · subst e
      obtain ⟨b, b1, b2⟩ := inr_of (by omega) h.1
      rw [b2, nI_clamp (by omega)]
      exact ⟨b1, rfl⟩
    · exact ih (i + 1) h.2 v (by omega) (by omega)
theorem witA_cong {f g : Nat → Int32} (j : Nat) : ∀ i, i + j ≤ 8 → (∀ v, v < 8 → f v = g v) → witA f j i = witA g j i := by
  induction j with
  | zero => intros; rfl
  | succ j ih =>
    intro i hi h
    unfold witA
    rw [h i (by omega), ih (i + 1) (by omega) h]
theorem l_X6_isWitness {r : Nat} (hr : r < 8) (σ : Sto) (n : Nat) (j : Nat) : ∀ i, i + j = 8 → l_X6_isWitness_15 (n + 1 + j) (nI r) (nI i) σ = some (if witA (σ.1 (3 + r)) j i then nI 1 else nI 0, σ) := by
  induction j with
  | zero =>
    intro i hi
    have e : i = 8 := by omega
    subst e
    show b_X6_isWitness_15 _ (nI r) (nI 8) σ = _
    simp (disch := omega) only [b_X6_isWitness_15, lit, pLeT, pLeF, pLtT, pLtF, pEqT, pEqF, nLeF, nLtF, nI_clamp, or_self, or_false, false_or, not_true_eq_false, not_false_eq_true, ↓reduceIte, nmS_eq, bd1_eq, bd2_eq, nI_add, pEqS, pk_mul, Nat.reduceAdd, Bool.false_eq_true, or_true, true_or, witA]
  | succ j ih0 =>
    intro i hi
    have ih := ih0 (i + 1) (by omega)
    have hl : l_X6_isWitness_15 (n + 1 + (j + 1)) (nI r) (nI i) σ = b_X6_isWitness_15 (l_X6_isWitness_15 (n + 1 + j)) (nI r) (nI i) σ := rfl
    rw [hl]
    unfold witA
    cases hx : inr (σ.1 (3 + r) i) 18
    · rcases inr_not hx with q | q
      · simp (disch := omega) only [b_X6_isWitness_15, b_X6_isWitness_45, lit, pLeT, pLeF, pLtT, pLtF, pEqT, pEqF, nLeF, nLtF, nI_clamp, or_self, or_false, false_or, not_true_eq_false, not_false_eq_true, ↓reduceIte, nmS_eq, bd1_eq, bd2_eq, nI_add, pEqS, pk_mul, Nat.reduceAdd, Bool.false_eq_true, or_true, true_or, q, Bool.false_and]
      · have q' : ¬ σ.1 (3 + r) i < nI 18 := Int32.not_lt.mpr q
        simp (disch := omega) only [b_X6_isWitness_15, b_X6_isWitness_45, lit, pLeT, pLeF, pLtT, pLtF, pEqT, pEqF, nLeF, nLtF, nI_clamp, or_self, or_false, false_or, not_true_eq_false, not_false_eq_true, ↓reduceIte, nmS_eq, bd1_eq, bd2_eq, nI_add, pEqS, pk_mul, Nat.reduceAdd, Bool.false_eq_true, or_true, true_or, q', Bool.false_and, ite_self]
    · have hy := inr_yes hx
      have h1 := hy.1
      have h2 : σ.1 (3 + r) i < nI 18 := Int32.not_le.mp hy.2
      simp (disch := omega) only [b_X6_isWitness_15, b_X6_isWitness_45, lit, pLeT, pLeF, pLtT, pLtF, pEqT, pEqF, nLeF, nLtF, nI_clamp, or_self, or_false, false_or, not_true_eq_false, not_false_eq_true, ↓reduceIte, nmS_eq, bd1_eq, bd2_eq, nI_add, pEqS, pk_mul, Nat.reduceAdd, Bool.false_eq_true, or_true, true_or, h1, h2, ih, Bool.true_and]
theorem l_X8_witness53 {r : Nat} (hr : r < 8) (τ : Sto) (n : Nat) (j : Nat) : ∀ i, i + j = 8 → l_X8_witness_53 (n + 1 + j) (nI r) (nI i) τ = if witA (fun v => τ.1 3 (40 * r + v)) j i then (bd1 (f_X8_begins τ) fun s => bd1 (f_X8_readsClause s) fun s => if s.1 0 11 = nI 0 then b_X8_witness_112 (nI r) (nI 1) s else b_X8_witness_112 (nI r) (nI 0) s) else some (-nI 1000010 - nI 2, pI τ 0 4 (nI 2)) := by
  induction j with
  | zero =>
    intro i hi
    have e : i = 8 := by omega
    subst e
    show b_X8_witness_53 _ (nI r) (nI 8) τ = _
    simp (disch := omega) only [b_X8_witness_53, lit, pLeT, pLeF, pLtT, pLtF, pEqT, pEqF, nLeF, nLtF, nI_clamp, or_self, or_false, false_or, not_true_eq_false, not_false_eq_true, ↓reduceIte, nmS_eq, bd1_eq, bd2_eq, nI_add, pEqS, pk_mul, Nat.reduceAdd, Bool.false_eq_true, or_true, true_or, witA]
  | succ j ih0 =>
    intro i hi
    have ih := ih0 (i + 1) (by omega)
    have hl : l_X8_witness_53 (n + 1 + (j + 1)) (nI r) (nI i) τ = b_X8_witness_53 (l_X8_witness_53 (n + 1 + j)) (nI r) (nI i) τ := rfl
    have hin := e_inr 17 (by omega) (τ.1 3 (40 * r + i)) τ
    rw [hl]
    unfold witA
    cases hx : inr (τ.1 3 (40 * r + i)) 18
    · rw [hx] at hin
      simp (disch := omega) only [b_X8_witness_53, lit, pLeT, pLeF, pLtT, pLtF, pEqT, pEqF, nLeF, nLtF, nI_clamp, or_self, or_false, false_or, not_true_eq_false, not_false_eq_true, ↓reduceIte, nmS_eq, bd1_eq, bd2_eq, nI_add, pEqS, pk_mul, Nat.reduceAdd, Bool.false_eq_true, or_true, true_or, hin, e_X8_found, Bool.false_and]
    · rw [hx] at hin
      simp (disch := omega) only [b_X8_witness_53, lit, pLeT, pLeF, pLtT, pLtF, pEqT, pEqF, nLeF, nLtF, nI_clamp, or_self, or_false, false_or, not_true_eq_false, not_false_eq_true, ↓reduceIte, nmS_eq, bd1_eq, bd2_eq, nI_add, pEqS, pk_mul, Nat.reduceAdd, Bool.false_eq_true, or_true, true_or, hin, ih, Bool.true_and]
/-! from what is put -/
abbrev Wg (σ τ : Sto) : Prop := (∀ v, v < 8 → σ.2 (232 + 1) v = fl2 true (fun v => τ.2 13 (0 + 2 + v)) v) ∧ (σ.2 232 2 = fd2 true (τ.2 13 (0 + 1)))
theorem Wg.c {σ τ : Sto} (h : Wg σ τ) : ∀ v, v < 8 → σ.2 (232 + 1) v = fl2 true (fun v => τ.2 13 (0 + 2 + v)) v := h.1
theorem Wg.d {σ τ : Sto} (h : Wg σ τ) : σ.2 232 2 = fd2 true (τ.2 13 (0 + 1)) := h.2
abbrev Fw (σ τ σ' τ' : Sto) : Prop := (∀ c j, c ≠ 227 → σ'.1 c j = σ.1 c j) ∧ (∀ c j, c ≠ 230 → c ≠ 231 → c ≠ 234 → c ≠ 235 → σ'.2 c j = σ.2 c j) ∧ (∀ c j, ¬ (c = 0 ∧ (j = 24 ∨ j = 25)) → τ'.1 c j = τ.1 c j) ∧ (∀ c j, c ≠ 12 → c ≠ 14 → c ≠ 15 → τ'.2 c j = τ.2 c j)
theorem Fw.i {σ τ σ' τ' : Sto} (h : Fw σ τ σ' τ') : ∀ c j, c ≠ 227 → σ'.1 c j = σ.1 c j := h.1
theorem Fw.l {σ τ σ' τ' : Sto} (h : Fw σ τ σ' τ') : ∀ c j, c ≠ 230 → c ≠ 231 → c ≠ 234 → c ≠ 235 → σ'.2 c j = σ.2 c j := h.2.1
theorem Fw.m {σ τ σ' τ' : Sto} (h : Fw σ τ σ' τ') : ∀ c j, ¬ (c = 0 ∧ (j = 24 ∨ j = 25)) → τ'.1 c j = τ.1 c j := h.2.2.1
theorem Fw.n {σ τ σ' τ' : Sto} (h : Fw σ τ σ' τ') : ∀ c j, c ≠ 12 → c ≠ 14 → c ≠ 15 → τ'.2 c j = τ.2 c j := h.2.2.2
theorem Fw.rfl {σ τ : Sto} : Fw σ τ σ τ := ⟨fun _ _ _ => Eq.refl _, fun _ _ _ _ _ _ => Eq.refl _, fun _ _ _ => Eq.refl _, fun _ _ _ _ _ => Eq.refl _⟩
theorem Fw.trans {σ τ σ1 τ1 σ2 τ2 : Sto} (h : Fw σ τ σ1 τ1) (h2 : Fw σ1 τ1 σ2 τ2) : Fw σ τ σ2 τ2 := ⟨fun c j q => (h2.i c j q).trans (h.i c j q), fun c j a b d e => (h2.l c j a b d e).trans (h.l c j a b d e), fun c j q => (h2.m c j q).trans (h.m c j q), fun c j a b d => (h2.n c j a b d).trans (h.n c j a b d)⟩
theorem RU.fw {u lv : Nat} {σ τ σ' τ' : Sto} (h : RU u lv σ τ) (f : Fw σ τ σ' τ') : RU u lv σ' τ' := h.ag ⟨fun c j q => f.i c j (by omega), fun c j q => f.l c j (by omega) (by omega) (by omega) (by omega)⟩ ⟨fun c j q => f.m c j (by omega), fun c j q => f.n c j (by omega) (by omega) (by omega)⟩
theorem Wg.fw {σ τ σ' τ' : Sto} (h : Wg σ τ) (f : Fw σ τ σ' τ') : Wg σ' τ' := by
  refine ⟨fun v hv => ?_, ?_⟩
  · rw [fl2_t, f.l _ _ (by omega) (by omega) (by omega) (by omega), f.n _ _ (by omega) (by omega) (by omega)]
    have := h.c v hv
    rw [fl2_t] at this
    exact this
  · rw [fd2_t, f.l _ _ (by omega) (by omega) (by omega) (by omega), f.n _ _ (by omega) (by omega) (by omega)]
    have := h.d
    rw [fd2_t] at this
    exact this
theorem Cd.fw {σ τ σ' τ' : Sto} (h : Cd σ τ) (f : Fw σ τ σ' τ') : Cd σ' τ' := by
  refine ⟨fun v hv => ?_, ?_, ?_, ?_⟩
  · rw [f.l _ _ (by omega) (by omega) (by omega) (by omega), f.n _ _ (by omega) (by omega) (by omega)]
    exact h.c v hv
  · rw [f.l _ _ (by omega) (by omega) (by omega) (by omega)]; exact h.a
  · rw [f.l _ _ (by omega) (by omega) (by omega) (by omega)]; exact h.b
  · rw [f.l _ _ (by omega) (by omega) (by omega) (by omega), f.n _ _ (by omega) (by omega) (by omega)]; exact h.d
/-- the one that is put in both follows or doesn't -/
theorem RU.fol0 {u lv : Nat} {σ τ σ1 τ1 : Sto} (h : RU u lv σ τ) (wg : Wg σ τ) (nx : Nx 234 σ σ1) (mp : Mp τ τ1) (hc : ∀ v, v < 8 → ok (σ1.2 (234 + 1) v) ∧ τ1.2 12 (0 + 2 + v) = σ1.2 (234 + 1) v) (hd : τ1.2 12 (0 + 1) = σ1.2 234 2) (dn : 0 ≤ (σ1.2 234 2).toInt) (tt : 0 ≤ tot (σ1.2 (234 + 1))) :
    ∃ (z : Bool) (σ' τ' : Sto), f_X4_followsFrom 234 (σ1.1 33 4) 232 σ1 = some (if z then nI 1 else nI 0, σ') ∧ f_X8_isFollowing 12 10 (nI 0) (-nI 1000000) (nI 1) τ1 = some (if z then nI 1 else nI 0, τ') ∧ Fw σ τ σ' τ' := by
  have f1 : Fw σ τ σ1 τ1 := ⟨fun c j _ => by rw [nx.i], fun c j a b d e => nx.l c j d e, fun c j _ => by rw [mp.i], fun c j a b d => mp.l c j a d⟩
  have h1 := h.fw f1
  have w1 := wg.fw f1
  obtain ⟨z, σ2, τ2, g1, g2, g3, g4⟩ := h1.follow 234 12 10 0 232 (σ1.1 33 4) (-nI 1000000) true (fun b hb => by rw [lvb h1 hb, memM_none hb]) (by omega) (Or.inr rfl) (by omega) (by omega) (by omega) hc hd dn tt w1.c w1.d
  refine ⟨z, σ2, τ2, g1, ?_, f1.trans ⟨fun c j q => g3.i c j q, fun c j a b d e => g3.l c j a b, fun c j q => g4.i c j q, fun c j a b d => g4.l c j b⟩⟩
  rw [if_pos rfl] at g2
  exact g2
theorem RU.fol {u lv : Nat} {σ τ σ1 τ1 : Sto} (h : RU u lv σ τ) (wg : Wg σ τ) (nx : Nx 234 σ σ1) (mp : Mp τ τ1) (hc : ∀ v, v < 8 → ok (σ1.2 (234 + 1) v) ∧ τ1.2 12 (0 + 2 + v) = σ1.2 (234 + 1) v) (hd : τ1.2 12 (0 + 1) = σ1.2 234 2) (dn : 0 ≤ (σ1.2 234 2).toInt) (tt : 0 ≤ tot (σ1.2 (234 + 1))) :
    ∃ (z : Bool) (σ' τ' : Sto), (bd2 (f_X4_followsFrom 234 (σ1.1 33 4) 232 σ1) fun r s => if ¬ (r = nI 0 ∨ r = nI 1) then none else some (r, s)) = some (if z then nI 1 else nI 0, σ') ∧ f_X8_isFollowing 12 10 (nI 0) (-nI 1000000) (nI 1) τ1 = some (if z then nI 1 else nI 0, τ') ∧ Fw σ τ σ' τ' := by
  obtain ⟨z, σ2, τ2, g1, g2, g3⟩ := h.fol0 wg nx mp hc hd dn tt
  refine ⟨z, σ2, τ2, ?_, g2, g3⟩
  rw [bd2_of g1]
  cases z <;> rfl
theorem RU.fput {u lv : Nat} {σ τ : Sto} (h : RU u lv σ τ) (wg : Wg σ τ) {r n0 k0 p k1 : Nat} (b : Nat → Nat) (hb : ∀ v, v < 8 → b v < 18) (hc : ∀ v, v < 8 → ok (σ.2 (k1 + 1) v) ∧ τ.2 k0 (p + 2 + v) = σ.2 (k1 + 1) v) (hd : τ.2 k0 (p + 1) = σ.2 k1 2) (dn : 0 ≤ (σ.2 k1 2).toInt) (tt : 0 ≤ tot (σ.2 (k1 + 1))) (hk1 : k1 + 1 < 234 ∨ 235 < k1) (hk0 : k0 ≠ 12 ∧ k0 ≠ 15) (hp : p + 10 ≤ n0) (hn0 : n0 < 100000) (hbX : ∀ v, v < 8 → σ.1 (3 + r) v = nI (b v)) (hbM : ∀ v, v < 8 → τ.1 3 (40 * r + v) = nI (b v)) (hr : r < 8) :
    ∃ (z : Bool) (σ1 σ' τ1 τ' : Sto), f_X3_becomePut 234 k1 (3 + r) 40 σ = some σ1 ∧ f_X4_followsFrom 234 (σ1.1 33 4) 232 σ1 = some (if z then nI 1 else nI 0, σ') ∧ f_X8_putsAll k0 n0 (nI p) (nI r) τ = some τ1 ∧ f_X8_isFollowing 12 10 (nI 0) (-nI 1000000) (nI 1) τ1 = some (if z then nI 1 else nI 0, τ') ∧ Fw σ τ σ' τ' := by
  obtain ⟨σ1, τ1, a1, a2, a3, a4, a5, a6, a7, a8⟩ := put_all b hb σ τ hc hd dn tt hk1 hk0 hp hn0 hbX hbM hr
  obtain ⟨z, σ2, τ2, g1, g2, g3⟩ := h.fol0 wg a3 a4 a5 a6 a7 a8
  exact ⟨z, σ1, σ2, τ1, τ2, a1, g1, a2, g2, g3⟩
theorem w286_0 (τ : Sto) : b_X8_witness_286 (nI 0) τ = some (-nI 1000000, pI τ 0 4 (nI 0)) := by
  simp (disch := omega) only [b_X8_witness_286, b_X8_witness_301, lit, pLeT, pLeF, pLtT, pLtF, pEqT, pEqF, nLeF, nLtF, nI_clamp, or_self, or_false, false_or, not_true_eq_false, not_false_eq_true, ↓reduceIte, nmS_eq, bd1_eq, bd2_eq, nI_add, pEqS, pk_mul, Nat.reduceAdd, Bool.false_eq_true, or_true, true_or, e_X8_well]
theorem wit_no {r : Nat} (τ : Sto) (n : Nat) (j : Nat) : ∀ i, i + j = 30 → l_X8_witness_175 (n + 1 + j) (nI r) (nI 0) (nI i) τ = b_X8_witness_286 (nI 0) τ := by
  induction j with
  | zero =>
    intro i hi
    have e : i = 30 := by omega
    subst e
    show b_X8_witness_175 _ (nI r) (nI 0) (nI 30) τ = _
    simp (disch := omega) only [b_X8_witness_175, b_X8_witness_255, lit, pLeT, pLeF, pLtT, pLtF, pEqT, pEqF, nLeF, nLtF, nI_clamp, or_self, or_false, false_or, not_true_eq_false, not_false_eq_true, ↓reduceIte, nmS_eq, bd1_eq, bd2_eq, nI_add, pEqS, pk_mul, Nat.reduceAdd, Bool.false_eq_true, or_true, true_or]
  | succ j ih0 =>
    intro i hi
    have ih := ih0 (i + 1) (by omega)
    show b_X8_witness_175 (l_X8_witness_175 (n + 1 + j)) (nI r) (nI 0) (nI i) τ = _
    simp (disch := omega) only [b_X8_witness_175, b_X8_witness_222, lit, pLeT, pLeF, pLtT, pLtF, pEqT, pEqF, nLeF, nLtF, nI_clamp, or_self, or_false, false_or, not_true_eq_false, not_false_eq_true, ↓reduceIte, nmS_eq, bd1_eq, bd2_eq, nI_add, pEqS, pk_mul, Nat.reduceAdd, Bool.false_eq_true, or_true, true_or, ih]
theorem wit_skip {u lv r : Nat} {σ τ : Sto} (h : RU u lv σ τ) (n : Nat) (j : Nat) : ∀ i, i + j = 30 → u ≤ i → l_X8_witness_175 (n + 1 + j) (nI r) (nI 1) (nI i) τ = l_X8_witness_175 (n + 1) (nI r) (nI 1) (nI 30) τ := by
  have h30 := pw30 h.bk.hl h.bk.hu
  induction j with
  | zero =>
    intro i hi hu
    have e : i = 30 := by omega
    subst e
    rfl
  | succ j ih0 =>
    intro i hi hu
    have ih := ih0 (i + 1) (by omega) (by omega)
    have hl := e_X8_isLive τ h.bk.wl h30 (i := i) (by omega)
    rw [tb_of h.bk.hl hu, if_neg (by decide)] at hl
    rw [← ih]
    show b_X8_witness_175 (l_X8_witness_175 (n + 1 + j)) (nI r) (nI 1) (nI i) τ = _
    simp (disch := omega) only [b_X8_witness_175, b_X8_witness_222, lit, pLeT, pLeF, pLtT, pLtF, pEqT, pEqF, nLeF, nLtF, nI_clamp, or_self, or_false, false_or, not_true_eq_false, not_false_eq_true, ↓reduceIte, nmS_eq, bd1_eq, bd2_eq, nI_add, pEqS, pk_mul, Nat.reduceAdd, Bool.false_eq_true, or_true, true_or, hl]
theorem wit_loop {u lv r : Nat} (hr : r < 8) (b : Nat → Nat) (hb : ∀ v, v < 8 → b v < 18) (nX nM : Nat) (j : Nat) : ∀ (i : Nat) (σ τ : Sto), i + j = u → RU u lv σ τ → Wg σ τ → Cd σ τ → (∀ a, lv.testBit a = true → 0 ≤ tot (σ.2 (36 + 2 * a + 1))) → (∀ v, v < 8 → σ.1 (3 + r) v = nI (b v)) → (∀ v, v < 8 → τ.1 3 (40 * r + v) = nI (b v)) →
    ∃ (z : Bool) (σ' τ' : Sto), l_X4_comesByWitness_10 17 (3 + r) 40 (nX + 1 + j) (nI i) σ = some (if z then nI 1 else nI 0, σ') ∧ l_X8_witness_175 (nM + 1 + (30 - i)) (nI r) (nI 1) (nI i) τ = b_X8_witness_286 (if z then nI 1 else nI 0) τ' ∧ Fw σ τ σ' τ' := by
  induction j with
  | zero =>
    intro i σ τ hi h wg cd hz hbX hbM
    have e : i = u := by omega
    subst e
    have hu := h.bk.hu
    have ts := tot_small (c := σ.2 (17 + 1)) (fun v hv => ⟨(cd.c v hv).1, (cd.c v hv).2.1⟩)
    have hX : l_X4_comesByWitness_10 17 (3 + r) 40 (nX + 1 + 0) (nI i) σ = b_X4_comesByWitness_10 (l_X4_comesByWitness_10 17 (3 + r) 40 nX) 17 (3 + r) 40 (nI i) σ := rfl
    have hM : l_X8_witness_175 (nM + 1 + (30 - i)) (nI r) (nI 1) (nI i) τ = b_X8_witness_175 (l_X8_witness_175 nM) (nI r) (nI 1) (nI 30) τ := by
      rw [wit_skip h nM (30 - i) i (by omega) (Nat.le_refl _)]
      rfl
    rw [hX, hM]
    have us := h.us
    obtain ⟨z, σ0, σ1, τ1, τ2, a0, a1, a2, a3, a4⟩ := h.fput wg (k1 := 17) (k0 := 11) (n0 := 10) (p := 0) b hb (fun v hv => ⟨ts.1 v hv, by rw [Nat.zero_add]; exact (cd.c v hv).2.2⟩) (by rw [Nat.zero_add]; exact cd.d) cd.a ts.2.1 (by omega) (by omega) (by omega) (by omega) hbX hbM hr
    have h2 := h.fw a4
    cases z
    · refine ⟨false, σ1, τ2, ?_, ?_, a4⟩
      · simp (disch := omega) only [b_X4_comesByWitness_10, lit, pLeT, pLeF, pLtT, pLtF, pEqT, pEqF, nLeF, nLtF, nI_clamp, or_self, or_false, false_or, not_true_eq_false, not_false_eq_true, ↓reduceIte, nmS_eq, bd1_eq, bd2_eq, nI_add, pEqS, pk_mul, Nat.reduceAdd, Bool.false_eq_true, or_true, true_or, us, a0, a1]
      · simp (disch := omega) only [b_X8_witness_175, b_X8_witness_255, lit, pLeT, pLeF, pLtT, pLtF, pEqT, pEqF, nLeF, nLtF, nI_clamp, or_self, or_false, false_or, not_true_eq_false, not_false_eq_true, ↓reduceIte, nmS_eq, bd1_eq, bd2_eq, nI_add, pEqS, pk_mul, Nat.reduceAdd, Bool.false_eq_true, or_true, true_or, a2, a3]
    · have pX := h2.allX
      have pM := h2.allM
      have hap := h2.allp.2
      generalize hP : prN (σ1.1 35) 8 0 0 = A at pX pM hap
      by_cases A0 : A = 0
      · subst A0
        have l0 : (lN 0 ≤ (0 : Int64)) = True := eq_true (by decide)
        refine ⟨true, σ1, τ2, ?_, ?_, a4⟩
        · simp (disch := omega) only [b_X4_comesByWitness_10, lit, pLeT, pLeF, pLtT, pLtF, pEqT, pEqF, nLeF, nLtF, nI_clamp, or_self, or_false, false_or, not_true_eq_false, not_false_eq_true, ↓reduceIte, nmS_eq, bd1_eq, bd2_eq, nI_add, pEqS, pk_mul, Nat.reduceAdd, Bool.false_eq_true, or_true, true_or, us, a0, a1, pX]
        · simp (disch := omega) only [b_X8_witness_175, b_X8_witness_255, lit, pLeT, pLeF, pLtT, pLtF, pEqT, pEqF, nLeF, nLtF, nI_clamp, or_self, or_false, false_or, not_true_eq_false, not_false_eq_true, ↓reduceIte, nmS_eq, bd1_eq, bd2_eq, nI_add, pEqS, pk_mul, Nat.reduceAdd, Bool.false_eq_true, or_true, true_or, a2, a3, pM, l0]
      · have lp : (lN A ≤ (0 : Int64)) = False := eq_false (fun z => by
          rw [leL, lN_toInt (by omega), toI0] at z
          omega)
        have wg2 := wg.fw a4
        obtain ⟨σ3, τ3, b1, b2, b3, b4, b5, b6, b7, b8⟩ := price_all hr (fun v => (σ1.1 35 v).toNatClampNeg) (fun v hv => (h2.prs hv).1) b hb σ1 τ2 (fun v hv => (h2.prs hv).2.1) (fun v hv => (h2.prs hv).2.2) (fun v hv => by rw [a4.i _ _ (by omega)]; exact hbX v hv) (fun v hv => by rw [a4.m _ _ (by omega)]; exact hbM v hv)
        obtain ⟨z, σ4, τ4, c1, c2, c3⟩ := h2.fol wg2 b3 b4 b5 b6 b7 b8
        refine ⟨z, σ4, τ4, ?_, ?_, a4.trans c3⟩
        · rw [← c1]
          simp (disch := omega) only [b_X4_comesByWitness_10, lit, pLeT, pLeF, pLtT, pLtF, pEqT, pEqF, nLeF, nLtF, nI_clamp, or_self, or_false, false_or, not_true_eq_false, not_false_eq_true, ↓reduceIte, nmS_eq, bd1_eq, bd2_eq, nI_add, pEqS, pk_mul, Nat.reduceAdd, Bool.false_eq_true, or_true, true_or, us, a0, a1, pX, b1]
        · simp (disch := omega) only [b_X8_witness_175, b_X8_witness_255, lit, pLeT, pLeF, pLtT, pLtF, pEqT, pEqF, nLeF, nLtF, nI_clamp, or_self, or_false, false_or, not_true_eq_false, not_false_eq_true, ↓reduceIte, nmS_eq, bd1_eq, bd2_eq, nI_add, pEqS, pk_mul, Nat.reduceAdd, Bool.false_eq_true, or_true, true_or, a2, a3, pM, lp, b2, c2]
  | succ j ih =>
    intro i σ τ hi h wg cd hz hbX hbM
    have hu := h.bk.hu
    have h30 := pw30 h.bk.hl hu
    have us := h.us
    have hX : l_X4_comesByWitness_10 17 (3 + r) 40 (nX + 1 + (j + 1)) (nI i) σ = b_X4_comesByWitness_10 (l_X4_comesByWitness_10 17 (3 + r) 40 (nX + 1 + j)) 17 (3 + r) 40 (nI i) σ := rfl
    have hM : l_X8_witness_175 (nM + 1 + (30 - i)) (nI r) (nI 1) (nI i) τ = b_X8_witness_175 (l_X8_witness_175 (nM + 1 + (30 - (i + 1)))) (nI r) (nI 1) (nI i) τ := by
      rw [show nM + 1 + (30 - i) = (nM + 1 + (30 - (i + 1))) + 1 by omega]
      rfl
    rw [hX, hM]
    have lX := e_X2_isLive 33 σ (a := i) (by omega)
    rw [lvb h (by omega)] at lX
    have lM := e_X8_isLive τ h.bk.wl h30 (i := i) (by omega)
    cases hl : lv.testBit i
    · rw [hl, if_neg (by decide)] at lX lM
      obtain ⟨z, σ', τ', a1, a2, a3⟩ := ih (i + 1) σ τ (by omega) h wg cd hz hbX hbM
      refine ⟨z, σ', τ', ?_, ?_, a3⟩
      · rw [← a1]
        simp (disch := omega) only [b_X4_comesByWitness_10, b_X4_comesByWitness_73, lit, pLeT, pLeF, pLtT, pLtF, pEqT, pEqF, nLeF, nLtF, nI_clamp, or_self, or_false, false_or, not_true_eq_false, not_false_eq_true, ↓reduceIte, nmS_eq, bd1_eq, bd2_eq, nI_add, pEqS, pk_mul, Nat.reduceAdd, Bool.false_eq_true, or_true, true_or, us, lX]
      · rw [← a2]
        simp (disch := omega) only [b_X8_witness_175, b_X8_witness_222, lit, pLeT, pLeF, pLtT, pLtF, pEqT, pEqF, nLeF, nLtF, nI_clamp, or_self, or_false, false_or, not_true_eq_false, not_false_eq_true, ↓reduceIte, nmS_eq, bd1_eq, bd2_eq, nI_add, pEqS, pk_mul, Nat.reduceAdd, Bool.false_eq_true, or_true, true_or, lM]
    · rw [hl, if_pos rfl] at lX lM
      have hiu : i < u := by omega
      obtain ⟨z, σ0, σ1, τ1, τ2, a0, a1, a2, a3, a4⟩ := h.fput wg (k1 := 36 + 2 * i) (k0 := 6) (n0 := 312) (p := 12 + 10 * i) b hb (fun v hv => ⟨h.okX hiu v hv, h.cfm hiu hv⟩) (h.dgm hiu) (h.clm hiu).dn (hz i hl) (by omega) (by omega) (by omega) (by omega) hbX hbM hr
      cases z
      · refine ⟨false, σ1, τ2, ?_, ?_, a4⟩
        · simp (disch := omega) only [b_X4_comesByWitness_10, b_X4_comesByWitness_73, lit, pLeT, pLeF, pLtT, pLtF, pEqT, pEqF, nLeF, nLtF, nI_clamp, or_self, or_false, false_or, not_true_eq_false, not_false_eq_true, ↓reduceIte, nmS_eq, bd1_eq, bd2_eq, nI_add, pEqS, pk_mul, Nat.reduceAdd, Bool.false_eq_true, or_true, true_or, us, lX, a0, a1]
        · have w0 := wit_no (r := r) τ2 nM (30 - (i + 1)) (i + 1) (by omega)
          simp (disch := omega) only [b_X8_witness_175, b_X8_witness_222, lit, pLeT, pLeF, pLtT, pLtF, pEqT, pEqF, nLeF, nLtF, nI_clamp, or_self, or_false, false_or, not_true_eq_false, not_false_eq_true, ↓reduceIte, nmS_eq, bd1_eq, bd2_eq, nI_add, pEqS, pk_mul, Nat.reduceAdd, Bool.false_eq_true, or_true, true_or, lM, a2, a3, w0]
      · obtain ⟨z, σ', τ', c1, c2, c3⟩ := ih (i + 1) σ1 τ2 (by omega) (h.fw a4) (wg.fw a4) (cd.fw a4) (fun a ha => by
          have e : σ1.2 (36 + 2 * a + 1) = σ.2 (36 + 2 * a + 1) := by
            have := lvu h ha
            funext j
            exact a4.l _ _ (by omega) (by omega) (by omega) (by omega)
          rw [e]
          exact hz a ha) (fun v hv => by rw [a4.i _ _ (by omega)]; exact hbX v hv) (fun v hv => by rw [a4.m _ _ (by omega)]; exact hbM v hv)
        refine ⟨z, σ', τ', ?_, ?_, a4.trans c3⟩
        · rw [← c1]
          simp (disch := omega) only [b_X4_comesByWitness_10, b_X4_comesByWitness_73, lit, pLeT, pLeF, pLtT, pLtF, pEqT, pEqF, nLeF, nLtF, nI_clamp, or_self, or_false, false_or, not_true_eq_false, not_false_eq_true, ↓reduceIte, nmS_eq, bd1_eq, bd2_eq, nI_add, pEqS, pk_mul, Nat.reduceAdd, Bool.false_eq_true, or_true, true_or, us, lX, a0, a1]
        · rw [← c2]
          simp (disch := omega) only [b_X8_witness_175, b_X8_witness_222, lit, pLeT, pLeF, pLtT, pLtF, pEqT, pEqF, nLeF, nLtF, nI_clamp, or_self, or_false, false_or, not_true_eq_false, not_false_eq_true, ↓reduceIte, nmS_eq, bd1_eq, bd2_eq, nI_add, pEqS, pk_mul, Nat.reduceAdd, Bool.false_eq_true, or_true, true_or, lM, a2, a3]
theorem s_witness (x : Int32) : Sim RR (f_X7_witness x) (f_X8_witness x) := by
  intro σ τ ⟨u, lv, h⟩
  have hF := e_X8_isFormula h
  rcases h.rd with q | q
  · rw [q] at hF
    refine ⟨-nI 1000002, σ, τ, ?_, ?_, u, lv, h⟩
    · simp (disch := omega) only [f_X7_witness, lit, pLeT, pLeF, pLtT, pLtF, pEqT, pEqF, nLeF, nLtF, nI_clamp, or_self, or_false, false_or, not_true_eq_false, not_false_eq_true, ↓reduceIte, nmS_eq, bd1_eq, bd2_eq, nI_add, pEqS, pk_mul, Nat.reduceAdd, Bool.false_eq_true, or_true, true_or, q]
    · simp (disch := omega) only [f_X8_witness, lit, pLeT, pLeF, pLtT, pLtF, pEqT, pEqF, nLeF, nLtF, nI_clamp, or_self, or_false, false_or, not_true_eq_false, not_false_eq_true, ↓reduceIte, nmS_eq, bd1_eq, bd2_eq, nI_add, pEqS, pk_mul, Nat.reduceAdd, Bool.false_eq_true, or_true, true_or, hF]
  · rw [q] at hF
    cases hx : inr x 8
    · refine ⟨-nI 1000001, σ, τ, ?_, ?_, u, lv, h⟩
      · simp (disch := omega) only [f_X7_witness, lit, pLeT, pLeF, pLtT, pLtF, pEqT, pEqF, nLeF, nLtF, nI_clamp, or_self, or_false, false_or, not_true_eq_false, not_false_eq_true, ↓reduceIte, nmS_eq, bd1_eq, bd2_eq, nI_add, pEqS, pk_mul, Nat.reduceAdd, Bool.false_eq_true, or_true, true_or, q, e_X7_isRow, hx]
      · simp (disch := omega) only [f_X8_witness, lit, pLeT, pLeF, pLtT, pLtF, pEqT, pEqF, nLeF, nLtF, nI_clamp, or_self, or_false, false_or, not_true_eq_false, not_false_eq_true, ↓reduceIte, nmS_eq, bd1_eq, bd2_eq, nI_add, pEqS, pk_mul, Nat.reduceAdd, Bool.false_eq_true, or_true, true_or, hF, e_X8_isRow, hx]
    · obtain ⟨r, hr, e⟩ := inr_of (by omega) hx
      subst e
      obtain ⟨z, z1, z2, z3⟩ := h.miss hr
      cases z
      · obtain ⟨n, l, q1, q2, q3, q4, q5, q6, q7⟩ := z3 rfl
        have pm := e_X8_isPart hr (nI 0) (nI 8) τ q4
        by_cases n8 : 8 ≤ n
        · have hp : prt n (nI 0) (nI 8) = true := by
            unfold prt
            apply decide_eq_true
            refine ⟨by decide, by decide, nI_nlt (Nat.zero_le _) (by omega), ?_⟩
            rw [pk_sub (Nat.zero_le _)]
            exact nI_nlt (by omega) (by omega)
          rw [hp, if_pos rfl] at pm
          have wX : f_X6_isWitness (nI r) σ = some (if witA (σ.1 (3 + r)) 8 0 then nI 1 else nI 0, σ) := by
            have := l_X6_isWitness hr σ 391 8 0 (by omega)
            simp (disch := omega) only [f_X6_isWitness, lit, pLeT, pLeF, pLtT, pLtF, pEqT, pEqF, nLeF, nLtF, nI_clamp, or_self, or_false, false_or, not_true_eq_false, not_false_eq_true, ↓reduceIte, nmS_eq, bd1_eq, bd2_eq, nI_add, pEqS, pk_mul, Nat.reduceAdd, Bool.false_eq_true, or_true, true_or, q3]
            exact this
          have wM := l_X8_witness53 hr τ 391 8 0 (by omega)
          rw [← witA_cong (f := σ.1 (3 + r)) (g := fun v => τ.1 3 (40 * r + v)) 8 0 (by omega) (fun v hv => q7 v (by omega))] at wM
          cases hw : witA (σ.1 (3 + r)) 8 0
          · rw [hw, if_neg (by decide)] at wX wM
            refine ⟨-nI 1000010 - nI 2, pI σ 0 7 (nI 2), pI τ 0 4 (nI 2), ?_, ?_, u, lv, h.find _⟩
            · simp (disch := omega) only [f_X7_witness, lit, pLeT, pLeF, pLtT, pLtF, pEqT, pEqF, nLeF, nLtF, nI_clamp, or_self, or_false, false_or, not_true_eq_false, not_false_eq_true, ↓reduceIte, nmS_eq, bd1_eq, bd2_eq, nI_add, pEqS, pk_mul, Nat.reduceAdd, Bool.false_eq_true, or_true, true_or, q, e_X7_isRow, hx, z1, wX, e_X7_found]
            · simp (disch := omega) only [f_X8_witness, lit, pLeT, pLeF, pLtT, pLtF, pEqT, pEqF, nLeF, nLtF, nI_clamp, or_self, or_false, false_or, not_true_eq_false, not_false_eq_true, ↓reduceIte, nmS_eq, bd1_eq, bd2_eq, nI_add, pEqS, pk_mul, Nat.reduceAdd, Bool.false_eq_true, or_true, true_or, hF, e_X8_isRow, hx, z2, pm]
              exact wM
          · rw [hw, if_pos rfl] at wX wM
            have hbb := witA_t 8 0 hw
            obtain ⟨σ1, τ1, τ2, τ3, z, y, a1, a2, a3, a4, a5, a6, a7, a8, a9, a10⟩ := h.rdClaim
            have eM : f_X8_witness (nI r) τ = b_X8_witness_112 (nI r) (if y then nI 1 else nI 0) τ2 := by
              have e1 : f_X8_witness (nI r) τ = l_X8_witness_53 (391 + 1 + 8) (nI r) (nI 0) τ := by
                simp (disch := omega) only [f_X8_witness, lit, pLeT, pLeF, pLtT, pLtF, pEqT, pEqF, nLeF, nLtF, nI_clamp, or_self, or_false, false_or, not_true_eq_false, not_false_eq_true, ↓reduceIte, nmS_eq, bd1_eq, bd2_eq, nI_add, pEqS, pk_mul, Nat.reduceAdd, Bool.false_eq_true, or_true, true_or, hF, e_X8_isRow, hx, z2, pm]
              rw [e1, wM]
              cases y <;> simp (disch := omega) only [bd1_eq, a2, a3, a4, Bool.false_eq_true, ↓reduceIte]
            have eX : f_X7_witness (nI r) σ = f_X7_claimOfTape (nI r) σ := by
              have e1 : f_X7_witness (nI r) σ = (bd2 (f_X7_claimOfTape (nI r) σ) fun r s => some (r, s)) := by
                simp (disch := omega) only [f_X7_witness, lit, pLeT, pLeF, pLtT, pLtF, pEqT, pEqF, nLeF, nLtF, nI_clamp, or_self, or_false, false_or, not_true_eq_false, not_false_eq_true, ↓reduceIte, nmS_eq, bd1_eq, bd2_eq, nI_add, pEqS, pk_mul, Nat.reduceAdd, Bool.false_eq_true, or_true, true_or, q, e_X7_isRow, hx, z1, wX]
              rw [e1, bd2_eta]
            rw [eM, eX]
            generalize hτ : pI τ3 0 6 (nI 0) = τ4 at a6 a7 a9
            cases z
            · have e8 : τ4.1 0 8 = σ1.1 13 6 := by rw [← hτ, pI_nj (by omega)]; exact (a8 rfl).symm
              refine ⟨-nI 1000100 - σ1.1 13 6, σ1, τ4, ?_, ?_, u, lv, a6⟩
              · simp (disch := omega) only [f_X7_claimOfTape, lit, pLeT, pLeF, pLtT, pLtF, pEqT, pEqF, nLeF, nLtF, nI_clamp, or_self, or_false, false_or, not_true_eq_false, not_false_eq_true, ↓reduceIte, nmS_eq, bd1_eq, bd2_eq, nI_add, pEqS, pk_mul, Nat.reduceAdd, Bool.false_eq_true, or_true, true_or, a1]
              · simp (disch := omega) only [b_X8_witness_112, bd1_of a5, lit, nmS_eq, hτ, a7, Bool.false_eq_true, bd2_eq, ↓reduceIte, e8]
            · have hc := a9 rfl
              have fx := (e_X2_isFull a6).1
              have fm := (e_X2_isFull a6).2
              by_cases hu : u < 30
              · rw [if_pos hu] at fx fm
                obtain ⟨o, o1, o2, o3⟩ := a6.over
                cases o
                · have ts := tot_small (c := σ1.2 (17 + 1)) (fun v hv => ⟨(hc.c v hv).1, (hc.c v hv).2.1⟩)
                  have tt2 := (leL _ _).mp ts.2.1
                  rw [toI0] at tt2
                  have cX := e_X3_becomeContrary 232 17 σ1 (by omega)
                  have okm : okC (fun v => τ4.2 11 (0 + 2 + v)) := fun v hv => by
                    show ok (τ4.2 11 (0 + 2 + v))
                    rw [Nat.zero_add, (hc.c v hv).2.2]
                    exact ts.1 v hv
                  have tc : tot (fun v => τ4.2 11 (0 + 2 + v)) = tot (σ1.2 (17 + 1)) := tot_cong (fun v hv => by rw [Nat.zero_add]; exact (hc.c v hv).2.2)
                  have hd : τ4.2 11 (0 + 1) = σ1.2 17 2 := by rw [Nat.zero_add]; exact hc.d
                  have cM := e_X8_turns 11 10 0 13 τ4 (by omega) (by omega) (by omega) okm (by rw [tc]; exact tt2) (by rw [hd]; exact hc.a) (Or.inr (by rw [tc]; exact Int.lt_of_le_of_lt ts.2.2 (by decide)))
                  have ec : cdg (fun v => τ4.2 11 (0 + 2 + v)) (τ4.2 11 (0 + 1)) = cdg (σ1.2 (17 + 1)) (σ1.2 17 2) := by unfold cdg; rw [tc, hd]
                  rw [ec] at cM
                  generalize hcd : cdg (σ1.2 (17 + 1)) (σ1.2 17 2) = cd at cX cM
                  generalize hs5 : pL (wL σ1 (232 + 1) 0 8 (fun v => -(σ1.2 (17 + 1) v))) 232 2 cd = σ5 at cX
                  generalize ht5 : wL (pL τ4 13 1 cd) 13 2 8 (fun v => -(τ4.2 11 (0 + 2 + v))) = τ5 at cM
                  have agx : AgX u σ1 σ5 := by
                    rw [← hs5]
                    refine ⟨fun c j _ => by rw [pL_1, wL_1], fun c j n1 => ?_⟩
                    rw [pL_nk (by omega), wL_k (by omega)]
                  have agm : AgM τ4 τ5 := by
                    rw [← ht5]
                    refine ⟨fun c j _ => by rw [wL_1, pL_1], fun c j n1 => ?_⟩
                    rw [wL_k (by omega), pL_nk (by omega)]
                  have h5 := a6.ag agx agm
                  have wg : Wg σ5 τ5 := by
                    refine ⟨fun v hv => ?_, ?_⟩
                    · rw [fl2_t, ← hs5, ← ht5, pL_nk (by omega), wL_at0 hv, show 0 + 2 + v = 2 + v by omega, wL_at hv, Nat.zero_add, (hc.c v hv).2.2]
                    · rw [fd2_t, ← hs5, ← ht5, pL_at, wL_out (by omega), Nat.zero_add, pL_at]
                  have s5 : ∀ c j, c ≠ 232 → c ≠ 233 → σ5.2 c j = σ1.2 c j := by
                    intro c j n1 n2
                    rw [← hs5, pL_nk (by omega), wL_k (by omega)]
                  have t5 : ∀ c j, c ≠ 13 → τ5.2 c j = τ4.2 c j := by
                    intro c j n1
                    rw [← ht5, wL_k (by omega), pL_nk (by omega)]
                  have hc5 : Cd σ5 τ5 := by
                    refine ⟨fun v hv => ?_, ?_, ?_, ?_⟩
                    · rw [s5 _ _ (by omega) (by omega), t5 _ _ (by omega)]; exact hc.c v hv
                    · rw [s5 _ _ (by omega) (by omega)]; exact hc.a
                    · rw [s5 _ _ (by omega) (by omega)]; exact hc.b
                    · rw [s5 _ _ (by omega) (by omega), t5 _ _ (by omega)]; exact hc.d
                  have i5 : σ5.1 = σ1.1 := by rw [← hs5, pL_1, wL_1]
                  have j5 : τ5.1 = τ4.1 := by rw [← ht5, wL_1, pL_1]
                  obtain ⟨w, σ6, τ6, b1, b2, b3⟩ := wit_loop (u := u) (lv := lv) hr (fun v => (σ.1 (3 + r) v).toNatClampNeg) (fun v hv => (hbb v (by omega) (by omega)).1) (399 - u) 369 u 0 σ5 τ5 (by omega) h5 wg hc5 (fun a ha => by
                      have e : σ5.2 (36 + 2 * a + 1) = σ1.2 (36 + 2 * a + 1) := by
                        have := lvu a6 ha
                        funext j
                        exact s5 _ _ (by omega) (by omega)
                      rw [e]
                      exact o3 rfl a ha) (fun v hv => by rw [i5, a10 _ _ (by omega) (by omega)]; exact (hbb v (by omega) (by omega)).2) (fun v hv => by
                      rcases h5.rw r hr with ⟨m1, m2⟩ | ⟨n', l', m1, m2, m3, m4, m5, m6, m7⟩
                      · rw [i5, a10 _ _ (by omega) (by omega), q3] at m2
                        have m3 := congrArg Int32.toInt m2
                        rw [nI_toInt (by omega)] at m3
                        have : (-nI 1).toInt = -1 := by decide
                        omega
                      · rw [← m7 v (by omega), i5, a10 _ _ (by omega) (by omega)]
                        exact (hbb v (by omega) (by omega)).2)
                  rw [show 399 - u + 1 + u = 400 by omega] at b1
                  have b2 : l_X8_witness_175 400 (nI r) (nI 1) (nI 0) τ5 = b_X8_witness_286 (if w then nI 1 else nI 0) τ6 := b2
                  have hR := h5.fw b3
                  have cw : f_X4_comesByWitness 17 (3 + r) 40 σ1 = some (if w then nI 1 else nI 0, σ6) := by
                    simp (disch := omega) only [f_X4_comesByWitness, lit, pLeT, pLeF, pLtT, pLtF, pEqT, pEqF, nLeF, nLtF, nI_clamp, or_self, or_false, false_or, not_true_eq_false, not_false_eq_true, ↓reduceIte, nmS_eq, bd1_eq, bd2_eq, nI_add, pEqS, pk_mul, Nat.reduceAdd, Bool.false_eq_true, or_true, true_or, cX, b1]
                  cases w
                  · rw [if_neg (by decide)] at b2 cw
                    rw [w286_0] at b2
                    refine ⟨-nI 1000000, pI σ6 0 7 (nI 0), pI τ6 0 4 (nI 0), ?_, ?_, u, lv, hR.find _⟩
                    · simp (disch := omega) only [f_X7_claimOfTape, b_X7_claimOfTape_93, lit, pLeT, pLeF, pLtT, pLtF, pEqT, pEqF, nLeF, nLtF, nI_clamp, or_self, or_false, false_or, not_true_eq_false, not_false_eq_true, ↓reduceIte, nmS_eq, bd1_eq, bd2_eq, nI_add, pEqS, pk_mul, Nat.reduceAdd, Bool.false_eq_true, or_true, true_or, a1, fx, o1, cw, e_X7_well, Nat.mul_zero, Nat.add_zero]
                    · simp (disch := omega) only [b_X8_witness_112, bd1_of a5, lit, pLeT, pLeF, pLtT, pLtF, pEqT, pEqF, nLeF, nLtF, nI_clamp, or_self, or_false, false_or, not_true_eq_false, not_false_eq_true, ↓reduceIte, nmS_eq, bd1_eq, bd2_eq, nI_add, pEqS, pk_mul, Nat.reduceAdd, Bool.false_eq_true, or_true, true_or, hτ, a7, fm, o2, cM, b2]
                  · rw [if_pos rfl] at b2 cw
                    obtain ⟨σ7, τ7, k1, k2, k3⟩ := hR.claimed hu (hc5.fw b3)
                    have b3' : b_X8_witness_286 (nI 1) τ6 = some (nI u, pI τ7 0 4 (nI 0)) := by
                      simp (disch := omega) only [b_X8_witness_286, b_X8_witness_301, lit, pLeT, pLeF, pLtT, pLtF, pEqT, pEqF, nLeF, nLtF, nI_clamp, or_self, or_false, false_or, not_true_eq_false, not_false_eq_true, ↓reduceIte, nmS_eq, bd1_eq, bd2_eq, nI_add, pEqS, pk_mul, Nat.reduceAdd, Bool.false_eq_true, or_true, true_or, k2, e_X8_well]
                    rw [b3'] at b2
                    refine ⟨nI u, pI σ7 0 7 (nI 0), pI τ7 0 4 (nI 0), ?_, ?_, u + 1, _, k3.find _⟩
                    · simp (disch := omega) only [f_X7_claimOfTape, lit, pLeT, pLeF, pLtT, pLtF, pEqT, pEqF, nLeF, nLtF, nI_clamp, or_self, or_false, false_or, not_true_eq_false, not_false_eq_true, ↓reduceIte, nmS_eq, bd1_eq, bd2_eq, nI_add, pEqS, pk_mul, Nat.reduceAdd, Bool.false_eq_true, or_true, true_or, a1, fx, o1, cw, Nat.mul_zero, Nat.add_zero, k1]
                    · simp (disch := omega) only [b_X8_witness_112, bd1_of a5, lit, pLeT, pLeF, pLtT, pLtF, pEqT, pEqF, nLeF, nLtF, nI_clamp, or_self, or_false, false_or, not_true_eq_false, not_false_eq_true, ↓reduceIte, nmS_eq, bd1_eq, bd2_eq, nI_add, pEqS, pk_mul, Nat.reduceAdd, Bool.false_eq_true, or_true, true_or, hτ, a7, fm, o2, cM, b2]
                · refine ⟨-nI 1000010 - nI 6, pI σ1 0 7 (nI 6), pI τ4 0 4 (nI 6), ?_, ?_, u, lv, a6.find _⟩
                  · simp (disch := omega) only [f_X7_claimOfTape, lit, pLeT, pLeF, pLtT, pLtF, pEqT, pEqF, nLeF, nLtF, nI_clamp, or_self, or_false, false_or, not_true_eq_false, not_false_eq_true, ↓reduceIte, nmS_eq, bd1_eq, bd2_eq, nI_add, pEqS, pk_mul, Nat.reduceAdd, Bool.false_eq_true, or_true, true_or, a1, fx, o1, e_X7_found]
                  · simp (disch := omega) only [b_X8_witness_112, bd1_of a5, lit, pLeT, pLeF, pLtT, pLtF, pEqT, pEqF, nLeF, nLtF, nI_clamp, or_self, or_false, false_or, not_true_eq_false, not_false_eq_true, ↓reduceIte, nmS_eq, bd1_eq, bd2_eq, nI_add, pEqS, pk_mul, Nat.reduceAdd, Bool.false_eq_true, or_true, true_or, hτ, a7, fm, o2, e_X8_found]
              · rw [if_neg hu] at fx fm
                refine ⟨-nI 1000003, σ1, τ4, ?_, ?_, u, lv, a6⟩
                · simp (disch := omega) only [f_X7_claimOfTape, lit, pLeT, pLeF, pLtT, pLtF, pEqT, pEqF, nLeF, nLtF, nI_clamp, or_self, or_false, false_or, not_true_eq_false, not_false_eq_true, ↓reduceIte, nmS_eq, bd1_eq, bd2_eq, nI_add, pEqS, pk_mul, Nat.reduceAdd, Bool.false_eq_true, or_true, true_or, a1, fx]
                · simp (disch := omega) only [b_X8_witness_112, bd1_of a5, lit, pLeT, pLeF, pLtT, pLtF, pEqT, pEqF, nLeF, nLtF, nI_clamp, or_self, or_false, false_or, not_true_eq_false, not_false_eq_true, ↓reduceIte, nmS_eq, bd1_eq, bd2_eq, nI_add, pEqS, pk_mul, Nat.reduceAdd, Bool.false_eq_true, or_true, true_or, hτ, a7, fm]
        · have hp : prt n (nI 0) (nI 8) = false := by
            unfold prt
            apply decide_eq_false
            intro z
            have z4 := z.2.2.2
            rw [pk_sub (Nat.zero_le _)] at z4
            exact z4 (nI_lt (by omega) (by omega))
          rw [hp, if_neg (by decide)] at pm
          refine ⟨-nI 1000010 - nI 2, pI σ 0 7 (nI 2), pI τ 0 4 (nI 2), ?_, ?_, u, lv, h.find _⟩
          · simp (disch := omega) only [f_X7_witness, f_X6_isWitness, lit, pLeT, pLeF, pLtT, pLtF, pEqT, pEqF, nLeF, nLtF, nI_clamp, or_self, or_false, false_or, not_true_eq_false, not_false_eq_true, ↓reduceIte, nmS_eq, bd1_eq, bd2_eq, nI_add, pEqS, pk_mul, Nat.reduceAdd, Bool.false_eq_true, or_true, true_or, q, e_X7_isRow, hx, z1, q3, e_X7_found]
          · simp (disch := omega) only [f_X8_witness, lit, pLeT, pLeF, pLtT, pLtF, pEqT, pEqF, nLeF, nLtF, nI_clamp, or_self, or_false, false_or, not_true_eq_false, not_false_eq_true, ↓reduceIte, nmS_eq, bd1_eq, bd2_eq, nI_add, pEqS, pk_mul, Nat.reduceAdd, Bool.false_eq_true, or_true, true_or, hF, e_X8_isRow, hx, z2, pm, e_X8_found]
      · refine ⟨-nI 1000010 - nI 1, pI σ 0 7 (nI 1), pI τ 0 4 (nI 1), ?_, ?_, u, lv, h.find _⟩
        · simp (disch := omega) only [f_X7_witness, lit, pLeT, pLeF, pLtT, pLtF, pEqT, pEqF, nLeF, nLtF, nI_clamp, or_self, or_false, false_or, not_true_eq_false, not_false_eq_true, ↓reduceIte, nmS_eq, bd1_eq, bd2_eq, nI_add, pEqS, pk_mul, Nat.reduceAdd, Bool.false_eq_true, or_true, true_or, q, e_X7_isRow, hx, z1, e_X7_found]
        · simp (disch := omega) only [f_X8_witness, lit, pLeT, pLeF, pLtT, pLtF, pEqT, pEqF, nLeF, nLtF, nI_clamp, or_self, or_false, false_or, not_true_eq_false, not_false_eq_true, ↓reduceIte, nmS_eq, bd1_eq, bd2_eq, nI_add, pEqS, pk_mul, Nat.reduceAdd, Bool.false_eq_true, or_true, true_or, hF, e_X8_isRow, hx, z2, e_X8_found]
