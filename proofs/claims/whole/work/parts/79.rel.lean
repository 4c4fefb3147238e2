/-! ===== the relation of the two stores ===== -/
def inr (x : Int32) (n : Nat) : Bool := decide (nI 0 ≤ x ∧ x < nI n)
theorem ltI (a b : Int32) : a < b ↔ a.toInt < b.toInt := Int32.lt_iff_toInt_lt
theorem leI (a b : Int32) : a ≤ b ↔ a.toInt ≤ b.toInt := Int32.le_iff_toInt_le
theorem inr_of {x : Int32} {n : Nat} (hn : n < 2147483648) (h : inr x n = true) : ∃ a, a < n ∧ x = nI a := by
  have h2 := of_decide_eq_true h
  have h3 := (leI _ _).mp h2.1
  have h4 := (ltI _ _).mp h2.2
  rw [nI_toInt (by omega)] at h3 h4
  refine ⟨x.toInt.toNat, by omega, ?_⟩
  apply Int32.toInt_inj.mp
  rw [nI_toInt (by omega)]
  omega
theorem inr_nI {a n : Nat} (hn : n < 2147483648) (ha : a < 2147483648) : inr (nI a) n = decide (a < n) := by
  unfold inr
  by_cases h : a < n
  · rw [decide_eq_true h, decide_eq_true]
    exact ⟨nI_le (by omega) (by omega), nI_lt h (by omega)⟩
  · rw [decide_eq_false h, decide_eq_false]
    intro q
    exact nI_nlt (by omega) (by omega) q.2
theorem inr_not {x : Int32} {n : Nat} (h : inr x n = false) : x < nI 0 ∨ nI n ≤ x := by
  have h2 := of_decide_eq_false h
  by_cases q : x < nI 0
  · exact Or.inl q
  · right
    exact Int32.not_lt.mp fun z => h2 ⟨Int32.not_lt.mp q, z⟩
theorem inr_yes {x : Int32} {n : Nat} (h : inr x n = true) : ¬ x < nI 0 ∧ ¬ nI n ≤ x := by
  have h2 := of_decide_eq_true h
  exact ⟨Int32.not_lt.mpr h2.1, Int32.not_le.mpr h2.2⟩
theorem lt_le1 {x : Int32} {n : Nat} (hn : n + 1 < 2147483648) : nI n < x ↔ nI (n + 1) ≤ x := by
  rw [ltI, leI, nI_toInt (by omega), nI_toInt (by omega)]
  omega
theorem e_inr (n : Nat) (hn : n + 1 < 2147483648) (x : Int32) (τ : Sto) : f_X8_in x (nI 0) (nI n) τ = some (if inr x (n + 1) then nI 1 else nI 0, τ) := by
  rw [e_X8_in]
  cases h : inr x (n + 1)
  · have h2 := inr_not h
    rw [← lt_le1 hn] at h2
    rw [if_pos h2]
    rfl
  · have h2 := inr_yes h
    rw [← lt_le1 hn] at h2
    rw [if_neg (by intro q; exact q.elim h2.1 h2.2)]
    rfl
theorem e_X7_isVariable (x : Int32) (σ : Sto) : f_X7_isVariable x σ = some (if inr x 8 then nI 1 else nI 0, σ) := by
  unfold f_X7_isVariable b_X7_isVariable_14 b_X7_isVariable_15
  cases h : inr x 8
  · rcases inr_not h with q | q
    · simp (disch := omega) only [lit, pLeT, pLeF, pLtT, pLtF, pEqT, pEqF, nLeF, nLtF, nI_clamp, or_self, or_false, false_or, not_true_eq_false, not_false_eq_true, ↓reduceIte, nmS_eq, bd1_eq, bd2_eq, nI_add, pEqS, q, Bool.false_eq_true, true_or]
    · simp (disch := omega) only [lit, pLeT, pLeF, pLtT, pLtF, pEqT, pEqF, nLeF, nLtF, nI_clamp, or_self, or_false, false_or, not_true_eq_false, not_false_eq_true, ↓reduceIte, nmS_eq, bd1_eq, bd2_eq, nI_add, pEqS, q, Bool.false_eq_true, true_or, ite_self]
  · have q := inr_yes h
    simp (disch := omega) only [lit, pLeT, pLeF, pLtT, pLtF, pEqT, pEqF, nLeF, nLtF, nI_clamp, or_self, or_false, false_or, not_true_eq_false, not_false_eq_true, ↓reduceIte, nmS_eq, bd1_eq, bd2_eq, nI_add, pEqS, q.1, q.2, or_true]
theorem e_X7_isRow (x : Int32) (σ : Sto) : f_X7_isRow x σ = some (if inr x 8 then nI 1 else nI 0, σ) := by
  unfold f_X7_isRow b_X7_isRow_14 b_X7_isRow_15
  cases h : inr x 8
  · rcases inr_not h with q | q
    · simp (disch := omega) only [lit, pLeT, pLeF, pLtT, pLtF, pEqT, pEqF, nLeF, nLtF, nI_clamp, or_self, or_false, false_or, not_true_eq_false, not_false_eq_true, ↓reduceIte, nmS_eq, bd1_eq, bd2_eq, nI_add, pEqS, q, Bool.false_eq_true, true_or]
    · simp (disch := omega) only [lit, pLeT, pLeF, pLtT, pLtF, pEqT, pEqF, nLeF, nLtF, nI_clamp, or_self, or_false, false_or, not_true_eq_false, not_false_eq_true, ↓reduceIte, nmS_eq, bd1_eq, bd2_eq, nI_add, pEqS, q, Bool.false_eq_true, true_or, ite_self]
  · have q := inr_yes h
    simp (disch := omega) only [lit, pLeT, pLeF, pLtT, pLtF, pEqT, pEqF, nLeF, nLtF, nI_clamp, or_self, or_false, false_or, not_true_eq_false, not_false_eq_true, ↓reduceIte, nmS_eq, bd1_eq, bd2_eq, nI_add, pEqS, q.1, q.2, or_true]
theorem e_X8_isRow (x : Int32) (σ : Sto) : f_X8_isRow x σ = some (if inr x 8 then nI 1 else nI 0, σ) := by
  unfold f_X8_isRow
  cases h : inr x 8 <;> simp (disch := omega) only [lit, pLeT, pLeF, pLtT, pLtF, pEqT, pEqF, nLeF, nLtF, nI_clamp, or_self, or_false, false_or, not_true_eq_false, not_false_eq_true, ↓reduceIte, nmS_eq, bd1_eq, bd2_eq, nI_add, pEqS, e_inr, Nat.reduceAdd, h, Bool.false_eq_true, or_true]
theorem e_X7_isSet (x : Int32) (σ : Sto) : f_X7_isSet x σ = some (if inr x 256 then nI 1 else nI 0, σ) := by
  unfold f_X7_isSet b_X7_isSet_15 b_X7_isSet_16
  have h9 : nI 255 < x ↔ nI 256 ≤ x := lt_le1 (by omega)
  cases h : inr x 256
  · rcases inr_not h with q | q
    · simp (disch := omega) only [lit, pLeT, pLeF, pLtT, pLtF, pEqT, pEqF, nLeF, nLtF, nI_clamp, or_self, or_false, false_or, not_true_eq_false, not_false_eq_true, ↓reduceIte, nmS_eq, bd1_eq, bd2_eq, nI_add, pEqS, q, Bool.false_eq_true, true_or]
    · simp (disch := omega) only [lit, pLeT, pLeF, pLtT, pLtF, pEqT, pEqF, nLeF, nLtF, nI_clamp, or_self, or_false, false_or, not_true_eq_false, not_false_eq_true, ↓reduceIte, nmS_eq, bd1_eq, bd2_eq, nI_add, pEqS, q, h9, Bool.false_eq_true, true_or, ite_self]
  · have q := inr_yes h
    simp (disch := omega) only [lit, pLeT, pLeF, pLtT, pLtF, pEqT, pEqF, nLeF, nLtF, nI_clamp, or_self, or_false, false_or, not_true_eq_false, not_false_eq_true, ↓reduceIte, nmS_eq, bd1_eq, bd2_eq, nI_add, pEqS, q.1, q.2, h9, or_true]
theorem i_l_i (x : Int32) : x.toInt64.toInt32 = x := by
  obtain ⟨n, -, e⟩ := wb_of32 x
  rw [← Int32.toInt_inj, Int64.toInt_toInt32, Int32.toInt_toInt64]
  have h := rngI x
  rw [Int.bmod_eq_of_le (by omega) (by omega)]
/-- a clause of the component against a row of longs -/
abbrev Cl (σ : Sto) (k : Nat) (w : Nat → Int64) : Prop := (∃ q, 1 ≤ q ∧ q ≤ 5 ∧ σ.1 k 3 = nI q ∧ w 0 = lN q) ∧ (0 ≤ (σ.2 k 2).toInt) ∧ (w 1 = σ.2 k 2) ∧ (∀ v, v < 8 → ok (σ.2 (k + 1) v) ∧ w (2 + v) = σ.2 (k + 1) v)
theorem Cl.kd {σ : Sto} {k : Nat} {w : Nat → Int64} (h : Cl σ k w) : ∃ q, 1 ≤ q ∧ q ≤ 5 ∧ σ.1 k 3 = nI q ∧ w 0 = lN q := h.1
theorem Cl.dn {σ : Sto} {k : Nat} {w : Nat → Int64} (h : Cl σ k w) : 0 ≤ (σ.2 k 2).toInt := h.2.1
theorem Cl.dg {σ : Sto} {k : Nat} {w : Nat → Int64} (h : Cl σ k w) : w 1 = σ.2 k 2 := h.2.2.1
theorem Cl.cf {σ : Sto} {k : Nat} {w : Nat → Int64} (h : Cl σ k w) : ∀ v, v < 8 → ok (σ.2 (k + 1) v) ∧ w (2 + v) = σ.2 (k + 1) v := h.2.2.2
/-- a formula: a book with so many used, so many live, a best, against a row of longs -/
abbrev Fm (σ : Sto) (b u lv : Nat) (best : Int32) (w : Nat → Int64) : Prop := (u ≤ 30) ∧ (lv < 2 ^ u) ∧ (w 9 = lN u) ∧ (w 10 = lN lv) ∧ (w 8 = best.toInt64) ∧ (w 11 = if σ.1 b 2 = nI 1 then 1 else 0) ∧ (∀ v, v < 8 → ∃ p, p ≤ 9 ∧ σ.1 (b + 2) v = nI p ∧ w v = lN p) ∧ (∀ a, a < u → Cl σ (b + 3 + 2 * a) (fun i => w (12 + 10 * a + i)))
theorem Fm.hu {σ : Sto} {b u lv : Nat} {best : Int32} {w : Nat → Int64} (h : Fm σ b u lv best w) : u ≤ 30 := h.1
theorem Fm.hl {σ : Sto} {b u lv : Nat} {best : Int32} {w : Nat → Int64} (h : Fm σ b u lv best w) : lv < 2 ^ u := h.2.1
theorem Fm.wu {σ : Sto} {b u lv : Nat} {best : Int32} {w : Nat → Int64} (h : Fm σ b u lv best w) : w 9 = lN u := h.2.2.1
theorem Fm.wl {σ : Sto} {b u lv : Nat} {best : Int32} {w : Nat → Int64} (h : Fm σ b u lv best w) : w 10 = lN lv := h.2.2.2.1
theorem Fm.wb {σ : Sto} {b u lv : Nat} {best : Int32} {w : Nat → Int64} (h : Fm σ b u lv best w) : w 8 = best.toInt64 := h.2.2.2.2.1
theorem Fm.wi {σ : Sto} {b u lv : Nat} {best : Int32} {w : Nat → Int64} (h : Fm σ b u lv best w) : w 11 = if σ.1 b 2 = nI 1 then 1 else 0 := h.2.2.2.2.2.1
theorem Fm.pr {σ : Sto} {b u lv : Nat} {best : Int32} {w : Nat → Int64} (h : Fm σ b u lv best w) : ∀ v, v < 8 → ∃ p, p ≤ 9 ∧ σ.1 (b + 2) v = nI p ∧ w v = lN p := h.2.2.2.2.2.2.1
theorem Fm.cl {σ : Sto} {b u lv : Nat} {best : Int32} {w : Nat → Int64} (h : Fm σ b u lv best w) : ∀ a, a < u → Cl σ (b + 3 + 2 * a) (fun i => w (12 + 10 * a + i)) := h.2.2.2.2.2.2.2
def Rw (σ τ : Sto) (r : Nat) : Prop := (τ.1 1 r = -nI 1000000 ∧ σ.1 12 r = -nI 1) ∨ ∃ n l, n ≤ 40 ∧ l ≤ 2 ∧ σ.1 12 r = nI n ∧ τ.1 2 r = nI n ∧ σ.1 11 r = nI l ∧ τ.1 1 r = nI l ∧ ∀ i, i < 40 → σ.1 (3 + r) i = τ.1 3 (40 * r + i)
def Im (σ τ : Sto) (k : Nat) : Prop := (σ.1 (97 + 63 * k) 2 = nI 0 ∧ τ.1 10 k = nI 0) ∨ (σ.1 (97 + 63 * k) 2 = nI 1 ∧ τ.1 10 k = nI 1 ∧ ∃ u lv, σ.1 (97 + 63 * k) 3 = nI u ∧ σ.1 (97 + 63 * k) 4 = nI lv ∧ Fm σ (97 + 63 * k) u lv (σ.1 (97 + 63 * k) 5) (fun x => τ.2 9 (312 * k + x)))
abbrev RU (u lv : Nat) (σ τ : Sto) : Prop := (σ.1 0 7 = τ.1 0 4) ∧ (∀ r, r < 8 → Rw σ τ r) ∧ (∃ L, L ≤ 200 ∧ σ.1 13 3 = nI L ∧ τ.1 0 6 = nI L ∧ ∀ i, i < L → ∃ c, c < 256 ∧ σ.1 14 i = nI c ∧ τ.1 5 i = nI c) ∧ (σ.1 13 7 = τ.1 0 7) ∧ (σ.1 33 2 = nI 0 ∨ σ.1 33 2 = nI 1) ∧ (σ.1 33 3 = nI u) ∧ (σ.1 33 4 = nI lv) ∧ (Fm σ 33 u lv (σ.1 33 5) (τ.2 6)) ∧ (∀ k, k < 2 → Im σ τ k) ∧ (∃ (o s : Nat) (us ls : Nat → Nat), o < 12 ∧ s ≤ 12 ∧ σ.1 223 3 = nI o ∧ σ.1 223 4 = nI s ∧ τ.1 0 16 = nI s ∧ (∀ i, i < s → us i ≤ u ∧ σ.1 224 ((o + i) % 12) = nI (us i) ∧ σ.1 225 ((o + i) % 12) = nI (ls i) ∧ Fm σ 33 (us i) (ls i) (σ.1 226 ((o + i) % 12)) (fun x => τ.2 8 (312 * i + x))) ∧ ∀ i j, i ≤ j → j < s → us i ≤ us j) ∧ (∀ a, a < 30 → σ.1 (36 + 2 * a) 1 = nI a) ∧ (σ.2 228 2 = 0 ∧ ∀ v, v < 8 → σ.2 229 v = 0) ∧ (∃ t, t ≤ 16 ∧ σ.1 236 1 = nI t ∧ τ.1 0 27 = nI t ∧ ∀ i, i < t → σ.1 237 i = τ.1 16 i)
theorem RU.st {u lv : Nat} {σ τ : Sto} (h : RU u lv σ τ) : σ.1 0 7 = τ.1 0 4 := h.1
theorem RU.rw {u lv : Nat} {σ τ : Sto} (h : RU u lv σ τ) : ∀ r, r < 8 → Rw σ τ r := h.2.1
theorem RU.tp {u lv : Nat} {σ τ : Sto} (h : RU u lv σ τ) : ∃ L, L ≤ 200 ∧ σ.1 13 3 = nI L ∧ τ.1 0 6 = nI L ∧ ∀ i, i < L → ∃ c, c < 256 ∧ σ.1 14 i = nI c ∧ τ.1 5 i = nI c := h.2.2.1
theorem RU.ft {u lv : Nat} {σ τ : Sto} (h : RU u lv σ τ) : σ.1 13 7 = τ.1 0 7 := h.2.2.2.1
theorem RU.rd {u lv : Nat} {σ τ : Sto} (h : RU u lv σ τ) : σ.1 33 2 = nI 0 ∨ σ.1 33 2 = nI 1 := h.2.2.2.2.1
theorem RU.us {u lv : Nat} {σ τ : Sto} (h : RU u lv σ τ) : σ.1 33 3 = nI u := h.2.2.2.2.2.1
theorem RU.lv {u lv : Nat} {σ τ : Sto} (h : RU u lv σ τ) : σ.1 33 4 = nI lv := h.2.2.2.2.2.2.1
theorem RU.bk {u lv : Nat} {σ τ : Sto} (h : RU u lv σ τ) : Fm σ 33 u lv (σ.1 33 5) (τ.2 6) := h.2.2.2.2.2.2.2.1
theorem RU.im {u lv : Nat} {σ τ : Sto} (h : RU u lv σ τ) : ∀ k, k < 2 → Im σ τ k := h.2.2.2.2.2.2.2.2.1
theorem RU.ac {u lv : Nat} {σ τ : Sto} (h : RU u lv σ τ) : ∃ (o s : Nat) (us ls : Nat → Nat), o < 12 ∧ s ≤ 12 ∧ σ.1 223 3 = nI o ∧ σ.1 223 4 = nI s ∧ τ.1 0 16 = nI s ∧ (∀ i, i < s → us i ≤ u ∧ σ.1 224 ((o + i) % 12) = nI (us i) ∧ σ.1 225 ((o + i) % 12) = nI (ls i) ∧ Fm σ 33 (us i) (ls i) (σ.1 226 ((o + i) % 12)) (fun x => τ.2 8 (312 * i + x))) ∧ ∀ i j, i ≤ j → j < s → us i ≤ us j := h.2.2.2.2.2.2.2.2.2.1
theorem RU.nm {u lv : Nat} {σ τ : Sto} (h : RU u lv σ τ) : ∀ a, a < 30 → σ.1 (36 + 2 * a) 1 = nI a := h.2.2.2.2.2.2.2.2.2.2.1
theorem RU.no {u lv : Nat} {σ τ : Sto} (h : RU u lv σ τ) : σ.2 228 2 = 0 ∧ ∀ v, v < 8 → σ.2 229 v = 0 := h.2.2.2.2.2.2.2.2.2.2.2.1
theorem RU.tr {u lv : Nat} {σ τ : Sto} (h : RU u lv σ τ) : ∃ t, t ≤ 16 ∧ σ.1 236 1 = nI t ∧ τ.1 0 27 = nI t ∧ ∀ i, i < t → σ.1 237 i = τ.1 16 i := h.2.2.2.2.2.2.2.2.2.2.2.2
def RR (σ τ : Sto) : Prop := ∃ u lv, RU u lv σ τ
/-! ===== what a call may leave changed without a trace ===== -/
abbrev AgX (u : Nat) (σ σ' : Sto) : Prop := (∀ c j, ¬ ((c = 13 ∧ j ≠ 3 ∧ j ≠ 7) ∨ (16 ≤ c ∧ c < 33) ∨ c = 227 ∨ (36 + 2 * u ≤ c ∧ c < 96 ∧ j ≠ 1)) → σ'.1 c j = σ.1 c j) ∧ (∀ c j, ¬ ((16 ≤ c ∧ c < 33) ∨ (230 ≤ c ∧ c < 236) ∨ (36 + 2 * u ≤ c ∧ c < 96)) → σ'.2 c j = σ.2 c j)
theorem AgX.i {u : Nat} {σ σ' : Sto} (h : AgX u σ σ') : ∀ c j, ¬ ((c = 13 ∧ j ≠ 3 ∧ j ≠ 7) ∨ (16 ≤ c ∧ c < 33) ∨ c = 227 ∨ (36 + 2 * u ≤ c ∧ c < 96 ∧ j ≠ 1)) → σ'.1 c j = σ.1 c j := h.1
theorem AgX.l {u : Nat} {σ σ' : Sto} (h : AgX u σ σ') : ∀ c j, ¬ ((16 ≤ c ∧ c < 33) ∨ (230 ≤ c ∧ c < 236) ∨ (36 + 2 * u ≤ c ∧ c < 96)) → σ'.2 c j = σ.2 c j := h.2
abbrev AgM (τ τ' : Sto) : Prop := (∀ c j, ¬ (c = 4 ∨ (c = 0 ∧ ((8 ≤ j ∧ j ≤ 12) ∨ j = 24 ∨ j = 25))) → τ'.1 c j = τ.1 c j) ∧ (∀ c j, ¬ (c = 7 ∨ (11 ≤ c ∧ c ≤ 15)) → τ'.2 c j = τ.2 c j)
theorem AgM.i {τ τ' : Sto} (h : AgM τ τ') : ∀ c j, ¬ (c = 4 ∨ (c = 0 ∧ ((8 ≤ j ∧ j ≤ 12) ∨ j = 24 ∨ j = 25))) → τ'.1 c j = τ.1 c j := h.1
theorem AgM.l {τ τ' : Sto} (h : AgM τ τ') : ∀ c j, ¬ (c = 7 ∨ (11 ≤ c ∧ c ≤ 15)) → τ'.2 c j = τ.2 c j := h.2
theorem AgX.rfl {u : Nat} {σ : Sto} : AgX u σ σ := ⟨fun _ _ _ => Eq.refl _, fun _ _ _ => Eq.refl _⟩
theorem AgM.rfl {τ : Sto} : AgM τ τ := ⟨fun _ _ _ => Eq.refl _, fun _ _ _ => Eq.refl _⟩
theorem AgX.trans {u : Nat} {σ σ1 σ2 : Sto} (h : AgX u σ σ1) (h2 : AgX u σ1 σ2) : AgX u σ σ2 := ⟨fun c j q => (h2.i c j q).trans (h.i c j q), fun c j q => (h2.l c j q).trans (h.l c j q)⟩
theorem AgM.trans {σ σ1 σ2 : Sto} (h : AgM σ σ1) (h2 : AgM σ1 σ2) : AgM σ σ2 := ⟨fun c j q => (h2.i c j q).trans (h.i c j q), fun c j q => (h2.l c j q).trans (h.l c j q)⟩
theorem Cl.cong {σ σ' : Sto} {k k' : Nat} {w w' : Nat → Int64} (h : Cl σ k w) (h3 : σ'.1 k' 3 = σ.1 k 3) (h2 : σ'.2 k' 2 = σ.2 k 2) (hc : ∀ v, v < 8 → σ'.2 (k' + 1) v = σ.2 (k + 1) v) (hw : ∀ i, i < 10 → w' i = w i) : Cl σ' k' w' := by
  obtain ⟨q, q1, q2, q3, q4⟩ := h.kd
  refine ⟨⟨q, q1, q2, by rw [h3, q3], by rw [hw 0 (by omega), q4]⟩, by rw [h2]; exact h.dn, by rw [hw 1 (by omega), h2]; exact h.dg, fun v hv => ?_⟩
  have h4 := h.cf v hv
  rw [hc v hv, hw (2 + v) (by omega)]
  exact h4
theorem Fm.cong {σ σ' : Sto} {b b' u lv : Nat} {best : Int32} {w w' : Nat → Int64} (h : Fm σ b u lv best w) (h2 : σ'.1 b' 2 = σ.1 b 2) (hp : ∀ v, v < 8 → σ'.1 (b' + 2) v = σ.1 (b + 2) v) (hc : ∀ a, a < u → σ'.1 (b' + 3 + 2 * a) 3 = σ.1 (b + 3 + 2 * a) 3 ∧ σ'.2 (b' + 3 + 2 * a) 2 = σ.2 (b + 3 + 2 * a) 2 ∧ ∀ v, v < 8 → σ'.2 (b' + 3 + 2 * a + 1) v = σ.2 (b + 3 + 2 * a + 1) v) (hw : ∀ i, i < 312 → w' i = w i) : Fm σ' b' u lv best w' := by
  have hu := h.hu
  refine ⟨h.hu, h.hl, by rw [hw _ (by omega)]; exact h.wu, by rw [hw _ (by omega)]; exact h.wl, by rw [hw _ (by omega)]; exact h.wb, by rw [hw _ (by omega), h2]; exact h.wi, fun v hv => ?_, fun a ha => ?_⟩
  · obtain ⟨p, p1, p2, p3⟩ := h.pr v hv
    exact ⟨p, p1, by rw [hp v hv, p2], by rw [hw _ (by omega), p3]⟩
  · have c1 := hc a ha
    exact (h.cl a ha).cong c1.1 c1.2.1 c1.2.2 (fun i hi => hw _ (by omega))
theorem RU.ag {u lv : Nat} {σ τ σ' τ' : Sto} (h : RU u lv σ τ) (hx : AgX u σ σ') (hm : AgM τ τ') : RU u lv σ' τ' := by
  have hu := h.bk.hu
  have hF : ∀ (b u' l' : Nat) (best : Int32) (w w' : Nat → Int64), Fm σ b u' l' best w → (b = 33 ∧ u' ≤ u ∨ 97 ≤ b ∧ b ≤ 160) → (∀ i, i < 312 → w' i = w i) → Fm σ' b u' l' best w' := by
    intro b u' l' best w w' hF hb hw
    have hu' := hF.hu
    exact hF.cong (hx.i _ _ (by omega)) (fun v hv => hx.i _ _ (by omega)) (fun a ha => ⟨hx.i _ _ (by omega), hx.l _ _ (by omega), fun v hv => hx.l _ _ (by omega)⟩) hw
  refine ⟨?_, ?_, ?_, ?_, ?_, ?_, ?_, ?_, ?_, ?_, ?_, ?_, ?_⟩
  · rw [hx.i _ _ (by omega), hm.i _ _ (by omega)]; exact h.st
  · intro r hr
    unfold Rw
    rw [hx.i 12 r (by omega), hx.i 11 r (by omega), hm.i 1 r (by omega), hm.i 2 r (by omega)]
    rcases h.rw r hr with q | ⟨n, l, q1, q2, q3, q4, q5, q6, q7⟩
    · exact Or.inl q
    · refine Or.inr ⟨n, l, q1, q2, q3, q4, q5, q6, fun i hi => ?_⟩
      rw [hx.i _ _ (by omega), hm.i _ _ (by omega)]
      exact q7 i hi
  · obtain ⟨L, l1, l2, l3, l4⟩ := h.tp
    refine ⟨L, l1, by rw [hx.i _ _ (by omega)]; exact l2, by rw [hm.i _ _ (by omega)]; exact l3, fun i hi => ?_⟩
    rw [hx.i _ _ (by omega), hm.i _ _ (by omega)]
    exact l4 i hi
  · rw [hx.i _ _ (by omega), hm.i _ _ (by omega)]; exact h.ft
  · rw [hx.i _ _ (by omega)]; exact h.rd
  · rw [hx.i _ _ (by omega)]; exact h.us
  · rw [hx.i _ _ (by omega)]; exact h.lv
  · rw [hx.i _ _ (by omega)]
    exact hF 33 u lv _ _ _ h.bk (by omega) (fun i _ => hm.l _ _ (by omega))
  · intro k hk
    unfold Im
    rw [hx.i (97 + 63 * k) 2 (by omega), hx.i (97 + 63 * k) 3 (by omega), hx.i (97 + 63 * k) 4 (by omega), hx.i (97 + 63 * k) 5 (by omega), hm.i 10 k (by omega)]
    rcases h.im k hk with q | ⟨q1, q2, u', l', q3, q4, q5⟩
    · exact Or.inl q
    · exact Or.inr ⟨q1, q2, u', l', q3, q4, hF _ _ _ _ _ _ q5 (by omega) (fun i _ => hm.l _ _ (by omega))⟩
  · obtain ⟨o, s, us, ls, a1, a2, a3, a4, a5, a6, a7⟩ := h.ac
    refine ⟨o, s, us, ls, a1, a2, by rw [hx.i _ _ (by omega)]; exact a3, by rw [hx.i _ _ (by omega)]; exact a4, by rw [hm.i _ _ (by omega)]; exact a5, fun i hi => ?_, a7⟩
    obtain ⟨b1, b2, b3, b4⟩ := a6 i hi
    refine ⟨b1, by rw [hx.i _ _ (by omega)]; exact b2, by rw [hx.i _ _ (by omega)]; exact b3, ?_⟩
    rw [hx.i 226 _ (by omega)]
    exact hF 33 (us i) (ls i) _ _ _ b4 (by omega) (fun i _ => hm.l _ _ (by omega))
  · intro a ha
    rw [hx.i _ _ (by omega)]
    exact h.nm a ha
  · refine ⟨by rw [hx.l _ _ (by omega)]; exact h.no.1, fun v hv => ?_⟩
    rw [hx.l _ _ (by omega)]
    exact h.no.2 v hv
  · obtain ⟨t, t1, t2, t3, t4⟩ := h.tr
    refine ⟨t, t1, by rw [hx.i _ _ (by omega)]; exact t2, by rw [hm.i _ _ (by omega)]; exact t3, fun i hi => ?_⟩
    rw [hx.i _ _ (by omega), hm.i _ _ (by omega)]
    exact t4 i hi
/-- the finding -/
theorem RU.find {u lv : Nat} {σ τ : Sto} (h : RU u lv σ τ) (x : Int32) : RU u lv (pI σ 0 7 x) (pI τ 0 4 x) := by
  have h0 : ∀ c j, c ≠ 0 → (pI σ 0 7 x).1 c j = σ.1 c j := fun c j q => pI_nk (by omega)
  have h1 : ∀ c j, ¬ (c = 0 ∧ j = 4) → (pI τ 0 4 x).1 c j = τ.1 c j := by
    intro c j q
    show (if c = 0 ∧ j = 4 then x else τ.1 c j) = _
    rw [if_neg q]
  have hF : ∀ (b u' l' : Nat) (best : Int32) (w : Nat → Int64), 33 ≤ b → Fm σ b u' l' best w → Fm (pI σ 0 7 x) b u' l' best w := by
    intro b u' l' best w hb hF
    exact hF.cong (h0 _ _ (by omega)) (fun v hv => h0 _ _ (by omega)) (fun a ha => ⟨h0 _ _ (by omega), by rw [pI_2], fun v hv => by rw [pI_2]⟩) (fun i _ => rfl)
  refine ⟨?_, ?_, ?_, ?_, ?_, ?_, ?_, ?_, ?_, ?_, ?_, ?_, ?_⟩
  · rw [pI_at, pI_at]
  · intro r hr
    unfold Rw
    rw [h0 12 r (by omega), h0 11 r (by omega), h1 1 r (by omega), h1 2 r (by omega)]
    rcases h.rw r hr with q | ⟨n, l, q1, q2, q3, q4, q5, q6, q7⟩
    · exact Or.inl q
    · refine Or.inr ⟨n, l, q1, q2, q3, q4, q5, q6, fun i hi => ?_⟩
      rw [h0 _ _ (by omega), h1 _ _ (by omega)]
      exact q7 i hi
  · obtain ⟨L, l1, l2, l3, l4⟩ := h.tp
    refine ⟨L, l1, by rw [h0 _ _ (by omega)]; exact l2, by rw [h1 _ _ (by omega)]; exact l3, fun i hi => ?_⟩
    rw [h0 _ _ (by omega), h1 _ _ (by omega)]
    exact l4 i hi
  · rw [h0 _ _ (by omega), h1 _ _ (by omega)]; exact h.ft
  · rw [h0 _ _ (by omega)]; exact h.rd
  · rw [h0 _ _ (by omega)]; exact h.us
  · rw [h0 _ _ (by omega)]; exact h.lv
  · rw [h0 _ _ (by omega), pI_2]
    exact hF 33 u lv _ _ (by omega) h.bk
  · intro k hk
    unfold Im
    rw [h0 (97 + 63 * k) 2 (by omega), h0 (97 + 63 * k) 3 (by omega), h0 (97 + 63 * k) 4 (by omega), h0 (97 + 63 * k) 5 (by omega), h1 10 k (by omega), pI_2]
    rcases h.im k hk with q | ⟨q1, q2, u', l', q3, q4, q5⟩
    · exact Or.inl q
    · exact Or.inr ⟨q1, q2, u', l', q3, q4, hF _ _ _ _ _ (by omega) q5⟩
  · obtain ⟨o, s, us, ls, a1, a2, a3, a4, a5, a6, a7⟩ := h.ac
    refine ⟨o, s, us, ls, a1, a2, by rw [h0 _ _ (by omega)]; exact a3, by rw [h0 _ _ (by omega)]; exact a4, by rw [h1 _ _ (by omega)]; exact a5, fun i hi => ?_, a7⟩
    obtain ⟨b1, b2, b3, b4⟩ := a6 i hi
    refine ⟨b1, by rw [h0 _ _ (by omega)]; exact b2, by rw [h0 _ _ (by omega)]; exact b3, ?_⟩
    rw [h0 226 _ (by omega), pI_2]
    exact hF 33 (us i) (ls i) _ _ (by omega) b4
  · intro a ha
    rw [h0 _ _ (by omega)]
    exact h.nm a ha
  · rw [pI_2]
    exact h.no
  · obtain ⟨t, t1, t2, t3, t4⟩ := h.tr
    refine ⟨t, t1, by rw [h0 _ _ (by omega)]; exact t2, by rw [h1 _ _ (by omega)]; exact t3, fun i hi => ?_⟩
    rw [h0 _ _ (by omega), h1 _ _ (by omega)]
    exact t4 i hi
