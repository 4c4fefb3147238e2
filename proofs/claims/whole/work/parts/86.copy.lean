/-! ===== set, copy ===== -/
theorem bd2_of {α β : Type} {x : Option (α × Sto)} {a : α} {s : Sto} {f : α → Sto → Option β} (h : x = some (a, s)) : bd2 x f = f a s := by
  rw [h]
  exact bd2_eq a s f
theorem bd1_of {β : Type} {x : Option Sto} {s : Sto} {f : Sto → Option β} (h : x = some s) : bd1 x f = f s := by
  rw [h]
  exact bd1_eq s f
theorem low8 (x : Int32) : (x <<< (nI 24 &&& nI 31)) >>> (nI 24 &&& nI 31) = x.toInt8.toInt32 := by
  apply b_ext
  intro i hi
  have h1 := b_sshr 24 (by omega) (x <<< (nI 24 &&& nI 31)) (i := i) hi
  have h2 : ∀ j, j < 32 → bt (x <<< (nI 24 &&& nI 31)) j = (decide (24 ≤ j) && bt x (j - 24)) := fun j hj => b_shl 24 (by omega) x hj
  have h3 : bt x.toInt8.toInt32 i = if i < 8 then bt x i else bt x 7 := by
    show (x.toInt8.toInt32).toBitVec.getLsbD i = _
    rw [Int8.toBitVec_toInt32, Int32.toBitVec_toInt8, BitVec.getLsbD_signExtend, BitVec.msb_eq_getLsbD_last]
    rw [BitVec.getLsbD_signExtend, BitVec.getLsbD_signExtend]
    by_cases q : i < 8
    · simp [q, hi, bt, show i < 32 by omega]
    · simp [q, hi, bt]
  rw [h3, show ((x <<< (nI 24 &&& nI 31)) >>> (nI 24 &&& nI 31)) = ((x <<< (nI 24 &&& nI 31)) >>> (nI 24 &&& 31)) from rfl, h1]
  by_cases q : i < 8
  · rw [if_pos q, if_pos (by omega), h2 _ (by omega), decide_eq_true (by omega), Bool.true_and, Nat.add_sub_cancel_left]
  · rw [if_neg q, if_neg (by omega), h2 _ (by omega), decide_eq_true (by omega), Bool.true_and]
theorem low16 (x : Int32) : (x <<< (nI 16 &&& nI 31)) >>> (nI 16 &&& nI 31) = x.toInt16.toInt32 := by
  apply b_ext
  intro i hi
  have h1 := b_sshr 16 (by omega) (x <<< (nI 16 &&& nI 31)) (i := i) hi
  have h2 : ∀ j, j < 32 → bt (x <<< (nI 16 &&& nI 31)) j = (decide (16 ≤ j) && bt x (j - 16)) := fun j hj => b_shl 16 (by omega) x hj
  have h3 : bt x.toInt16.toInt32 i = if i < 16 then bt x i else bt x 15 := by
    show (x.toInt16.toInt32).toBitVec.getLsbD i = _
    rw [Int16.toBitVec_toInt32, Int32.toBitVec_toInt16, BitVec.getLsbD_signExtend, BitVec.msb_eq_getLsbD_last]
    rw [BitVec.getLsbD_signExtend, BitVec.getLsbD_signExtend]
    by_cases q : i < 16
    · simp [q, hi, bt, show i < 32 by omega]
    · simp [q, hi, bt]
  rw [h3, show ((x <<< (nI 16 &&& nI 31)) >>> (nI 16 &&& nI 31)) = ((x <<< (nI 16 &&& nI 31)) >>> (nI 16 &&& 31)) from rfl, h1]
  by_cases q : i < 16
  · rw [if_pos q, if_pos (by omega), h2 _ (by omega), decide_eq_true (by omega), Bool.true_and, Nat.add_sub_cancel_left]
  · rw [if_neg q, if_neg (by omega), h2 _ (by omega), decide_eq_true (by omega), Bool.true_and]
def keptV (l : Nat) (x : Int32) : Int32 := if l = 0 then x.toInt8.toInt32 else if l = 1 then x.toInt16.toInt32 else x
theorem e_X8_lowest {l : Nat} (hl : l ≤ 2) (x : Int32) (τ : Sto) : f_X8_lowest (nI l) x τ = some (keptV l x, τ) := by
  unfold keptV
  have h : l = 0 ∨ l = 1 ∨ l = 2 := by omega
  rcases h with e | e | e <;> subst e <;> simp (disch := omega) only [f_X8_lowest, b_X8_lowest_30, lit, pLeT, pLeF, pLtT, pLtF, pEqT, pEqF, nLeF, nLtF, nI_clamp, or_self, or_false, false_or, not_true_eq_false, not_false_eq_true, ↓reduceIte, nmS_eq, bd1_eq, bd2_eq, nI_add, pEqS, pk_mul, Nat.reduceAdd, Bool.false_eq_true, or_true, true_or, low8, low16, Nat.reduceEqDiff] <;> rfl
theorem e_X6_put {r i l : Nat} (hr : r < 8) (hi : i < 40) (hl : l ≤ 2) (x : Int32) (σ : Sto) (h1 : σ.1 11 r = nI l) : f_X6_put (nI r) (nI i) x σ = some (keptV l x, pI σ (3 + r) i (keptV l x)) := by
  unfold keptV
  have h : l = 0 ∨ l = 1 ∨ l = 2 := by omega
  rcases h with e | e | e <;> subst e <;> simp (disch := omega) only [f_X6_put, b_X6_put_33, lit, pLeT, pLeF, pLtT, pLtF, pEqT, pEqF, nLeF, nLtF, nI_clamp, or_self, or_false, false_or, not_true_eq_false, not_false_eq_true, ↓reduceIte, nmS_eq, bd1_eq, bd2_eq, nI_add, pEqS, pk_mul, Nat.reduceAdd, Bool.false_eq_true, or_true, true_or, h1, Nat.reduceEqDiff] <;> rfl
theorem s_set (x y w : Int32) : Sim RR (f_X7_set x y w) (f_X8_set x y w) := by
  intro σ τ ⟨u, lv, h⟩
  cases hx : inr x 8
  · refine ⟨-nI 1000001, σ, τ, ?_, ?_, u, lv, h⟩
    · simp (disch := omega) only [f_X7_set, lit, pLeT, pLeF, pLtT, pLtF, pEqT, pEqF, nLeF, nLtF, nI_clamp, or_self, or_false, false_or, not_true_eq_false, not_false_eq_true, ↓reduceIte, nmS_eq, bd1_eq, bd2_eq, nI_add, pEqS, pk_mul, Nat.reduceAdd, Bool.false_eq_true, or_true, true_or, e_X7_isRow, hx]
    · simp (disch := omega) only [f_X8_set, lit, pLeT, pLeF, pLtT, pLtF, pEqT, pEqF, nLeF, nLtF, nI_clamp, or_self, or_false, false_or, not_true_eq_false, not_false_eq_true, ↓reduceIte, nmS_eq, bd1_eq, bd2_eq, nI_add, pEqS, pk_mul, Nat.reduceAdd, Bool.false_eq_true, or_true, true_or, e_X8_isRow, hx]
  · obtain ⟨r, hr, e⟩ := inr_of (by omega) hx
    subst e
    obtain ⟨z, z1, z2, z3⟩ := h.miss hr
    cases z
    · obtain ⟨n, l, q1, q2, q3, q4, q5, q6, q7⟩ := z3 rfl
      have ht : nI n - nI 1 = if n = 0 then -nI 1 else nI (n - 1) := by
        by_cases q : n = 0
        · subst q; rfl
        · rw [if_neg q, pk_sub (by omega)]
      by_cases hy : ∃ i, i < n ∧ y = nI i
      · obtain ⟨i, hi, e⟩ := hy
        subst e
        rw [if_neg (by omega)] at ht
        have hR : RU u lv (pI σ (3 + r) i (keptV l w)) (pI τ 3 (40 * r + i) (keptV l w)) := by
          refine h.rows (fun c j hc => pI_nk (by omega)) (by rw [pI_2]) (fun c j hc => pI_nk (by omega)) (by rw [pI_2]) ?_
          intro t ht
          unfold Rw
          rw [pI_nk (show 12 < 3 + r ∨ 3 + r < 12 by omega), pI_nk (show 11 < 3 + r ∨ 3 + r < 11 by omega), pI_nk (show 1 < 3 ∨ 3 < 1 by omega), pI_nk (show 2 < 3 ∨ 3 < 2 by omega)]
          rcases h.rw t ht with q | ⟨n, l, q1, q2, q3, q4, q5, q6, q7⟩
          · exact Or.inl q
          · refine Or.inr ⟨n, l, q1, q2, q3, q4, q5, q6, fun i' hi' => ?_⟩
            by_cases e : t = r ∧ i' = i
            · obtain ⟨e1, e2⟩ := e
              subst e1
              subst e2
              rw [pI_at, pI_at]
            · rw [pI_no (by omega), pI_no (by omega)]
              exact q7 i' hi'
        refine ⟨keptV l w, _, _, ?_, ?_, u, lv, hR.find (nI 0)⟩
        · simp (disch := omega) only [f_X7_set, lit, pLeT, pLeF, pLtT, pLtF, pEqT, pEqF, nLeF, nLtF, nI_clamp, or_self, or_false, false_or, not_true_eq_false, not_false_eq_true, ↓reduceIte, nmS_eq, bd1_eq, bd2_eq, nI_add, pEqS, pk_mul, Nat.reduceAdd, Bool.false_eq_true, or_true, true_or, e_X7_isRow, hx, z1, q3, e_X6_put (i := i) hr (by omega) q2 w σ q5, e_X7_well]
        · simp (disch := omega) only [f_X8_set, lit, pLeT, pLeF, pLtT, pLtF, pEqT, pEqF, nLeF, nLtF, nI_clamp, or_self, or_false, false_or, not_true_eq_false, not_false_eq_true, ↓reduceIte, nmS_eq, bd1_eq, bd2_eq, nI_add, pEqS, pk_mul, Nat.reduceAdd, Bool.false_eq_true, or_true, true_or, e_X8_isRow, hx, z2, q4, q6, ht, e_X8_in, e_X8_lowest q2, pI_at, e_X8_well]
      · refine ⟨-nI 1000010 - nI 2, pI σ 0 7 (nI 2), pI τ 0 4 (nI 2), ?_, ?_, u, lv, h.find _⟩
        · rcases pk_ix y (n := n) (by omega) with q | q | q
          · have q : y < nI 0 := q
            simp (disch := omega) only [f_X7_set, b_X7_set_44, lit, pLeT, pLeF, pLtT, pLtF, pEqT, pEqF, nLeF, nLtF, nI_clamp, or_self, or_false, false_or, not_true_eq_false, not_false_eq_true, ↓reduceIte, nmS_eq, bd1_eq, bd2_eq, nI_add, pEqS, pk_mul, Nat.reduceAdd, Bool.false_eq_true, or_true, true_or, e_X7_isRow, hx, z1, q, e_X7_found]
          · have q' : ¬ y < nI n := Int32.not_lt.mpr q
            simp (disch := omega) only [f_X7_set, b_X7_set_44, lit, pLeT, pLeF, pLtT, pLtF, pEqT, pEqF, nLeF, nLtF, nI_clamp, or_self, or_false, false_or, not_true_eq_false, not_false_eq_true, ↓reduceIte, nmS_eq, bd1_eq, bd2_eq, nI_add, pEqS, pk_mul, Nat.reduceAdd, Bool.false_eq_true, or_true, true_or, e_X7_isRow, hx, z1, q3, q', e_X7_found, ite_self]
          · exact absurd q hy
        · have hq : y < nI 0 ∨ nI n - nI 1 < y := by
            rcases pk_ix y (n := n) (by omega) with q | q | q
            · exact Or.inl q
            · right
              rw [leI, nI_toInt (by omega)] at q
              rw [ltI, ht]
              split
              · show -1 < _
                omega
              · rw [nI_toInt (by omega)]
                omega
            · exact absurd q hy
          simp (disch := omega) only [f_X8_set, lit, pLeT, pLeF, pLtT, pLtF, pEqT, pEqF, nLeF, nLtF, nI_clamp, or_self, or_false, false_or, not_true_eq_false, not_false_eq_true, ↓reduceIte, nmS_eq, bd1_eq, bd2_eq, nI_add, pEqS, pk_mul, Nat.reduceAdd, Bool.false_eq_true, or_true, true_or, e_X8_isRow, hx, z2, q4, e_X8_in, hq, e_X8_found]
    · refine ⟨-nI 1000010 - nI 1, pI σ 0 7 (nI 1), pI τ 0 4 (nI 1), ?_, ?_, u, lv, h.find _⟩
      · simp (disch := omega) only [f_X7_set, lit, pLeT, pLeF, pLtT, pLtF, pEqT, pEqF, nLeF, nLtF, nI_clamp, or_self, or_false, false_or, not_true_eq_false, not_false_eq_true, ↓reduceIte, nmS_eq, bd1_eq, bd2_eq, nI_add, pEqS, pk_mul, Nat.reduceAdd, Bool.false_eq_true, or_true, true_or, e_X7_isRow, hx, z1, e_X7_found]
      · simp (disch := omega) only [f_X8_set, lit, pLeT, pLeF, pLtT, pLtF, pEqT, pEqF, nLeF, nLtF, nI_clamp, or_self, or_false, false_or, not_true_eq_false, not_false_eq_true, ↓reduceIte, nmS_eq, bd1_eq, bd2_eq, nI_add, pEqS, pk_mul, Nat.reduceAdd, Bool.false_eq_true, or_true, true_or, e_X8_isRow, hx, z2, e_X8_found]
/-! copy -/
def prt (n : Nat) (x y : Int32) : Bool := decide (¬ x < nI 0 ∧ ¬ y < nI 0 ∧ ¬ nI n < x ∧ ¬ nI n - x < y)
theorem prt_of {n : Nat} {x y : Int32} (hn : n ≤ 40) (h : prt n x y = true) : ∃ i m, x = nI i ∧ y = nI m ∧ i + m ≤ n := by
  obtain ⟨h1, h2, h3, h4⟩ := of_decide_eq_true h
  obtain ⟨i, hi, e⟩ := nI_of (x := x) h1
  obtain ⟨m, hm, e2⟩ := nI_of (x := y) h2
  subst e
  subst e2
  have h5 : i ≤ n := Nat.le_of_not_lt (fun q => h3 (nI_lt q (by omega)))
  rw [pk_sub h5] at h4
  have h6 : m ≤ n - i := Nat.le_of_not_lt (fun q => h4 (nI_lt q (by omega)))
  exact ⟨i, m, rfl, rfl, by omega⟩
theorem e_X6_hasPlaces {r n : Nat} (hr : r < 8) (x y : Int32) (σ : Sto) (h1 : σ.1 12 r = nI n) : f_X6_hasPlaces (nI r) x y σ = some (if prt n x y then nI 1 else nI 0, σ) := by
  unfold prt
  by_cases q1 : x < nI 0
  · simp (disch := omega) only [f_X6_hasPlaces, b_X6_hasPlaces_34, b_X6_hasPlaces_35, lit, pLeT, pLeF, pLtT, pLtF, pEqT, pEqF, nLeF, nLtF, nI_clamp, or_self, or_false, false_or, not_true_eq_false, not_false_eq_true, ↓reduceIte, nmS_eq, bd1_eq, bd2_eq, nI_add, pEqS, pk_mul, Nat.reduceAdd, Bool.false_eq_true, or_true, true_or, h1, q1, false_and, decide_false]
  · by_cases q2 : y < nI 0
    · simp (disch := omega) only [f_X6_hasPlaces, b_X6_hasPlaces_34, b_X6_hasPlaces_35, lit, pLeT, pLeF, pLtT, pLtF, pEqT, pEqF, nLeF, nLtF, nI_clamp, or_self, or_false, false_or, not_true_eq_false, not_false_eq_true, ↓reduceIte, nmS_eq, bd1_eq, bd2_eq, nI_add, pEqS, pk_mul, Nat.reduceAdd, Bool.false_eq_true, or_true, true_or, h1, q1, q2, false_and, and_false, decide_false]
    · by_cases q3 : nI n < x
      · simp (disch := omega) only [f_X6_hasPlaces, b_X6_hasPlaces_34, b_X6_hasPlaces_35, lit, pLeT, pLeF, pLtT, pLtF, pEqT, pEqF, nLeF, nLtF, nI_clamp, or_self, or_false, false_or, not_true_eq_false, not_false_eq_true, ↓reduceIte, nmS_eq, bd1_eq, bd2_eq, nI_add, pEqS, pk_mul, Nat.reduceAdd, Bool.false_eq_true, or_true, true_or, h1, q1, q2, q3, false_and, and_false, decide_false]
      · by_cases q4 : nI n - x < y
        · simp (disch := omega) only [f_X6_hasPlaces, b_X6_hasPlaces_34, b_X6_hasPlaces_35, lit, pLeT, pLeF, pLtT, pLtF, pEqT, pEqF, nLeF, nLtF, nI_clamp, or_self, or_false, false_or, not_true_eq_false, not_false_eq_true, ↓reduceIte, nmS_eq, bd1_eq, bd2_eq, nI_add, pEqS, pk_mul, Nat.reduceAdd, Bool.false_eq_true, or_true, true_or, h1, q1, q2, q3, q4, and_false, decide_false]
        · simp (disch := omega) only [f_X6_hasPlaces, b_X6_hasPlaces_34, b_X6_hasPlaces_35, lit, pLeT, pLeF, pLtT, pLtF, pEqT, pEqF, nLeF, nLtF, nI_clamp, or_self, or_false, false_or, not_true_eq_false, not_false_eq_true, ↓reduceIte, nmS_eq, bd1_eq, bd2_eq, nI_add, pEqS, pk_mul, Nat.reduceAdd, Bool.false_eq_true, or_true, true_or, h1, q1, q2, q3, q4, and_self, decide_true]
theorem e_X8_isPart {r n : Nat} (hr : r < 8) (x y : Int32) (τ : Sto) (h1 : τ.1 2 r = nI n) : f_X8_isPart (nI r) x y τ = some (if prt n x y then nI 1 else nI 0, τ) := by
  unfold prt
  by_cases q1 : x < nI 0
  · simp (disch := omega) only [f_X8_isPart, b_X8_isPart_34, b_X8_isPart_35, lit, pLeT, pLeF, pLtT, pLtF, pEqT, pEqF, nLeF, nLtF, nI_clamp, or_self, or_false, false_or, not_true_eq_false, not_false_eq_true, ↓reduceIte, nmS_eq, bd1_eq, bd2_eq, nI_add, pEqS, pk_mul, Nat.reduceAdd, Bool.false_eq_true, or_true, true_or, h1, q1, false_and, decide_false]
  · by_cases q2 : y < nI 0
    · simp (disch := omega) only [f_X8_isPart, b_X8_isPart_34, b_X8_isPart_35, lit, pLeT, pLeF, pLtT, pLtF, pEqT, pEqF, nLeF, nLtF, nI_clamp, or_self, or_false, false_or, not_true_eq_false, not_false_eq_true, ↓reduceIte, nmS_eq, bd1_eq, bd2_eq, nI_add, pEqS, pk_mul, Nat.reduceAdd, Bool.false_eq_true, or_true, true_or, h1, q1, q2, false_and, and_false, decide_false]
    · by_cases q3 : nI n < x
      · simp (disch := omega) only [f_X8_isPart, b_X8_isPart_34, b_X8_isPart_35, lit, pLeT, pLeF, pLtT, pLtF, pEqT, pEqF, nLeF, nLtF, nI_clamp, or_self, or_false, false_or, not_true_eq_false, not_false_eq_true, ↓reduceIte, nmS_eq, bd1_eq, bd2_eq, nI_add, pEqS, pk_mul, Nat.reduceAdd, Bool.false_eq_true, or_true, true_or, h1, q1, q2, q3, false_and, and_false, decide_false]
      · by_cases q4 : nI n - x < y
        · simp (disch := omega) only [f_X8_isPart, b_X8_isPart_34, b_X8_isPart_35, lit, pLeT, pLeF, pLtT, pLtF, pEqT, pEqF, nLeF, nLtF, nI_clamp, or_self, or_false, false_or, not_true_eq_false, not_false_eq_true, ↓reduceIte, nmS_eq, bd1_eq, bd2_eq, nI_add, pEqS, pk_mul, Nat.reduceAdd, Bool.false_eq_true, or_true, true_or, h1, q1, q2, q3, q4, and_false, decide_false]
        · simp (disch := omega) only [f_X8_isPart, b_X8_isPart_34, b_X8_isPart_35, lit, pLeT, pLeF, pLtT, pLtF, pEqT, pEqF, nLeF, nLtF, nI_clamp, or_self, or_false, false_or, not_true_eq_false, not_false_eq_true, ↓reduceIte, nmS_eq, bd1_eq, bd2_eq, nI_add, pEqS, pk_mul, Nat.reduceAdd, Bool.false_eq_true, or_true, true_or, h1, q1, q2, q3, q4, and_self, decide_true]
theorem l_X8_copy2 {b k m : Nat} (hb : b < 8) (hk : k + m ≤ 40) (τ : Sto) (n : Nat) (j : Nat) : ∀ i, i + j = m → l_X8_copy_129 (n + 1 + j) (nI b) (nI k) (nI m) (nI i) (wI τ 3 (40 * b + k) i (fun t => τ.1 4 t)) = some (nI m, pI (wI τ 3 (40 * b + k) m (fun t => τ.1 4 t)) 0 4 (nI 0)) := by
  induction j with
  | zero =>
    intro i hi
    have e : i = m := by omega
    subst e
    show b_X8_copy_129 _ (nI b) (nI k) (nI i) (nI i) _ = _
    simp (disch := omega) only [b_X8_copy_129, lit, pLeT, pLeF, pLtT, pLtF, pEqT, pEqF, nLeF, nLtF, nI_clamp, or_self, or_false, false_or, not_true_eq_false, not_false_eq_true, ↓reduceIte, nmS_eq, bd1_eq, bd2_eq, nI_add, pEqS, pk_mul, Nat.reduceAdd, Bool.false_eq_true, or_true, true_or, e_X8_well]
  | succ j ih0 =>
    intro i hi
    have ih := ih0 (i + 1) (by omega)
    have e2 : (wI τ 3 (40 * b + k) i (fun t => τ.1 4 t)).1 4 i = τ.1 4 i := wI_k (by omega)
    have e3 := wI_s (σ := τ) (k := 3) (lo := 40 * b + k) (n := i) (g := fun t => τ.1 4 t) rfl
    show b_X8_copy_129 (l_X8_copy_129 (n + 1 + j)) (nI b) (nI k) (nI m) (nI i) (wI τ 3 (40 * b + k) i (fun t => τ.1 4 t)) = _
    simp (disch := omega) only [b_X8_copy_129, lit, pLeT, pLeF, pLtT, pLtF, pEqT, pEqF, nLeF, nLtF, nI_clamp, or_self, or_false, false_or, not_true_eq_false, not_false_eq_true, ↓reduceIte, nmS_eq, bd1_eq, bd2_eq, nI_add, pEqS, pk_mul, Nat.reduceAdd, Bool.false_eq_true, or_true, true_or, e2, e3, ih]
theorem l_X8_copy1 {a b p k m : Nat} (ha : a < 8) (hp : p + m ≤ 40) (τ : Sto) (n : Nat) (j : Nat) : ∀ i, i + j = m → l_X8_copy_92 (n + 1 + j) (nI a) (nI p) (nI b) (nI k) (nI m) (nI i) (wI τ 4 0 i (fun t => τ.1 3 (40 * a + p + t))) = l_X8_copy_129 400 (nI b) (nI k) (nI m) (nI 0) (wI τ 4 0 m (fun t => τ.1 3 (40 * a + p + t))) := by
  induction j with
  | zero =>
    intro i hi
    have e : i = m := by omega
    subst e
    show b_X8_copy_92 _ (nI a) (nI p) (nI b) (nI k) (nI i) (nI i) _ = _
    simp (disch := omega) only [b_X8_copy_92, lit, pLeT, pLeF, pLtT, pLtF, pEqT, pEqF, nLeF, nLtF, nI_clamp, or_self, or_false, false_or, not_true_eq_false, not_false_eq_true, ↓reduceIte, nmS_eq, bd1_eq, bd2_eq, nI_add, pEqS, pk_mul, Nat.reduceAdd, Bool.false_eq_true, or_true, true_or]
  | succ j ih0 =>
    intro i hi
    have ih := ih0 (i + 1) (by omega)
    have e2 : (wI τ 4 0 i (fun t => τ.1 3 (40 * a + p + t))).1 3 (40 * a + p + i) = τ.1 3 (40 * a + p + i) := wI_k (by omega)
    have e3 := wI_s0 (σ := τ) (k := 4) (n := i) (g := fun t => τ.1 3 (40 * a + p + t)) rfl
    show b_X8_copy_92 (l_X8_copy_92 (n + 1 + j)) (nI a) (nI p) (nI b) (nI k) (nI m) (nI i) (wI τ 4 0 i (fun t => τ.1 3 (40 * a + p + t))) = _
    simp (disch := omega) only [b_X8_copy_92, lit, pLeT, pLeF, pLtT, pLtF, pEqT, pEqF, nLeF, nLtF, nI_clamp, or_self, or_false, false_or, not_true_eq_false, not_false_eq_true, ↓reduceIte, nmS_eq, bd1_eq, bd2_eq, nI_add, pEqS, pk_mul, Nat.reduceAdd, Bool.false_eq_true, or_true, true_or, e2, e3, ih]
theorem cpI_2 {σ : Sto} {k1 sp k2 dp n : Nat} : (cpI σ k1 sp k2 dp n).2 = σ.2 := Eq.trans (b := σ.2) (Eq.refl _) (Eq.refl _)
theorem cpI_k {σ : Sto} {k1 sp k2 dp n a b : Nat} (h : a < k2 ∨ k2 < a) : (cpI σ k1 sp k2 dp n).1 a b = σ.1 a b := by
  show (if a = k2 ∧ dp ≤ b ∧ b < dp + n then σ.1 k1 (sp + (b - dp)) else σ.1 a b) = _
  rw [if_neg (by omega)]
theorem cpI_out {σ : Sto} {k1 sp k2 dp n a b : Nat} (h : b < dp ∨ dp + n ≤ b) : (cpI σ k1 sp k2 dp n).1 a b = σ.1 a b := by
  show (if a = k2 ∧ dp ≤ b ∧ b < dp + n then σ.1 k1 (sp + (b - dp)) else σ.1 a b) = _
  rw [if_neg (by omega)]
theorem cpI_in {σ : Sto} {k1 sp k2 dp n b : Nat} (h : dp ≤ b ∧ b < dp + n) : (cpI σ k1 sp k2 dp n).1 k2 b = σ.1 k1 (sp + (b - dp)) := by
  show (if k2 = k2 ∧ dp ≤ b ∧ b < dp + n then σ.1 k1 (sp + (b - dp)) else σ.1 k2 b) = _
  rw [if_pos ⟨rfl, h⟩]
theorem s_copy (x p y k m : Int32) : Sim RR (f_X7_copy x p y k m) (f_X8_copy x p y k m) := by
  intro σ τ ⟨u, lv, h⟩
  cases hx : inr x 8
  · refine ⟨-nI 1000001, σ, τ, ?_, ?_, u, lv, h⟩
    · rw [f_X7_copy, bd2_of (e_X7_isRow _ _), hx]
      simp (disch := omega) only [b_X7_copy_14, lit, pLeT, pLeF, pLtT, pLtF, pEqT, pEqF, nLeF, nLtF, nI_clamp, or_self, or_false, false_or, not_true_eq_false, not_false_eq_true, ↓reduceIte, nmS_eq, bd1_eq, bd2_eq, nI_add, pEqS, pk_mul, Nat.reduceAdd, Bool.false_eq_true, or_true, true_or]
    · rw [f_X8_copy, bd2_of (e_X8_isRow _ _), hx]
      simp (disch := omega) only [b_X8_copy_14, lit, pLeT, pLeF, pLtT, pLtF, pEqT, pEqF, nLeF, nLtF, nI_clamp, or_self, or_false, false_or, not_true_eq_false, not_false_eq_true, ↓reduceIte, nmS_eq, bd1_eq, bd2_eq, nI_add, pEqS, pk_mul, Nat.reduceAdd, Bool.false_eq_true, or_true, true_or]
  · obtain ⟨a, ha, e⟩ := inr_of (by omega) hx
    subst e
    cases hy : inr y 8
    · refine ⟨-nI 1000001, σ, τ, ?_, ?_, u, lv, h⟩
      · rw [f_X7_copy, bd2_of (e_X7_isRow _ _), hx, if_neg (by decide), bd2_of (e_X7_isRow _ _), hy]
        simp (disch := omega) only [b_X7_copy_14, lit, pLeT, pLeF, pLtT, pLtF, pEqT, pEqF, nLeF, nLtF, nI_clamp, or_self, or_false, false_or, not_true_eq_false, not_false_eq_true, ↓reduceIte, nmS_eq, bd1_eq, bd2_eq, nI_add, pEqS, pk_mul, Nat.reduceAdd, Bool.false_eq_true, or_true, true_or]
      · rw [f_X8_copy, bd2_of (e_X8_isRow _ _), hx, if_neg (by decide), bd2_of (e_X8_isRow _ _), hy]
        simp (disch := omega) only [b_X8_copy_14, lit, pLeT, pLeF, pLtT, pLtF, pEqT, pEqF, nLeF, nLtF, nI_clamp, or_self, or_false, false_or, not_true_eq_false, not_false_eq_true, ↓reduceIte, nmS_eq, bd1_eq, bd2_eq, nI_add, pEqS, pk_mul, Nat.reduceAdd, Bool.false_eq_true, or_true, true_or]
    · obtain ⟨b, hb, e⟩ := inr_of (by omega) hy
      subst e
      obtain ⟨z, z1, z2, z3⟩ := h.miss ha
      cases z
      · obtain ⟨n, l, q1, q2, q3, q4, q5, q6, q7⟩ := z3 rfl
        obtain ⟨z, z4, z5, z6⟩ := h.miss hb
        cases z
        · obtain ⟨n', l', r1, r2, r3, r4, r5, r6, r7⟩ := z6 rfl
          by_cases q : l = l'
          · subst q
            cases p1 : prt n p m
            · refine ⟨-nI 1000010 - nI 2, pI σ 0 7 (nI 2), pI τ 0 4 (nI 2), ?_, ?_, u, lv, h.find _⟩
              · rw [f_X7_copy, bd2_of (e_X7_isRow _ _), hx, if_neg (by decide), bd2_of (e_X7_isRow _ _), hy, if_neg (by decide), bd2_of z1, if_pos (by decide), bd2_of z4, if_pos (by decide)]
                simp (disch := omega) only [b_X7_copy_101, lit, pLeT, pLeF, pLtT, pLtF, pEqT, pEqF, nLeF, nLtF, nI_clamp, or_self, or_false, false_or, not_true_eq_false, not_false_eq_true, ↓reduceIte, nmS_eq, bd1_eq, bd2_eq, nI_add, pEqS, pk_mul, Nat.reduceAdd, Bool.false_eq_true, or_true, true_or, q5, r5, e_X6_hasPlaces ha p m σ q3, p1, e_X7_found]
              · rw [f_X8_copy, bd2_of (e_X8_isRow _ _), hx, if_neg (by decide), bd2_of (e_X8_isRow _ _), hy, if_neg (by decide), bd2_of z2, if_pos (by decide), bd2_of z5, if_pos (by decide)]
                simp (disch := omega) only [b_X8_copy_83, lit, pLeT, pLeF, pLtT, pLtF, pEqT, pEqF, nLeF, nLtF, nI_clamp, or_self, or_false, false_or, not_true_eq_false, not_false_eq_true, ↓reduceIte, nmS_eq, bd1_eq, bd2_eq, nI_add, pEqS, pk_mul, Nat.reduceAdd, Bool.false_eq_true, or_true, true_or, q6, r6, e_X8_isPart ha p m τ q4, p1, e_X8_found]
            · cases p2 : prt n' k m
              · refine ⟨-nI 1000010 - nI 2, pI σ 0 7 (nI 2), pI τ 0 4 (nI 2), ?_, ?_, u, lv, h.find _⟩
                · rw [f_X7_copy, bd2_of (e_X7_isRow _ _), hx, if_neg (by decide), bd2_of (e_X7_isRow _ _), hy, if_neg (by decide), bd2_of z1, if_pos (by decide), bd2_of z4, if_pos (by decide)]
                  simp (disch := omega) only [b_X7_copy_101, lit, pLeT, pLeF, pLtT, pLtF, pEqT, pEqF, nLeF, nLtF, nI_clamp, or_self, or_false, false_or, not_true_eq_false, not_false_eq_true, ↓reduceIte, nmS_eq, bd1_eq, bd2_eq, nI_add, pEqS, pk_mul, Nat.reduceAdd, Bool.false_eq_true, or_true, true_or, q5, r5, e_X6_hasPlaces ha p m σ q3, e_X6_hasPlaces hb k m σ r3, p1, p2, e_X7_found]
                · rw [f_X8_copy, bd2_of (e_X8_isRow _ _), hx, if_neg (by decide), bd2_of (e_X8_isRow _ _), hy, if_neg (by decide), bd2_of z2, if_pos (by decide), bd2_of z5, if_pos (by decide)]
                  simp (disch := omega) only [b_X8_copy_83, lit, pLeT, pLeF, pLtT, pLtF, pEqT, pEqF, nLeF, nLtF, nI_clamp, or_self, or_false, false_or, not_true_eq_false, not_false_eq_true, ↓reduceIte, nmS_eq, bd1_eq, bd2_eq, nI_add, pEqS, pk_mul, Nat.reduceAdd, Bool.false_eq_true, or_true, true_or, q6, r6, e_X8_isPart ha p m τ q4, e_X8_isPart hb k m τ r4, p1, p2, e_X8_found]
              · obtain ⟨i, m', e1, e2, e3⟩ := prt_of q1 p1
                subst e1
                subst e2
                obtain ⟨j, m'', e1, e2, e4⟩ := prt_of r1 p2
                subst e1
                have e2 : m' = m'' := (nI_eq (by omega) (by
                  apply Nat.lt_of_le_of_lt (Nat.le_trans (Nat.le_add_left _ _) e4)
                  omega)).mp e2
                subst e2
                have g1 := l_X8_copy1 (b := b) (k := j) ha (show i + m' ≤ 40 by omega) τ (399 - m') m' 0 (by omega)
                rw [wI_0, show 399 - m' + 1 + m' = 400 by omega] at g1
                generalize ht1 : wI τ 4 0 m' (fun t => τ.1 3 (40 * a + i + t)) = τ1 at g1
                have g2 := l_X8_copy2 hb (show j + m' ≤ 40 by omega) τ1 (399 - m') m' 0 (by omega)
                rw [wI_0, show 399 - m' + 1 + m' = 400 by omega] at g2
                have t4 : ∀ t, t < m' → τ1.1 4 t = τ.1 3 (40 * a + i + t) := fun t ht => by rw [← ht1, wI_at0 ht]
                have tn : ∀ c t, c ≠ 4 → τ1.1 c t = τ.1 c t := fun c t hc => by rw [← ht1, wI_k (by omega)]
                have hR : RU u lv (cpI σ (3 + a) i (3 + b) j m') (wI τ1 3 (40 * b + j) m' (fun t => τ1.1 4 t)) := by
                  refine h.rows (fun c j hc => cpI_k (by omega)) (by rw [cpI_2]) (fun c j hc => by rw [wI_k (by omega), tn _ _ (by omega)]) (by rw [wI_2, ← ht1, wI_2]) ?_
                  intro t ht
                  unfold Rw
                  rw [cpI_k (show 12 < 3 + b ∨ 3 + b < 12 by omega), cpI_k (show 11 < 3 + b ∨ 3 + b < 11 by omega), wI_k (show 1 < 3 ∨ 3 < 1 by omega), wI_k (show 2 < 3 ∨ 3 < 2 by omega), tn 1 t (by omega), tn 2 t (by omega)]
                  rcases h.rw t ht with q | ⟨n, l, q1, q2, q3, q4, q5, q6, q8⟩
                  · exact Or.inl q
                  · refine Or.inr ⟨n, l, q1, q2, q3, q4, q5, q6, fun i' hi' => ?_⟩
                    by_cases e : t = b
                    · subst e
                      by_cases e2 : j ≤ i' ∧ i' < j + m'
                      · rw [cpI_in e2, show 40 * t + i' = 40 * t + j + (i' - j) by omega, wI_at (by omega), t4 _ (by omega), q7 _ (by omega), Nat.add_assoc]
                      · rw [cpI_out (by omega), wI_out (by omega), tn _ _ (by omega)]
                        exact q8 i' hi'
                    · rw [cpI_k (by omega), wI_out (by omega), tn _ _ (by omega)]
                      exact q8 i' hi'
                refine ⟨nI m', _, _, ?_, ?_, u, lv, hR.find (nI 0)⟩
                · rw [f_X7_copy, bd2_of (e_X7_isRow _ _), hx, if_neg (by decide), bd2_of (e_X7_isRow _ _), hy, if_neg (by decide), bd2_of z1, if_pos (by decide), bd2_of z4, if_pos (by decide)]
                  simp (disch := omega) only [lit, pLeT, pLeF, pLtT, pLtF, pEqT, pEqF, nLeF, nLtF, nI_clamp, or_self, or_false, false_or, not_true_eq_false, not_false_eq_true, ↓reduceIte, nmS_eq, bd1_eq, bd2_eq, nI_add, pEqS, pk_mul, Nat.reduceAdd, Bool.false_eq_true, or_true, true_or, q5, r5, e_X6_hasPlaces ha _ _ σ q3, e_X6_hasPlaces hb _ _ σ r3, p1, p2, e_X7_well]
                · rw [f_X8_copy, bd2_of (e_X8_isRow _ _), hx, if_neg (by decide), bd2_of (e_X8_isRow _ _), hy, if_neg (by decide), bd2_of z2, if_pos (by decide), bd2_of z5, if_pos (by decide)]
                  simp (disch := omega) only [lit, pLeT, pLeF, pLtT, pLtF, pEqT, pEqF, nLeF, nLtF, nI_clamp, or_self, or_false, false_or, not_true_eq_false, not_false_eq_true, ↓reduceIte, nmS_eq, bd1_eq, bd2_eq, nI_add, pEqS, pk_mul, Nat.reduceAdd, Bool.false_eq_true, or_true, true_or, q6, r6, e_X8_isPart ha _ _ τ q4, e_X8_isPart hb _ _ τ r4, p1, p2, g1, g2]
          · refine ⟨-nI 1000010 - nI 5, pI σ 0 7 (nI 5), pI τ 0 4 (nI 5), ?_, ?_, u, lv, h.find _⟩
            · rw [f_X7_copy, bd2_of (e_X7_isRow _ _), hx, if_neg (by decide), bd2_of (e_X7_isRow _ _), hy, if_neg (by decide), bd2_of z1, if_pos (by decide), bd2_of z4, if_pos (by decide)]
              simp (disch := omega) only [lit, pLeT, pLeF, pLtT, pLtF, pEqT, pEqF, nLeF, nLtF, nI_clamp, or_self, or_false, false_or, not_true_eq_false, not_false_eq_true, ↓reduceIte, nmS_eq, bd1_eq, bd2_eq, nI_add, pEqS, pk_mul, Nat.reduceAdd, Bool.false_eq_true, or_true, true_or, q5, r5, e_X7_found]
            · rw [f_X8_copy, bd2_of (e_X8_isRow _ _), hx, if_neg (by decide), bd2_of (e_X8_isRow _ _), hy, if_neg (by decide), bd2_of z2, if_pos (by decide), bd2_of z5, if_pos (by decide)]
              simp (disch := omega) only [lit, pLeT, pLeF, pLtT, pLtF, pEqT, pEqF, nLeF, nLtF, nI_clamp, or_self, or_false, false_or, not_true_eq_false, not_false_eq_true, ↓reduceIte, nmS_eq, bd1_eq, bd2_eq, nI_add, pEqS, pk_mul, Nat.reduceAdd, Bool.false_eq_true, or_true, true_or, q6, r6, e_X8_found]
        · refine ⟨-nI 1000010 - nI 1, pI σ 0 7 (nI 1), pI τ 0 4 (nI 1), ?_, ?_, u, lv, h.find _⟩
          · rw [f_X7_copy, bd2_of (e_X7_isRow _ _), hx, if_neg (by decide), bd2_of (e_X7_isRow _ _), hy, if_neg (by decide), bd2_of z1, if_pos (by decide), bd2_of z4, if_neg (by decide)]
            simp (disch := omega) only [b_X7_copy_39, lit, pLeT, pLeF, pLtT, pLtF, pEqT, pEqF, nLeF, nLtF, nI_clamp, or_self, or_false, false_or, not_true_eq_false, not_false_eq_true, ↓reduceIte, nmS_eq, bd1_eq, bd2_eq, nI_add, pEqS, pk_mul, Nat.reduceAdd, Bool.false_eq_true, or_true, true_or, e_X7_found]
          · rw [f_X8_copy, bd2_of (e_X8_isRow _ _), hx, if_neg (by decide), bd2_of (e_X8_isRow _ _), hy, if_neg (by decide), bd2_of z2, if_pos (by decide), bd2_of z5, if_neg (by decide)]
            simp (disch := omega) only [b_X8_copy_33, lit, pLeT, pLeF, pLtT, pLtF, pEqT, pEqF, nLeF, nLtF, nI_clamp, or_self, or_false, false_or, not_true_eq_false, not_false_eq_true, ↓reduceIte, nmS_eq, bd1_eq, bd2_eq, nI_add, pEqS, pk_mul, Nat.reduceAdd, Bool.false_eq_true, or_true, true_or, e_X8_found]
      · refine ⟨-nI 1000010 - nI 1, pI σ 0 7 (nI 1), pI τ 0 4 (nI 1), ?_, ?_, u, lv, h.find _⟩
        · rw [f_X7_copy, bd2_of (e_X7_isRow _ _), hx, if_neg (by decide), bd2_of (e_X7_isRow _ _), hy, if_neg (by decide), bd2_of z1, if_neg (by decide)]
          simp (disch := omega) only [b_X7_copy_39, lit, pLeT, pLeF, pLtT, pLtF, pEqT, pEqF, nLeF, nLtF, nI_clamp, or_self, or_false, false_or, not_true_eq_false, not_false_eq_true, ↓reduceIte, nmS_eq, bd1_eq, bd2_eq, nI_add, pEqS, pk_mul, Nat.reduceAdd, Bool.false_eq_true, or_true, true_or, e_X7_found]
        · rw [f_X8_copy, bd2_of (e_X8_isRow _ _), hx, if_neg (by decide), bd2_of (e_X8_isRow _ _), hy, if_neg (by decide), bd2_of z2, if_neg (by decide)]
          simp (disch := omega) only [b_X8_copy_33, lit, pLeT, pLeF, pLtT, pLtF, pEqT, pEqF, nLeF, nLtF, nI_clamp, or_self, or_false, false_or, not_true_eq_false, not_false_eq_true, ↓reduceIte, nmS_eq, bd1_eq, bd2_eq, nI_add, pEqS, pk_mul, Nat.reduceAdd, Bool.false_eq_true, or_true, true_or, e_X8_found]
