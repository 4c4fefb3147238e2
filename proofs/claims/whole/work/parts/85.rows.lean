/-! ===== rows, the tape ===== -/
def wI (σ : Sto) (k lo n : Nat) (g : Nat → Int32) : Sto := (fun a b => if a = k ∧ lo ≤ b ∧ b < lo + n then g (b - lo) else σ.1 a b, σ.2)
section WI
variable {σ : Sto} {k lo n a b : Nat} {g : Nat → Int32}
theorem wI_0 : wI σ k lo 0 g = σ := by
  unfold wI
  apply Prod.ext
  · funext a b
    show (if a = k ∧ lo ≤ b ∧ b < lo + 0 then g (b - lo) else σ.1 a b) = σ.1 a b
    rw [if_neg (by omega)]
  · rfl
theorem wI_2 : (wI σ k lo n g).2 = σ.2 := Eq.trans (b := σ.2) (Eq.refl _) (Eq.refl _)
theorem wI_k (h : a < k ∨ k < a) : (wI σ k lo n g).1 a b = σ.1 a b := by
  show (if a = k ∧ lo ≤ b ∧ b < lo + n then g (b - lo) else σ.1 a b) = σ.1 a b
  rw [if_neg (by omega)]
theorem wI_out (h : b < lo ∨ lo + n ≤ b) : (wI σ k lo n g).1 a b = σ.1 a b := by
  show (if a = k ∧ lo ≤ b ∧ b < lo + n then g (b - lo) else σ.1 a b) = σ.1 a b
  rw [if_neg (by omega)]
theorem wI_at (h : b < n) : (wI σ k lo n g).1 k (lo + b) = g b := by
  show (if k = k ∧ lo ≤ lo + b ∧ lo + b < lo + n then g (lo + b - lo) else σ.1 k (lo + b)) = g b
  rw [if_pos (by omega), Nat.add_sub_cancel_left]
theorem wI_at0 (h : b < n) : (wI σ k 0 n g).1 k b = g b := by
  have := wI_at (σ := σ) (k := k) (lo := 0) (g := g) h
  rw [Nat.zero_add] at this
  exact this
theorem wI_s {x : Int32} (h : x = g n) : pI (wI σ k lo n g) k (lo + n) x = wI σ k lo (n + 1) g := by
  subst h
  unfold wI pI
  apply Prod.ext
  · funext a b
    show (if a = k ∧ b = lo + n then g n else if a = k ∧ lo ≤ b ∧ b < lo + n then g (b - lo) else σ.1 a b) = if a = k ∧ lo ≤ b ∧ b < lo + (n + 1) then g (b - lo) else σ.1 a b
    by_cases h1 : a = k ∧ b = lo + n
    · rw [if_pos h1, if_pos (by omega), h1.2, Nat.add_sub_cancel_left]
    · rw [if_neg h1]
      by_cases h2 : a = k ∧ lo ≤ b ∧ b < lo + n
      · rw [if_pos h2, if_pos (by omega)]
      · rw [if_neg h2, if_neg (by omega)]
  · rfl
theorem wI_s0 {x : Int32} (h : x = g n) : pI (wI σ k 0 n g) k n x = wI σ k 0 (n + 1) g := by
  have := wI_s (σ := σ) (k := k) (lo := 0) h
  rw [Nat.zero_add] at this
  exact this
end WI
theorem pI_no {σ : Sto} {k j : Nat} {x : Int32} {a b : Nat} (h : ¬ (a = k ∧ b = j)) : (pI σ k j x).1 a b = σ.1 a b := by
  show (if a = k ∧ b = j then x else σ.1 a b) = _
  rw [if_neg h]
/-- what changes only finding, rows, tape, fault -/
theorem RU.upd {u lv : Nat} {σ τ σ' τ' : Sto} (h : RU u lv σ τ) (hx1 : ∀ c j, 33 ≤ c → c ≠ 227 → σ'.1 c j = σ.1 c j) (hx2 : ∀ c j, 33 ≤ c → ¬ (230 ≤ c ∧ c < 236) → σ'.2 c j = σ.2 c j) (hm1 : ∀ c j, (c = 0 ∧ (j = 16 ∨ j = 27)) ∨ c = 10 ∨ c = 16 → τ'.1 c j = τ.1 c j) (hm2 : ∀ c j, c = 6 ∨ c = 8 ∨ c = 9 → τ'.2 c j = τ.2 c j)
    (st : σ'.1 0 7 = τ'.1 0 4) (hrw : ∀ r, r < 8 → Rw σ' τ' r) (htp : ∃ L, L ≤ 200 ∧ σ'.1 13 3 = nI L ∧ τ'.1 0 6 = nI L ∧ ∀ i, i < L → ∃ c, c < 256 ∧ σ'.1 14 i = nI c ∧ τ'.1 5 i = nI c) (ft : σ'.1 13 7 = τ'.1 0 7) : RU u lv σ' τ' := by
  have hF : ∀ (b u' l' : Nat) (best : Int32) (w w' : Nat → Int64), Fm σ b u' l' best w → (b = 33 ∨ 97 ≤ b ∧ b ≤ 160) → (∀ i, i < 312 → w' i = w i) → Fm σ' b u' l' best w' := by
    intro b u' l' best w w' hF hb hw
    have hu' := hF.hu
    exact hF.cong (hx1 _ _ (by omega) (by omega)) (fun v hv => hx1 _ _ (by omega) (by omega)) (fun a ha => ⟨hx1 _ _ (by omega) (by omega), hx2 _ _ (by omega) (by omega), fun v hv => hx2 _ _ (by omega) (by omega)⟩) hw
  refine ⟨st, hrw, htp, ft, ?_, ?_, ?_, ?_, ?_, ?_, ?_, ?_, ?_⟩
  · rw [hx1 _ _ (by omega) (by omega)]; exact h.rd
  · rw [hx1 _ _ (by omega) (by omega)]; exact h.us
  · rw [hx1 _ _ (by omega) (by omega)]; exact h.lv
  · rw [hx1 _ _ (by omega) (by omega)]
    exact hF 33 u lv _ _ _ h.bk (by omega) (fun i _ => hm2 _ _ (by omega))
  · intro k hk
    unfold Im
    rw [hx1 (97 + 63 * k) 2 (by omega) (by omega), hx1 (97 + 63 * k) 3 (by omega) (by omega), hx1 (97 + 63 * k) 4 (by omega) (by omega), hx1 (97 + 63 * k) 5 (by omega) (by omega), hm1 10 k (by omega)]
    rcases h.im k hk with q | ⟨q1, q2, u', l', q3, q4, q5⟩
    · exact Or.inl q
    · exact Or.inr ⟨q1, q2, u', l', q3, q4, hF _ _ _ _ _ _ q5 (by omega) (fun i _ => hm2 _ _ (by omega))⟩
  · obtain ⟨o, s, us, ls, a1, a2, a3, a4, a5, a6, a7⟩ := h.ac
    refine ⟨o, s, us, ls, a1, a2, by rw [hx1 _ _ (by omega) (by omega)]; exact a3, by rw [hx1 _ _ (by omega) (by omega)]; exact a4, by rw [hm1 _ _ (by omega)]; exact a5, fun i hi => ?_, a7⟩
    obtain ⟨b1, b2, b3, b4⟩ := a6 i hi
    refine ⟨b1, by rw [hx1 _ _ (by omega) (by omega)]; exact b2, by rw [hx1 _ _ (by omega) (by omega)]; exact b3, ?_⟩
    rw [hx1 226 _ (by omega) (by omega)]
    exact hF 33 (us i) (ls i) _ _ _ b4 (by omega) (fun i _ => hm2 _ _ (by omega))
  · intro a ha
    rw [hx1 _ _ (by omega) (by omega)]
    exact h.nm a ha
  · refine ⟨by rw [hx2 _ _ (by omega) (by omega)]; exact h.no.1, fun v hv => ?_⟩
    rw [hx2 _ _ (by omega) (by omega)]
    exact h.no.2 v hv
  · obtain ⟨t, t1, t2, t3, t4⟩ := h.tr
    refine ⟨t, t1, by rw [hx1 _ _ (by omega) (by omega)]; exact t2, by rw [hm1 _ _ (by omega)]; exact t3, fun i hi => ?_⟩
    rw [hx1 _ _ (by omega) (by omega), hm1 _ _ (by omega)]
    exact t4 i hi
/-- only rows change -/
theorem RU.rows {u lv : Nat} {σ τ σ' τ' : Sto} (h : RU u lv σ τ) (hx1 : ∀ c j, ¬ (3 ≤ c ∧ c ≤ 12) → σ'.1 c j = σ.1 c j) (hx2 : σ'.2 = σ.2) (hm1 : ∀ c j, ¬ (1 ≤ c ∧ c ≤ 4) → τ'.1 c j = τ.1 c j) (hm2 : τ'.2 = τ.2) (hrw : ∀ r, r < 8 → Rw σ' τ' r) : RU u lv σ' τ' := by
  refine h.upd (fun c j _ _ => hx1 c j (by omega)) (fun c j _ _ => by rw [hx2]) (fun c j _ => hm1 c j (by omega)) (fun c j _ => by rw [hm2]) ?_ hrw ?_ ?_
  · rw [hx1 _ _ (by omega), hm1 _ _ (by omega)]; exact h.st
  · obtain ⟨L, l1, l2, l3, l4⟩ := h.tp
    refine ⟨L, l1, by rw [hx1 _ _ (by omega)]; exact l2, by rw [hm1 _ _ (by omega)]; exact l3, fun i hi => ?_⟩
    rw [hx1 _ _ (by omega), hm1 _ _ (by omega)]
    exact l4 i hi
  · rw [hx1 _ _ (by omega), hm1 _ _ (by omega)]; exact h.ft
theorem neg1 : (nI 0 ≤ -nI 1) = False := eq_false (by decide)
theorem RU.miss {u lv : Nat} {σ τ : Sto} (h : RU u lv σ τ) {r : Nat} (hr : r < 8) : ∃ z : Bool, f_X6_isMissing (nI r) σ = some (if z then nI 1 else nI 0, σ) ∧ f_X8_isMissing (nI r) τ = some (if z then nI 1 else nI 0, τ) ∧ (z = false → ∃ n l, n ≤ 40 ∧ l ≤ 2 ∧ σ.1 12 r = nI n ∧ τ.1 2 r = nI n ∧ σ.1 11 r = nI l ∧ τ.1 1 r = nI l ∧ ∀ i, i < 40 → σ.1 (3 + r) i = τ.1 3 (40 * r + i)) := by
  rcases h.rw r hr with ⟨q1, q2⟩ | ⟨n, l, q1, q2, q3, q4, q5, q6, q7⟩
  · refine ⟨true, ?_, ?_, fun z => by cases z⟩
    · simp (disch := omega) only [f_X6_isMissing, b_X6_isMissing_14, lit, pLeT, pLeF, pLtT, pLtF, pEqT, pEqF, nLeF, nLtF, nI_clamp, or_self, or_false, false_or, not_true_eq_false, not_false_eq_true, ↓reduceIte, nmS_eq, bd1_eq, bd2_eq, nI_add, pEqS, pk_mul, Nat.reduceAdd, Bool.false_eq_true, or_true, true_or, q2, neg1]
    · simp (disch := omega) only [f_X8_isMissing, b_X8_isMissing_16, lit, pLeT, pLeF, pLtT, pLtF, pEqT, pEqF, nLeF, nLtF, nI_clamp, or_self, or_false, false_or, not_true_eq_false, not_false_eq_true, ↓reduceIte, nmS_eq, bd1_eq, bd2_eq, nI_add, pEqS, pk_mul, Nat.reduceAdd, Bool.false_eq_true, or_true, true_or, q1]
  · have e := encne (v := l) (by omega)
    refine ⟨false, ?_, ?_, fun _ => ⟨n, l, q1, q2, q3, q4, q5, q6, q7⟩⟩
    · simp (disch := omega) only [f_X6_isMissing, b_X6_isMissing_14, lit, pLeT, pLeF, pLtT, pLtF, pEqT, pEqF, nLeF, nLtF, nI_clamp, or_self, or_false, false_or, not_true_eq_false, not_false_eq_true, ↓reduceIte, nmS_eq, bd1_eq, bd2_eq, nI_add, pEqS, pk_mul, Nat.reduceAdd, Bool.false_eq_true, or_true, true_or, q3]
    · simp (disch := omega) only [f_X8_isMissing, b_X8_isMissing_16, lit, pLeT, pLeF, pLtT, pLtF, pEqT, pEqF, nLeF, nLtF, nI_clamp, or_self, or_false, false_or, not_true_eq_false, not_false_eq_true, ↓reduceIte, nmS_eq, bd1_eq, bd2_eq, nI_add, pEqS, pk_mul, Nat.reduceAdd, Bool.false_eq_true, or_true, true_or, q6, e]
theorem l_J7_fillI (k N : Nat) (x : Int32) (σ : Sto) (hN : N < 2147483648) (n : Nat) (j : Nat) : ∀ i, i + j = N → l_J7_fill_53178_5 k N (n + 1 + j) x (nI i) (nI N) (wI σ k 0 i (fun _ => x)) = some (wI σ k 0 N (fun _ => x)) := by
  induction j with
  | zero =>
    intro i hi
    have e : i = N := by omega
    subst e
    show b_J7_fill_53178_5 _ k i x (nI i) (nI i) _ = _
    simp (disch := omega) only [b_J7_fill_53178_5, lit, pLeT, pLeF, pLtT, pLtF, pEqT, pEqF, nLeF, nLtF, nI_clamp, or_self, or_false, false_or, not_true_eq_false, not_false_eq_true, ↓reduceIte, nmS_eq, bd1_eq, bd2_eq, nI_add, pEqS, pk_mul, Nat.reduceAdd, Bool.false_eq_true, or_true, true_or]
  | succ j ih0 =>
    intro i hi
    have ih := ih0 (i + 1) (by omega)
    have e3 := wI_s0 (σ := σ) (k := k) (n := i) (g := fun _ => x) rfl
    show b_J7_fill_53178_5 (l_J7_fill_53178_5 k N (n + 1 + j)) k N x (nI i) (nI N) (wI σ k 0 i (fun _ => x)) = _
    simp (disch := omega) only [b_J7_fill_53178_5, lit, pLeT, pLeF, pLtT, pLtF, pEqT, pEqF, nLeF, nLtF, nI_clamp, or_self, or_false, false_or, not_true_eq_false, not_false_eq_true, ↓reduceIte, nmS_eq, bd1_eq, bd2_eq, nI_add, pEqS, pk_mul, Nat.reduceAdd, Bool.false_eq_true, or_true, true_or, e3, ih]
theorem e_fillI (k : Nat) (x : Int32) (σ : Sto) : f_J7_fill_53178 k 40 x σ = some (wI σ k 0 40 (fun _ => x)) := by
  have h := l_J7_fillI k 40 x σ (by omega) 359 40 0 (by omega)
  rw [wI_0] at h
  unfold f_J7_fill_53178
  rw [nmS_eq]
  exact h
theorem l_X8_row {r : Nat} (hr : r < 8) (y : Int32) (τ : Sto) (n : Nat) (j : Nat) : ∀ i, i + j = 40 → l_X8_row_52 (n + 1 + j) (nI r) y (nI i) (wI τ 3 (40 * r) i (fun _ => nI 0)) = some (y, pI (wI τ 3 (40 * r) 40 (fun _ => nI 0)) 0 4 (nI 0)) := by
  induction j with
  | zero =>
    intro i hi
    have e : i = 40 := by omega
    subst e
    show b_X8_row_52 _ (nI r) y (nI 40) _ = _
    simp (disch := omega) only [b_X8_row_52, lit, pLeT, pLeF, pLtT, pLtF, pEqT, pEqF, nLeF, nLtF, nI_clamp, or_self, or_false, false_or, not_true_eq_false, not_false_eq_true, ↓reduceIte, nmS_eq, bd1_eq, bd2_eq, nI_add, pEqS, pk_mul, Nat.reduceAdd, Bool.false_eq_true, or_true, true_or, e_X8_well]
  | succ j ih0 =>
    intro i hi
    have ih := ih0 (i + 1) (by omega)
    have e3 := wI_s (σ := τ) (k := 3) (lo := 40 * r) (n := i) (g := fun _ => nI 0) rfl
    show b_X8_row_52 (l_X8_row_52 (n + 1 + j)) (nI r) y (nI i) (wI τ 3 (40 * r) i (fun _ => nI 0)) = _
    simp (disch := omega) only [b_X8_row_52, lit, pLeT, pLeF, pLtT, pLtF, pEqT, pEqF, nLeF, nLtF, nI_clamp, or_self, or_false, false_or, not_true_eq_false, not_false_eq_true, ↓reduceIte, nmS_eq, bd1_eq, bd2_eq, nI_add, pEqS, pk_mul, Nat.reduceAdd, Bool.false_eq_true, or_true, true_or, e3, ih]
theorem s_row (x y w : Int32) : Sim RR (f_X7_row x y w) (f_X8_row x y w) := by
  intro σ τ ⟨u, lv, h⟩
  cases hx : inr x 8
  · refine ⟨-nI 1000001, σ, τ, ?_, ?_, u, lv, h⟩
    · simp (disch := omega) only [f_X7_row, b_X7_row_22, lit, pLeT, pLeF, pLtT, pLtF, pEqT, pEqF, nLeF, nLtF, nI_clamp, or_self, or_false, false_or, not_true_eq_false, not_false_eq_true, ↓reduceIte, nmS_eq, bd1_eq, bd2_eq, nI_add, pEqS, pk_mul, Nat.reduceAdd, Bool.false_eq_true, or_true, true_or, e_X7_isRow, hx]
    · simp (disch := omega) only [f_X8_row, b_X8_row_22, lit, pLeT, pLeF, pLtT, pLtF, pEqT, pEqF, nLeF, nLtF, nI_clamp, or_self, or_false, false_or, not_true_eq_false, not_false_eq_true, ↓reduceIte, nmS_eq, bd1_eq, bd2_eq, nI_add, pEqS, pk_mul, Nat.reduceAdd, Bool.false_eq_true, or_true, true_or, e_X8_isRow, hx]
  · obtain ⟨r, hr, e⟩ := inr_of (by omega) hx
    subst e
    cases hy : inr y 3
    · refine ⟨-nI 1000001, σ, τ, ?_, ?_, u, lv, h⟩
      · rcases inr_not hy with q | q <;> simp (disch := omega) only [f_X7_row, b_X7_row_22, lit, pLeT, pLeF, pLtT, pLtF, pEqT, pEqF, nLeF, nLtF, nI_clamp, or_self, or_false, false_or, not_true_eq_false, not_false_eq_true, ↓reduceIte, nmS_eq, bd1_eq, bd2_eq, nI_add, pEqS, pk_mul, Nat.reduceAdd, Bool.false_eq_true, or_true, true_or, e_X7_isRow, hx, q, ite_self]
      · simp (disch := omega) only [f_X8_row, b_X8_row_22, lit, pLeT, pLeF, pLtT, pLtF, pEqT, pEqF, nLeF, nLtF, nI_clamp, or_self, or_false, false_or, not_true_eq_false, not_false_eq_true, ↓reduceIte, nmS_eq, bd1_eq, bd2_eq, nI_add, pEqS, pk_mul, Nat.reduceAdd, Bool.false_eq_true, or_true, true_or, e_X8_isRow, hx, e_inr, hy]
    · have hy2 := inr_yes hy
      obtain ⟨l, hl, e⟩ := inr_of (by omega) hy
      subst e
      by_cases q : w ≤ nI 40
      · by_cases q2 : nI 0 ≤ w
        · obtain ⟨n, hn, e⟩ : ∃ n, n ≤ 40 ∧ w = nI n := by
            rw [leI, nI_toInt (by omega)] at q q2
            refine ⟨w.toInt.toNat, by omega, ?_⟩
            apply Int32.toInt_inj.mp
            rw [nI_toInt (by omega)]
            omega
          subst e
          have e1 := l_X8_row hr (nI n) (pI (pI τ 1 r (nI l)) 2 r (nI n)) 359 40 0 (by omega)
          rw [wI_0] at e1
          have e1 : l_X8_row_52 400 (nI r) (nI n) (nI 0) (pI (pI τ 1 r (nI l)) 2 r (nI n)) = _ := e1
          have hR : RU u lv (pI (pI (wI σ (3 + r) 0 40 (fun _ => nI 0)) 11 r (nI l)) 12 r (nI n)) (wI (pI (pI τ 1 r (nI l)) 2 r (nI n)) 3 (40 * r) 40 (fun _ => nI 0)) := by
            refine h.rows ?_ ?_ ?_ ?_ ?_
            · intro c j hc
              rw [pI_nk (by omega), pI_nk (by omega), wI_k (by omega)]
            · rw [pI_2, pI_2, wI_2]
            · intro c j hc
              rw [wI_k (by omega), pI_nk (by omega), pI_nk (by omega)]
            · rw [wI_2, pI_2, pI_2]
            · intro t ht
              by_cases e : t = r
              · subst e
                refine Or.inr ⟨n, l, hn, by omega, ?_, ?_, ?_, ?_, fun i hi => ?_⟩
                · rw [pI_at]
                · rw [wI_k (by omega), pI_at]
                · rw [pI_nk (by omega), pI_at]
                · rw [wI_k (by omega), pI_nk (by omega), pI_at]
                · rw [pI_nk (by omega), pI_nk (by omega), wI_at0 hi, wI_at hi]
              · unfold Rw
                have f1 : (pI (pI (wI σ (3 + r) 0 40 (fun _ => nI 0)) 11 r (nI l)) 12 r (nI n)).1 12 t = σ.1 12 t := by rw [pI_nj (by omega), pI_nk (by omega), wI_k (by omega)]
                have f2 : (pI (pI (wI σ (3 + r) 0 40 (fun _ => nI 0)) 11 r (nI l)) 12 r (nI n)).1 11 t = σ.1 11 t := by rw [pI_nk (by omega), pI_nj (by omega), wI_k (by omega)]
                have f3 : (wI (pI (pI τ 1 r (nI l)) 2 r (nI n)) 3 (40 * r) 40 (fun _ => nI 0)).1 1 t = τ.1 1 t := by rw [wI_k (by omega), pI_nk (by omega), pI_nj (by omega)]
                have f4 : (wI (pI (pI τ 1 r (nI l)) 2 r (nI n)) 3 (40 * r) 40 (fun _ => nI 0)).1 2 t = τ.1 2 t := by rw [wI_k (by omega), pI_nj (by omega), pI_nk (by omega)]
                rw [f1, f2, f3, f4]
                rcases h.rw t ht with q | ⟨n, l, q1, q2, q3, q4, q5, q6, q7⟩
                · exact Or.inl q
                · refine Or.inr ⟨n, l, q1, q2, q3, q4, q5, q6, fun i hi => ?_⟩
                  rw [pI_nk (by omega), pI_nk (by omega), wI_k (by omega), wI_out (by omega), pI_nk (by omega), pI_nk (by omega)]
                  exact q7 i hi
          refine ⟨nI n, _, _, ?_, ?_, u, lv, hR.find (nI 0)⟩
          · simp (disch := omega) only [f_X7_row, f_X6_make, lit, pLeT, pLeF, pLtT, pLtF, pEqT, pEqF, nLeF, nLtF, nI_clamp, or_self, or_false, false_or, not_true_eq_false, not_false_eq_true, ↓reduceIte, nmS_eq, bd1_eq, bd2_eq, nI_add, pEqS, pk_mul, Nat.reduceAdd, Bool.false_eq_true, or_true, true_or, e_X7_isRow, hx, e_fillI, e_X7_well]
          · simp (disch := omega) only [f_X8_row, lit, pLeT, pLeF, pLtT, pLtF, pEqT, pEqF, nLeF, nLtF, nI_clamp, or_self, or_false, false_or, not_true_eq_false, not_false_eq_true, ↓reduceIte, nmS_eq, bd1_eq, bd2_eq, nI_add, pEqS, pk_mul, Nat.reduceAdd, Bool.false_eq_true, or_true, true_or, e_X8_isRow, hx, e_inr, hy, e1]
        · refine ⟨-nI 1000010 - nI 4, pI σ 0 7 (nI 4), pI τ 0 4 (nI 4), ?_, ?_, u, lv, h.find _⟩
          · simp (disch := omega) only [f_X7_row, lit, pLeT, pLeF, pLtT, pLtF, pEqT, pEqF, nLeF, nLtF, nI_clamp, or_self, or_false, false_or, not_true_eq_false, not_false_eq_true, ↓reduceIte, nmS_eq, bd1_eq, bd2_eq, nI_add, pEqS, pk_mul, Nat.reduceAdd, Bool.false_eq_true, or_true, true_or, e_X7_isRow, hx, q, q2, e_X7_found]
          · simp (disch := omega) only [f_X8_row, lit, pLeT, pLeF, pLtT, pLtF, pEqT, pEqF, nLeF, nLtF, nI_clamp, or_self, or_false, false_or, not_true_eq_false, not_false_eq_true, ↓reduceIte, nmS_eq, bd1_eq, bd2_eq, nI_add, pEqS, pk_mul, Nat.reduceAdd, Bool.false_eq_true, or_true, true_or, e_X8_isRow, hx, e_inr, hy, q, q2, e_X8_found]
      · refine ⟨-nI 1000001, σ, τ, ?_, ?_, u, lv, h⟩
        · simp (disch := omega) only [f_X7_row, b_X7_row_22, lit, pLeT, pLeF, pLtT, pLtF, pEqT, pEqF, nLeF, nLtF, nI_clamp, or_self, or_false, false_or, not_true_eq_false, not_false_eq_true, ↓reduceIte, nmS_eq, bd1_eq, bd2_eq, nI_add, pEqS, pk_mul, Nat.reduceAdd, Bool.false_eq_true, or_true, true_or, e_X7_isRow, hx, q]
        · simp (disch := omega) only [f_X8_row, b_X8_row_22, lit, pLeT, pLeF, pLtT, pLtF, pEqT, pEqF, nLeF, nLtF, nI_clamp, or_self, or_false, false_or, not_true_eq_false, not_false_eq_true, ↓reduceIte, nmS_eq, bd1_eq, bd2_eq, nI_add, pEqS, pk_mul, Nat.reduceAdd, Bool.false_eq_true, or_true, true_or, e_X8_isRow, hx, e_inr, hy, q]
theorem s_drop (x : Int32) : Sim RR (f_X7_drop x) (f_X8_drop x) := by
  intro σ τ ⟨u, lv, h⟩
  cases hx : inr x 8
  · refine ⟨-nI 1000001, σ, τ, ?_, ?_, u, lv, h⟩
    · simp (disch := omega) only [f_X7_drop, lit, pLeT, pLeF, pLtT, pLtF, pEqT, pEqF, nLeF, nLtF, nI_clamp, or_self, or_false, false_or, not_true_eq_false, not_false_eq_true, ↓reduceIte, nmS_eq, bd1_eq, bd2_eq, nI_add, pEqS, pk_mul, Nat.reduceAdd, Bool.false_eq_true, or_true, true_or, e_X7_isRow, hx]
    · simp (disch := omega) only [f_X8_drop, lit, pLeT, pLeF, pLtT, pLtF, pEqT, pEqF, nLeF, nLtF, nI_clamp, or_self, or_false, false_or, not_true_eq_false, not_false_eq_true, ↓reduceIte, nmS_eq, bd1_eq, bd2_eq, nI_add, pEqS, pk_mul, Nat.reduceAdd, Bool.false_eq_true, or_true, true_or, e_X8_isRow, hx]
  · obtain ⟨r, hr, e⟩ := inr_of (by omega) hx
    subst e
    obtain ⟨z, z1, z2, z3⟩ := h.miss hr
    cases z
    · obtain ⟨n, l, q1, q2, q3, q4, q5, q6, q7⟩ := z3 rfl
      have hR : RU u lv (pI σ 12 r (-nI 1)) (pI τ 1 r (-nI 1000000)) := by
        refine h.rows (fun c j hc => pI_nk (by omega)) (by rw [pI_2]) (fun c j hc => pI_nk (by omega)) (by rw [pI_2]) ?_
        intro t ht
        by_cases e : t = r
        · subst e
          exact Or.inl ⟨pI_at _, pI_at _⟩
        · unfold Rw
          rw [pI_nj (by omega), pI_nj (by omega), pI_nk (by omega), pI_nk (by omega)]
          rcases h.rw t ht with q | ⟨n, l, q1, q2, q3, q4, q5, q6, q7⟩
          · exact Or.inl q
          · refine Or.inr ⟨n, l, q1, q2, q3, q4, q5, q6, fun i hi => ?_⟩
            rw [pI_nk (by omega), pI_nk (by omega)]
            exact q7 i hi
      refine ⟨nI n, _, _, ?_, ?_, u, lv, hR.find (nI 0)⟩
      · simp (disch := omega) only [f_X7_drop, f_X6_lose, lit, pLeT, pLeF, pLtT, pLtF, pEqT, pEqF, nLeF, nLtF, nI_clamp, or_self, or_false, false_or, not_true_eq_false, not_false_eq_true, ↓reduceIte, nmS_eq, bd1_eq, bd2_eq, nI_add, pEqS, pk_mul, Nat.reduceAdd, Bool.false_eq_true, or_true, true_or, e_X7_isRow, hx, z1, q3, e_X7_well]
      · simp (disch := omega) only [f_X8_drop, lit, pLeT, pLeF, pLtT, pLtF, pEqT, pEqF, nLeF, nLtF, nI_clamp, or_self, or_false, false_or, not_true_eq_false, not_false_eq_true, ↓reduceIte, nmS_eq, bd1_eq, bd2_eq, nI_add, pEqS, pk_mul, Nat.reduceAdd, Bool.false_eq_true, or_true, true_or, e_X8_isRow, hx, z2, pI_nk, q4, e_X8_well]
    · refine ⟨-nI 1000010 - nI 1, pI σ 0 7 (nI 1), pI τ 0 4 (nI 1), ?_, ?_, u, lv, h.find _⟩
      · simp (disch := omega) only [f_X7_drop, lit, pLeT, pLeF, pLtT, pLtF, pEqT, pEqF, nLeF, nLtF, nI_clamp, or_self, or_false, false_or, not_true_eq_false, not_false_eq_true, ↓reduceIte, nmS_eq, bd1_eq, bd2_eq, nI_add, pEqS, pk_mul, Nat.reduceAdd, Bool.false_eq_true, or_true, true_or, e_X7_isRow, hx, z1, e_X7_found]
      · simp (disch := omega) only [f_X8_drop, lit, pLeT, pLeF, pLtT, pLtF, pEqT, pEqF, nLeF, nLtF, nI_clamp, or_self, or_false, false_or, not_true_eq_false, not_false_eq_true, ↓reduceIte, nmS_eq, bd1_eq, bd2_eq, nI_add, pEqS, pk_mul, Nat.reduceAdd, Bool.false_eq_true, or_true, true_or, e_X8_isRow, hx, z2, e_X8_found]
theorem s_feed (x : Int32) : Sim RR (f_X7_feed x) (f_X8_feed x) := by
  intro σ τ ⟨u, lv, h⟩
  have e5 : x ≤ nI 255 ↔ ¬ nI 256 ≤ x := by rw [← lt_le1 (n := 255) (by omega)]; exact (Int32.not_lt).symm
  cases hx : inr x 256
  · refine ⟨-nI 1000001, σ, τ, ?_, ?_, u, lv, h⟩
    · rcases inr_not hx with q | q <;> simp (disch := omega) only [f_X7_feed, b_X7_feed_11, lit, pLeT, pLeF, pLtT, pLtF, pEqT, pEqF, nLeF, nLtF, nI_clamp, or_self, or_false, false_or, not_true_eq_false, not_false_eq_true, ↓reduceIte, nmS_eq, bd1_eq, bd2_eq, nI_add, pEqS, pk_mul, Nat.reduceAdd, Bool.false_eq_true, or_true, true_or, e5, q, ite_self]
    · simp (disch := omega) only [f_X8_feed, lit, pLeT, pLeF, pLtT, pLtF, pEqT, pEqF, nLeF, nLtF, nI_clamp, or_self, or_false, false_or, not_true_eq_false, not_false_eq_true, ↓reduceIte, nmS_eq, bd1_eq, bd2_eq, nI_add, pEqS, pk_mul, Nat.reduceAdd, Bool.false_eq_true, or_true, true_or, e_inr, hx]
  · obtain ⟨c, hc, e⟩ := inr_of (by omega) hx
    subst e
    obtain ⟨L, l1, l2, l3, l4⟩ := h.tp
    by_cases q : L = 200
    · subst q
      refine ⟨-nI 1000003, σ, τ, ?_, ?_, u, lv, h⟩
      · simp (disch := omega) only [f_X7_feed, lit, pLeT, pLeF, pLtT, pLtF, pEqT, pEqF, nLeF, nLtF, nI_clamp, or_self, or_false, false_or, not_true_eq_false, not_false_eq_true, ↓reduceIte, nmS_eq, bd1_eq, bd2_eq, nI_add, pEqS, pk_mul, Nat.reduceAdd, Bool.false_eq_true, or_true, true_or, l2]
      · simp (disch := omega) only [f_X8_feed, lit, pLeT, pLeF, pLtT, pLtF, pEqT, pEqF, nLeF, nLtF, nI_clamp, or_self, or_false, false_or, not_true_eq_false, not_false_eq_true, ↓reduceIte, nmS_eq, bd1_eq, bd2_eq, nI_add, pEqS, pk_mul, Nat.reduceAdd, Bool.false_eq_true, or_true, true_or, e_inr, hx, l3]
    · have hR : RU u lv (pI (pI σ 14 L (nI c)) 13 3 (nI (L + 1))) (pI (pI τ 5 L (nI c)) 0 6 (nI (L + 1))) := by
        refine h.upd (fun c j h1 h2 => by rw [pI_nk (by omega), pI_nk (by omega)]) (fun c j _ _ => by rw [pI_2, pI_2]) (fun c j h1 => by rw [pI_no (by omega), pI_nk (by omega)]) (fun c j _ => by rw [pI_2, pI_2]) ?_ ?_ ?_ ?_
        · rw [pI_nk (by omega), pI_nk (by omega), pI_nj (by omega), pI_nk (by omega)]
          exact h.st
        · intro r hr
          unfold Rw
          rw [pI_nk (by omega), pI_nk (by omega), pI_nk (by omega), pI_nk (by omega), pI_nk (by omega), pI_nk (by omega), pI_nk (by omega), pI_nk (by omega)]
          rcases h.rw r hr with q | ⟨n, l, q1, q2, q3, q4, q5, q6, q7⟩
          · exact Or.inl q
          · refine Or.inr ⟨n, l, q1, q2, q3, q4, q5, q6, fun i hi => ?_⟩
            rw [pI_nk (by omega), pI_nk (by omega), pI_nk (by omega), pI_nk (by omega)]
            exact q7 i hi
        · refine ⟨L + 1, by omega, pI_at _, pI_at _, fun i hi => ?_⟩
          by_cases e : i = L
          · subst e
            exact ⟨c, hc, by rw [pI_nk (by omega), pI_at], by rw [pI_nk (by omega), pI_at]⟩
          · rw [pI_nk (by omega), pI_nj (by omega), pI_nk (by omega), pI_nj (by omega)]
            exact l4 i (by omega)
        · rw [pI_nj (by omega), pI_nk (by omega), pI_nj (by omega), pI_nk (by omega)]
          exact h.ft
      refine ⟨nI (L + 1), _, _, ?_, ?_, u, lv, hR⟩
      · simp (disch := omega) only [f_X7_feed, f_X5_take, b_X5_take_30, lit, pLeT, pLeF, pLtT, pLtF, pEqT, pEqF, nLeF, nLtF, nI_clamp, or_self, or_false, false_or, not_true_eq_false, not_false_eq_true, ↓reduceIte, nmS_eq, bd1_eq, bd2_eq, nI_add, pEqS, pk_mul, Nat.reduceAdd, Bool.false_eq_true, or_true, true_or, l2, pI_nk, pI_at]
      · simp (disch := omega) only [f_X8_feed, lit, pLeT, pLeF, pLtT, pLtF, pEqT, pEqF, nLeF, nLtF, nI_clamp, or_self, or_false, false_or, not_true_eq_false, not_false_eq_true, ↓reduceIte, nmS_eq, bd1_eq, bd2_eq, nI_add, pEqS, pk_mul, Nat.reduceAdd, Bool.false_eq_true, or_true, true_or, e_inr, hx, l3, pI_nk, pI_at]
