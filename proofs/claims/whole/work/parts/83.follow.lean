/-! ===== rows of longs written one after another ===== -/
def wL (σ : Sto) (k lo n : Nat) (g : Nat → Int64) : Sto := (σ.1, fun a b => if a = k ∧ lo ≤ b ∧ b < lo + n then g (b - lo) else σ.2 a b)
section WL
variable {σ : Sto} {k lo n a b : Nat} {g : Nat → Int64}
theorem wL_0 : wL σ k lo 0 g = σ := by
  unfold wL
  apply Prod.ext
  · rfl
  · funext a b
    show (if a = k ∧ lo ≤ b ∧ b < lo + 0 then g (b - lo) else σ.2 a b) = σ.2 a b
    rw [if_neg (by omega)]
theorem wL_1 : (wL σ k lo n g).1 = σ.1 := Eq.trans (b := σ.1) (Eq.refl _) (Eq.refl _)
theorem wL_k (h : a < k ∨ k < a) : (wL σ k lo n g).2 a b = σ.2 a b := by
  show (if a = k ∧ lo ≤ b ∧ b < lo + n then g (b - lo) else σ.2 a b) = σ.2 a b
  rw [if_neg (by omega)]
theorem wL_out (h : b < lo ∨ lo + n ≤ b) : (wL σ k lo n g).2 a b = σ.2 a b := by
  show (if a = k ∧ lo ≤ b ∧ b < lo + n then g (b - lo) else σ.2 a b) = σ.2 a b
  rw [if_neg (by omega)]
theorem wL_at (h : b < n) : (wL σ k lo n g).2 k (lo + b) = g b := by
  show (if k = k ∧ lo ≤ lo + b ∧ lo + b < lo + n then g (lo + b - lo) else σ.2 k (lo + b)) = g b
  rw [if_pos (by omega), Nat.add_sub_cancel_left]
theorem wL_at0 (h : b < n) : (wL σ k 0 n g).2 k b = g b := by
  have := wL_at (σ := σ) (k := k) (lo := 0) (g := g) h
  rw [Nat.zero_add] at this
  exact this
theorem wL_s {x : Int64} (h : x = g n) : pL (wL σ k lo n g) k (lo + n) x = wL σ k lo (n + 1) g := by
  subst h
  unfold wL pL
  apply Prod.ext
  · rfl
  · funext a b
    show (if a = k ∧ b = lo + n then g n else if a = k ∧ lo ≤ b ∧ b < lo + n then g (b - lo) else σ.2 a b) = if a = k ∧ lo ≤ b ∧ b < lo + (n + 1) then g (b - lo) else σ.2 a b
    by_cases h1 : a = k ∧ b = lo + n
    · rw [if_pos h1, if_pos (by omega), h1.2, Nat.add_sub_cancel_left]
    · rw [if_neg h1]
      by_cases h2 : a = k ∧ lo ≤ b ∧ b < lo + n
      · rw [if_pos h2, if_pos (by omega)]
      · rw [if_neg h2, if_neg (by omega)]
theorem wL_s0 {x : Int64} (h : x = g n) : pL (wL σ k 0 n g) k n x = wL σ k 0 (n + 1) g := by
  have := wL_s (σ := σ) (k := k) (lo := 0) h
  rw [Nat.zero_add] at this
  exact this
end WL
/-! ===== the contrary ===== -/
def cdg (c : Nat → Int64) (d : Int64) : Int64 := if 0 ≤ tot c - d then tot c - d + 1 else 0
theorem toI1 : (1 : Int64).toInt = 1 := by decide
theorem cdg_eq {c : Nat → Int64} {d : Int64} (hc : 0 ≤ (tot c).toInt) (hd : 0 ≤ d.toInt) (h : 1 ≤ d.toInt ∨ (tot c).toInt < 9223372036854775807) : (if 0 ≤ tot c - d + 1 then tot c - d + 1 else 0) = cdg c d := by
  have r1 := rngL (tot c)
  have r2 := rngL d
  have e1 : (tot c - d).toInt = (tot c).toInt - d.toInt := subL (by omega) (by omega)
  have e2 : (tot c - d + 1).toInt = (tot c).toInt - d.toInt + 1 := by rw [addL (by rw [e1, toI1]; omega) (by rw [e1, toI1]; omega), e1, toI1]
  unfold cdg
  by_cases q : 0 ≤ tot c - d
  · have q2 := (leL _ _).mp q
    rw [e1, toI0] at q2
    rw [if_pos q, if_pos ((leL _ _).mpr (by rw [e2, toI0]; omega))]
  · have q2 : ¬ (0 : Int) ≤ (tot c).toInt - d.toInt := fun z => q ((leL _ _).mpr (by rw [e1, toI0]; exact z))
    rw [if_neg q]
    by_cases q3 : 0 ≤ tot c - d + 1
    · rw [if_pos q3]
      have q4 := (leL _ _).mp q3
      rw [e2, toI0] at q4
      rw [eqL, e2, toI0]
      omega
    · rw [if_neg q3]
theorem l_X3_becomeContrary (k k1 : Nat) (σ : Sto) (h1 : k1 + 1 < k ∨ k + 1 < k1) (n : Nat) (j : Nat) : ∀ i, i + j = 8 → l_X3_becomeContrary_2 k k1 (n + 1 + j) (nI i) (wL σ (k + 1) 0 i (fun v => -(σ.2 (k1 + 1) v))) = some (pL (wL σ (k + 1) 0 8 (fun v => -(σ.2 (k1 + 1) v))) k 2 (cdg (σ.2 (k1 + 1)) (σ.2 k1 2))) := by
  induction j with
  | zero =>
    intro i hi
    have e : i = 8 := by omega
    subst e
    have e1 : tot ((wL σ (k + 1) 0 8 (fun v => -(σ.2 (k1 + 1) v))).2 (k1 + 1)) = tot (σ.2 (k1 + 1)) := tot_cong (fun v hv => wL_k (by omega))
    have e2 : (wL σ (k + 1) 0 8 (fun v => -(σ.2 (k1 + 1) v))).2 k1 2 = σ.2 k1 2 := wL_k (by omega)
    show b_X3_becomeContrary_2 _ k k1 (nI 8) (wL σ (k + 1) 0 8 (fun v => -(σ.2 (k1 + 1) v))) = _
    by_cases q : 0 ≤ tot (σ.2 (k1 + 1)) - σ.2 k1 2 <;> simp (disch := omega) only [b_X3_becomeContrary_2, b_X3_becomeContrary_51, lit, pLeT, pLeF, pLtT, pLtF, pEqT, pEqF, nLeF, nLtF, nI_clamp, or_self, or_false, false_or, not_true_eq_false, not_false_eq_true, ↓reduceIte, nmS_eq, bd1_eq, bd2_eq, nI_add, pEqS, pk_mul, Nat.reduceAdd, Bool.false_eq_true, or_true, true_or, e_X3_total, e1, e2, q, cdg]
  | succ j ih0 =>
    intro i hi
    have ih := ih0 (i + 1) (by omega)
    show b_X3_becomeContrary_2 (l_X3_becomeContrary_2 k k1 (n + 1 + j)) k k1 (nI i) (wL σ (k + 1) 0 i (fun v => -(σ.2 (k1 + 1) v))) = _
    have e2 : (wL σ (k + 1) 0 i (fun v => -(σ.2 (k1 + 1) v))).2 (k1 + 1) i = σ.2 (k1 + 1) i := wL_k (by omega)
    have e3 := wL_s0 (σ := σ) (k := k + 1) (n := i) (g := fun v => -(σ.2 (k1 + 1) v)) rfl
    simp (disch := omega) only [b_X3_becomeContrary_2, lit, pLeT, pLeF, pLtT, pLtF, pEqT, pEqF, nLeF, nLtF, nI_clamp, or_self, or_false, false_or, not_true_eq_false, not_false_eq_true, ↓reduceIte, nmS_eq, bd1_eq, bd2_eq, nI_add, pEqS, pk_mul, Nat.reduceAdd, Bool.false_eq_true, or_true, true_or, e2, e3, ih]
theorem e_X3_becomeContrary (k k1 : Nat) (σ : Sto) (h1 : k1 + 1 < k ∨ k + 1 < k1) : f_X3_becomeContrary k k1 σ = some (pL (wL σ (k + 1) 0 8 (fun v => -(σ.2 (k1 + 1) v))) k 2 (cdg (σ.2 (k1 + 1)) (σ.2 k1 2))) := by
  have h := l_X3_becomeContrary k k1 σ h1 391 8 0 (by omega)
  rw [wL_0] at h
  exact h
theorem l_X8_turns (w N p k1 : Nat) (τ : Sto) (hw : w < k1 ∨ k1 < w) (hN : p + 10 ≤ N) (hN2 : N < 2147483648) (n : Nat) (j : Nat) : ∀ i, i + j = 8 → l_X8_turns_31 w N k1 10 (n + 1 + j) (nI p) (nI i) (wL τ k1 2 i (fun v => -(τ.2 w (p + 2 + v)))) = some (wL τ k1 2 8 (fun v => -(τ.2 w (p + 2 + v)))) := by
  induction j with
  | zero =>
    intro i hi
    have e : i = 8 := by omega
    subst e
    show b_X8_turns_31 _ w N k1 10 (nI p) (nI 8) _ = _
    simp (disch := omega) only [b_X8_turns_31, lit, pLeT, pLeF, pLtT, pLtF, pEqT, pEqF, nLeF, nLtF, nI_clamp, or_self, or_false, false_or, not_true_eq_false, not_false_eq_true, ↓reduceIte, nmS_eq, bd1_eq, bd2_eq, nI_add, pEqS, pk_mul, Nat.reduceAdd, Bool.false_eq_true, or_true, true_or]
  | succ j ih0 =>
    intro i hi
    have ih := ih0 (i + 1) (by omega)
    show b_X8_turns_31 (l_X8_turns_31 w N k1 10 (n + 1 + j)) w N k1 10 (nI p) (nI i) (wL τ k1 2 i (fun v => -(τ.2 w (p + 2 + v)))) = _
    have e2 : (wL τ k1 2 i (fun v => -(τ.2 w (p + 2 + v)))).2 w (p + 2 + i) = τ.2 w (p + 2 + i) := wL_k (by omega)
    have e3 := wL_s (σ := τ) (k := k1) (lo := 2) (n := i) (g := fun v => -(τ.2 w (p + 2 + v))) rfl
    simp (disch := omega) only [b_X8_turns_31, lit, pLeT, pLeF, pLtT, pLtF, pEqT, pEqF, nLeF, nLtF, nI_clamp, or_self, or_false, false_or, not_true_eq_false, not_false_eq_true, ↓reduceIte, nmS_eq, bd1_eq, bd2_eq, nI_add, pEqS, pk_mul, Nat.reduceAdd, Bool.false_eq_true, or_true, true_or, e2, e3, ih]
theorem e_X8_turns (w N p k1 : Nat) (τ : Sto) (hw : w < k1 ∨ k1 < w) (hN : p + 10 ≤ N) (hN2 : N < 2147483648) (hc : okC (fun v => τ.2 w (p + 2 + v))) (ht : 0 ≤ (tot (fun v => τ.2 w (p + 2 + v))).toInt) (hd : 0 ≤ (τ.2 w (p + 1)).toInt) (h : 1 ≤ (τ.2 w (p + 1)).toInt ∨ (tot (fun v => τ.2 w (p + 2 + v))).toInt < 9223372036854775807) :
    f_X8_turns w N (nI p) k1 10 τ = some (wL (pL τ k1 1 (cdg (fun v => τ.2 w (p + 2 + v)) (τ.2 w (p + 1)))) k1 2 8 (fun v => -(τ.2 w (p + 2 + v)))) := by
  have e0 := cdg_eq ht hd h
  have e1 : ∀ x v, (pL τ k1 1 x).2 w (p + 2 + v) = τ.2 w (p + 2 + v) := fun x v => pL_nk (by omega)
  have e2 : ∀ x, l_X8_turns_31 w N k1 10 400 (nI p) (nI 0) (pL τ k1 1 x) = some (wL (pL τ k1 1 x) k1 2 8 (fun v => -(τ.2 w (p + 2 + v)))) := by
    intro x
    have e3 := l_X8_turns w N p k1 (pL τ k1 1 x) hw hN hN2 391 8 0 (by omega)
    rw [wL_0] at e3
    simp only [e1] at e3
    exact e3
  unfold f_X8_turns fr_X8_turns
  by_cases q : 0 ≤ tot (fun v => τ.2 w (p + 2 + v)) - τ.2 w (p + 1) + 1
  · rw [if_pos q] at e0
    rw [← e0]
    simp (disch := omega) only [b_X8_turns_27, lit, pLeT, pLeF, pLtT, pLtF, pEqT, pEqF, nLeF, nLtF, nI_clamp, or_self, or_false, false_or, not_true_eq_false, not_false_eq_true, ↓reduceIte, nmS_eq, bd1_eq, bd2_eq, nI_add, pEqS, pk_mul, Nat.reduceAdd, Bool.false_eq_true, or_true, true_or, e_X8_sumOf w N p τ hN hN2 hc, q, e2]
  · rw [if_neg q] at e0
    rw [← e0]
    simp (disch := omega) only [b_X8_turns_27, lit, pLeT, pLeF, pLtT, pLtF, pEqT, pEqF, nLeF, nLtF, nI_clamp, or_self, or_false, false_or, not_true_eq_false, not_false_eq_true, ↓reduceIte, nmS_eq, bd1_eq, bd2_eq, nI_add, pEqS, pk_mul, Nat.reduceAdd, Bool.false_eq_true, or_true, true_or, e_X8_sumOf w N p τ hN hN2 hc, q, e2]
/-! ===== conflicts alike ===== -/
theorem RU.conf {u lv : Nat} {σ τ : Sto} (h : RU u lv σ τ) (m but : Int32) (hm : ∀ a, a < 30 → bt m a = memM lv but a) (k0 k1 : Nat) (za zc : Bool) (c0 : ∀ v, v < 8 → σ.2 (k0 + 1) v = fl2 za (fun v => τ.2 13 (0 + 2 + v)) v) (d0 : σ.2 k0 2 = fd2 za (τ.2 13 (0 + 1))) (c1 : ∀ v, v < 8 → σ.2 (k1 + 1) v = fl2 zc (fun v => τ.2 14 (0 + 2 + v)) v) (d1 : σ.2 k1 2 = fd2 zc (τ.2 14 (0 + 1))) (q5 : σ.1 227 5 = τ.1 0 24) (q6 : σ.1 227 6 = τ.1 0 25) :
    ∃ (z : Bool) (q q' : Int32 × Int32), f_X4_drives m k0 k1 σ = some (if z then nI 1 else nI 0, setX σ q) ∧ f_X8_isConflict but (if za then nI 1 else nI 0) (if zc then nI 1 else nI 0) τ = some (if z then nI 1 else nI 0, setM τ q') ∧ (z = false → q = q') := by
  have hu := h.bk.hu
  have h30 := pw30 h.bk.hl hu
  have e : rnd (memM lv but) (clM τ) (dgM τ) 30 (fl2 za (fun v => τ.2 13 (0 + 2 + v))) (fd2 za (τ.2 13 (0 + 1))) (fl2 zc (fun v => τ.2 14 (0 + 2 + v))) (fd2 zc (τ.2 14 (0 + 1))) = rnd (memX m) (clX σ) (dgX σ) u (σ.2 (k0 + 1)) (σ.2 k0 2) (σ.2 (k1 + 1)) (σ.2 k1 2) := by
    funext q
    have e1 : rdA (memM lv but) (clM τ) (dgM τ) 30 0 q = rdA (memX m) (clX σ) (dgX σ) u 0 q := by
      have e2 := rdA_app (mem := memM lv but) (C := clM τ) (D := dgM τ) (30 - u) u 0 q
      rw [show u + (30 - u) = 30 by omega] at e2
      rw [e2]
      have e3 : ∀ q1, rdA (memM lv but) (clM τ) (dgM τ) (30 - u) (0 + u) q1 = some q1 := fun q1 => rdA_skip (30 - u) (0 + u) q1 (fun a ha _ => by unfold memM; rw [tb_of h.bk.hl (by omega)]; rfl)
      have e4 : rdA (memM lv but) (clM τ) (dgM τ) u 0 q = rdA (memX m) (clX σ) (dgX σ) u 0 q := by
        apply rdA_cong
        intro a _ ha
        refine ⟨(hm a (by omega)).symm, fun _ => ⟨h.dgm (by omega), fun v hv => h.cfm (by omega) hv⟩⟩
      rw [e4]
      cases rdA (memX m) (clX σ) (dgX σ) u 0 q with
      | none => rfl
      | some q1 => exact e3 q1
    have f0 : ∀ q1, fc (fl2 za (fun v => τ.2 13 (0 + 2 + v))) (fd2 za (τ.2 13 (0 + 1))) q1 = fc (σ.2 (k0 + 1)) (σ.2 k0 2) q1 := by
      intro q1
      rw [d0]
      exact fc_cong _ q1 (fun v hv => (c0 v hv).symm)
    have f1 : ∀ q1, fc (fl2 zc (fun v => τ.2 14 (0 + 2 + v))) (fd2 zc (τ.2 14 (0 + 1))) q1 = fc (σ.2 (k1 + 1)) (σ.2 k1 2) q1 := by
      intro q1
      rw [d1]
      exact fc_cong _ q1 (fun v hv => (c1 v hv).symm)
    unfold rnd
    simp only [e1, f0, f1]
  have hX := e_X4_drives k0 k1 m u hu σ h.us
  have hM := e_X8_isConflict but za zc lv h30 τ h.bk.wl
  rw [e, ← q5, ← q6] at hM
  revert hX hM
  unfold Out
  cases itr (rnd (memX m) (clX σ) (dgX σ) u (σ.2 (k0 + 1)) (σ.2 k0 2) (σ.2 (k1 + 1)) (σ.2 k1 2)) 9 (σ.1 227 5, σ.1 227 6) with
  | none =>
    intro ⟨q, hq⟩ ⟨q', hq'⟩
    exact ⟨true, q, q', hq, hq', fun z => by cases z⟩
  | some q =>
    intro hX hM
    exact ⟨false, q, q, hX, hM, fun _ => rfl⟩
/-! ===== what follows ===== -/
abbrev FrX (σ σ' : Sto) : Prop := (∀ c j, c ≠ 227 → σ'.1 c j = σ.1 c j) ∧ (∀ c j, c ≠ 230 → c ≠ 231 → σ'.2 c j = σ.2 c j)
theorem FrX.i {σ σ' : Sto} (h : FrX σ σ') : ∀ c j, c ≠ 227 → σ'.1 c j = σ.1 c j := h.1
theorem FrX.l {σ σ' : Sto} (h : FrX σ σ') : ∀ c j, c ≠ 230 → c ≠ 231 → σ'.2 c j = σ.2 c j := h.2
abbrev FrM (τ τ' : Sto) : Prop := (∀ c j, ¬ (c = 0 ∧ (j = 24 ∨ j = 25)) → τ'.1 c j = τ.1 c j) ∧ (∀ c j, c ≠ 14 → τ'.2 c j = τ.2 c j)
theorem FrM.i {τ τ' : Sto} (h : FrM τ τ') : ∀ c j, ¬ (c = 0 ∧ (j = 24 ∨ j = 25)) → τ'.1 c j = τ.1 c j := h.1
theorem FrM.l {τ τ' : Sto} (h : FrM τ τ') : ∀ c j, c ≠ 14 → τ'.2 c j = τ.2 c j := h.2
theorem FrX.ag {u : Nat} {σ σ' : Sto} (h : FrX σ σ') : AgX u σ σ' := ⟨fun c j q => h.i c j (by omega), fun c j q => h.l c j (by omega) (by omega)⟩
theorem FrM.ag {τ τ' : Sto} (h : FrM τ τ') : AgM τ τ' := ⟨fun c j q => h.i c j (by omega), fun c j q => h.l c j (by omega)⟩
theorem setX_fr (σ : Sto) (q : Int32 × Int32) : FrX σ (setX σ q) := ⟨fun c j h => setX_k σ q (by omega), fun c j _ _ => by rw [setX_2]⟩
theorem setM_k (τ : Sto) (q : Int32 × Int32) {c j : Nat} (h : ¬ (c = 0 ∧ (j = 24 ∨ j = 25))) : (setM τ q).1 c j = τ.1 c j := by
  unfold setM pI
  show (if c = 0 ∧ j = 25 then q.2 else if c = 0 ∧ j = 24 then q.1 else τ.1 c j) = τ.1 c j
  rw [if_neg (by omega), if_neg (by omega)]
theorem setM_fr (τ : Sto) (q : Int32 × Int32) : FrM τ (setM τ q) := ⟨fun c j h => setM_k τ q h, fun c j _ => by rw [setM_2]⟩
theorem FrX.trans {σ σ1 σ2 : Sto} (h : FrX σ σ1) (h2 : FrX σ1 σ2) : FrX σ σ2 := ⟨fun c j q => (h2.i c j q).trans (h.i c j q), fun c j q r => (h2.l c j q r).trans (h.l c j q r)⟩
theorem FrM.trans {σ σ1 σ2 : Sto} (h : FrM σ σ1) (h2 : FrM σ1 σ2) : FrM σ σ2 := ⟨fun c j q => (h2.i c j q).trans (h.i c j q), fun c j q => (h2.l c j q).trans (h.l c j q)⟩
theorem FrX.rfl {σ : Sto} : FrX σ σ := ⟨fun _ _ _ => Eq.refl _, fun _ _ _ _ => Eq.refl _⟩
theorem FrM.rfl {σ : Sto} : FrM σ σ := ⟨fun _ _ _ => Eq.refl _, fun _ _ _ => Eq.refl _⟩
theorem fl2_t (c : Nat → Int64) (v : Nat) : fl2 true c v = c v := rfl
theorem fd2_t (d : Int64) : fd2 true d = d := rfl
theorem fl2_f (c : Nat → Int64) (v : Nat) : fl2 false c v = 0 := rfl
theorem fd2_f (d : Int64) : fd2 false d = 0 := rfl
theorem RU.follow {u lv : Nat} {σ τ : Sto} (h : RU u lv σ τ) (k w N p k1 : Nat) (m but : Int32) (za : Bool) (hm : ∀ a, a < 30 → bt m a = memM lv but a) (hk : k + 1 < 230 ∨ 231 < k) (hk1 : k1 = 228 ∨ k1 = 232) (hw : w ≠ 14) (hN : p + 10 ≤ N) (hN2 : N < 2147483648)
    (hc : ∀ v, v < 8 → ok (σ.2 (k + 1) v) ∧ τ.2 w (p + 2 + v) = σ.2 (k + 1) v) (hd : τ.2 w (p + 1) = σ.2 k 2) (dn : 0 ≤ (σ.2 k 2).toInt) (tt : 0 ≤ tot (σ.2 (k + 1))) (c0 : ∀ v, v < 8 → σ.2 (k1 + 1) v = fl2 za (fun v => τ.2 13 (0 + 2 + v)) v) (d0 : σ.2 k1 2 = fd2 za (τ.2 13 (0 + 1))) :
    ∃ (z : Bool) (σ' τ' : Sto), f_X4_followsFrom k m k1 σ = some (if z then nI 1 else nI 0, σ') ∧ f_X8_isFollowing w N (nI p) but (if za then nI 1 else nI 0) τ = some (if z then nI 1 else nI 0, τ') ∧ FrX σ σ' ∧ FrM τ τ' := by
  by_cases q : σ.2 k 2 = 0
  · have q2 : τ.2 w (p + 1) = 0 := by rw [hd, q]
    refine ⟨true, σ, τ, ?_, ?_, FrX.rfl, FrM.rfl⟩
    · simp (disch := omega) only [f_X4_followsFrom, fr_X4_followsFrom, lit, pLeT, pLeF, pLtT, pLtF, pEqT, pEqF, nLeF, nLtF, nI_clamp, or_self, or_false, false_or, not_true_eq_false, not_false_eq_true, ↓reduceIte, nmS_eq, bd1_eq, bd2_eq, nI_add, pEqS, pk_mul, Nat.reduceAdd, Bool.false_eq_true, or_true, true_or, q]
    · simp (disch := omega) only [f_X8_isFollowing, lit, pLeT, pLeF, pLtT, pLtF, pEqT, pEqF, nLeF, nLtF, nI_clamp, or_self, or_false, false_or, not_true_eq_false, not_false_eq_true, ↓reduceIte, nmS_eq, bd1_eq, bd2_eq, nI_add, pEqS, pk_mul, Nat.reduceAdd, Bool.false_eq_true, or_true, true_or, q2]
  · have q2 : ¬ τ.2 w (p + 1) = 0 := by rw [hd]; exact q
    have hX := e_X3_becomeContrary 230 k σ (by omega)
    have tc : tot (fun v => τ.2 w (p + 2 + v)) = tot (σ.2 (k + 1)) := tot_cong (fun v hv => (hc v hv).2)
    have d1 : 1 ≤ (σ.2 k 2).toInt := by
      have : (σ.2 k 2).toInt ≠ 0 := fun z => q ((eqL _ _).mpr (by rw [z]; rfl))
      omega
    have tt2 := (leL _ _).mp tt
    rw [toI0] at tt2
    have hM := e_X8_turns w N p 14 τ (by omega) hN hN2 (fun v hv => by show ok (τ.2 w (p + 2 + v)); rw [(hc v hv).2]; exact (hc v hv).1) (by rw [tc]; exact tt2) (by rw [hd]; exact dn) (Or.inl (by rw [hd]; exact d1))
    have ec : cdg (fun v => τ.2 w (p + 2 + v)) (τ.2 w (p + 1)) = cdg (σ.2 (k + 1)) (σ.2 k 2) := by unfold cdg; rw [tc, hd]
    rw [ec] at hM
    generalize hcd : cdg (σ.2 (k + 1)) (σ.2 k 2) = cd at hX hM
    generalize hs1 : pL (wL σ (230 + 1) 0 8 (fun v => -(σ.2 (k + 1) v))) 230 2 cd = σ1 at hX
    generalize ht1 : wL (pL τ 14 1 cd) 14 2 8 (fun v => -(τ.2 w (p + 2 + v))) = τ1 at hM
    have fX : FrX σ σ1 := by
      rw [← hs1]
      refine ⟨fun c j _ => by rw [pL_1, wL_1], fun c j n1 n2 => ?_⟩
      rw [pL_nk (by omega), wL_k (by omega)]
    have fM : FrM τ τ1 := by
      rw [← ht1]
      refine ⟨fun c j _ => by rw [wL_1, pL_1], fun c j n1 => ?_⟩
      rw [wL_k (by omega), pL_nk (by omega)]
    have fX2 := fX.trans (setX_fr σ1 (nI 0, nI 0))
    have fM2 := fM.trans (setM_fr τ1 (nI 0, nI 0))
    have h2 := h.ag (fX2.ag (u := u)) fM2.ag
    have a1 : ∀ v, v < 8 → (setX σ1 (nI 0, nI 0)).2 231 v = fl2 true (fun v => (setM τ1 (nI 0, nI 0)).2 14 (0 + 2 + v)) v := by
      intro v hv
      rw [fl2_t, setX_2, setM_2, ← hs1, ← ht1, pL_nk (by omega), wL_at0 hv, show 0 + 2 + v = 2 + v by omega, wL_at hv, (hc v hv).2]
    have a2 : (setX σ1 (nI 0, nI 0)).2 230 2 = fd2 true ((setM τ1 (nI 0, nI 0)).2 14 (0 + 1)) := by
      rw [fd2_t, setX_2, setM_2, ← hs1, ← ht1, pL_at, wL_out (by omega), Nat.zero_add, pL_at]
    have b1 : ∀ v, v < 8 → (setX σ1 (nI 0, nI 0)).2 (k1 + 1) v = fl2 za (fun v => (setM τ1 (nI 0, nI 0)).2 13 (0 + 2 + v)) v := by
      intro v hv
      rw [fX2.l _ _ (by omega) (by omega), c0 v hv]
      cases za
      · rw [fl2_f, fl2_f]
      · rw [fl2_t, fl2_t, fM2.l _ _ (by omega)]
    have b2 : (setX σ1 (nI 0, nI 0)).2 k1 2 = fd2 za ((setM τ1 (nI 0, nI 0)).2 13 (0 + 1)) := by
      rw [fX2.l _ _ (by omega) (by omega), d0, fM2.l _ _ (by omega)]
    obtain ⟨z, y, y', g1, g2, -⟩ := h2.conf m but hm k1 230 za true b1 b2 a1 a2 (by rw [setX_at5, setM_at4]) (by rw [setX_at6, setM_at5])
    have g2 : f_X8_isConflict but (if za then nI 1 else nI 0) (nI 1) (setM τ1 (nI 0, nI 0)) = some (if z then nI 1 else nI 0, setM (setM τ1 (nI 0, nI 0)) y') := g2
    have s1 : pI (pI σ1 227 5 (nI 0)) 227 6 (nI 0) = setX σ1 (nI 0, nI 0) := rfl
    have s2 : pI (pI τ1 0 24 (nI 0)) 0 25 (nI 0) = setM τ1 (nI 0, nI 0) := rfl
    refine ⟨z, _, _, ?_, ?_, fX2.trans (setX_fr _ y), fM2.trans (setM_fr _ y')⟩
    · cases z <;> simp (disch := omega) only [f_X4_followsFrom, fr_X4_followsFrom, lit, pLeT, pLeF, pLtT, pLtF, pEqT, pEqF, nLeF, nLtF, nI_clamp, or_self, or_false, false_or, not_true_eq_false, not_false_eq_true, ↓reduceIte, nmS_eq, bd1_eq, bd2_eq, nI_add, pEqS, pk_mul, Nat.reduceAdd, Bool.false_eq_true, or_true, true_or, q, hX, s1, g1]
    · cases z <;> simp (disch := omega) only [f_X8_isFollowing, lit, pLeT, pLeF, pLtT, pLtF, pEqT, pEqF, nLeF, nLtF, nI_clamp, or_self, or_false, false_or, not_true_eq_false, not_false_eq_true, ↓reduceIte, nmS_eq, bd1_eq, bd2_eq, nI_add, pEqS, pk_mul, Nat.reduceAdd, Bool.false_eq_true, or_true, true_or, q2, hM, s2, g2]
