/-! ===== a witness put: sums of plain ones, of contraries ===== -/
def mnI (a b : Int) : Int := if a ≤ b then a else b
theorem mnI_s (a b : Int) : (mnI a b = a ∧ a ≤ b) ∨ (mnI a b = b ∧ b ≤ a) := by
  unfold mnI
  split <;> omega
def mxI (a : Int) : Int := if 0 ≤ a then a else 0
theorem mxI_s (a : Int) : (mxI a = a ∧ 0 ≤ a) ∨ (mxI a = 0 ∧ a ≤ 0) := by
  unfold mxI
  split <;> omega
def smI (f : Nat → Int) : Nat → Nat → Int
  | 0, _ => 0
  | j + 1, i => f i + smI f j (i + 1)
theorem smI_cong {f g : Nat → Int} (j : Nat) : ∀ i, (∀ v, i ≤ v → v < i + j → f v = g v) → smI f j i = smI g j i := by
  induction j with
  | zero => intros; rfl
  | succ j ih =>
    intro i h
    unfold smI
    rw [h i (Nat.le_refl _) (by omega), ih (i + 1) (fun v h1 h2 => h v (by omega) (by omega))]
theorem smI_le {f g : Nat → Int} (j : Nat) : ∀ i, (∀ v, i ≤ v → v < i + j → f v ≤ g v) → smI f j i ≤ smI g j i := by
  induction j with
  | zero => intros; exact Int.le_refl _
  | succ j ih =>
    intro i h
    have h1 := h i (Nat.le_refl _) (by omega)
    have h2 := ih (i + 1) (fun v h1 h2 => h v (by omega) (by omega))
    unfold smI
    omega
theorem smI_nn {f : Nat → Int} (j : Nat) : ∀ i, (∀ v, i ≤ v → v < i + j → 0 ≤ f v) → 0 ≤ smI f j i := by
  induction j with
  | zero => intros; exact Int.le_refl _
  | succ j ih =>
    intro i h
    have h1 := h i (Nat.le_refl _) (by omega)
    have h2 := ih (i + 1) (fun v h1 h2 => h v (by omega) (by omega))
    unfold smI
    omega
theorem smI_upd {f g : Nat → Int} {x : Nat} {e : Int} (hx : g x = f x + e) (ho : ∀ v, v ≠ x → g v = f v) (j : Nat) : ∀ i, i ≤ x → x < i + j → smI g j i = smI f j i + e := by
  induction j with
  | zero => intro i h1 h2; omega
  | succ j ih =>
    intro i h1 h2
    unfold smI
    by_cases q : i = x
    · subst q
      rw [hx, smI_cong (f := g) (g := f) j (i + 1) (fun v a b => ho v (by omega))]
      omega
    · rw [ho i q, ih (i + 1) (by omega) (by omega)]
      omega
theorem smI_one {f : Nat → Int} {x : Nat} (j : Nat) : ∀ i, i ≤ x → x < i + j → (∀ v, i ≤ v → v < i + j → 0 ≤ f v) → f x ≤ smI f j i := by
  induction j with
  | zero => intro i h1 h2; omega
  | succ j ih =>
    intro i h1 h2 h3
    have h4 := smI_nn j (i + 1) (fun v a b => h3 v (by omega) (by omega))
    have h5 := h3 i (Nat.le_refl _) (by omega)
    unfold smI
    by_cases q : i = x
    · subst q
      omega
    · have := ih (i + 1) (by omega) (by omega) (fun v a b => h3 v (by omega) (by omega))
      omega
theorem mmin_int (x y : Int64) : (mmin x y).toInt = mnI x.toInt y.toInt := by
  unfold mmin
  have := mnI_s x.toInt y.toInt
  by_cases q : y < x
  · rw [if_pos q]
    rw [ltL] at q
    omega
  · rw [if_neg q]
    rw [ltL] at q
    omega
theorem mx0_int {d m : Int64} (hd : 0 ≤ d.toInt) (hm : 0 ≤ m.toInt) : (mmax 0 (d - m)).toInt = mxI (d.toInt - m.toInt) := by
  have := rngL d
  have := rngL m
  have e : (d - m).toInt = d.toInt - m.toInt := subL (by omega) (by omega)
  have := mxI_s (d.toInt - m.toInt)
  rw [mx0 hd hm]
  by_cases q : m ≤ d
  · rw [if_pos q, e]
    rw [leL] at q
    omega
  · rw [if_neg q, toI0]
    rw [leL] at q
    omega
theorem jn_pos {c y d : Int64} {P N a : Int} (hc : c.toInt = P - N) (hy : y.toInt = a) (hP : 0 ≤ P) (hN : 0 ≤ N) (ha : 0 ≤ a) (hm : P + N + a ≤ 9223372036854775807) (hd : 0 ≤ d.toInt) : jnB c y = true ∧ (c + y).toInt = P + a - N ∧ (jnD d c y).toInt = mxI (d.toInt - (mnI (P + a) N - mnI P N)) := by
  have okc : ok c := by
    show c.toInt ≠ _
    omega
  have oky : ok y := by
    show y.toInt ≠ _
    omega
  have mc := mabs_int okc
  have my := mabs_int oky
  have nc := mabs_nn okc
  have ny := mabs_nn oky
  have s1 := mnI_s (P + a) N
  have s2 := mnI_s P N
  have hB : jnB c y = true := by
    unfold jnB
    cases ho : opp c y
    · rw [Bool.false_or]
      apply decide_eq_true
      rw [le_room ny.1, mc, my]
      have ho2 := of_decide_eq_false ho
      rw [ltL, ltL, ltL, ltL, toI0] at ho2
      split <;> split <;> omega
    · rfl
  have hs := jnB_ok okc oky hB
  refine ⟨hB, by rw [hs.1, hc, hy]; omega, ?_⟩
  unfold jnD
  cases ho : opp c y
  · have ho2 := of_decide_eq_false ho
    rw [ltL, ltL, ltL, ltL, toI0] at ho2
    rw [if_neg (by decide)]
    have := mxI_s (d.toInt - (mnI (P + a) N - mnI P N))
    omega
  · have ho2 := of_decide_eq_true ho
    rw [ltL, ltL, ltL, ltL, toI0] at ho2
    rw [if_pos rfl, mx0_int hd (mmin_nn nc.1 ny.1), mmin_int]
    congr 2
    have s3 := mnI_s (mabs c).toInt (mabs y).toInt
    rw [mc, my] at s3 ⊢
    rw [if_neg (by omega), if_pos (by omega)] at s3 ⊢
    omega
theorem jn_neg {c y d : Int64} {P N a : Int} (hc : c.toInt = P - N) (hy : y.toInt = -a) (hP : 0 ≤ P) (hN : 0 ≤ N) (ha : 0 ≤ a) (hm : P + N + a ≤ 9223372036854775807) (hd : 0 ≤ d.toInt) : jnB c y = true ∧ (c + y).toInt = P - (N + a) ∧ (jnD d c y).toInt = mxI (d.toInt - (mnI P (N + a) - mnI P N)) := by
  have okc : ok c := by
    show c.toInt ≠ _
    omega
  have oky : ok y := by
    show y.toInt ≠ _
    omega
  have mc := mabs_int okc
  have my := mabs_int oky
  have nc := mabs_nn okc
  have ny := mabs_nn oky
  have s1 := mnI_s P (N + a)
  have s2 := mnI_s P N
  have hB : jnB c y = true := by
    unfold jnB
    cases ho : opp c y
    · rw [Bool.false_or]
      apply decide_eq_true
      rw [le_room ny.1, mc, my]
      have ho2 := of_decide_eq_false ho
      rw [ltL, ltL, ltL, ltL, toI0] at ho2
      split <;> split <;> omega
    · rfl
  have hs := jnB_ok okc oky hB
  refine ⟨hB, by rw [hs.1, hc, hy]; omega, ?_⟩
  unfold jnD
  cases ho : opp c y
  · have ho2 := of_decide_eq_false ho
    rw [ltL, ltL, ltL, ltL, toI0] at ho2
    rw [if_neg (by decide)]
    have := mxI_s (d.toInt - (mnI P (N + a) - mnI P N))
    omega
  · have ho2 := of_decide_eq_true ho
    rw [ltL, ltL, ltL, ltL, toI0] at ho2
    rw [if_pos rfl, mx0_int hd (mmin_nn nc.1 ny.1), mmin_int]
    congr 2
    have s3 := mnI_s (mabs c).toInt (mabs y).toInt
    rw [mc, my] at s3 ⊢
    rw [if_pos (by omega), if_neg (by omega)] at s3 ⊢
    omega
/-! the two states: the component's clause, the model's sums -/
def up (P : Nat → Int) (x : Nat) (a : Int) : Nat → Int := fun v => if v = x then P v + a else P v
theorem up_at (P : Nat → Int) (x : Nat) (a : Int) : up P x a x = P x + a := by
  unfold up
  rw [if_pos rfl]
theorem up_no (P : Nat → Int) {x v : Nat} (a : Int) (h : v ≠ x) : up P x a v = P v := by
  unfold up
  rw [if_neg h]
abbrev Pt (k : Nat) (P N : Nat → Int) (K D : Int) (σ : Sto) : Prop := (∀ x, x < 8 → (σ.2 (k + 1) x).toInt = P x - N x) ∧ ((σ.2 k 2).toInt = mxI (D - (K + smI (fun x => mnI (P x) (N x)) 8 0)))
theorem Pt.c {k : Nat} {P N : Nat → Int} {K D : Int} {σ : Sto} (h : Pt k P N K D σ) : ∀ x, x < 8 → (σ.2 (k + 1) x).toInt = P x - N x := h.1
theorem Pt.d {k : Nat} {P N : Nat → Int} {K D : Int} {σ : Sto} (h : Pt k P N K D σ) : (σ.2 k 2).toInt = mxI (D - (K + smI (fun x => mnI (P x) (N x)) 8 0)) := h.2
abbrev Nn (P N : Nat → Int) (K S : Int) : Prop := (∀ x, x < 8 → 0 ≤ P x ∧ 0 ≤ N x) ∧ (0 ≤ K) ∧ (K + smI (fun x => P x + N x) 8 0 ≤ S)
theorem Nn.p {P N : Nat → Int} {K S : Int} (h : Nn P N K S) : ∀ x, x < 8 → 0 ≤ P x ∧ 0 ≤ N x := h.1
theorem Nn.k {P N : Nat → Int} {K S : Int} (h : Nn P N K S) : 0 ≤ K := h.2.1
theorem Nn.s {P N : Nat → Int} {K S : Int} (h : Nn P N K S) : K + smI (fun x => P x + N x) 8 0 ≤ S := h.2.2
theorem Nn.one {P N : Nat → Int} {K S : Int} (h : Nn P N K S) {x : Nat} (hx : x < 8) : P x + N x ≤ S := by
  have h1 := smI_one (f := fun x => P x + N x) (x := x) 8 0 (by omega) (by omega) (fun v _ hv => by have := h.p v (by omega); show 0 ≤ P v + N v; omega)
  have h2 := h.s
  have h3 := h.k
  have h1 : P x + N x ≤ smI (fun x => P x + N x) 8 0 := h1
  omega
theorem Nn.addK {P N : Nat → Int} {K S a : Int} (h : Nn P N K S) (ha : 0 ≤ a) : Nn P N (K + a) (S + a) := ⟨h.p, by have := h.k; omega, by have := h.s; omega⟩
theorem Nn.add0 {P N : Nat → Int} {K S a : Int} (h : Nn P N K S) (ha : 0 ≤ a) : Nn P N K (S + a) := ⟨h.p, h.k, by have := h.s; omega⟩
theorem Nn.addP {P N : Nat → Int} {K S a : Int} (h : Nn P N K S) (ha : 0 ≤ a) {x : Nat} (hx : x < 8) : Nn (up P x a) N K (S + a) := by
  refine ⟨fun v hv => ?_, h.k, ?_⟩
  · have := h.p v hv
    by_cases e : v = x
    · subst e
      rw [up_at]
      omega
    · rw [up_no _ _ e]
      omega
  · have e := smI_upd (f := fun x => P x + N x) (g := fun v => up P x a v + N v) (x := x) (e := a) (by show up P x a x + N x = P x + N x + a; rw [up_at]; omega) (fun v hv => by show up P x a v + N v = P v + N v; rw [up_no _ _ hv]) 8 0 (by omega) (by omega)
    rw [e]
    have := h.s
    omega
theorem Nn.addN {P N : Nat → Int} {K S a : Int} (h : Nn P N K S) (ha : 0 ≤ a) {x : Nat} (hx : x < 8) : Nn P (up N x a) K (S + a) := by
  refine ⟨fun v hv => ?_, h.k, ?_⟩
  · have := h.p v hv
    by_cases e : v = x
    · subst e
      rw [up_at]
      omega
    · rw [up_no _ _ e]
      omega
  · have e := smI_upd (f := fun x => P x + N x) (g := fun v => P v + up N x a v) (x := x) (e := a) (by show P x + up N x a x = P x + N x + a; rw [up_at]; omega) (fun v hv => by show P v + up N x a v = P v + N v; rw [up_no _ _ hv]) 8 0 (by omega) (by omega)
    rw [e]
    have := h.s
    omega
theorem Pt.dnn {k : Nat} {P N : Nat → Int} {K D : Int} {σ : Sto} (h : Pt k P N K D σ) : 0 ≤ (σ.2 k 2).toInt := by
  rw [h.d]
  have := mxI_s (D - (K + smI (fun x => mnI (P x) (N x)) 8 0))
  omega
theorem Pt.addK {k : Nat} {P N : Nat → Int} {K D a : Int} {σ : Sto} (h : Pt k P N K D σ) {y : Int64} (hy : y.toInt = a) (ha : 0 ≤ a) : Pt k P N (K + a) D (pL σ k 2 (mmax 0 (σ.2 k 2 - y))) := by
  refine ⟨fun x hx => by rw [pL_nk (by omega)]; exact h.c x hx, ?_⟩
  rw [pL_at, mx0_int h.dnn (by rw [hy]; exact ha), h.d, hy]
  have s1 := mxI_s (D - (K + smI (fun x => mnI (P x) (N x)) 8 0))
  have s2 := mxI_s (mxI (D - (K + smI (fun x => mnI (P x) (N x)) 8 0)) - a)
  have s3 := mxI_s (D - (K + a + smI (fun x => mnI (P x) (N x)) 8 0))
  omega
theorem Pt.addP {k : Nat} {P N : Nat → Int} {K D S a : Int} {σ : Sto} (h : Pt k P N K D σ) (hn : Nn P N K S) {y : Int64} (hy : y.toInt = a) (ha : 0 ≤ a) (hm : S + a ≤ 9223372036854775807) {x : Nat} (hx : x < 8) : ∃ σ', f_X3_joins k (nI x) y σ = some (nI 1, σ') ∧ Nx k σ σ' ∧ Pt k (up P x a) N K D σ' := by
  have h1 := hn.one hx
  have h2 := hn.p x hx
  obtain ⟨j1, j2, j3⟩ := jn_pos (c := σ.2 (k + 1) x) (y := y) (d := σ.2 k 2) (h.c x hx) hy h2.1 h2.2 ha (by omega) h.dnn
  have hj := e_X3_joins k hx y σ
  rw [if_pos j1] at hj
  refine ⟨_, hj, (Nx.p0 _ _).trans (Nx.p1 _ _), fun v hv => ?_, ?_⟩
  · by_cases e : v = x
    · subst e
      rw [pL_at, j2, up_at]
    · rw [pL_nj (by omega), pL_nk (by omega), up_no _ _ e]
      exact h.c v hv
  · rw [pL_nk (by omega), pL_at, j3, h.d]
    have e := smI_upd (f := fun v => mnI (P v) (N v)) (g := fun v => mnI (up P x a v) (N v)) (x := x) (e := mnI (P x + a) (N x) - mnI (P x) (N x)) (by show mnI (up P x a x) (N x) = _; rw [up_at]; omega) (fun v hv => by show mnI (up P x a v) (N v) = mnI (P v) (N v); rw [up_no _ _ hv]) 8 0 (by omega) (by omega)
    rw [e]
    have t1 := mnI_s (P x + a) (N x)
    have t2 := mnI_s (P x) (N x)
    generalize mnI (P x + a) (N x) = m1 at *
    generalize mnI (P x) (N x) = m2 at *
    generalize smI (fun v => mnI (P v) (N v)) 8 0 = T at *
    have s1 := mxI_s (D - (K + T))
    have s2 := mxI_s (mxI (D - (K + T)) - (m1 - m2))
    have s3 := mxI_s (D - (K + (T + (m1 - m2))))
    omega
theorem Pt.addN {k : Nat} {P N : Nat → Int} {K D S a : Int} {σ : Sto} (h : Pt k P N K D σ) (hn : Nn P N K S) {y : Int64} (hy : y.toInt = -a) (ha : 0 ≤ a) (hm : S + a ≤ 9223372036854775807) {x : Nat} (hx : x < 8) : ∃ σ', f_X3_joins k (nI x) y σ = some (nI 1, σ') ∧ Nx k σ σ' ∧ Pt k P (up N x a) K D σ' := by
  have h1 := hn.one hx
  have h2 := hn.p x hx
  obtain ⟨j1, j2, j3⟩ := jn_neg (c := σ.2 (k + 1) x) (y := y) (d := σ.2 k 2) (h.c x hx) hy h2.1 h2.2 ha (by omega) h.dnn
  have hj := e_X3_joins k hx y σ
  rw [if_pos j1] at hj
  refine ⟨_, hj, (Nx.p0 _ _).trans (Nx.p1 _ _), fun v hv => ?_, ?_⟩
  · by_cases e : v = x
    · subst e
      rw [pL_at, j2, up_at]
    · rw [pL_nj (by omega), pL_nk (by omega), up_no _ _ e]
      exact h.c v hv
  · rw [pL_nk (by omega), pL_at, j3, h.d]
    have e := smI_upd (f := fun v => mnI (P v) (N v)) (g := fun v => mnI (P v) (up N x a v)) (x := x) (e := mnI (P x) (N x + a) - mnI (P x) (N x)) (by show mnI (P x) (up N x a x) = _; rw [up_at]; omega) (fun v hv => by show mnI (P v) (up N x a v) = mnI (P v) (N v); rw [up_no _ _ hv]) 8 0 (by omega) (by omega)
    rw [e]
    have t1 := mnI_s (P x) (N x + a)
    have t2 := mnI_s (P x) (N x)
    generalize mnI (P x) (N x + a) = m1 at *
    generalize mnI (P x) (N x) = m2 at *
    generalize smI (fun v => mnI (P v) (N v)) 8 0 = T at *
    have s1 := mxI_s (D - (K + T))
    have s2 := mxI_s (mxI (D - (K + T)) - (m1 - m2))
    have s3 := mxI_s (D - (K + (T + (m1 - m2))))
    omega
/-! what a literal that is put does -/
def effP (e : Nat) (P : Nat → Int) (a : Int) : Nat → Int := if 2 ≤ e ∧ e < 10 then up P (e - 2) a else P
def effN (e : Nat) (N : Nat → Int) (a : Int) : Nat → Int := if 10 ≤ e then up N (e - 10) a else N
def effK (e : Nat) (K a : Int) : Int := if e = 1 then K + a else K
theorem eff_nn {P N : Nat → Int} {K S a : Int} (h : Nn P N K S) (ha : 0 ≤ a) {e : Nat} (he : e < 18) : Nn (effP e P a) (effN e N a) (effK e K a) (S + a) := by
  unfold effP effN effK
  by_cases q1 : e = 1
  · rw [if_neg (by omega), if_neg (by omega), if_pos q1]
    exact h.addK ha
  · rw [if_neg q1]
    by_cases q2 : 2 ≤ e ∧ e < 10
    · rw [if_pos q2, if_neg (by omega)]
      exact h.addP ha (by omega)
    · rw [if_neg q2]
      by_cases q3 : 10 ≤ e
      · rw [if_pos q3]
        exact h.addN ha (by omega)
      · rw [if_neg q3]
        exact h.add0 ha
theorem e_X3_joinsPut {k : Nat} {P N : Nat → Int} {K D S a : Int} {σ : Sto} (h : Pt k P N K D σ) (hn : Nn P N K S) {y : Int64} (hy : y.toInt = a) (ha : 0 ≤ a) (hm : S + a ≤ 9223372036854775807) {e : Nat} (he : e < 18) : ∃ σ', f_X3_joinsPut k (nI e) y σ = some σ' ∧ Nx k σ σ' ∧ Pt k (effP e P a) (effN e N a) (effK e K a) D σ' := by
  have hS := hn.s
  have hK := hn.k
  have hs0 := smI_nn (f := fun x => P x + N x) 8 0 (fun v _ hv => by have := hn.p v (by omega); show 0 ≤ P v + N v; omega)
  unfold effP effN effK
  by_cases q1 : e = 1
  · rw [if_neg (by omega), if_neg (by omega), if_pos q1]
    refine ⟨_, ?_, Nx.p0 2 (mmax 0 (σ.2 k 2 - y)), h.addK hy ha⟩
    simp (disch := omega) only [f_X3_joinsPut, b_X3_joinsPut_68, lit, pLeT, pLeF, pLtT, pLtF, pEqT, pEqF, nLeF, nLtF, nI_clamp, or_self, or_false, false_or, not_true_eq_false, not_false_eq_true, ↓reduceIte, nmS_eq, bd1_eq, bd2_eq, nI_add, pEqS, pk_mul, Nat.reduceAdd, Bool.false_eq_true, or_true, true_or, q1]
  · rw [if_neg q1]
    by_cases q2 : 2 ≤ e ∧ e < 10
    · rw [if_pos q2, if_neg (by omega)]
      obtain ⟨σ', j1, j2, j3⟩ := h.addP hn hy ha hm (x := e - 2) (by omega)
      refine ⟨σ', ?_, j2, j3⟩
      simp (disch := omega) only [f_X3_joinsPut, b_X3_joinsPut_48, b_X3_joinsPut_68, lit, pLeT, pLeF, pLtT, pLtF, pEqT, pEqF, nLeF, nLtF, nI_clamp, or_self, or_false, false_or, not_true_eq_false, not_false_eq_true, ↓reduceIte, nmS_eq, bd1_eq, bd2_eq, nI_add, pEqS, pk_mul, Nat.reduceAdd, Bool.false_eq_true, or_true, true_or, pk_sub, j1]
    · rw [if_neg q2]
      by_cases q3 : 10 ≤ e
      · rw [if_pos q3]
        have hy2 : (-y).toInt = -a := by rw [negL (by omega), hy]
        obtain ⟨σ', j1, j2, j3⟩ := h.addN hn hy2 ha hm (x := e - 10) (by omega)
        refine ⟨σ', ?_, j2, j3⟩
        simp (disch := omega) only [f_X3_joinsPut, b_X3_joinsPut_48, b_X3_joinsPut_68, lit, pLeT, pLeF, pLtT, pLtF, pEqT, pEqF, nLeF, nLtF, nI_clamp, or_self, or_false, false_or, not_true_eq_false, not_false_eq_true, ↓reduceIte, nmS_eq, bd1_eq, bd2_eq, nI_add, pEqS, pk_mul, Nat.reduceAdd, Bool.false_eq_true, or_true, true_or, pk_sub, j1]
      · rw [if_neg q3]
        refine ⟨σ, ?_, Nx.rfl, h⟩
        simp (disch := omega) only [f_X3_joinsPut, b_X3_joinsPut_48, b_X3_joinsPut_68, lit, pLeT, pLeF, pLtT, pLtF, pEqT, pEqF, nLeF, nLtF, nI_clamp, or_self, or_false, false_or, not_true_eq_false, not_false_eq_true, ↓reduceIte, nmS_eq, bd1_eq, bd2_eq, nI_add, pEqS, pk_mul, Nat.reduceAdd, Bool.false_eq_true, or_true, true_or]
def ctr (b : Nat) : Nat := if b < 2 then 1 - b else if b < 10 then b + 8 else b - 8
theorem ctr_lt {b : Nat} (h : b < 18) : ctr b < 18 := by
  unfold ctr
  split <;> (try split) <;> omega
theorem e_X3_contraryOf {b : Nat} (h : b < 18) (σ : Sto) : f_X3_contraryOf (nI b) σ = some (nI (ctr b), σ) := by
  unfold ctr
  by_cases q : b < 2
  · rw [if_pos q]
    simp (disch := omega) only [f_X3_contraryOf, b_X3_contraryOf_26, lit, pLeT, pLeF, pLtT, pLtF, pEqT, pEqF, nLeF, nLtF, nI_clamp, or_self, or_false, false_or, not_true_eq_false, not_false_eq_true, ↓reduceIte, nmS_eq, bd1_eq, bd2_eq, nI_add, pEqS, pk_mul, Nat.reduceAdd, Bool.false_eq_true, or_true, true_or, pk_sub]
  · rw [if_neg q]
    by_cases q2 : b < 10
    · rw [if_pos q2]
      simp (disch := omega) only [f_X3_contraryOf, b_X3_contraryOf_26, lit, pLeT, pLeF, pLtT, pLtF, pEqT, pEqF, nLeF, nLtF, nI_clamp, or_self, or_false, false_or, not_true_eq_false, not_false_eq_true, ↓reduceIte, nmS_eq, bd1_eq, bd2_eq, nI_add, pEqS, pk_mul, Nat.reduceAdd, Bool.false_eq_true, or_true, true_or]
    · rw [if_neg q2]
      simp (disch := omega) only [f_X3_contraryOf, b_X3_contraryOf_26, lit, pLeT, pLeF, pLtT, pLtF, pEqT, pEqF, nLeF, nLtF, nI_clamp, or_self, or_false, false_or, not_true_eq_false, not_false_eq_true, ↓reduceIte, nmS_eq, bd1_eq, bd2_eq, nI_add, pEqS, pk_mul, Nat.reduceAdd, Bool.false_eq_true, or_true, true_or, pk_sub]
