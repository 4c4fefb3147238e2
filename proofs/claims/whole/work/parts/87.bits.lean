/-! ===== how many bits ===== -/
def pc : Nat → Nat → Nat
  | 0, _ => 0
  | n + 1, m => m % 2 + pc n (m / 2)
theorem pc_0 (n : Nat) : pc n 0 = 0 := by
  induction n with
  | zero => rfl
  | succ n ih =>
    show 0 % 2 + pc n (0 / 2) = 0
    rw [Nat.zero_div, ih]
theorem pc_ext (j n : Nat) : ∀ m, m < 2 ^ n → pc (n + j) m = pc n m := by
  induction n with
  | zero =>
    intro m hm
    have e : m = 0 := by rw [Nat.pow_zero] at hm; omega
    subst e
    rw [pc_0, pc_0]
  | succ n ih =>
    intro m hm
    rw [show n + 1 + j = (n + j) + 1 by omega]
    show m % 2 + pc (n + j) (m / 2) = m % 2 + pc n (m / 2)
    rw [ih (m / 2) (by rw [Nat.pow_succ] at hm; omega)]
theorem pc_byte (n a b : Nat) (ha : a < 256) : pc (n + 8) (a + 256 * b) = pc 8 a + pc n b := by
  simp only [pc]
  have e : (a + 256 * b) / 2 / 2 / 2 / 2 / 2 / 2 / 2 / 2 = b := by omega
  rw [e]
  omega
/-- the masks, a byte after another -/
def mk (c : Nat) : Nat → Nat
  | 0 => 0
  | n + 1 => c + 256 * mk c n
theorem and_sp {a c : Nat} (b d : Nat) (ha : a < 256) (hc : c < 256) : (a + 256 * b) &&& (c + 256 * d) = (a &&& c) + 256 * (b &&& d) := by
  have hac : a &&& c < 2 ^ 8 := Nat.and_lt_two_pow _ hc
  apply Nat.eq_of_testBit_eq
  intro i
  rw [Nat.testBit_and, Nat.add_comm a, Nat.add_comm c, Nat.add_comm (a &&& c)]
  rw [show 256 = 2 ^ 8 from rfl, Nat.testBit_two_pow_mul_add b (show a < 2 ^ 8 from ha), Nat.testBit_two_pow_mul_add d (show c < 2 ^ 8 from hc), Nat.testBit_two_pow_mul_add _ hac]
  split
  · rw [Nat.testBit_and]
  · rw [Nat.testBit_and]
def q1 (n m : Nat) : Nat := m - ((m / 2) &&& mk 85 n)
def q2 (n y : Nat) : Nat := (y &&& mk 51 n) + ((y / 4) &&& mk 51 n)
def q3 (n y : Nat) : Nat := (y + y / 16) &&& mk 15 n
theorem m85 : ∀ x, x < 128 → ∀ e, e < 2 → (x + 128 * e) &&& 85 = x &&& 85 := by decide +kernel
theorem m51 : ∀ x, x < 64 → ∀ e, e < 4 → (x + 64 * e) &&& 51 = x &&& 51 := by decide +kernel
theorem q1_s (n a b : Nat) (ha : a < 256) : q1 (n + 1) (a + 256 * b) = (a - ((a / 2) &&& 85)) + 256 * q1 n b := by
  unfold q1
  have e : (a + 256 * b) / 2 = (a / 2 + 128 * (b % 2)) + 256 * (b / 2) := by omega
  show a + 256 * b - ((a + 256 * b) / 2 &&& (85 + 256 * mk 85 n)) = _
  rw [e, and_sp _ _ (by omega) (by omega), m85 _ (by omega) _ (by omega)]
  have h1 : (a / 2) &&& 85 ≤ a := Nat.le_trans Nat.and_le_left (by omega)
  have h2 : (b / 2) &&& mk 85 n ≤ b := Nat.le_trans Nat.and_le_left (by omega)
  omega
theorem q2_s (n a b : Nat) (ha : a < 256) : q2 (n + 1) (a + 256 * b) = ((a &&& 51) + ((a / 4) &&& 51)) + 256 * q2 n b := by
  unfold q2
  have e : (a + 256 * b) / 4 = (a / 4 + 64 * (b % 4)) + 256 * (b / 4) := by omega
  show (a + 256 * b &&& (51 + 256 * mk 51 n)) + ((a + 256 * b) / 4 &&& (51 + 256 * mk 51 n)) = _
  rw [e, and_sp _ _ (by omega) (by omega), and_sp _ _ (by omega) (by omega), m51 _ (by omega) _ (by omega)]
  omega
theorem m15 : ∀ x, x < 256 → x &&& 15 = x % 16 := fun x _ => Nat.and_two_pow_sub_one_eq_mod x 4
theorem q3_s (n a b : Nat) (ha : a ≤ 68) (hb : b % 16 ≤ 4) : q3 (n + 1) (a + 256 * b) = (a + a / 16) % 16 + 256 * q3 n b := by
  unfold q3
  have e : (a + 256 * b) + (a + 256 * b) / 16 = (a + a / 16 + 16 * (b % 16)) + 256 * (b + b / 16) := by omega
  show (a + 256 * b) + (a + 256 * b) / 16 &&& (15 + 256 * mk 15 n) = _
  rw [e, and_sp _ _ (by omega) (by omega), m15 _ (by omega)]
  omega
/-- one byte -/
def qb (a : Nat) : Nat := ((a - ((a / 2) &&& 85)) &&& 51) + (((a - ((a / 2) &&& 85)) / 4) &&& 51)
theorem qb_f : ∀ a, a < 256 → qb a ≤ 68 ∧ qb a % 16 ≤ 4 ∧ (qb a + qb a / 16) % 16 = pc 8 a ∧ pc 8 a ≤ 8 := by decide +kernel
theorem q21_s (n a b : Nat) (ha : a < 256) : q2 (n + 1) (q1 (n + 1) (a + 256 * b)) = qb a + 256 * q2 n (q1 n b) := by
  rw [q1_s n a b ha, q2_s n _ _ (by omega)]
  rfl
theorem q2_0 (y : Nat) : q2 0 y = 0 := by
  unfold q2
  show (y &&& 0) + (y / 4 &&& 0) = 0
  rw [Nat.and_zero, Nat.and_zero]
def bcN (m : Nat) : Nat :=
  let y := q3 4 (q2 4 (q1 4 m))
  let y4 := y + y / 256
  (y4 + y4 / 65536) % 64
theorem sum4 {z0 z1 z2 z3 : Nat} (g0 : z0 ≤ 8) (g1 : z1 ≤ 8) (g2 : z2 ≤ 8) (g3 : z3 ≤ 8) : (let y := z0 + 256 * (z1 + 256 * (z2 + 256 * (z3 + 256 * 0))); let y4 := y + y / 256; (y4 + y4 / 65536) % 64) = z0 + (z1 + (z2 + (z3 + 0))) := by
  have d1 : (z0 + 256 * (z1 + 256 * (z2 + 256 * (z3 + 256 * 0)))) / 256 = z1 + 256 * (z2 + 256 * z3) := by omega
  simp only [d1]
  have d2 : (z0 + 256 * (z1 + 256 * (z2 + 256 * (z3 + 256 * 0))) + (z1 + 256 * (z2 + 256 * z3))) / 65536 = z2 + z3 + 256 * z3 := by omega
  rw [d2]
  omega
theorem bcN_eq {m : Nat} (hm : m < 2 ^ 30) : bcN m = pc 30 m := by
  obtain ⟨a0, a1, a2, a3, h0, h1, h2, h3, e⟩ : ∃ a0 a1 a2 a3, a0 < 256 ∧ a1 < 256 ∧ a2 < 256 ∧ a3 < 256 ∧ m = a0 + 256 * (a1 + 256 * (a2 + 256 * (a3 + 256 * 0))) := ⟨m % 256, m / 256 % 256, m / 65536 % 256, m / 16777216, by omega, by omega, by omega, by omega, by omega⟩
  have f0 := qb_f a0 h0
  have f1 := qb_f a1 h1
  have f2 := qb_f a2 h2
  have f3 := qb_f a3 h3
  have e1 : q2 4 (q1 4 m) = qb a0 + 256 * (qb a1 + 256 * (qb a2 + 256 * (qb a3 + 256 * 0))) := by
    rw [e, q21_s 3 _ _ h0, q21_s 2 _ _ h1, q21_s 1 _ _ h2, q21_s 0 _ _ h3, q2_0]
  have e2 : q3 4 (q2 4 (q1 4 m)) = pc 8 a0 + 256 * (pc 8 a1 + 256 * (pc 8 a2 + 256 * (pc 8 a3 + 256 * 0))) := by
    rw [e1, q3_s 3 _ _ f0.1 (by omega), q3_s 2 _ _ f1.1 (by omega), q3_s 1 _ _ f2.1 (by omega), q3_s 0 _ _ f3.1 (by omega), f0.2.2.1, f1.2.2.1, f2.2.2.1, f3.2.2.1]
    show pc 8 a0 + 256 * (pc 8 a1 + 256 * (pc 8 a2 + 256 * (pc 8 a3 + 256 * ((0 + 0 / 16) &&& 0)))) = _
    rw [Nat.and_zero]
  have e3 : pc 30 m = pc 8 a0 + (pc 8 a1 + (pc 8 a2 + (pc 8 a3 + 0))) := by
    rw [← pc_ext 2 30 m hm, e]
    show pc (24 + 8) _ = _
    rw [pc_byte 24 _ _ h0]
    show pc 8 a0 + pc (16 + 8) _ = _
    rw [pc_byte 16 _ _ h1]
    show pc 8 a0 + (pc 8 a1 + pc (8 + 8) _) = _
    rw [pc_byte 8 _ _ h2]
    show pc 8 a0 + (pc 8 a1 + (pc 8 a2 + pc (0 + 8) _)) = _
    rw [pc_byte 0 _ _ h3]
    rfl
  unfold bcN
  rw [e2, e3]
  exact sum4 f0.2.2.2 f1.2.2.2 f2.2.2.2 f3.2.2.2
/-! the machine's words -/
theorem nI_and {a b : Nat} (ha : a < 2 ^ 32) (hb : b < 2 ^ 32) : nI a &&& nI b = nI (a &&& b) := by
  apply Int32.toBitVec_inj.mp
  rw [Int32.toBitVec_and]
  show BitVec.ofNat 32 a &&& BitVec.ofNat 32 b = BitVec.ofNat 32 (a &&& b)
  apply BitVec.eq_of_toNat_eq
  rw [BitVec.toNat_and, BitVec.toNat_ofNat, BitVec.toNat_ofNat, BitVec.toNat_ofNat, Nat.mod_eq_of_lt ha, Nat.mod_eq_of_lt hb, Nat.mod_eq_of_lt (Nat.and_lt_two_pow _ hb)]
theorem nI_ushr {a s : Nat} (ha : a < 2 ^ 32) (hs : s < 32) : (((nI a).toUInt32 >>> ((nI s).toUInt32 &&& (nI 31).toUInt32)).toInt32) = nI (a / 2 ^ s) := by
  apply b_ext
  intro i hi
  have h := b_ushr s hs (nI a) i
  rw [show (((nI a).toUInt32 >>> ((nI s).toUInt32 &&& (nI 31).toUInt32)).toInt32) = (((nI a).toUInt32 >>> ((nI s).toUInt32 &&& Int32.toUInt32 31)).toInt32) from rfl, h]
  have h2 : a / 2 ^ s < 2 ^ 32 := Nat.lt_of_le_of_lt (Nat.div_le_self _ _) ha
  rw [nI_bt h2 hi]
  by_cases q : s + i < 32
  · rw [nI_bt ha q, ← Nat.shiftRight_eq_div_pow, Nat.testBit_shiftRight]
  · rw [b_big (by omega), ← Nat.shiftRight_eq_div_pow, Nat.testBit_shiftRight]
    exact (Nat.testBit_lt_two_pow (Nat.lt_of_lt_of_le ha (Nat.pow_le_pow_right (by decide) (by omega)))).symm
theorem e_bitCount {m : Nat} (hm : m < 2 ^ 30) (σ : Sto) : f_J6_bitCount_0f7a4 (nI m) σ = some (nI (pc 30 m), σ) := by
  have hm : m < 1073741824 := hm
  have k1 : mk 85 4 = 1431655765 := by decide
  have k2 : mk 51 4 = 858993459 := by decide
  have k3 : mk 15 4 = 252645135 := by decide
  have b1 : m / 2 &&& 1431655765 ≤ m := Nat.le_trans Nat.and_le_left (by omega)
  have d1 : q1 4 m = m - (m / 2 &&& 1431655765) := by unfold q1; rw [k1]
  generalize hy1 : q1 4 m = y1 at *
  have b2 : y1 < 1073741824 := by omega
  have d2 : q2 4 y1 = (y1 &&& 858993459) + (y1 / 4 &&& 858993459) := by unfold q2; rw [k2]
  have b3 : y1 &&& 858993459 ≤ 858993459 := Nat.and_le_right
  have b4 : y1 / 4 &&& 858993459 ≤ 858993459 := Nat.and_le_right
  generalize hy2 : q2 4 y1 = y2 at *
  have d3 : q3 4 y2 = (y2 + y2 / 16) &&& 252645135 := by unfold q3; rw [k3]
  have b5 : (y2 + y2 / 16) &&& 252645135 ≤ 252645135 := Nat.and_le_right
  generalize hy3 : q3 4 y2 = y3 at *
  have hb : bcN m = (y3 + y3 / 256 + (y3 + y3 / 256) / 65536) % 64 := by
    unfold bcN
    rw [hy1, hy2, hy3]
  rw [← bcN_eq (m := m) (by omega), hb]
  have s1 : (((nI m).toUInt32 >>> ((nI 1).toUInt32 &&& (nI 31).toUInt32)).toInt32) = nI (m / 2) := nI_ushr (by omega) (by omega)
  have s2 : (((nI y1).toUInt32 >>> ((nI 2).toUInt32 &&& (nI 31).toUInt32)).toInt32) = nI (y1 / 4) := nI_ushr (by omega) (by omega)
  have s3 : (((nI y2).toUInt32 >>> ((nI 4).toUInt32 &&& (nI 31).toUInt32)).toInt32) = nI (y2 / 16) := nI_ushr (by omega) (by omega)
  have s4 : (((nI y3).toUInt32 >>> ((nI 8).toUInt32 &&& (nI 31).toUInt32)).toInt32) = nI (y3 / 256) := nI_ushr (by omega) (by omega)
  have s5 : (((nI (y3 + y3 / 256)).toUInt32 >>> ((nI 16).toUInt32 &&& (nI 31).toUInt32)).toInt32) = nI ((y3 + y3 / 256) / 65536) := nI_ushr (by omega) (by omega)
  have a1 : nI (m / 2) &&& nI 1431655765 = nI (m / 2 &&& 1431655765) := nI_and (by omega) (by omega)
  have a2 : nI y1 &&& nI 858993459 = nI (y1 &&& 858993459) := nI_and (by omega) (by omega)
  have a3 : nI (y1 / 4) &&& nI 858993459 = nI (y1 / 4 &&& 858993459) := nI_and (by omega) (by omega)
  have a4 : nI (y2 + y2 / 16) &&& nI 252645135 = nI (y2 + y2 / 16 &&& 252645135) := nI_and (by omega) (by omega)
  have a5 : nI (y3 + y3 / 256 + (y3 + y3 / 256) / 65536) &&& nI 63 = nI ((y3 + y3 / 256 + (y3 + y3 / 256) / 65536) % 64) := by
    rw [nI_and (by omega) (by omega)]
    congr 1
    exact Nat.and_two_pow_sub_one_eq_mod _ 6
  have c1 : nI m - nI (m / 2 &&& 1431655765) = nI y1 := by rw [pk_sub b1, d1]
  simp only [f_J6_bitCount_0f7a4, lit, nmS_eq, s1, a1, c1, s2, a2, a3, nI_add, ← d2, s3, a4, ← d3, s4, s5, a5]
theorem l_X8_ones {m : Nat} (hm : m < 2 ^ 30) (τ : Sto) (n : Nat) (j : Nat) : ∀ i s, i + j = 30 → l_X8_ones_4 (n + 1 + j) (nI m) (nI s) (nI i) τ = some (nI (s + pc j (m / 2 ^ i)), τ) := by
  induction j with
  | zero =>
    intro i s hi
    have e : i = 30 := by omega
    subst e
    show b_X8_ones_4 _ (nI m) (nI s) (nI 30) τ = _
    simp (disch := omega) only [b_X8_ones_4, lit, pLeT, pLeF, pLtT, pLtF, pEqT, pEqF, nLeF, nLtF, nI_clamp, or_self, or_false, false_or, not_true_eq_false, not_false_eq_true, ↓reduceIte, nmS_eq, bd1_eq, bd2_eq, nI_add, pEqS, pk_mul, Nat.reduceAdd, Bool.false_eq_true, or_true, true_or, pc, Nat.add_zero]
  | succ j ih0 =>
    intro i s hi
    have ih := fun s => ih0 (i + 1) s (by omega)
    have hb := sb (nI m) (i := i) (by omega)
    have hb2 : bt (nI m) i = m.testBit i := nI_bt (by omega) (by omega)
    have hb3 : ((nI m >>> (nI i &&& nI 31)) &&& nI 1) = nI (m / 2 ^ i % 2) := by
      rw [hb, hb2, Nat.testBit_eq_decide_div_mod_eq]
      have h9 : m / 2 ^ i % 2 = 0 ∨ m / 2 ^ i % 2 = 1 := by omega
      rcases h9 with e | e <;> rw [e] <;> rfl
    have e3 : m / 2 ^ i / 2 = m / 2 ^ (i + 1) := by rw [Nat.div_div_eq_div_mul, ← Nat.pow_succ]
    show b_X8_ones_4 (l_X8_ones_4 (n + 1 + j)) (nI m) (nI s) (nI i) τ = some (nI (s + (m / 2 ^ i % 2 + pc j (m / 2 ^ i / 2))), τ)
    rw [e3, ← Nat.add_assoc]
    simp (disch := omega) only [b_X8_ones_4, lit, pLeT, pLeF, pLtT, pLtF, pEqT, pEqF, nLeF, nLtF, nI_clamp, or_self, or_false, false_or, not_true_eq_false, not_false_eq_true, ↓reduceIte, nmS_eq, bd1_eq, bd2_eq, nI_add, pEqS, pk_mul, Nat.reduceAdd, Bool.false_eq_true, or_true, true_or, hb3, ih]
theorem e_X8_ones {m : Nat} (hm : m < 2 ^ 30) (τ : Sto) : f_X8_ones (nI m) τ = some (nI (pc 30 m), τ) := by
  have h := l_X8_ones hm τ 369 30 0 0 (by omega)
  rw [Nat.pow_zero, Nat.div_one, Nat.zero_add] at h
  exact h
theorem RU.bits {u lv : Nat} {σ τ : Sto} (h : RU u lv σ τ) : f_J6_bitCount_0f7a4 (σ.1 33 4) σ = some (nI (pc 30 lv), σ) ∧ f_X8_ones ((τ.2 6 10).toInt32) τ = some (nI (pc 30 lv), τ) := by
  have h30 := pw30 h.bk.hl h.bk.hu
  rw [h.lv, h.bk.wl, lN_i]
  exact ⟨e_bitCount h30 σ, e_X8_ones h30 τ⟩
/-! count -/
def cmA (σ : Sto) : Nat → Nat → Nat → Nat
  | 0, _, c => c
  | j + 1, i, c => cmA σ j (i + 1) (if nI 0 ≤ σ.1 12 i then c + 1 else c)
theorem RU.miss2 {u lv : Nat} {σ τ : Sto} (h : RU u lv σ τ) {r : Nat} (hr : r < 8) : f_X6_isMissing (nI r) σ = some (if nI 0 ≤ σ.1 12 r then nI 0 else nI 1, σ) ∧ f_X8_isMissing (nI r) τ = some (if nI 0 ≤ σ.1 12 r then nI 0 else nI 1, τ) := by
  rcases h.rw r hr with ⟨q1, q2⟩ | ⟨n, l, q1, q2, q3, q4, q5, q6, q7⟩
  · refine ⟨?_, ?_⟩
    · simp (disch := omega) only [f_X6_isMissing, b_X6_isMissing_14, lit, pLeT, pLeF, pLtT, pLtF, pEqT, pEqF, nLeF, nLtF, nI_clamp, or_self, or_false, false_or, not_true_eq_false, not_false_eq_true, ↓reduceIte, nmS_eq, bd1_eq, bd2_eq, nI_add, pEqS, pk_mul, Nat.reduceAdd, Bool.false_eq_true, or_true, true_or, q2, neg1]
    · simp (disch := omega) only [f_X8_isMissing, b_X8_isMissing_16, lit, pLeT, pLeF, pLtT, pLtF, pEqT, pEqF, nLeF, nLtF, nI_clamp, or_self, or_false, false_or, not_true_eq_false, not_false_eq_true, ↓reduceIte, nmS_eq, bd1_eq, bd2_eq, nI_add, pEqS, pk_mul, Nat.reduceAdd, Bool.false_eq_true, or_true, true_or, q1, q2, neg1]
  · have e := encne (v := l) (by omega)
    refine ⟨?_, ?_⟩
    · simp (disch := omega) only [f_X6_isMissing, b_X6_isMissing_14, lit, pLeT, pLeF, pLtT, pLtF, pEqT, pEqF, nLeF, nLtF, nI_clamp, or_self, or_false, false_or, not_true_eq_false, not_false_eq_true, ↓reduceIte, nmS_eq, bd1_eq, bd2_eq, nI_add, pEqS, pk_mul, Nat.reduceAdd, Bool.false_eq_true, or_true, true_or, q3]
    · simp (disch := omega) only [f_X8_isMissing, b_X8_isMissing_16, lit, pLeT, pLeF, pLtT, pLtF, pEqT, pEqF, nLeF, nLtF, nI_clamp, or_self, or_false, false_or, not_true_eq_false, not_false_eq_true, ↓reduceIte, nmS_eq, bd1_eq, bd2_eq, nI_add, pEqS, pk_mul, Nat.reduceAdd, Bool.false_eq_true, or_true, true_or, q6, e, q3]
theorem l_X6_countAll {u lv : Nat} {σ τ : Sto} (h : RU u lv σ τ) (n : Nat) (j : Nat) : ∀ i c, i + j = 8 → l_X6_countAll_4 (n + 1 + j) (nI c) (nI i) σ = some (nI (cmA σ j i c), σ) := by
  induction j with
  | zero =>
    intro i c hi
    have e : i = 8 := by omega
    subst e
    show b_X6_countAll_4 _ (nI c) (nI 8) σ = _
    simp (disch := omega) only [b_X6_countAll_4, lit, pLeT, pLeF, pLtT, pLtF, pEqT, pEqF, nLeF, nLtF, nI_clamp, or_self, or_false, false_or, not_true_eq_false, not_false_eq_true, ↓reduceIte, nmS_eq, bd1_eq, bd2_eq, nI_add, pEqS, pk_mul, Nat.reduceAdd, Bool.false_eq_true, or_true, true_or, cmA]
  | succ j ih0 =>
    intro i c hi
    have ih := fun c => ih0 (i + 1) c (by omega)
    have hm := (h.miss2 (r := i) (by omega)).1
    show b_X6_countAll_4 (l_X6_countAll_4 (n + 1 + j)) (nI c) (nI i) σ = some (nI (cmA σ j (i + 1) (if nI 0 ≤ σ.1 12 i then c + 1 else c)), σ)
    by_cases q : nI 0 ≤ σ.1 12 i
    · rw [if_pos q] at hm
      simp (disch := omega) only [b_X6_countAll_4, b_X6_countAll_21, lit, pLeT, pLeF, pLtT, pLtF, pEqT, pEqF, nLeF, nLtF, nI_clamp, or_self, or_false, false_or, not_true_eq_false, not_false_eq_true, ↓reduceIte, nmS_eq, bd1_eq, bd2_eq, nI_add, pEqS, pk_mul, Nat.reduceAdd, Bool.false_eq_true, or_true, true_or, hm, ih, q]
    · rw [if_neg q] at hm
      simp (disch := omega) only [b_X6_countAll_4, b_X6_countAll_21, lit, pLeT, pLeF, pLtT, pLtF, pEqT, pEqF, nLeF, nLtF, nI_clamp, or_self, or_false, false_or, not_true_eq_false, not_false_eq_true, ↓reduceIte, nmS_eq, bd1_eq, bd2_eq, nI_add, pEqS, pk_mul, Nat.reduceAdd, Bool.false_eq_true, or_true, true_or, hm, ih, q]
theorem l_X8_count {u lv : Nat} {σ τ : Sto} (h : RU u lv σ τ) (n : Nat) (j : Nat) : ∀ i c, i + j = 8 → l_X8_count_50 (n + 1 + j) (nI c) (nI i) τ = some (nI (cmA σ j i c), τ) := by
  induction j with
  | zero =>
    intro i c hi
    have e : i = 8 := by omega
    subst e
    show b_X8_count_50 _ (nI c) (nI 8) τ = _
    simp (disch := omega) only [b_X8_count_50, lit, pLeT, pLeF, pLtT, pLtF, pEqT, pEqF, nLeF, nLtF, nI_clamp, or_self, or_false, false_or, not_true_eq_false, not_false_eq_true, ↓reduceIte, nmS_eq, bd1_eq, bd2_eq, nI_add, pEqS, pk_mul, Nat.reduceAdd, Bool.false_eq_true, or_true, true_or, cmA]
  | succ j ih0 =>
    intro i c hi
    have ih := fun c => ih0 (i + 1) c (by omega)
    have hm := (h.miss2 (r := i) (by omega)).2
    show b_X8_count_50 (l_X8_count_50 (n + 1 + j)) (nI c) (nI i) τ = some (nI (cmA σ j (i + 1) (if nI 0 ≤ σ.1 12 i then c + 1 else c)), τ)
    by_cases q : nI 0 ≤ σ.1 12 i
    · rw [if_pos q] at hm
      simp (disch := omega) only [b_X8_count_50, b_X8_count_70, lit, pLeT, pLeF, pLtT, pLtF, pEqT, pEqF, nLeF, nLtF, nI_clamp, or_self, or_false, false_or, not_true_eq_false, not_false_eq_true, ↓reduceIte, nmS_eq, bd1_eq, bd2_eq, nI_add, pEqS, pk_mul, Nat.reduceAdd, Bool.false_eq_true, or_true, true_or, hm, ih, q]
    · rw [if_neg q] at hm
      simp (disch := omega) only [b_X8_count_50, b_X8_count_70, lit, pLeT, pLeF, pLtT, pLtF, pEqT, pEqF, nLeF, nLtF, nI_clamp, or_self, or_false, false_or, not_true_eq_false, not_false_eq_true, ↓reduceIte, nmS_eq, bd1_eq, bd2_eq, nI_add, pEqS, pk_mul, Nat.reduceAdd, Bool.false_eq_true, or_true, true_or, hm, ih, q, Nat.add_zero]
theorem s_count (x : Int32) : Sim RR (f_X7_count x) (f_X8_count x) := by
  intro σ τ ⟨u, lv, h⟩
  have h30 := pw30 h.bk.hl h.bk.hu
  unfold f_X7_count f_X8_count
  by_cases q0 : x = 0
  · rw [if_pos q0, if_pos q0]
    have e1 : f_X6_countAll σ = some (nI (cmA σ 8 0 0), σ) := l_X6_countAll h 391 8 0 0 (by omega)
    have e2 : l_X8_count_50 400 0 0 τ = some (nI (cmA σ 8 0 0), τ) := l_X8_count h 391 8 0 0 (by omega)
    exact ⟨_, _, _, by rw [bd2_of e1], e2, u, lv, h⟩
  · rw [if_neg q0, if_neg q0]
    by_cases q1 : x = 1
    · rw [if_pos q1, if_pos q1]
      exact ⟨_, _, _, by rw [bd2_of h.bits.1], by rw [bd2_of h.bits.2], u, lv, h⟩
    · rw [if_neg q1, if_neg q1]
      by_cases q2 : x = 2
      · rw [if_pos q2, if_pos q2]
        exact ⟨_, _, _, rfl, by rw [h.bk.wu, lN_i, h.us], u, lv, h⟩
      · rw [if_neg q2, if_neg q2]
        by_cases q3 : x = 3
        · rw [if_pos q3, if_pos q3]
          exact ⟨_, _, _, rfl, by rw [h.bk.wl, lN_i, h.lv], u, lv, h⟩
        · rw [if_neg q3, if_neg q3]
          by_cases q4 : x = 4
          · rw [if_pos q4, if_pos q4]
            exact ⟨_, _, _, rfl, by rw [h.bk.wb, i_l_i], u, lv, h⟩
          · rw [if_neg q4, if_neg q4]
            by_cases q5 : x = 5
            · rw [if_pos q5, if_pos q5]
              exact ⟨_, _, _, by rw [bd2_of h.allX], by rw [bd2_of h.allM, lN_i], u, lv, h⟩
            · rw [if_neg q5, if_neg q5]
              by_cases q6 : x = 6
              · rw [if_pos q6, if_pos q6]
                obtain ⟨o, s, us, ls, a1, a2, a3, a4, a5, a6, a7⟩ := h.ac
                exact ⟨_, _, _, rfl, by rw [a5, a4], u, lv, h⟩
              · rw [if_neg q6, if_neg q6]
                by_cases q7 : x = 7
                · rw [if_pos q7, if_pos q7]
                  obtain ⟨L, l1, l2, l3, l4⟩ := h.tp
                  exact ⟨_, _, _, rfl, by rw [l3, l2], u, lv, h⟩
                · rw [if_neg q7, if_neg q7]
                  exact ⟨_, _, _, rfl, rfl, u, lv, h⟩
