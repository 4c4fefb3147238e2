/-! ===== longs by their bits (the kit's families) ===== -/
theorem wb_tb (n : Nat) : (lN n).toBitVec = BitVec.ofNat 64 n := rfl
theorem wb_inj {a b : Int64} (h : a.toBitVec = b.toBitVec) : a = b := Int64.toBitVec_inj.mp h
theorem wb_tn {n : Nat} (h : n < 2 ^ 64) : (lN n).toBitVec.toNat = n := by rw [wb_tb, BitVec.toNat_ofNat, Nat.mod_eq_of_lt h]
theorem wb_of (x : Int64) : ∃ n, n < 2 ^ 64 ∧ x = lN n := ⟨x.toBitVec.toNat, x.toBitVec.isLt, wb_inj (by rw [wb_tb]; simp)⟩
theorem wb_of32 (x : Int32) : ∃ n, n < 2 ^ 32 ∧ x = nI n := ⟨x.toBitVec.toNat, x.toBitVec.isLt, Int32.toBitVec_inj.mp (by show _ = BitVec.ofNat 32 _; simp)⟩
theorem wb_c : ∀ k, k < 64 → ((nI k).toInt64 &&& 63) = lN k := by decide +kernel
theorem wb_cu : ∀ k, k < 64 → ((nI k).toInt64.toUInt64 &&& Int64.toUInt64 63) = UInt64.ofNat k := by decide +kernel
theorem wb_sm : ∀ k, k < 64 → (BitVec.ofNat 64 k).smod 64 = BitVec.ofNat 64 k := by decide +kernel
theorem wb_pw {a b : Nat} (h : a ≤ b) : 2 ^ b = 2 ^ a * 2 ^ (b - a) := by rw [← Nat.pow_add]; congr 1; omega
theorem wb_lt2 {a b : Nat} (h : a < b) : 2 ^ a < 2 ^ b := Nat.pow_lt_pow_right (by decide) h
theorem wb_mod (n : Nat) : lN n = lN (n % 2 ^ 64) := wb_inj (by rw [wb_tb, wb_tb]; apply BitVec.eq_of_toNat_eq; rw [BitVec.toNat_ofNat, BitVec.toNat_ofNat, Nat.mod_mod])
theorem wb_shr {n k : Nat} (hn : n < 2 ^ 64) (hk : k < 64) : ((lN n).toUInt64 >>> ((nI k).toInt64.toUInt64 &&& Int64.toUInt64 63)).toInt64 = lN (n / 2 ^ k) := by
  rw [wb_cu k hk]
  apply wb_inj
  apply BitVec.eq_of_toNat_eq
  show ((lN n).toUInt64 >>> UInt64.ofNat k).toNat = (BitVec.ofNat 64 _).toNat
  have h1 : (UInt64.ofNat k).toNat = k := by
    show (BitVec.ofNat 64 k).toNat = k
    rw [BitVec.toNat_ofNat, Nat.mod_eq_of_lt (by omega)]
  have h2 : (lN n).toUInt64.toNat = n := wb_tn hn
  rw [UInt64.toNat_shiftRight, h1, h2, Nat.mod_eq_of_lt hk, Nat.shiftRight_eq_div_pow, BitVec.toNat_ofNat, Nat.mod_eq_of_lt (Nat.lt_of_le_of_lt (Nat.div_le_self _ _) hn)]
theorem wb_shl (n : Nat) {k : Nat} (hk : k < 64) : lN n <<< ((nI k).toInt64 &&& 63) = lN (n * 2 ^ k) := by
  rw [wb_c k hk]
  apply wb_inj
  rw [Int64.toBitVec_shiftLeft, wb_tb, wb_tb, wb_tb, wb_sm k hk]
  apply BitVec.eq_of_toNat_eq
  rw [BitVec.shiftLeft_eq', BitVec.toNat_shiftLeft, BitVec.toNat_ofNat, BitVec.toNat_ofNat, BitVec.toNat_ofNat, Nat.mod_eq_of_lt (show k < 2 ^ 64 by omega), Nat.shiftLeft_eq, Nat.mul_mod, Nat.mod_mod, ← Nat.mul_mod]
theorem wb_and {a b : Nat} (ha : a < 2 ^ 64) (hb : b < 2 ^ 64) : lN a &&& lN b = lN (a &&& b) := by
  apply wb_inj
  rw [Int64.toBitVec_and, wb_tb, wb_tb, wb_tb]
  apply BitVec.eq_of_toNat_eq
  rw [BitVec.toNat_and, BitVec.toNat_ofNat, BitVec.toNat_ofNat, BitVec.toNat_ofNat, Nat.mod_eq_of_lt ha, Nat.mod_eq_of_lt hb, Nat.mod_eq_of_lt (Nat.and_lt_two_pow _ hb)]
theorem wb_or {a b : Nat} (ha : a < 2 ^ 64) (hb : b < 2 ^ 64) : lN a ||| lN b = lN (a ||| b) := by
  apply wb_inj
  rw [Int64.toBitVec_or, wb_tb, wb_tb, wb_tb]
  apply BitVec.eq_of_toNat_eq
  rw [BitVec.toNat_or, BitVec.toNat_ofNat, BitVec.toNat_ofNat, BitVec.toNat_ofNat, Nat.mod_eq_of_lt ha, Nat.mod_eq_of_lt hb, Nat.mod_eq_of_lt (Nat.or_lt_two_pow ha hb)]
theorem wb_mask {n k : Nat} (hn : n < 2 ^ 64) (hk : k < 64) : lN n &&& lN (2 ^ k - 1) = lN (n % 2 ^ k) := by
  rw [wb_and hn (by have := wb_lt2 hk; omega), Nat.and_two_pow_sub_one_eq_mod]
theorem wb_a1 {n : Nat} (hn : n < 2 ^ 64) : lN n &&& 1 = lN (n % 2) := wb_mask (k := 1) hn (by decide)
theorem wb_bit {n k : Nat} (hn : n < 2 ^ 64) (hk : k < 64) : ((lN n).toUInt64 >>> ((nI k).toInt64.toUInt64 &&& Int64.toUInt64 63)).toInt64 &&& 1 = lN (n / 2 ^ k % 2) := by
  rw [wb_shr hn hk, wb_a1 (Nat.lt_of_le_of_lt (Nat.div_le_self _ _) hn)]
theorem wb_xor {q k : Nat} (hk : k < 63) (h : 2 ^ k ≤ q) (h2 : q < 2 ^ (k + 1)) : lN q ^^^ lN (2 ^ k) = lN (q - 2 ^ k) := by
  obtain ⟨r, rfl⟩ : ∃ r, q = 2 ^ k + r := ⟨q - 2 ^ k, by omega⟩
  have hr : r < 2 ^ k := by rw [Nat.pow_succ] at h2; omega
  have hx : (2 ^ k + r) ^^^ 2 ^ k = r := by
    apply Nat.eq_of_testBit_eq
    intro i
    rw [Nat.testBit_xor, Nat.testBit_two_pow]
    rcases Nat.lt_trichotomy i k with h | h | h
    · rw [Nat.testBit_two_pow_add_gt h]
      simp [show ¬ k = i by omega]
    · subst h
      rw [Nat.testBit_two_pow_add_eq]
      simp
    · have a1 : 2 ^ (k + 1) ≤ 2 ^ i := Nat.pow_le_pow_right (by decide) h
      rw [Nat.testBit_lt_two_pow (show 2 ^ k + r < 2 ^ i by omega), Nat.testBit_lt_two_pow (show r < 2 ^ i by omega)]
      simp [show ¬ k = i by omega]
  have b1 := wb_lt2 (show k + 1 < 64 by omega)
  have b2 := wb_lt2 (show k < 64 by omega)
  apply wb_inj
  rw [Int64.toBitVec_xor, wb_tb, wb_tb, wb_tb]
  apply BitVec.eq_of_toNat_eq
  rw [BitVec.toNat_xor, BitVec.toNat_ofNat, BitVec.toNat_ofNat, BitVec.toNat_ofNat, Nat.mod_eq_of_lt (by omega : 2 ^ k + r < 2 ^ 64), Nat.mod_eq_of_lt b2, hx, Nat.add_sub_cancel_left, Nat.mod_eq_of_lt (by omega)]
theorem pf_lI {a : Nat} (h : a < 2 ^ 63) : (lN a).toInt = (a : Int) := lg_ofNat_toInt h
theorem pf_shr {a d : Nat} {D : Int64} (hD : (D.toBitVec.smod 64).toNat = d) (h : a < 2 ^ 62) : lN a >>> D = lN (a / 2 ^ d) := by
  have hd : a / 2 ^ d ≤ a := Nat.div_le_self _ _
  apply Int64.toInt_inj.mp
  have e : (lN a >>> D).toInt = (lN a).toInt >>> d := by
    rw [← hD]
    exact BitVec.toInt_sshiftRight ..
  rw [e, Int.shiftRight_eq_div_pow, pf_lI (by omega), pf_lI (by omega)]
  rfl
theorem pf_ushr {a d : Nat} {D : UInt64} (hD : D.toNat % 64 = d) (h : a < 2 ^ 62) : ((lN a).toUInt64 >>> D).toInt64 = lN (a / 2 ^ d) := by
  have hd : a / 2 ^ d ≤ a := Nat.div_le_self _ _
  have e : (lN a).toUInt64 >>> D = UInt64.ofNat (a / 2 ^ d) := UInt64.toNat_inj.mp (by
    rw [UInt64.toNat_shiftRight, hD, Nat.shiftRight_eq_div_pow, UInt64.toNat_ofNat']
    show (UInt64.ofNat a).toNat / 2 ^ d = _
    rw [UInt64.toNat_ofNat', Nat.mod_eq_of_lt (by omega), Nat.mod_eq_of_lt (by omega)])
  rw [e]
  rfl
theorem pf_andw (x : Int64) : ∃ m, m < 2 ^ 32 ∧ x &&& 4294967295 = lN m := ⟨x.toBitVec.toNat % 2 ^ 32, Nat.mod_lt _ (by decide), Int64.toBitVec_inj.mp (BitVec.eq_of_toNat_eq (by
  show (x.toBitVec &&& 4294967295#64).toNat = (BitVec.ofNat 64 (x.toBitVec.toNat % 2 ^ 32)).toNat
  rw [BitVec.toNat_and, show (4294967295#64).toNat = 2 ^ 32 - 1 from by decide, Nat.and_two_pow_sub_one_eq_mod, BitVec.toNat_ofNat]
  omega))⟩
theorem lbit {n i : Nat} (hn : n < 2 ^ 62) (hi : i < 62) : (((lN n >>> ((nI i).toInt64 &&& 63)) &&& (1 : Int64)) = (1 : Int64)) = (n.testBit i = true) := by
  have h1 : ((nI i).toInt64 &&& 63) = lN i := wb_c i (by omega)
  have h2 : ((lN i).toBitVec.smod 64).toNat = i := by
    rw [wb_tb, wb_sm i (by omega), BitVec.toNat_ofNat, Nat.mod_eq_of_lt (by omega)]
  rw [h1, pf_shr h2 hn]
  have h3 : n / 2 ^ i < 2 ^ 64 := Nat.lt_of_le_of_lt (Nat.div_le_self _ _) (by omega)
  rw [wb_a1 h3, Nat.testBit_eq_decide_div_mod_eq]
  have h4 : (lN (n / 2 ^ i % 2) = (1 : Int64)) ↔ n / 2 ^ i % 2 = 1 := by
    show lN (n / 2 ^ i % 2) = lN 1 ↔ _
    rw [pk_lEQ (by omega) (by omega)]
  simp only [h4, decide_eq_true_eq]
theorem nI_bt {n i : Nat} (hn : n < 2 ^ 32) (hi : i < 32) : bt (nI n) i = n.testBit i := by
  show (BitVec.ofNat 32 n).getLsbD i = _
  rw [BitVec.getLsbD_ofNat]
  simp [hi]
theorem e_X8_in (x lo hi : Int32) (τ : Sto) : f_X8_in x lo hi τ = some (if x < lo ∨ hi < x then nI 0 else nI 1, τ) := by
  unfold f_X8_in b_X8_in_14 b_X8_in_15
  by_cases h1 : x < lo
  · simp (disch := omega) only [lit, pLeT, pLeF, pLtT, pLtF, pEqT, pEqF, nLeF, nLtF, nI_clamp, or_self, or_false, false_or, not_true_eq_false, not_false_eq_true, ↓reduceIte, nmS_eq, bd1_eq, bd2_eq, nI_add, pEqS, h1, true_or]
  · by_cases h2 : hi < x
    · simp (disch := omega) only [lit, pLeT, pLeF, pLtT, pLtF, pEqT, pEqF, nLeF, nLtF, nI_clamp, or_self, or_false, false_or, not_true_eq_false, not_false_eq_true, ↓reduceIte, nmS_eq, bd1_eq, bd2_eq, nI_add, pEqS, h1, h2, true_or, or_true]
    · simp (disch := omega) only [lit, pLeT, pLeF, pLtT, pLtF, pEqT, pEqF, nLeF, nLtF, nI_clamp, or_self, or_false, false_or, not_true_eq_false, not_false_eq_true, ↓reduceIte, nmS_eq, bd1_eq, bd2_eq, nI_add, pEqS, h1, h2, or_true]
theorem e_X8_isLive {lv i : Nat} (τ : Sto) (hl : τ.2 6 10 = lN lv) (hv : lv < 2 ^ 30) (hi : i < 30) : f_X8_isLive (nI i) τ = some (if lv.testBit i then nI 1 else nI 0, τ) := by
  have h1 := lbit (n := lv) (i := i) (by omega) (by omega)
  unfold f_X8_isLive b_X8_isLive_30 b_X8_isLive_31
  cases hb : lv.testBit i <;> simp (disch := omega) only [lit, pLeT, pLeF, pLtT, pLtF, pEqT, pEqF, nLeF, nLtF, nI_clamp, or_self, or_false, false_or, not_true_eq_false, not_false_eq_true, ↓reduceIte, nmS_eq, bd1_eq, bd2_eq, nI_add, pEqS, e_X8_in, hl, h1, hb, Bool.false_eq_true, or_true, true_or]
/-! ===== the model's rounds ===== -/
theorem setM_2 (σ : Sto) (q : Int32 × Int32) : (setM σ q).2 = σ.2 := by
  unfold setM
  rw [pI_2, pI_2]
theorem setM_at4 (σ : Sto) (q : Int32 × Int32) : (setM σ q).1 0 24 = q.1 := by
  unfold setM
  rw [pI_nj (by omega), pI_at]
theorem setM_at5 (σ : Sto) (q : Int32 × Int32) : (setM σ q).1 0 25 = q.2 := by
  unfold setM
  rw [pI_at]
theorem setM_M (σ : Sto) (q q' : Int32 × Int32) : setM (setM σ q) q' = setM σ q' := by
  show setM (pI (pI σ 0 24 q.1) 0 25 q.2) q' = _
  rw [setM_5, setM_4]
theorem setM_eta (σ : Sto) (q : Int32 × Int32) : ((setM σ q).1 0 24, (setM σ q).1 0 25) = q := by
  rw [setM_at4, setM_at5]
def memM (lv : Nat) (but : Int32) : Nat → Bool := fun a => lv.testBit a && !decide (nI a = but)
def clM (τ : Sto) : Nat → Nat → Int64 := fun a v => τ.2 6 (12 + 10 * a + 2 + v)
def dgM (τ : Sto) : Nat → Int64 := fun a => τ.2 6 (12 + 10 * a + 1)
/-- known grows: what is the same at the end was the same between -/
theorem same_mid {a b c : Int32} (h1 : ∀ i, i < 32 → bt a i = true → bt b i = true) (h2 : ∀ i, i < 32 → bt b i = true → bt c i = true) (h : c = a) : b = a := by
  subst h
  apply b_ext
  intro i hi
  cases ha : bt c i
  · cases hb : bt b i
    · rfl
    · rw [h2 i hi hb] at ha
      cases ha
  · exact h1 i hi ha
theorem mid_more {x : Int32} {q q1 q2 : Int32 × Int32} (h1 : ∀ i, i < 32 → bt q.1 i = true → bt q1.1 i = true) (h2 : ∀ i, i < 32 → bt q1.1 i = true → bt q2.1 i = true) : (if q2.1 = q1.1 then (if q1.1 = q.1 then x else nI 1) else nI 1) = if q2.1 = q.1 then x else nI 1 := by
  by_cases e : q2.1 = q.1
  · have e1 := same_mid h1 h2 e
    rw [if_pos e, if_pos (by rw [e, e1]), if_pos e1]
  · rw [if_neg e]
    by_cases e2 : q2.1 = q1.1
    · rw [if_pos e2, if_neg (fun q => e (e2.trans q))]
    · rw [if_neg e2]
/-- one step of the model's round -/
theorem isC_114 (c3 : Int32 → Int32 → Int32 → Int32 → Sto → Option (Int32 × Sto)) (c14 : Int32 → Int32 → Int32 → Int32 → Int32 → Sto → Option (Int32 × Sto)) (v1 v2 v3 v4 : Int32) (i : Nat) (z : Bool) (τ : Sto) (h4 : v4 = nI 0 ∨ v4 = nI 1) : b_X8_isConflict_114 c3 c14 v1 v2 v3 v4 (nI i) (if z then nI 0 else nI 1) τ = c14 v1 v2 v3 (if z then v4 else nI 1) (nI (i + 1)) τ := by
  rcases h4 with rfl | rfl <;> cases z <;> simp (disch := omega) only [b_X8_isConflict_114, b_X8_isConflict_131, b_X8_isConflict_136, lit, pLeT, pLeF, pLtT, pLtF, pEqT, pEqF, nLeF, nLtF, nI_clamp, or_self, or_false, false_or, not_true_eq_false, not_false_eq_true, ↓reduceIte, nmS_eq, bd1_eq, bd2_eq, nI_add, pEqS, Bool.false_eq_true]
theorem isC_114n (c3 : Int32 → Int32 → Int32 → Int32 → Sto → Option (Int32 × Sto)) (c14 : Int32 → Int32 → Int32 → Int32 → Int32 → Sto → Option (Int32 × Sto)) (v1 v2 v3 v4 v5 : Int32) (τ : Sto) : b_X8_isConflict_114 c3 c14 v1 v2 v3 v4 v5 (-1) τ = some (nI 1, τ) := by
  unfold b_X8_isConflict_114
  rw [if_neg (by decide)]
  rfl
theorem l_X8_isConflict_in (c3 : Int32 → Int32 → Int32 → Int32 → Sto → Option (Int32 × Sto)) (but ag ct : Int32) (n lv : Nat) (hv : lv < 2 ^ 30) (j : Nat) : ∀ (i : Nat) (more : Int32) (τ : Sto), i + j = 30 → τ.2 6 10 = lN lv → (more = nI 0 ∨ more = nI 1) →
    (match rdA (memM lv but) (clM τ) (dgM τ) j i (τ.1 0 24, τ.1 0 25) with
    | none => ∃ q, l_X8_isConflict_14 c3 (n + 1 + j) but ag ct more (nI i) τ = some (nI 1, setM τ q)
    | some q => l_X8_isConflict_14 c3 (n + 1 + j) but ag ct more (nI i) τ = l_X8_isConflict_14 c3 (n + 1) but ag ct (if q.1 = τ.1 0 24 then more else nI 1) (nI 30) (setM τ q)) := by
  induction j with
  | zero =>
    intro i more τ h hl hm
    have e : i = 30 := by omega
    subst e
    show l_X8_isConflict_14 c3 (n + 1) but ag ct more (nI 30) τ = l_X8_isConflict_14 c3 (n + 1) but ag ct (if τ.1 0 24 = τ.1 0 24 then more else nI 1) (nI 30) (setM τ (τ.1 0 24, τ.1 0 25))
    rw [setM_self, if_pos rfl]
  | succ j ih =>
    intro i more τ h hl hm
    have hl9 : l_X8_isConflict_14 c3 (n + 1 + (j + 1)) but ag ct more (nI i) τ = b_X8_isConflict_14 c3 (l_X8_isConflict_14 c3 (n + 1 + j)) but ag ct more (nI i) τ := rfl
    have hsk : b_X8_isConflict_67 c3 (l_X8_isConflict_14 c3 (n + 1 + j)) but ag ct more (nI i) (nI 0) τ = l_X8_isConflict_14 c3 (n + 1 + j) but ag ct more (nI (i + 1)) τ := by
      have h0 := isC_114 c3 (l_X8_isConflict_14 c3 (n + 1 + j)) but ag ct more i true τ hm
      simp (disch := omega) only [b_X8_isConflict_67, b_X8_isConflict_92, lit, pLeT, pLeF, pLtT, pLtF, pEqT, pEqF, nLeF, nLtF, nI_clamp, or_self, or_false, false_or, not_true_eq_false, not_false_eq_true, ↓reduceIte, nmS_eq, bd1_eq, bd2_eq, nI_add, pEqS]
      exact h0
    rw [rdA_s]
    by_cases hmem : memM lv but i = true
    · have hb1 : lv.testBit i = true := by
        unfold memM at hmem
        rw [Bool.and_eq_true] at hmem
        exact hmem.1
      have hb2 : ¬ nI i = but := by
        unfold memM at hmem
        rw [Bool.and_eq_true] at hmem
        intro q
        rw [decide_eq_true q] at hmem
        cases hmem.2
      have hf := e_X8_forces 6 312 (12 + 10 * i) (by omega) τ (by omega) (by omega)
      have hlv := e_X8_isLive τ hl hv (i := i) (by omega)
      rw [if_pos hmem]
      have e2 : clM τ i = fun v => τ.2 6 (12 + 10 * i + 2 + v) := rfl
      have e3 : dgM τ i = τ.2 6 (12 + 10 * i + 1) := rfl
      rw [e2, e3]
      have hpl : (12 : Int32) + (10 : Int32) * nI i = nI (12 + 10 * i) := by
        rw [lit, lit, pk_mul, nI_add]
      cases e : fc (fun v => τ.2 6 (12 + 10 * i + 2 + v)) (τ.2 6 (12 + 10 * i + 1)) (τ.1 0 24, τ.1 0 25) with
      | none =>
        rw [e] at hf
        refine ⟨(τ.1 0 24, τ.1 0 25), ?_⟩
        rw [hl9, setM_self]
        unfold b_X8_isConflict_14
        rw [hpl, hlv, hb1]
        simp (disch := omega) only [lit, pLeT, pLeF, pLtT, pLtF, pEqT, pEqF, nLeF, nLtF, nI_clamp, or_self, or_false, false_or, not_true_eq_false, not_false_eq_true, ↓reduceIte, nmS_eq, bd1_eq, bd2_eq, nI_add, pEqS, hb2, hf]
        exact isC_114n c3 _ but ag ct more (nI i) τ
      | some q1 =>
        rw [e] at hf
        have hg1 : ∀ b, b < 32 → bt (τ.1 0 24) b = true → bt q1.1 b = true := fun b hb hq => fc_grow e hb hq
        have h1 : b_X8_isConflict_14 c3 (l_X8_isConflict_14 c3 (n + 1 + j)) but ag ct more (nI i) τ = l_X8_isConflict_14 c3 (n + 1 + j) but ag ct (if q1.1 = τ.1 0 24 then more else nI 1) (nI (i + 1)) (setM τ q1) := by
          have h0 := isC_114 c3 (l_X8_isConflict_14 c3 (n + 1 + j)) but ag ct more i (decide (q1.1 = τ.1 0 24)) (setM τ q1) hm
          simp only [decide_eq_true_eq] at h0
          unfold b_X8_isConflict_14
          rw [hpl, hlv, hb1]
          simp (disch := omega) only [lit, pLeT, pLeF, pLtT, pLtF, pEqT, pEqF, nLeF, nLtF, nI_clamp, or_self, or_false, false_or, not_true_eq_false, not_false_eq_true, ↓reduceIte, nmS_eq, bd1_eq, bd2_eq, nI_add, pEqS, hb2, hf]
          exact h0
        rw [hl9, h1]
        have hm2 : (if q1.1 = τ.1 0 24 then more else nI 1) = nI 0 ∨ (if q1.1 = τ.1 0 24 then more else nI 1) = nI 1 := by
          split
          · exact hm
          · exact Or.inr rfl
        have h2 := ih (i + 1) (if q1.1 = τ.1 0 24 then more else nI 1) (setM τ q1) (by omega) (by rw [setM_2]; exact hl) hm2
        rw [setM_eta] at h2
        have e4 : clM (setM τ q1) = clM τ := by
          funext a v
          show (setM τ q1).2 _ _ = τ.2 _ _
          rw [setM_2]
        have e5 : dgM (setM τ q1) = dgM τ := by
          funext a
          show (setM τ q1).2 _ _ = τ.2 _ _
          rw [setM_2]
        rw [e4, e5] at h2
        simp only
        cases e6 : rdA (memM lv but) (clM τ) (dgM τ) j (i + 1) q1 with
        | none =>
          rw [e6] at h2
          obtain ⟨q, hq⟩ := h2
          exact ⟨q, by rw [hq, setM_M]⟩
        | some q =>
          rw [e6] at h2
          have h2 : l_X8_isConflict_14 c3 (n + 1 + j) but ag ct (if q1.1 = τ.1 0 24 then more else nI 1) (nI (i + 1)) (setM τ q1) = l_X8_isConflict_14 c3 (n + 1) but ag ct (if q.1 = (setM τ q1).1 0 24 then (if q1.1 = τ.1 0 24 then more else nI 1) else nI 1) (nI 30) (setM (setM τ q1) q) := h2
          show l_X8_isConflict_14 c3 (n + 1 + j) but ag ct (if q1.1 = τ.1 0 24 then more else nI 1) (nI (i + 1)) (setM τ q1) = _
          rw [h2, setM_M, setM_at4, mid_more (q := (τ.1 0 24, τ.1 0 25)) (q1 := q1) (q2 := q) hg1 (fun b hb hq => rdA_grow hb _ _ _ _ e6 hq)]
    · have hskip : b_X8_isConflict_14 c3 (l_X8_isConflict_14 c3 (n + 1 + j)) but ag ct more (nI i) τ = l_X8_isConflict_14 c3 (n + 1 + j) but ag ct more (nI (i + 1)) τ := by
        have hlv := e_X8_isLive τ hl hv (i := i) (by omega)
        unfold b_X8_isConflict_14
        by_cases hb2 : nI i = but
        · subst hb2
          simp (disch := omega) only [lit, pLeT, pLeF, pLtT, pLtF, pEqT, pEqF, nLeF, nLtF, nI_clamp, or_self, or_false, false_or, not_true_eq_false, not_false_eq_true, ↓reduceIte, nmS_eq, bd1_eq, bd2_eq, nI_add, pEqS]
          exact hsk
        · have hb1 : lv.testBit i = false := by
            cases hq : lv.testBit i
            · rfl
            · exact absurd (by unfold memM; rw [hq, decide_eq_false hb2]; rfl) hmem
          rw [hlv, hb1]
          simp (disch := omega) only [lit, pLeT, pLeF, pLtT, pLtF, pEqT, pEqF, nLeF, nLtF, nI_clamp, or_self, or_false, false_or, not_true_eq_false, not_false_eq_true, ↓reduceIte, nmS_eq, bd1_eq, bd2_eq, nI_add, pEqS, hb2, Bool.false_eq_true]
          exact hsk
      rw [if_neg hmem, hl9, hskip]
      exact ih (i + 1) more τ (by omega) hl hm
/-- the clause that goes along, where the flag is set -/
def fl2 (z : Bool) (c : Nat → Int64) : Nat → Int64 := if z then c else fun _ => 0
def fd2 (z : Bool) (d : Int64) : Int64 := if z then d else 0
theorem fc_fl (z : Bool) (c : Nat → Int64) (d : Int64) (q : Int32 × Int32) : fc (fl2 z c) (fd2 z d) q = if z then fc c d q else some q := by
  cases z
  · exact fc_0 q
  · rfl
/-- the end of the model's round: the two clauses that may go along -/
theorem l_X8_isConflict_out (c3 : Int32 → Int32 → Int32 → Int32 → Sto → Option (Int32 × Sto)) (but : Int32) (za zc : Bool) (n : Nat) (more : Int32) (τ : Sto) (hm : more = nI 0 ∨ more = nI 1) :
    (match fc (fl2 za (fun v => τ.2 13 (0 + 2 + v))) (fd2 za (τ.2 13 (0 + 1))) (τ.1 0 24, τ.1 0 25) with
    | none => ∃ q, l_X8_isConflict_14 c3 (n + 3) but (if za then nI 1 else nI 0) (if zc then nI 1 else nI 0) more (nI 30) τ = some (nI 1, setM τ q)
    | some q1 => match fc (fl2 zc (fun v => τ.2 14 (0 + 2 + v))) (fd2 zc (τ.2 14 (0 + 1))) q1 with
      | none => ∃ q, l_X8_isConflict_14 c3 (n + 3) but (if za then nI 1 else nI 0) (if zc then nI 1 else nI 0) more (nI 30) τ = some (nI 1, setM τ q)
      | some q2 => l_X8_isConflict_14 c3 (n + 3) but (if za then nI 1 else nI 0) (if zc then nI 1 else nI 0) more (nI 30) τ = c3 but (if za then nI 1 else nI 0) (if zc then nI 1 else nI 0) (if q2.1 = τ.1 0 24 then more else nI 1) (setM τ q2)) := by
  -- the clause at 30
  have hA : (match fc (fl2 za (fun v => τ.2 13 (0 + 2 + v))) (fd2 za (τ.2 13 (0 + 1))) (τ.1 0 24, τ.1 0 25) with
    | none => l_X8_isConflict_14 c3 (n + 3) but (if za then nI 1 else nI 0) (if zc then nI 1 else nI 0) more (nI 30) τ = some (nI 1, τ)
    | some q1 => l_X8_isConflict_14 c3 (n + 3) but (if za then nI 1 else nI 0) (if zc then nI 1 else nI 0) more (nI 30) τ = l_X8_isConflict_14 c3 (n + 2) but (if za then nI 1 else nI 0) (if zc then nI 1 else nI 0) (if q1.1 = τ.1 0 24 then more else nI 1) (nI 31) (setM τ q1)) := by
    have hl : l_X8_isConflict_14 c3 (n + 3) but (if za then nI 1 else nI 0) (if zc then nI 1 else nI 0) more (nI 30) τ = b_X8_isConflict_14 c3 (l_X8_isConflict_14 c3 (n + 2)) but (if za then nI 1 else nI 0) (if zc then nI 1 else nI 0) more (nI 30) τ := rfl
    rw [fc_fl, hl]
    cases za
    · show _ = l_X8_isConflict_14 c3 (n + 2) but (nI 0) (if zc then nI 1 else nI 0) (if τ.1 0 24 = τ.1 0 24 then more else nI 1) (nI 31) (setM τ (τ.1 0 24, τ.1 0 25))
      have h0 := isC_114 c3 (l_X8_isConflict_14 c3 (n + 2)) but (nI 0) (if zc then nI 1 else nI 0) more 30 true τ hm
      rw [setM_self, if_pos rfl]
      simp (disch := omega) only [b_X8_isConflict_14, b_X8_isConflict_67, b_X8_isConflict_92, lit, pLeT, pLeF, pLtT, pLtF, pEqT, pEqF, nLeF, nLtF, nI_clamp, or_self, or_false, false_or, not_true_eq_false, not_false_eq_true, ↓reduceIte, nmS_eq, bd1_eq, bd2_eq, nI_add, pEqS, Bool.false_eq_true]
      exact h0
    · have hf := e_X8_forces 13 10 0 (by omega) τ (by omega) (by omega)
      show (match fc (fun v => τ.2 13 (0 + 2 + v)) (τ.2 13 (0 + 1)) (τ.1 0 24, τ.1 0 25) with
        | none => _ = some (nI 1, τ)
        | some q1 => _ = l_X8_isConflict_14 c3 (n + 2) but (nI 1) (if zc then nI 1 else nI 0) (if q1.1 = τ.1 0 24 then more else nI 1) (nI 31) (setM τ q1))
      cases e : fc (fun v => τ.2 13 (0 + 2 + v)) (τ.2 13 (0 + 1)) (τ.1 0 24, τ.1 0 25) with
      | none =>
        rw [e] at hf
        simp (disch := omega) only [b_X8_isConflict_14, b_X8_isConflict_67, lit, pLeT, pLeF, pLtT, pLtF, pEqT, pEqF, nLeF, nLtF, nI_clamp, or_self, or_false, false_or, not_true_eq_false, not_false_eq_true, ↓reduceIte, nmS_eq, bd1_eq, bd2_eq, nI_add, pEqS, hf]
        exact isC_114n c3 _ but _ _ more (nI 30) τ
      | some q1 =>
        rw [e] at hf
        have h0 := isC_114 c3 (l_X8_isConflict_14 c3 (n + 2)) but (nI 1) (if zc then nI 1 else nI 0) more 30 (decide (q1.1 = τ.1 0 24)) (setM τ q1) hm
        simp only [decide_eq_true_eq] at h0
        simp (disch := omega) only [b_X8_isConflict_14, b_X8_isConflict_67, lit, pLeT, pLeF, pLtT, pLtF, pEqT, pEqF, nLeF, nLtF, nI_clamp, or_self, or_false, false_or, not_true_eq_false, not_false_eq_true, ↓reduceIte, nmS_eq, bd1_eq, bd2_eq, nI_add, pEqS, hf]
        exact h0
  -- the clause at 31
  have hB : ∀ (more : Int32) (τ : Sto), (more = nI 0 ∨ more = nI 1) → (match fc (fl2 zc (fun v => τ.2 14 (0 + 2 + v))) (fd2 zc (τ.2 14 (0 + 1))) (τ.1 0 24, τ.1 0 25) with
    | none => l_X8_isConflict_14 c3 (n + 2) but (if za then nI 1 else nI 0) (if zc then nI 1 else nI 0) more (nI 31) τ = some (nI 1, τ)
    | some q1 => l_X8_isConflict_14 c3 (n + 2) but (if za then nI 1 else nI 0) (if zc then nI 1 else nI 0) more (nI 31) τ = c3 but (if za then nI 1 else nI 0) (if zc then nI 1 else nI 0) (if q1.1 = τ.1 0 24 then more else nI 1) (setM τ q1)) := by
    intro more τ hm
    have hend : ∀ (more : Int32) (τ : Sto), l_X8_isConflict_14 c3 (n + 1) but (if za then nI 1 else nI 0) (if zc then nI 1 else nI 0) more (nI 32) τ = c3 but (if za then nI 1 else nI 0) (if zc then nI 1 else nI 0) more τ := by
      intro more τ
      show b_X8_isConflict_14 c3 (l_X8_isConflict_14 c3 n) but (if za then nI 1 else nI 0) (if zc then nI 1 else nI 0) more (nI 32) τ = _
      simp (disch := omega) only [b_X8_isConflict_14, lit, pLeT, pLeF, pLtT, pLtF, pEqT, pEqF, nLeF, nLtF, nI_clamp, or_self, or_false, false_or, not_true_eq_false, not_false_eq_true, ↓reduceIte, nmS_eq, bd1_eq, bd2_eq, nI_add, pEqS]
    have hl : l_X8_isConflict_14 c3 (n + 2) but (if za then nI 1 else nI 0) (if zc then nI 1 else nI 0) more (nI 31) τ = b_X8_isConflict_14 c3 (l_X8_isConflict_14 c3 (n + 1)) but (if za then nI 1 else nI 0) (if zc then nI 1 else nI 0) more (nI 31) τ := rfl
    rw [fc_fl, hl]
    cases zc
    · show _ = c3 but (if za then nI 1 else nI 0) (nI 0) (if τ.1 0 24 = τ.1 0 24 then more else nI 1) (setM τ (τ.1 0 24, τ.1 0 25))
      have h0 := isC_114 c3 (l_X8_isConflict_14 c3 (n + 1)) but (if za then nI 1 else nI 0) (nI 0) more 31 true τ hm
      have h1 : l_X8_isConflict_14 c3 (n + 1) but (if za then nI 1 else nI 0) (nI 0) more (nI 32) τ = c3 but (if za then nI 1 else nI 0) (nI 0) more τ := hend more τ
      rw [setM_self, if_pos rfl]
      simp (disch := omega) only [b_X8_isConflict_14, b_X8_isConflict_67, b_X8_isConflict_92, lit, pLeT, pLeF, pLtT, pLtF, pEqT, pEqF, nLeF, nLtF, nI_clamp, or_self, or_false, false_or, not_true_eq_false, not_false_eq_true, ↓reduceIte, nmS_eq, bd1_eq, bd2_eq, nI_add, pEqS, Bool.false_eq_true]
      exact h0.trans h1
    · have hf := e_X8_forces 14 10 0 (by omega) τ (by omega) (by omega)
      show (match fc (fun v => τ.2 14 (0 + 2 + v)) (τ.2 14 (0 + 1)) (τ.1 0 24, τ.1 0 25) with
        | none => _ = some (nI 1, τ)
        | some q1 => _ = c3 but (if za then nI 1 else nI 0) (nI 1) (if q1.1 = τ.1 0 24 then more else nI 1) (setM τ q1))
      cases e : fc (fun v => τ.2 14 (0 + 2 + v)) (τ.2 14 (0 + 1)) (τ.1 0 24, τ.1 0 25) with
      | none =>
        rw [e] at hf
        simp (disch := omega) only [b_X8_isConflict_14, b_X8_isConflict_67, b_X8_isConflict_92, lit, pLeT, pLeF, pLtT, pLtF, pEqT, pEqF, nLeF, nLtF, nI_clamp, or_self, or_false, false_or, not_true_eq_false, not_false_eq_true, ↓reduceIte, nmS_eq, bd1_eq, bd2_eq, nI_add, pEqS, hf]
        exact isC_114n c3 _ but _ _ more (nI 31) τ
      | some q1 =>
        rw [e] at hf
        have h0 := isC_114 c3 (l_X8_isConflict_14 c3 (n + 1)) but (if za then nI 1 else nI 0) (nI 1) more 31 (decide (q1.1 = τ.1 0 24)) (setM τ q1) hm
        simp only [decide_eq_true_eq] at h0
        have h1 := hend (if q1.1 = τ.1 0 24 then more else nI 1) (setM τ q1)
        simp (disch := omega) only [b_X8_isConflict_14, b_X8_isConflict_67, b_X8_isConflict_92, lit, pLeT, pLeF, pLtT, pLtF, pEqT, pEqF, nLeF, nLtF, nI_clamp, or_self, or_false, false_or, not_true_eq_false, not_false_eq_true, ↓reduceIte, nmS_eq, bd1_eq, bd2_eq, nI_add, pEqS, hf]
        exact h0.trans h1
  cases e : fc (fl2 za (fun v => τ.2 13 (0 + 2 + v))) (fd2 za (τ.2 13 (0 + 1))) (τ.1 0 24, τ.1 0 25) with
  | none =>
    rw [e] at hA
    exact ⟨(τ.1 0 24, τ.1 0 25), by rw [setM_self]; exact hA⟩
  | some q1 =>
    rw [e] at hA
    have hg1 : ∀ b, b < 32 → bt (τ.1 0 24) b = true → bt q1.1 b = true := fun b hb hq => fc_grow e hb hq
    have hm2 : (if q1.1 = τ.1 0 24 then more else nI 1) = nI 0 ∨ (if q1.1 = τ.1 0 24 then more else nI 1) = nI 1 := by
      split
      · exact hm
      · exact Or.inr rfl
    have h2 := hB (if q1.1 = τ.1 0 24 then more else nI 1) (setM τ q1) hm2
    rw [setM_eta, setM_2] at h2
    simp only at hA ⊢
    rw [hA]
    cases e2 : fc (fl2 zc (fun v => τ.2 14 (0 + 2 + v))) (fd2 zc (τ.2 14 (0 + 1))) q1 with
    | none =>
      rw [e2] at h2
      exact ⟨q1, h2⟩
    | some q2 =>
      rw [e2] at h2
      simp only at h2 ⊢
      rw [h2, setM_M, setM_at4, mid_more (q := (τ.1 0 24, τ.1 0 25)) (q1 := q1) (q2 := q2) hg1 (fun b hb hq => fc_grow e2 hb hq)]
/-- the model's rounds -/
theorem l_X8_isConflict (but : Int32) (za zc : Bool) (lv : Nat) (hv : lv < 2 ^ 30) (n : Nat) : ∀ (τ : Sto), τ.2 6 10 = lN lv → unk (τ.1 0 24) 8 < n →
    Out (l_X8_isConflict_3 (n + 1) but (if za then nI 1 else nI 0) (if zc then nI 1 else nI 0) (nI 1) τ) (setM τ) (itr (rnd (memM lv but) (clM τ) (dgM τ) 30 (fl2 za (fun v => τ.2 13 (0 + 2 + v))) (fd2 za (τ.2 13 (0 + 1))) (fl2 zc (fun v => τ.2 14 (0 + 2 + v))) (fd2 zc (τ.2 14 (0 + 1)))) n (τ.1 0 24, τ.1 0 25)) := by
  induction n with
  | zero => intro τ _ h; omega
  | succ n ih =>
    intro τ hl hu
    have hl3 : l_X8_isConflict_3 (n + 1 + 1) but (if za then nI 1 else nI 0) (if zc then nI 1 else nI 0) (nI 1) τ = l_X8_isConflict_14 (l_X8_isConflict_3 (n + 1)) 400 but (if za then nI 1 else nI 0) (if zc then nI 1 else nI 0) (nI 0) (nI 0) τ := by
      show b_X8_isConflict_3 (l_X8_isConflict_3 (n + 1)) but (if za then nI 1 else nI 0) (if zc then nI 1 else nI 0) (nI 1) τ = _
      simp (disch := omega) only [b_X8_isConflict_3, lit, pLeT, pLeF, pLtT, pLtF, pEqT, pEqF, nLeF, nLtF, nI_clamp, or_self, or_false, false_or, not_true_eq_false, not_false_eq_true, ↓reduceIte, nmS_eq, bd1_eq, bd2_eq, nI_add, pEqS]
    have hstop : ∀ τ, l_X8_isConflict_3 (n + 1) but (if za then nI 1 else nI 0) (if zc then nI 1 else nI 0) (nI 0) τ = some (nI 0, τ) := by
      intro τ
      show b_X8_isConflict_3 (l_X8_isConflict_3 n) but (if za then nI 1 else nI 0) (if zc then nI 1 else nI 0) (nI 0) τ = _
      simp (disch := omega) only [b_X8_isConflict_3, lit, pLeT, pLeF, pLtT, pLtF, pEqT, pEqF, nLeF, nLtF, nI_clamp, or_self, or_false, false_or, not_true_eq_false, not_false_eq_true, ↓reduceIte, nmS_eq, bd1_eq, bd2_eq, nI_add, pEqS]
    have hin := l_X8_isConflict_in (l_X8_isConflict_3 (n + 1)) but (if za then nI 1 else nI 0) (if zc then nI 1 else nI 0) 369 lv hv 30 0 (nI 0) τ (by omega) hl (Or.inl rfl)
    have hok := rnd_ok (memM lv but) (clM τ) (dgM τ) 30 (fl2 za (fun v => τ.2 13 (0 + 2 + v))) (fd2 za (τ.2 13 (0 + 1))) (fl2 zc (fun v => τ.2 14 (0 + 2 + v))) (fd2 zc (τ.2 14 (0 + 1)))
    rw [hl3]
    generalize hr : rnd (memM lv but) (clM τ) (dgM τ) 30 (fl2 za (fun v => τ.2 13 (0 + 2 + v))) (fd2 za (τ.2 13 (0 + 1))) (fl2 zc (fun v => τ.2 14 (0 + 2 + v))) (fd2 zc (τ.2 14 (0 + 1))) = rd at hok ⊢
    have hrq : rd (τ.1 0 24, τ.1 0 25) = (match rdA (memM lv but) (clM τ) (dgM τ) 30 0 (τ.1 0 24, τ.1 0 25) with
      | none => none
      | some q1 => match fc (fl2 za (fun v => τ.2 13 (0 + 2 + v))) (fd2 za (τ.2 13 (0 + 1))) q1 with
        | none => none
        | some q2 => fc (fl2 zc (fun v => τ.2 14 (0 + 2 + v))) (fd2 zc (τ.2 14 (0 + 1))) q2) := by
      rw [← hr]
      rfl
    show Out _ _ (match rd (τ.1 0 24, τ.1 0 25) with
      | none => none
      | some q1 => if q1.1 = τ.1 0 24 then some q1 else itr rd n q1)
    cases e : rdA (memM lv but) (clM τ) (dgM τ) 30 0 (τ.1 0 24, τ.1 0 25) with
    | none =>
      rw [e] at hin hrq
      rw [hrq]
      exact hin
    | some q =>
      rw [e] at hin hrq
      have hin : l_X8_isConflict_14 (l_X8_isConflict_3 (n + 1)) 400 but (if za then nI 1 else nI 0) (if zc then nI 1 else nI 0) (nI 0) (nI 0) τ = l_X8_isConflict_14 (l_X8_isConflict_3 (n + 1)) 370 but (if za then nI 1 else nI 0) (if zc then nI 1 else nI 0) (if q.1 = τ.1 0 24 then nI 0 else nI 1) (nI 30) (setM τ q) := hin
      have hg1 : ∀ b, b < 32 → bt (τ.1 0 24) b = true → bt q.1 b = true := fun b hb hq => rdA_grow hb _ _ _ _ e hq
      have hm2 : (if q.1 = τ.1 0 24 then nI 0 else nI 1) = nI 0 ∨ (if q.1 = τ.1 0 24 then nI 0 else nI 1) = nI 1 := by
        split
        · exact Or.inl rfl
        · exact Or.inr rfl
      have hout := l_X8_isConflict_out (l_X8_isConflict_3 (n + 1)) but za zc 367 (if q.1 = τ.1 0 24 then nI 0 else nI 1) (setM τ q) hm2
      rw [setM_eta, setM_2, ← hin] at hout
      simp only at hrq
      cases e2 : fc (fl2 za (fun v => τ.2 13 (0 + 2 + v))) (fd2 za (τ.2 13 (0 + 1))) q with
      | none =>
        rw [e2] at hout hrq
        rw [hrq]
        obtain ⟨q9, h9⟩ := hout
        exact ⟨q9, by rw [h9, setM_M]⟩
      | some q1 =>
        rw [e2] at hout hrq
        simp only at hout hrq
        cases e3 : fc (fl2 zc (fun v => τ.2 14 (0 + 2 + v))) (fd2 zc (τ.2 14 (0 + 1))) q1 with
        | none =>
          rw [e3] at hout hrq
          rw [hrq]
          obtain ⟨q9, h9⟩ := hout
          exact ⟨q9, by rw [h9, setM_M]⟩
        | some q2 =>
          rw [e3] at hout hrq
          simp only at hout
          have hg2 : ∀ b, b < 32 → bt q.1 b = true → bt q2.1 b = true := fun b hb hq => fc_grow e3 hb (fc_grow e2 hb hq)
          rw [setM_M, setM_at4, mid_more (q := (τ.1 0 24, τ.1 0 25)) (q1 := q) (q2 := q2) hg1 hg2] at hout
          have hk := hok _ _ hrq
          rw [hrq]
          show Out _ _ (if q2.1 = τ.1 0 24 then some q2 else itr rd n q2)
          simp only at hout
          by_cases e4 : q2.1 = τ.1 0 24
          · rw [if_pos e4] at hout ⊢
            show _ = some (nI 0, setM τ q2)
            rw [hout, hstop]
          · rw [if_neg e4] at hout ⊢
            have hx : ∃ k, k < 8 ∧ bt (τ.1 0 24) k = false ∧ bt q2.1 k = true := by
              apply Classical.byContradiction
              intro hn
              apply e4
              apply b_ext
              intro i hi
              by_cases h8 : i < 8
              · cases ha : bt (τ.1 0 24) i
                · cases hb : bt q2.1 i
                  · rfl
                  · exact absurd ⟨i, h8, ha, hb⟩ hn
                · exact hk.1 i hi ha
              · exact hk.2 i (by omega) hi
            obtain ⟨k, h8, ha, hb⟩ := hx
            have hlt := unk_lt hk.1 k ha hb 8 (by omega) h8
            have h2 := ih (setM τ q2) (by rw [setM_2]; exact hl) (by rw [setM_at4]; have hlt : unk q2.1 8 < unk (τ.1 0 24) 8 := hlt; omega)
            have e6 : clM (setM τ q2) = clM τ := by
              funext a v
              show (setM τ q2).2 _ _ = τ.2 _ _
              rw [setM_2]
            have e7 : dgM (setM τ q2) = dgM τ := by
              funext a
              show (setM τ q2).2 _ _ = τ.2 _ _
              rw [setM_2]
            rw [setM_eta, setM_2, e6, e7, hr] at h2
            rw [hout]
            revert h2
            unfold Out
            cases itr rd n q2 with
            | none =>
              intro h2
              obtain ⟨q9, h9⟩ := h2
              exact ⟨q9, by rw [h9, setM_M]⟩
            | some q9 =>
              intro h2
              show _ = some (nI 0, setM τ q9)
              have h2 : l_X8_isConflict_3 (n + 1) but (if za then nI 1 else nI 0) (if zc then nI 1 else nI 0) (nI 1) (setM τ q2) = some (nI 0, setM (setM τ q2) q9) := h2
              rw [h2, setM_M]
theorem e_X8_isConflict (but : Int32) (za zc : Bool) (lv : Nat) (hv : lv < 2 ^ 30) (τ : Sto) (hl : τ.2 6 10 = lN lv) : Out (f_X8_isConflict but (if za then nI 1 else nI 0) (if zc then nI 1 else nI 0) τ) (setM τ) (itr (rnd (memM lv but) (clM τ) (dgM τ) 30 (fl2 za (fun v => τ.2 13 (0 + 2 + v))) (fd2 za (τ.2 13 (0 + 1))) (fl2 zc (fun v => τ.2 14 (0 + 2 + v))) (fd2 zc (τ.2 14 (0 + 1)))) 9 (τ.1 0 24, τ.1 0 25)) := by
  have h8 := unk_le (τ.1 0 24) 8
  have h := l_X8_isConflict but za zc lv hv 399 τ hl (by omega)
  rw [← itr_stop (rnd_ok _ _ _ _ _ _ _ _) 9 399 _ (by show unk (τ.1 0 24) 8 < 9; omega) (by omega)] at h
  exact h
