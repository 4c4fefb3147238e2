/-! ===== numbers, checks, loops ===== -/
theorem lit (n : Nat) : (OfNat.ofNat n : Int32) = nI n := Eq.trans (b := nI n) (Eq.refl _) (Eq.refl _)
theorem pLeT {a b : Nat} (h : a ≤ b) (hb : b < 2147483648) : (nI a ≤ nI b) = True := eq_true (nI_le h (by omega))
theorem pLeF {a b : Nat} (h : b < a) (hb : a < 2147483648) : (nI a ≤ nI b) = False := eq_false (nI_ge h (by omega))
theorem pLtT {a b : Nat} (h : a < b) (hb : b < 2147483648) : (nI a < nI b) = True := eq_true (nI_lt h (by omega))
theorem pLtF {a b : Nat} (h : b ≤ a) (hb : a < 2147483648) : (nI a < nI b) = False := eq_false (nI_nlt h (by omega))
theorem pEqT {a b : Nat} (h : a = b) : (nI a = nI b) = True := by rw [h]; exact eq_self _
theorem pEqF {a b : Nat} (h : a < b ∨ b < a) (ha : a < 2147483648) (hb : b < 2147483648) : (nI a = nI b) = False := eq_false (fun q => by have := (nI_eq (by omega) (by omega)).mp q; omega)
theorem nLeF {a b : Nat} (h : b < a) : (a ≤ b) = False := eq_false (by omega)
theorem nLtF {a b : Nat} (h : b ≤ a) : (a < b) = False := eq_false (by omega)
theorem nmS_eq {α β : Type} (a : α) (f : α → Option β) : nmS a f = f a := Eq.trans (b := f a) (Eq.refl _) (Eq.refl _)
theorem bd1_eq {β : Type} (s : Sto) (f : Sto → Option β) : bd1 (some s) f = f s := Eq.trans (b := f s) (Eq.refl _) (Eq.refl _)
theorem bd2_eq {α β : Type} (a : α) (s : Sto) (f : α → Sto → Option β) : bd2 (some (a, s)) f = f a s := Eq.trans (b := f a s) (Eq.refl _) (Eq.refl _)
theorem ite_sm {α β : Type} {c : Prop} [Decidable c] {a b : α} {s : β} : (if c then some (a, s) else some (b, s)) = some (if c then a else b, s) := by split <;> rfl
theorem pEqS (a : Nat) : (nI a = nI a) = True := eq_self _
/-! ===== Int32 by its bits (the kit's family) ===== -/
def bt (x : Int32) (i : Nat) : Bool := x.toBitVec.getLsbD i
theorem b_ext {x y : Int32} (h : ∀ i, i < 32 → bt x i = bt y i) : x = y := Int32.toBitVec_inj.mp (BitVec.eq_of_getLsbD_eq (fun i hi => h i hi))
theorem b_or (x y : Int32) (i : Nat) : bt (x ||| y) i = (bt x i || bt y i) := by unfold bt; rw [Int32.toBitVec_or, BitVec.getLsbD_or]
theorem b_and (x y : Int32) (i : Nat) : bt (x &&& y) i = (bt x i && bt y i) := by unfold bt; rw [Int32.toBitVec_and, BitVec.getLsbD_and]
theorem b_xor (x y : Int32) (i : Nat) : bt (x ^^^ y) i = (bt x i ^^ bt y i) := by unfold bt; rw [Int32.toBitVec_xor, BitVec.getLsbD_xor]
theorem b_big {x : Int32} {i : Nat} (h : 32 ≤ i) : bt x i = false := BitVec.getLsbD_of_ge _ _ h
theorem b_255 (i : Nat) : bt 255 i = decide (i < 8) := by
  rcases Nat.lt_or_ge i 32 with h | h
  · exact (by decide +kernel : ∀ i, i < 32 → bt 255 i = decide (i < 8)) i h
  · rw [b_big h, decide_eq_false (by omega)]
theorem b_65535 (i : Nat) : bt 65535 i = decide (i < 16) := by
  rcases Nat.lt_or_ge i 32 with h | h
  · exact (by decide +kernel : ∀ i, i < 32 → bt 65535 i = decide (i < 16)) i h
  · rw [b_big h, decide_eq_false (by omega)]
theorem b_m1 : ∀ i, i < 32 → bt (-1) i = true := by decide +kernel
theorem b_0 (i : Nat) : bt 0 i = false := BitVec.getLsbD_zero
theorem s_l : ∀ n, n < 32 → ((nI n &&& 31).toBitVec.smod 32).toNat = n := by decide +kernel
theorem s_u : ∀ n, n < 32 → (((nI n).toUInt32 &&& Int32.toUInt32 31).toBitVec % 32).toNat = n := by decide +kernel
theorem b_shl (n : Nat) (hn : n < 32) (x : Int32) {i : Nat} (hi : i < 32) : bt (x <<< (nI n &&& 31)) i = (decide (n ≤ i) && bt x (i - n)) := by
  unfold bt
  rw [Int32.toBitVec_shiftLeft]
  show (x.toBitVec <<< ((nI n &&& 31).toBitVec.smod 32).toNat).getLsbD i = _
  rw [s_l n hn, BitVec.getLsbD_shiftLeft]
  rcases Nat.lt_or_ge i n with h | h
  · simp [h, Nat.not_le.mpr h]
  · simp [hi, h, Nat.not_lt.mpr h]
theorem b_ushr (n : Nat) (hn : n < 32) (x : Int32) (i : Nat) : bt ((x.toUInt32 >>> ((nI n).toUInt32 &&& Int32.toUInt32 31)).toInt32) i = bt x (n + i) := by
  show (x.toUInt32 >>> ((nI n).toUInt32 &&& Int32.toUInt32 31)).toBitVec.getLsbD i = x.toUInt32.toBitVec.getLsbD (n + i)
  rw [UInt32.toBitVec_shiftRight]
  show (x.toUInt32.toBitVec >>> (((nI n).toUInt32 &&& Int32.toUInt32 31).toBitVec % 32).toNat).getLsbD i = _
  rw [s_u n hn, BitVec.getLsbD_ushiftRight]
theorem b_sshr (n : Nat) (hn : n < 32) (x : Int32) {i : Nat} (hi : i < 32) : bt (x >>> (nI n &&& 31)) i = if n + i < 32 then bt x (n + i) else bt x 31 := by
  unfold bt
  rw [Int32.toBitVec_shiftRight]
  show (x.toBitVec.sshiftRight ((nI n &&& 31).toBitVec.smod 32).toNat).getLsbD i = _
  rw [s_l n hn, BitVec.getLsbD_sshiftRight, BitVec.msb_eq_getLsbD_last]
  simp [hi]
theorem nI1_bt (i : Nat) : bt (nI 1) i = decide (i = 0) := by
  rcases Nat.lt_or_ge i 32 with h | h
  · exact (by decide +kernel : ∀ i, i < 32 → bt (nI 1) i = decide (i = 0)) i h
  · rw [b_big h, decide_eq_false (by omega)]
theorem and1 (x : Int32) : x &&& nI 1 = if bt x 0 then nI 1 else nI 0 := by
  apply b_ext
  intro i hi
  rw [b_and, nI1_bt]
  by_cases e : i = 0
  · subst e
    cases h : bt x 0 <;> simp [nI1_bt, show bt (nI 0) 0 = false from b_0 0]
  · cases h : bt x 0 <;> simp [nI1_bt, e, show bt (nI 0) i = false from b_0 i]
/-- one bit, by the unsigned and by the signed shift -/
theorem ub (x : Int32) {i : Nat} (h : i < 32) : ((x.toUInt32 >>> ((nI i).toUInt32 &&& (nI 31).toUInt32)).toInt32 &&& nI 1) = if bt x i then nI 1 else nI 0 := by
  rw [and1]
  have e := b_ushr i h x 0
  rw [Nat.add_zero] at e
  rw [show ((x.toUInt32 >>> ((nI i).toUInt32 &&& (nI 31).toUInt32)).toInt32) = ((x.toUInt32 >>> ((nI i).toUInt32 &&& Int32.toUInt32 31)).toInt32) from rfl, e]
theorem sb (x : Int32) {i : Nat} (h : i < 32) : ((x >>> (nI i &&& nI 31)) &&& nI 1) = if bt x i then nI 1 else nI 0 := by
  rw [and1]
  have e := b_sshr i h x (i := 0) (by omega)
  rw [Nat.add_zero, if_pos h] at e
  rw [show (x >>> (nI i &&& nI 31)) = (x >>> (nI i &&& 31)) from rfl, e]
theorem iE1 {b : Bool} : ((if b then nI 1 else nI 0) = nI 1) = (b = true) := by
  cases b <;> simp [show ¬ (nI 0 = nI 1) by decide]
theorem iE0 {b : Bool} : ((if b then nI 1 else nI 0) = nI 0) = (b = false) := by
  cases b <;> simp [show ¬ (nI 1 = nI 0) by decide]
def totA (c : Nat → Int64) : Nat → Nat → Int64 → Int64
  | 0, _, s => s
  | j + 1, i, s => if s ≤ 9223372036854775807 - mabs (c i) then totA c j (i + 1) (s + mabs (c i)) else -1
def tot (c : Nat → Int64) : Int64 := totA c 8 0 0
theorem l_X3_total (k : Nat) (σ : Sto) (n : Nat) : ∀ (j i : Nat) (s : Int64), i + j = 8 → l_X3_total_4 k (n + 1 + j) s (nI i) σ = some (totA (σ.2 (k + 1)) j i s, σ)
  | 0, i, s, h => by
    have e : i = 8 := by omega
    subst e
    show b_X3_total_4 _ k s (nI 8) σ = _
    unfold b_X3_total_4
    simp (disch := omega) only [lit, pLeT, pLeF, pLtT, pLtF, pEqT, pEqF, nLeF, nLtF, nI_clamp, or_self, or_false, false_or, not_true_eq_false, not_false_eq_true, ↓reduceIte, nmS_eq, bd1_eq, bd2_eq, nI_add, pEqS, totA]
  | j + 1, i, s, h => by
    show b_X3_total_4 (l_X3_total_4 k (n + 1 + j)) k s (nI i) σ = _
    unfold b_X3_total_4
    simp (disch := omega) only [lit, pLeT, pLeF, pLtT, pLtF, pEqT, pEqF, nLeF, nLtF, nI_clamp, or_self, or_false, false_or, not_true_eq_false, not_false_eq_true, ↓reduceIte, nmS_eq, bd1_eq, bd2_eq, nI_add, pEqS, totA, l_X3_total k σ n j (i + 1), ite_sm]
theorem e_X3_total (k : Nat) (σ : Sto) : f_X3_total k σ = some (tot (σ.2 (k + 1)), σ) := by
  show l_X3_total_4 k (391 + 1 + 8) 0 (nI 0) σ = _
  exact l_X3_total k σ 391 8 0 0 rfl
theorem e_X8_size (x : Int64) (σ : Sto) : f_X8_size x σ = some (mabs x, σ) := by
  unfold f_X8_size b_X8_size_12 mabs
  by_cases h : (0 : Int64) < x
  · rw [if_pos h, if_pos (Int64.le_of_lt h)]
  · rw [if_neg h]
    by_cases h2 : (0 : Int64) ≤ x
    · have e : x = 0 := Int64.le_antisymm (Int64.not_lt.mp h) h2
      subst e
      rfl
    · rw [if_neg h2]
theorem le_cm (s m : Int64) : (m ≤ 9223372036854775807 - s) = (m ≤ 9223372036854775807 - s) := rfl
