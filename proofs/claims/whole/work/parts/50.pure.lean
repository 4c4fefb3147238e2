/-! ===== numbers, checks, loops ===== -/
theorem lit (n : Nat) : (OfNat.ofNat n : Int32) = nI n := rfl
theorem nI_0i : nI 0 = nI 0 := rfl
theorem pLeT {a b : Nat} (h : a ≤ b) (hb : b < 2147483648) : (nI a ≤ nI b) = True := eq_true (nI_le h (by omega))
theorem pLeF {a b : Nat} (h : b < a) (hb : a < 2147483648) : (nI a ≤ nI b) = False := eq_false (nI_ge h (by omega))
theorem pLtT {a b : Nat} (h : a < b) (hb : b < 2147483648) : (nI a < nI b) = True := eq_true (nI_lt h (by omega))
theorem pLtF {a b : Nat} (h : b ≤ a) (hb : a < 2147483648) : (nI a < nI b) = False := eq_false (nI_nlt h (by omega))
theorem pEqT {a b : Nat} (h : a = b) : (nI a = nI b) = True := by rw [h]; exact eq_self _
theorem pEqF {a b : Nat} (h : a < b ∨ b < a) (ha : a < 2147483648) (hb : b < 2147483648) : (nI a = nI b) = False := eq_false (fun q => by have := (nI_eq (by omega) (by omega)).mp q; omega)
theorem nLeF {a b : Nat} (h : b < a) : (a ≤ b) = False := eq_false (by omega)
theorem nLtF {a b : Nat} (h : b ≤ a) : (a < b) = False := eq_false (by omega)
theorem nmS_eq {α β : Type} (a : α) (f : α → Option β) : nmS a f = f a := rfl
theorem bd1_eq {β : Type} (s : Sto) (f : Sto → Option β) : bd1 (some s) f = f s := rfl
theorem bd2_eq {α β : Type} (a : α) (s : Sto) (f : α → Sto → Option β) : bd2 (some (a, s)) f = f a s := rfl
theorem ite_sm {α β : Type} {c : Prop} [Decidable c] {a b : α} {s : β} : (if c then some (a, s) else some (b, s)) = some (if c then a else b, s) := by split <;> rfl
def totA (c : Nat → Int64) : Nat → Nat → Int64 → Int64
  | 0, _, s => s
  | j + 1, i, s => if s ≤ 9223372036854775807 - mabs (c i) then totA c j (i + 1) (s + mabs (c i)) else -1
def tot (c : Nat → Int64) : Int64 := totA c 8 0 0
theorem l_X3_total (k : Nat) (σ : Sto) (n : Nat) : ∀ (j i : Nat) (s : Int64), i + j = 8 → l_X3_total_4 k (n + 1 + j) s (nI i) σ = some (totA (σ.2 (k + 1)) j i s, σ)
  | 0, i, s, h => by
    have e : i = 8 := by omega
    subst e
    show b_X3_total_4 _ k s (nI 8) σ = _
    unfold b_X3_total_4
    simp (disch := omega) only [lit, pLeT, pLeF, pLtT, pLtF, pEqT, pEqF, nLeF, nLtF, nI_clamp, or_self, or_false, false_or, not_true_eq_false, not_false_eq_true, ↓reduceIte, nmS_eq, bd1_eq, bd2_eq, nI_add, nI_0i, totA]
  | j + 1, i, s, h => by
    show b_X3_total_4 (l_X3_total_4 k (n + 1 + j)) k s (nI i) σ = _
    unfold b_X3_total_4
    simp (disch := omega) only [lit, pLeT, pLeF, pLtT, pLtF, pEqT, pEqF, nLeF, nLtF, nI_clamp, or_self, or_false, false_or, not_true_eq_false, not_false_eq_true, ↓reduceIte, nmS_eq, bd1_eq, bd2_eq, nI_add, nI_0i, totA, l_X3_total k σ n j (i + 1), ite_sm]
