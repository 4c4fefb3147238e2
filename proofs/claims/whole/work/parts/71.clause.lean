/-! ===== ints and longs as numbers ===== -/
theorem rngI (x : Int32) : -2147483648 ≤ x.toInt ∧ x.toInt < 2147483648 := by
  have h1 := Int32.le_toInt x
  have h2 := Int32.toInt_lt x
  omega
theorem rngL (x : Int64) : -9223372036854775808 ≤ x.toInt ∧ x.toInt < 9223372036854775808 := by
  have h1 := Int64.le_toInt x
  have h2 := Int64.toInt_lt x
  omega
theorem bmodL {z : Int} (h1 : -9223372036854775808 ≤ z) (h2 : z < 9223372036854775808) : z.bmod (2 ^ 64) = z := by
  rw [Int.bmod_eq_of_le (by omega) (by omega)]
theorem addL {x y : Int64} (h1 : -9223372036854775808 ≤ x.toInt + y.toInt) (h2 : x.toInt + y.toInt < 9223372036854775808) : (x + y).toInt = x.toInt + y.toInt := by
  rw [Int64.toInt_add, bmodL h1 h2]
theorem subL {x y : Int64} (h1 : -9223372036854775808 ≤ x.toInt - y.toInt) (h2 : x.toInt - y.toInt < 9223372036854775808) : (x - y).toInt = x.toInt - y.toInt := by
  rw [Int64.toInt_sub, bmodL h1 h2]
theorem negL {x : Int64} (h : x.toInt ≠ -9223372036854775808) : (-x).toInt = -x.toInt := by
  have := rngL x
  rw [Int64.toInt_neg, bmodL (by omega) (by omega)]
theorem toI0 : (0 : Int64).toInt = 0 := rfl
theorem toIM : (9223372036854775807 : Int64).toInt = 9223372036854775807 := by decide
theorem ltL (a b : Int64) : a < b ↔ a.toInt < b.toInt := Int64.lt_iff_toInt_lt
theorem leL (a b : Int64) : a ≤ b ↔ a.toInt ≤ b.toInt := Int64.le_iff_toInt_le
theorem eqL (a b : Int64) : a = b ↔ a.toInt = b.toInt := Int64.toInt_inj.symm
/-- not the least long -/
def ok (x : Int64) : Prop := x.toInt ≠ -9223372036854775808
theorem mabs_int {x : Int64} (h : ok x) : (mabs x).toInt = if 0 < x.toInt then x.toInt else -x.toInt := by
  unfold mabs
  by_cases q : (0 : Int64) < x
  · have q2 : 0 < x.toInt := (ltL _ _).mp q
    rw [if_pos q, if_pos q2]
  · have q2 : ¬ 0 < x.toInt := fun z => q ((ltL _ _).mpr z)
    rw [if_neg q, if_neg q2, negL h]
theorem mabs_nn {x : Int64} (h : ok x) : 0 ≤ (mabs x).toInt ∧ (mabs x).toInt ≤ 9223372036854775807 := by
  have := rngL x
  have h2 : x.toInt ≠ -9223372036854775808 := h
  rw [mabs_int h]
  split <;> omega
/-- adding what is not below 0 stays within a long -/
theorem le_room {s m : Int64} (hm : 0 ≤ m.toInt) : (s ≤ 9223372036854775807 - m) ↔ s.toInt + m.toInt ≤ 9223372036854775807 := by
  have h1 := rngL m
  rw [leL, subL (by rw [toIM]; omega) (by rw [toIM]; omega), toIM]
  omega
theorem le_room2 {s m : Int64} (hs : 0 ≤ s.toInt) (hm : 0 ≤ m.toInt) : (m ≤ 9223372036854775807 - s) ↔ (s ≤ 9223372036854775807 - m) := by
  rw [le_room hm, le_room hs]
  omega
/-! ===== the sum of a clause ===== -/
theorem totA_cong {c c' : Nat → Int64} : ∀ (j i : Nat) (s : Int64), i + j ≤ 8 → (∀ v, v < 8 → c v = c' v) → totA c j i s = totA c' j i s
  | 0, _, _, _, _ => rfl
  | j + 1, i, s, h, hc => by
    unfold totA
    rw [hc i (by omega), totA_cong j (i + 1) _ (by omega) hc]
theorem tot_cong {c c' : Nat → Int64} (hc : ∀ v, v < 8 → c v = c' v) : tot c = tot c' := totA_cong 8 0 0 (by omega) hc
/-- the numbers of a clause: none is the least long -/
def okC (c : Nat → Int64) : Prop := ∀ v, v < 8 → ok (c v)
def sumN (c : Nat → Int64) : Nat → Nat → Int
  | 0, _ => 0
  | j + 1, i => (mabs (c i)).toInt + sumN c j (i + 1)
theorem sumN_nn {c : Nat → Int64} (hc : okC c) : ∀ (j i : Nat), i + j ≤ 8 → 0 ≤ sumN c j i
  | 0, _, _ => Int.le_refl 0
  | j + 1, i, h => by
    have h1 := sumN_nn hc j (i + 1) (by omega)
    have h2 := (mabs_nn (hc i (by omega))).1
    unfold sumN
    omega
/-- the sum is what it is as a number, or it is told to be beyond -/
theorem totA_int {c : Nat → Int64} (hc : okC c) : ∀ (j i : Nat) (s : Int64), i + j ≤ 8 → 0 ≤ s.toInt → (s.toInt + sumN c j i ≤ 9223372036854775807 ∧ (totA c j i s).toInt = s.toInt + sumN c j i) ∨ (9223372036854775807 < s.toInt + sumN c j i ∧ totA c j i s = -1)
  | 0, i, s, h, hs => by
    have := rngL s
    left
    simp only [totA, sumN]
    omega
  | j + 1, i, s, h, hs => by
    have hm := mabs_nn (hc i (by omega))
    have hn := sumN_nn hc j (i + 1) (by omega)
    unfold totA sumN
    by_cases q : s ≤ 9223372036854775807 - mabs (c i)
    · rw [if_pos q]
      have q2 := (le_room hm.1).mp q
      have ha : (s + mabs (c i)).toInt = s.toInt + (mabs (c i)).toInt := addL (by omega) (by omega)
      rcases totA_int hc j (i + 1) (s + mabs (c i)) (by omega) (by omega) with z | z
      · left
        rw [z.2, ha]
        omega
      · right
        exact ⟨by omega, z.2⟩
    · rw [if_neg q]
      right
      have q2 : ¬ (s.toInt + (mabs (c i)).toInt ≤ 9223372036854775807) := fun w => q ((le_room hm.1).mpr w)
      exact ⟨by omega, rfl⟩
theorem tot_int {c : Nat → Int64} (hc : okC c) : (sumN c 8 0 ≤ 9223372036854775807 ∧ (tot c).toInt = sumN c 8 0) ∨ (9223372036854775807 < sumN c 8 0 ∧ tot c = -1) := by
  have h := totA_int hc 8 0 0 (by omega) (by decide)
  rw [toI0, Int.zero_add] at h
  exact h
theorem tot_neg {c : Nat → Int64} (hc : okC c) : tot c < 0 ↔ 9223372036854775807 < sumN c 8 0 := by
  have hn := sumN_nn hc 8 0 (by omega)
  rw [ltL, toI0]
  rcases tot_int hc with z | z
  · omega
  · rw [z.2]
    have : (-1 : Int64).toInt = -1 := by decide
    omega
