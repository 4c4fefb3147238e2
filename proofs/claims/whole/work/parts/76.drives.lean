/-! ===== forced by many clauses, round by round ===== -/
theorem fc_grow {c : Nat → Int64} {d : Int64} {q q' : Int32 × Int32} (h : fc c d q = some q') {b : Nat} (hb : b < 32) (hq : bt q.1 b = true) : bt q'.1 b = true := by
  unfold fc at h
  split at h
  · cases h
    exact fcA_bit _ _ b hb 8 0 _ _ (by omega) hq
  · cases h
def rdA (mem : Nat → Bool) (C : Nat → Nat → Int64) (D : Nat → Int64) : Nat → Nat → Int32 × Int32 → Option (Int32 × Int32)
  | 0, _, q => some q
  | j + 1, i, q => if mem i = true then (match fc (C i) (D i) q with
      | none => none
      | some q1 => rdA mem C D j (i + 1) q1) else rdA mem C D j (i + 1) q
theorem rdA_grow {mem : Nat → Bool} {C : Nat → Nat → Int64} {D : Nat → Int64} {b : Nat} (hb : b < 32) (j : Nat) : ∀ (i : Nat) (q q' : Int32 × Int32), rdA mem C D j i q = some q' → bt q.1 b = true → bt q'.1 b = true := by
  induction j with
  | zero =>
    intro i q q' h hq
    cases h
    exact hq
  | succ j ih =>
    intro i q q' h hq
    unfold rdA at h
    split at h
    · cases e : fc (C i) (D i) q with
      | none =>
        rw [e] at h
        cases h
      | some q1 =>
        rw [e] at h
        exact ih _ _ _ h (fc_grow e hb hq)
    · exact ih _ _ _ h hq
theorem rdA_cong {mem mem' : Nat → Bool} {C C' : Nat → Nat → Int64} {D D' : Nat → Int64} (j : Nat) : ∀ (i : Nat) (q : Int32 × Int32), (∀ a, i ≤ a → a < i + j → mem a = mem' a ∧ (mem a = true → D a = D' a ∧ ∀ v, v < 8 → C a v = C' a v)) → rdA mem C D j i q = rdA mem' C' D' j i q := by
  induction j with
  | zero => intros; rfl
  | succ j ih =>
    intro i q h
    have h0 := h i (Nat.le_refl i) (by omega)
    unfold rdA
    rw [← h0.1]
    by_cases e : mem i = true
    · rw [if_pos e, if_pos e, fc_cong (c := C i) (c' := C' i) _ _ (h0.2 e).2, (h0.2 e).1]
      cases fc (C' i) (D' i) q with
      | none => rfl
      | some q1 => exact ih _ _ (fun a h1 h2 => h a (by omega) (by omega))
    · rw [if_neg e, if_neg e]
      exact ih _ _ (fun a h1 h2 => h a (by omega) (by omega))
theorem rdA_skip {mem : Nat → Bool} {C : Nat → Nat → Int64} {D : Nat → Int64} (j : Nat) : ∀ (i : Nat) (q : Int32 × Int32), (∀ a, i ≤ a → a < i + j → mem a = false) → rdA mem C D j i q = some q := by
  induction j with
  | zero => intros; rfl
  | succ j ih =>
    intro i q h
    unfold rdA
    rw [if_neg (by rw [h i (Nat.le_refl i) (by omega)]; decide)]
    exact ih _ _ (fun a h1 h2 => h a (by omega) (by omega))
theorem rdA_s (mem : Nat → Bool) (C : Nat → Nat → Int64) (D : Nat → Int64) (j i : Nat) (q : Int32 × Int32) : rdA mem C D (j + 1) i q = if mem i = true then (match fc (C i) (D i) q with
      | none => none
      | some q1 => rdA mem C D j (i + 1) q1) else rdA mem C D j (i + 1) q := rfl
theorem rdA_app {mem : Nat → Bool} {C : Nat → Nat → Int64} {D : Nat → Int64} (j2 : Nat) (j : Nat) : ∀ (i : Nat) (q : Int32 × Int32), rdA mem C D (j + j2) i q = (rdA mem C D j i q).bind (fun q1 => rdA mem C D j2 (i + j) q1) := by
  induction j with
  | zero =>
    intro i q
    rw [Nat.zero_add]
    rfl
  | succ j ih =>
    intro i q
    rw [show j + 1 + j2 = (j + j2) + 1 by omega, rdA_s, rdA_s]
    by_cases e : mem i = true
    · rw [if_pos e, if_pos e]
      cases fc (C i) (D i) q with
      | none => rfl
      | some q1 =>
        show rdA mem C D (j + j2) (i + 1) q1 = (rdA mem C D j (i + 1) q1).bind _
        rw [ih, show i + 1 + j = i + (j + 1) by omega]
    · rw [if_neg e, if_neg e, ih, show i + 1 + j = i + (j + 1) by omega]
/-- rounds, as long as something becomes known -/
def itr (rd : Int32 × Int32 → Option (Int32 × Int32)) : Nat → Int32 × Int32 → Option (Int32 × Int32)
  | 0, q => some q
  | n + 1, q => match rd q with
    | none => none
    | some q1 => if q1.1 = q.1 then some q1 else itr rd n q1
/-- how many of the eight are not known -/
def unk (kn : Int32) : Nat → Nat
  | 0 => 0
  | n + 1 => unk kn n + (if bt kn n = true then 0 else 1)
theorem unk_le (kn : Int32) (n : Nat) : unk kn n ≤ n := by
  induction n with
  | zero => exact Nat.le_refl 0
  | succ n ih =>
    unfold unk
    split <;> omega
theorem unk_mono {a b : Int32} (h : ∀ i, i < 32 → bt a i = true → bt b i = true) (n : Nat) (hn : n ≤ 32) : unk b n ≤ unk a n := by
  induction n with
  | zero => exact Nat.le_refl 0
  | succ n ih =>
    have h1 := ih (by omega)
    have h2 := h n (by omega)
    unfold unk
    by_cases ha : bt a n = true
    · rw [if_pos ha, if_pos (h2 ha)]
      omega
    · rw [if_neg ha]
      split <;> omega
theorem unk_lt {a b : Int32} (h : ∀ i, i < 32 → bt a i = true → bt b i = true) (k : Nat) (hk : bt a k = false) (hk2 : bt b k = true) (n : Nat) (hn : n ≤ 32) (hkn : k < n) : unk b n < unk a n := by
  induction n with
  | zero => omega
  | succ n ih =>
    unfold unk
    by_cases e : k = n
    · subst e
      have h1 := unk_mono h k (by omega)
      rw [if_pos hk2, if_neg (by rw [hk]; decide)]
      omega
    · have h1 := ih (by omega) (by omega)
      have h2 := h n (by omega)
      by_cases ha : bt a n = true
      · rw [if_pos ha, if_pos (h2 ha)]
        omega
      · rw [if_neg ha]
        split <;> omega
/-- a round keeps what is known, and makes known only among the eight -/
def okR (rd : Int32 × Int32 → Option (Int32 × Int32)) : Prop := ∀ q q', rd q = some q' → (∀ i, i < 32 → bt q.1 i = true → bt q'.1 i = true) ∧ (∀ i, 8 ≤ i → i < 32 → bt q'.1 i = bt q.1 i)
theorem itr_stop {rd : Int32 × Int32 → Option (Int32 × Int32)} (h : okR rd) (n : Nat) : ∀ (m : Nat) (q : Int32 × Int32), unk q.1 8 < n → n ≤ m → itr rd n q = itr rd m q := by
  induction n with
  | zero => intro m q h1; omega
  | succ n ih =>
    intro m q h1 h2
    obtain ⟨m, rfl⟩ : ∃ z, m = z + 1 := ⟨m - 1, by omega⟩
    unfold itr
    cases e : rd q with
    | none => rfl
    | some q1 =>
      show (if q1.1 = q.1 then some q1 else itr rd n q1) = (if q1.1 = q.1 then some q1 else itr rd m q1)
      by_cases e1 : q1.1 = q.1
      · rw [if_pos e1, if_pos e1]
      · rw [if_neg e1, if_neg e1]
        have hk := h q q1 e
        refine ih m q1 ?_ (by omega)
        have hx : ∃ k, k < 8 ∧ bt q.1 k = false ∧ bt q1.1 k = true := by
          apply Classical.byContradiction
          intro hn
          apply e1
          apply b_ext
          intro i hi
          by_cases h8 : i < 8
          · cases ha : bt q.1 i
            · cases hb : bt q1.1 i
              · rfl
              · exact absurd ⟨i, h8, ha, hb⟩ hn
            · exact hk.1 i hi ha
          · exact hk.2 i (by omega) hi
        obtain ⟨k, h8, ha, hb⟩ := hx
        have := unk_lt hk.1 k ha hb 8 (by omega) h8
        omega
theorem fcA_hi (c : Nat → Int64) (sl : Int64) (b : Nat) (h8 : 8 ≤ b) (hb : b < 32) (j : Nat) : ∀ (i : Nat) (kn va : Int32), i + j ≤ 8 → bt (fcA c sl j i kn va).1 b = bt kn b := by
  induction j with
  | zero => intros; rfl
  | succ j ih =>
    intro i kn va hi
    unfold fcA
    split
    · exact ih _ _ _ (by omega)
    · rw [ih _ _ _ (by omega), or_one (by omega) hb, decide_eq_false (by omega), Bool.or_false]
theorem fc_hi {c : Nat → Int64} {d : Int64} {q q' : Int32 × Int32} (h : fc c d q = some q') {b : Nat} (h8 : 8 ≤ b) (hb : b < 32) : bt q'.1 b = bt q.1 b := by
  unfold fc at h
  split at h
  · cases h
    exact fcA_hi _ _ b h8 hb 8 0 _ _ (by omega)
  · cases h
theorem rdA_hi {mem : Nat → Bool} {C : Nat → Nat → Int64} {D : Nat → Int64} {b : Nat} (h8 : 8 ≤ b) (hb : b < 32) (j : Nat) : ∀ (i : Nat) (q q' : Int32 × Int32), rdA mem C D j i q = some q' → bt q'.1 b = bt q.1 b := by
  induction j with
  | zero =>
    intro i q q' h
    cases h
    rfl
  | succ j ih =>
    intro i q q' h
    unfold rdA at h
    split at h
    · cases e : fc (C i) (D i) q with
      | none =>
        rw [e] at h
        cases h
      | some q1 =>
        rw [e] at h
        rw [ih _ _ _ h, fc_hi e h8 hb]
    · exact ih _ _ _ h
/-- one round: the members below u, one beside them, one last -/
def rnd (mem : Nat → Bool) (C : Nat → Nat → Int64) (D : Nat → Int64) (u : Nat) (cb : Nat → Int64) (db : Int64) (cl : Nat → Int64) (dl : Int64) (q : Int32 × Int32) : Option (Int32 × Int32) :=
  match rdA mem C D u 0 q with
  | none => none
  | some q1 => match fc cb db q1 with
    | none => none
    | some q2 => fc cl dl q2
theorem rnd_ok (mem : Nat → Bool) (C : Nat → Nat → Int64) (D : Nat → Int64) (u : Nat) (cb : Nat → Int64) (db : Int64) (cl : Nat → Int64) (dl : Int64) : okR (rnd mem C D u cb db cl dl) := by
  intro q q' h
  unfold rnd at h
  cases e : rdA mem C D u 0 q with
  | none =>
    rw [e] at h
    cases h
  | some q1 =>
    rw [e] at h
    simp only at h
    cases e2 : fc cb db q1 with
    | none =>
      rw [e2] at h
      cases h
    | some q2 =>
      rw [e2] at h
      exact ⟨fun i hi hq => fc_grow h hi (fc_grow e2 hi (rdA_grow hi _ _ _ _ e hq)), fun i h8 hi => by rw [fc_hi h h8 hi, fc_hi e2 h8 hi, rdA_hi h8 hi _ _ _ _ e]⟩
/-- a clause of nothing forces nothing -/
theorem slkA_0 (kn va : Int32) (j : Nat) : ∀ (i : Nat) (s : Int64), slkA (fun _ => 0) kn va j i s = s := by
  induction j with
  | zero => intros; rfl
  | succ j ih =>
    intro i s
    unfold slkA
    rw [ih, mabs0, addz, ite_self]
theorem fcA_0 (j : Nat) : ∀ (i : Nat) (kn va : Int32), fcA (fun _ => 0) 0 j i kn va = (kn, va) := by
  induction j with
  | zero => intros; rfl
  | succ j ih =>
    intro i kn va
    unfold fcA
    rw [if_pos (Or.inr (by rw [mabs0]; exact Int64.le_refl 0)), ih]
theorem fc_0 (q : Int32 × Int32) : fc (fun _ => 0) 0 q = some q := by
  have e : slk (fun _ => 0) 0 q.1 q.2 = 0 := by
    unfold slk
    rw [slkA_0]
    decide
  unfold fc
  rw [e, if_pos (Int64.le_refl 0), fcA_0]
