/-! ===== all calls; the two new stores ===== -/
theorem all_R : EqAll RR := ⟨s_row, s_set, s_copy, s_drop, s_feed, s_formula, s_fault, s_plus, s_times, s_split, s_saturate, s_weaken, s_axiom, s_claim, s_witness, s_solution, s_remove, s_undo, s_degree, s_coefficient, s_sum, s_slack, s_forced, s_solutions, s_holds, s_follows, s_verdict, s_price, s_image, s_restore, s_kind, s_as, s_ask, s_trace, s_count, s_status⟩
theorem new_nm : ∀ a, a < 30 → σX.1 (36 + 2 * a) 1 = nI a := by decide +kernel
theorem new_rw : ∀ r, r < 8 → τM.1 1 r = -nI 1000000 ∧ σX.1 12 r = -nI 1 := by decide +kernel
theorem new_im : ∀ k, k < 2 → σX.1 (97 + 63 * k) 2 = nI 0 ∧ τM.1 10 k = nI 0 := by decide +kernel
theorem new_pr : ∀ v, v < 8 → σX.1 (33 + 2) v = nI 0 ∧ τM.2 6 v = lN 0 := by decide +kernel
theorem new_i : σX.1 0 7 = nI 0 ∧ τM.1 0 4 = nI 0 ∧ σX.1 13 3 = nI 0 ∧ τM.1 0 6 = nI 0 ∧ σX.1 13 7 = nI 0 ∧ τM.1 0 7 = nI 0 ∧ σX.1 33 2 = nI 0 ∧ σX.1 33 3 = nI 0 ∧ σX.1 33 4 = nI 0 ∧ σX.1 33 5 = -nI 1000000 ∧ σX.1 223 3 = nI 0 ∧ σX.1 223 4 = nI 0 ∧ τM.1 0 16 = nI 0 ∧ σX.1 236 1 = nI 0 ∧ τM.1 0 27 = nI 0 := by decide +kernel
theorem new_l : τM.2 6 9 = lN 0 ∧ τM.2 6 10 = lN 0 ∧ τM.2 6 8 = (-nI 1000000).toInt64 ∧ τM.2 6 11 = 0 := by decide +kernel
theorem new_R : RR σX τM := by
  obtain ⟨i1, i2, i3, i4, i5, i6, i7, i8, i9, i10, i11, i12, i13, i14, i15⟩ := new_i
  obtain ⟨l1, l2, l3, l4⟩ := new_l
  refine ⟨0, 0, by rw [i1, i2], fun r hr => Or.inl (new_rw r hr), ⟨0, by omega, i3, i4, fun i hi => by omega⟩, by rw [i5, i6], Or.inl i7, i8, i9, ⟨by omega, by decide, l1, l2, by rw [i10]; exact l3, ?_, fun v hv => ⟨0, by omega, (new_pr v hv).1, (new_pr v hv).2⟩, fun a ha => by omega⟩, fun k hk => Or.inl (new_im k hk), ⟨0, 0, fun _ => 0, fun _ => 0, by omega, by omega, i11, i12, i13, fun i hi => by omega, fun i j _ hj => by omega⟩, new_nm, ⟨rfl, fun v _ => rfl⟩, ⟨0, by omega, i14, i15, fun i hi => by omega⟩⟩
  rw [i7, if_neg (by decide)]
  exact l4
