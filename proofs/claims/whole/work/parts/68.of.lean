/-! of -/
def WP (o i : Nat) : Prop := o = 82 ∨ o = 83 ∨ (o = 63 ∧ (i = 29 ∨ i = 30))
theorem p_of {ns : Nat} {vi : VI} (hn : I_num ns vi) (hd : I_dust ns vi) (x1 x2 : Int32) : ∃ r, fX9_of ns x1 x2 vi = some r ∧ ∃ vi2, fX10_of x1 x2 vi = some (r, vi2) ∧ ∀ o i, ¬ WP o i → vi2 o i = vi o i := by
  have h5 := hn.1
  have n1 := hn.2.1
  have n2 := hn.2.2.1
  unfold fX9_of fX10_of
  rw [in_eq, l4, l5, Option.bind_some, isSill_eq h5 n2, sillAt_eq h5 n1]
  simp only [decide_eq_true_eq, Option.bind_some]
  rcases mendable h5 n1 n2 x1 x2 with ⟨ok, e1, e2⟩ | ⟨ok, e1, e2⟩
  · have nw : ¬ (4 ≤ x2.toInt ∧ x2.toInt ≤ 5) := by
      rcases ok with ⟨rfl | rfl, -⟩ | ⟨rfl, -⟩ | ⟨rfl, -⟩ <;> decide
    obtain ⟨x, y1, y2, -⟩ := numbers hn (vm := vi) (fun _ _ _ => rfl) ok
    rw [e1, e2, if_neg nw]
    simp only [Option.bind_some, if_true, y1, y2]
    exact ⟨_, rfl, vi, rfl, fun _ _ _ => rfl⟩
  · rw [e1, e2]
    simp only [Option.bind_some]
    rw [if_neg (by decide)]
    by_cases c : 0 ≤ x1.toInt ∧ x1.toInt < ns
    · obtain ⟨j, hj, rfl⟩ := ex_nI c.1 c.2 (by omega)
      rw [if_pos c]
      simp only [optS, nI_clamp (show j < 2 ^ 31 by omega)]
      by_cases c4 : 4 ≤ x2.toInt ∧ x2.toInt ≤ 5
      · rw [if_neg (by rw [tlt, l4]; omega), if_pos (by rw [tle, l5]; omega), if_pos c4, if_pos c]
        obtain ⟨n, vm', a1, a2, a3, a4⟩ := layNow_DP hd h5 hj (vm := vi) (fun _ _ _ => rfl)
        rw [a1]
        simp only [Option.bind_some]
        rw [show 98 + 5 * j + 1 = 99 + 5 * j by omega]
        by_cases c44 : x2 = 4
        · rw [if_pos c44, if_pos c44]
          refine ⟨_, rfl, vm', ?_, fun o i q => a4 o i (fun z => q (Or.inl z)) (fun z => q (Or.inr (Or.inl z))) (fun z => q (Or.inr (Or.inr z)))⟩
          rw [a2.2.2.1, a2.2.1]
        · rw [if_neg c44, if_neg c44]
          obtain ⟨s, -, -, s1, s2⟩ := allThick_both a2
          rw [s1, s2]
          exact ⟨_, rfl, vm', rfl, fun o i q => a4 o i (fun z => q (Or.inl z)) (fun z => q (Or.inr (Or.inl z))) (fun z => q (Or.inr (Or.inr z)))⟩
      · rw [if_neg c4]
        refine ⟨-1, ?_, vi, by rw [if_neg (by decide)], fun _ _ _ => rfl⟩
        by_cases c5 : x2 < 4
        · rw [if_pos c5]
        · rw [if_neg c5, if_neg (by rw [tle, l5]; rw [tlt, l4] at c5; omega)]
    · rw [if_neg c]
      simp only [optS]
      refine ⟨-1, rfl, vi, ?_, fun _ _ _ => rfl⟩
      split <;> rfl
