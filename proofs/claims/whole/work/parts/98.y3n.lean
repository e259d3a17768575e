/-! Days: first, from outside -/
theorem ite_same {α : Type} {p : Prop} [Decidable p] {a b : α} (h : b = a) : (if p then a else b) = a := by
  by_cases c : p
  · rw [if_pos c]
  · rw [if_neg c, h]
theorem ok17 : OK17 INV := by
  intro ns vi vl a0 a1 a2 h
  rcases out_ways h.1.1 h.1.2.1 h.1.2.2.1 a0 with ⟨j, hj, rfl, s1, s2⟩ | ⟨s1, s2⟩
  · rcases days_eq a1 with ⟨D, hD, rfl, d1, d2⟩ | ⟨d1, d2⟩
    · obtain ⟨n, wh, th, A, hA⟩ := da_start h hj
      by_cases c0 : 0 ≤ a2
      · by_cases c1 : a2 < nI D
        · have q0 := c0
          have q1 := c1
          rw [tle, l0] at q0
          rw [tlt, tnI (by omega)] at q1
          obtain ⟨k, hk, rfl⟩ := ex_nI (x := a2) (N := D) q0 q1 (by omega)
          obtain ⟨r, vi1, vl1, g1, g2, vi2, vl2, g3, g4⟩ := first_all hD hk hA
          refine ⟨r, vi1, vl1, ?_, vi2, vl2, ?_, g4.2.1⟩
          · unfold fX9_first
            rw [s1, Option.bind_some, optS_t, d1, Option.bind_some, if_pos rfl, if_pos c0, if_pos c1]
            exact g1
          · unfold fX10_first
            rw [sill_t g2.2.1 hj, Option.bind_some, if_pos rfl, d2, Option.bind_some, if_pos rfl, if_pos c0]
            exact g3
        · obtain ⟨vm, vl2, m1, m2, m3, m4, m5, m6⟩ := all_ways (D := D) hA hx0 hD
          refine ⟨-2, vi, vl, ?_, vm, vl2, ?_, m6.2.1⟩
          · unfold fX9_first
            rw [s1, Option.bind_some, optS_t, d1, Option.bind_some, if_pos rfl, if_pos c0, if_neg c1]
          · unfold fX10_first
            rw [s2, Option.bind_some, if_pos rfl, d2, Option.bind_some, if_pos rfl, if_pos c0, m1, Option.bind_some]
            exact ite_same (if_neg c1)
      · refine ⟨-1, vi, vl, ?_, vi, vl, ?_, h⟩
        · unfold fX9_first
          rw [s1, Option.bind_some, optS_t, d1, Option.bind_some, if_pos rfl, if_neg c0]
        · unfold fX10_first
          rw [s2, Option.bind_some, if_pos rfl, d2, Option.bind_some, if_pos rfl, if_neg c0]
    · refine ⟨-1, vi, vl, ?_, vi, vl, ?_, h⟩
      · unfold fX9_first
        rw [s1, Option.bind_some, optS_t, d1, Option.bind_some, if_neg (by exact Bool.noConfusion)]
      · unfold fX10_first
        rw [s2, Option.bind_some, if_pos rfl, d2, Option.bind_some, if_neg (by exact Bool.noConfusion)]
  · refine ⟨-1, vi, vl, ?_, vi, vl, ?_, h⟩
    · unfold fX9_first
      rw [s1, Option.bind_some, optS_f]
    · unfold fX10_first
      rw [s2, Option.bind_some, if_neg (by exact Bool.noConfusion)]
