/-! THE START holds all -/
set_option maxRecDepth 100000 in
theorem s_0 : stB.2.1 0 1 = nI 0 := by decide +kernel
set_option maxRecDepth 100000 in
theorem s_1 : stB.2.1 63 1 = nI 0 := by decide +kernel
set_option maxRecDepth 100000 in
theorem s_2 : ∀ p, p < 6 → stB.2.1 2 p = stB.2.1 66 p ∧ 0 ≤ (stB.2.1 66 p).toInt ∧ (stB.2.1 66 p).toInt ≤ 9 := by decide +kernel
set_option maxRecDepth 100000 in
theorem s_3 : stB.2.1 5 2 = stB.2.1 63 5 ∧ 0 ≤ (stB.2.1 63 5).toInt ∧ (stB.2.1 63 5).toInt ≤ 3 := by decide +kernel
set_option maxRecDepth 100000 in
theorem s_4 : stB.2.1 42 4 = nI 0 ∧ stB.2.1 42 5 = nI (0 + 0) ∧ stB.2.1 63 9 = nI 0 ∧ stB.2.1 63 10 = nI 0 := by decide +kernel
set_option maxRecDepth 100000 in
theorem s_5 : stB.2.1 24 2 = 0 ∧ stB.2.1 63 39 = 0 ∧ ∀ i, i < 5 → stB.2.1 (27 + 3 * i) 2 = 0 := by decide +kernel
set_option maxRecDepth 100000 in
theorem s_6 : ∀ k, k < 5 → stB.2.1 23 k = stB.2.1 87 k := by decide +kernel
set_option maxRecDepth 100000 in
theorem s_7 : stB.2.1 47 1 = nI 0 ∧ stB.2.1 63 45 = nI 0 := by decide +kernel
set_option maxRecDepth 100000 in
theorem s_8 : stB.2.1 47 3 = nI 0 ∧ stB.2.1 63 47 = nI 0 := by decide +kernel
set_option maxRecDepth 100000 in
theorem s_9 : ∀ s, s < 6 → stB.2.1 (51 + 2 * s) 0 = 0 ∧ stB.2.1 94 s = -1 ∧ stB.2.1 (51 + 2 * s) 3 = nI 0 ∧ stB.2.1 95 s = nI 0 := by decide +kernel
set_option maxRecDepth 100000 in
theorem s_10 : ∀ s, s < 6 → ∀ k, k < 60 → stB.2.2 (51 + 2 * s + 1) k = stB.2.2 96 (60 * s + k) := by decide +kernel
set_option maxRecDepth 100000 in
theorem s_11 : stB.2.1 3 1 = nI 0 ∧ stB.2.1 63 16 = nI 0 := by decide +kernel
set_option maxRecDepth 100000 in
theorem s_12 : stB.2.1 63 28 = 0 ∧ stB.2.1 5 1 = 0 := by decide +kernel
theorem inv_start : INV 0 stB.2.1 stB.2.2 := by
  refine ⟨⟨by omega, s_0, s_1, fun j hj => absurd hj (by omega), fun p hp => ?_, s_3.1, s_3.2⟩, fun j hj => absurd hj (by omega), ⟨0, 0, by omega, s_4.1, s_4.2.1, s_4.2.2.1, s_4.2.2.2, fun i hi => absurd hi (by omega)⟩, fun j hj => absurd hj (by omega), Or.inl s_5, s_6, ⟨0, by omega, s_7.1, s_7.2, fun k hk => absurd hk (by omega)⟩, ⟨0, by omega, s_8.1, s_8.2, fun k hk => absurd hk (by omega)⟩, fun s hs => ⟨Or.inl ⟨(s_9 s hs).1, (s_9 s hs).2.1⟩, ⟨0, by omega, (s_9 s hs).2.2.1, (s_9 s hs).2.2.2⟩, s_10 s hs⟩, fun s hs w => ?_, ⟨0, by omega, s_11.1, s_11.2, fun i hi => absurd hi (by omega)⟩, Or.inl s_12⟩
  · exact ⟨(s_2 p hp).1, (s_2 p hp).2⟩
  · rw [(s_9 s hs).1] at w
    exact absurd w (by decide)
