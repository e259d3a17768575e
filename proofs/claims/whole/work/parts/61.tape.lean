/-! THE TAPE -/
def I_tape (vi : VI) : Prop := ∃ n : Nat, n ≤ 120 ∧ vi 3 1 = nI n ∧ vi 63 16 = nI n ∧ ∀ i, i < n → rng (vi 4 i) 0 255 ∧ vi 74 i = (vi 4 i).toInt8.toInt32
theorem tape_frame {vi vi' : VI} (h : I_tape vi) (hf : ∀ o i, (o = 3 ∧ i = 1) ∨ (o = 63 ∧ i = 16) ∨ o = 4 ∨ o = 74 → vi' o i = vi o i) : I_tape vi' := by
  obtain ⟨n, h1, h2, h3, h4⟩ := h
  refine ⟨n, h1, ?_, ?_, fun i hi => ?_⟩
  · rw [hf 3 1 (by omega)]; exact h2
  · rw [hf 63 16 (by omega)]; exact h3
  · rw [hf 4 i (by omega), hf 74 i (by omega)]; exact h4 i hi
theorem p_feed {vi : VI} (h : I_tape vi) (x : Int32) : ∃ r vi1, fX9_feed x vi = some (r, vi1) ∧ ∃ vi2, fX10_feed x vi1 = some (r, vi2) ∧ I_tape vi2 ∧ ∀ o i, ¬ (o = 3 ∧ i = 1) → ¬ (o = 63 ∧ i = 16) → o ≠ 4 → o ≠ 74 → vi2 o i = vi o i := by
  obtain ⟨n, h1, h2, h3, h4⟩ := h
  unfold fX9_feed
  rw [within_eq, Option.bind_some, l255]
  by_cases c : 0 ≤ x.toInt ∧ x.toInt ≤ 255
  · rw [if_pos (by simp [c])]
    unfold fX8_add
    rw [h2]
    by_cases c2 : n < 120
    · rw [if_pos (by rw [tlt, tnI (by omega), l120]; omega), if_inb (by rw [tnI (by omega)]; omega), nI_clamp (by omega)]
      simp only [Option.bind_some, if_true]
      refine ⟨_, _, rfl, ?_⟩
      unfold fX10_feed
      rw [in_eq, Option.bind_some, l255, l0, if_pos (by simp [c])]
      simp (disch := decide) only [up_o, up_s, h2, h3]
      rw [if_neg (by rw [teq, tnI (by omega), l120]; omega), if_inb (by rw [tnI (by omega)]; omega)]
      simp (disch := decide) only [nI_clamp (show n < 2 ^ 31 by omega), up_o, up_s, nI_1, h3]
      refine ⟨_, rfl, ⟨n + 1, by omega, ?_, up_s, fun i hi => ?_⟩, fun o i q1 q2 q3 q4 => ?_⟩
      · simp (disch := decide) only [up_o, up_s]
      · by_cases ci : i = n
        · subst ci
          have a4 : (j_up (j_up (j_up (j_up vi 4 i x) 3 1 (nI (i + 1))) 74 i x.toInt8.toInt32.toInt8.toInt32) 63 16 (nI (i + 1))) 4 i = x := by simp [up_at]
          have a74 : (j_up (j_up (j_up (j_up vi 4 i x) 3 1 (nI (i + 1))) 74 i x.toInt8.toInt32.toInt8.toInt32) 63 16 (nI (i + 1))) 74 i = x.toInt8.toInt32 := by simp [up_at]
          rw [a4, a74]
          exact ⟨c, rfl⟩
        · have a4 : (j_up (j_up (j_up (j_up vi 4 n x) 3 1 (nI (n + 1))) 74 n x.toInt8.toInt32.toInt8.toInt32) 63 16 (nI (n + 1))) 4 i = vi 4 i := by simp [up_at, ci]
          have a74 : (j_up (j_up (j_up (j_up vi 4 n x) 3 1 (nI (n + 1))) 74 n x.toInt8.toInt32.toInt8.toInt32) 63 16 (nI (n + 1))) 74 i = vi 74 i := by simp [up_at, ci]
          rw [a4, a74]
          exact h4 i (by omega)
      · rw [up_at, if_neg q2, up_o q4, up_at, if_neg q1, up_o q3]
    · have : n = 120 := by omega
      subst this
      rw [if_neg (by rw [tlt, tnI (by omega), l120]; omega)]
      simp only [Option.bind_some]
      refine ⟨_, _, by rw [if_neg (by decide)], vi, ?_, ⟨120, h1, h2, h3, h4⟩, fun _ _ _ _ _ _ => rfl⟩
      unfold fX10_feed
      rw [in_eq, Option.bind_some, l255, l0, if_pos (by simp [c]), h3, if_pos (show nI 120 = 120 from rfl)]
  · rw [if_neg (by simp only [decide_eq_true_eq]; exact c)]
    refine ⟨_, _, rfl, vi, ?_, ⟨n, h1, h2, h3, h4⟩, fun _ _ _ _ _ _ => rfl⟩
    unfold fX10_feed
    rw [in_eq, Option.bind_some, l255, l0, if_neg (by simp only [decide_eq_true_eq]; exact c)]
theorem p_count {ns : Nat} {vi : VI} (hn : I_num ns vi) (hg : I_chg ns vi) (ht : I_tape vi) (hb : I_body vi) (hr : I_trace vi) (x : Int32) : ∃ r, fX9_count x vi = some r ∧ fX10_count x vi = some r := by
  obtain ⟨-, n1, n2, -⟩ := hn
  obtain ⟨d, u, -, g1, -, g2, -⟩ := hg
  obtain ⟨n, -, t1, t2, -⟩ := ht
  obtain ⟨b, -, b1, b2, -⟩ := hb
  obtain ⟨r, -, r1, r2, -⟩ := hr
  unfold fX9_count fX10_count
  rw [n1, n2, g1, g2, t1, t2, b1, b2, r1, r2]
  by_cases c0 : x = 0
  · simp only [c0, if_true]; exact ⟨_, rfl, rfl⟩
  · by_cases c1 : x = 1
    · simp only [c1]; exact ⟨_, rfl, rfl⟩
    · by_cases c2 : x = 2
      · simp only [c2]; exact ⟨_, rfl, rfl⟩
      · by_cases c3 : x = 3
        · simp only [c3]; exact ⟨_, rfl, rfl⟩
        · by_cases c4 : x = 4
          · simp only [c4]; exact ⟨_, rfl, rfl⟩
          · rw [if_neg c0, if_neg c1, if_neg c2, if_neg c3, if_neg c4]; exact ⟨_, rfl, rfl⟩
