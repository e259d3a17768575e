/-! ACTS: both -/
theorem act_fin {vi : VI} {l : List Int32} (hl : l.length ≤ 100) : I_trace (l.foldl (stp 63 47 93) (j_up (l.foldl (stp 47 3 49) (j_up vi 47 3 0)) 63 47 0)) ∧ ∀ o i, ¬ (o = 47 ∧ i = 3) → o ≠ 49 → ¬ (o = 63 ∧ i = 47) → o ≠ 93 → (l.foldl (stp 63 47 93) (j_up (l.foldl (stp 47 3 49) (j_up vi 47 3 0)) 63 47 0)) o i = vi o i := by
  obtain ⟨a1, a2, a3⟩ := fold_t (oc := 47) (ic := 3) (ot := 49) (by decide) l 0 (j_up vi 47 3 0) (by rw [up_s]; rfl) (by omega)
  obtain ⟨b1, b2, b3⟩ := fold_t (oc := 63) (ic := 47) (ot := 93) (by decide) l 0 (j_up (l.foldl (stp 47 3 49) (j_up vi 47 3 0)) 63 47 0) (by rw [up_s]; rfl) (by omega)
  refine ⟨⟨l.length, by omega, ?_, ?_, fun k hk hk2 => ?_⟩, fun o i g1 g2 g3 g4 => ?_⟩
  · rw [b3 47 3 (by omega) (by decide), up_o (by decide), a1]; congr 1; omega
  · rw [b1]; congr 1; omega
  · rw [b3 49 k (by omega) (by decide), up_o (by decide), a2 k hk2, b2 k hk2, if_pos (by omega), if_pos (by omega)]
  · rw [b3 o i g3 g4, up_at, if_neg g3, a3 o i g1 g2, up_at, if_neg g1]
theorem has_eq {vi : VI} {n : Nat} {x : Int32} (h : vi 47 1 = nI n) (hn : n ≤ 50) : fX0_has x vi = some (decide (0 ≤ x.toInt ∧ x.toInt < n)) := by
  unfold fX0_has
  rw [h]
  simp only [tlt, tle, l0, l50, tnI (show n < 2147483648 by omega)]
  split
  · simp; omega
  · split
    · simp; omega
    · split
      · simp; omega
      · simp; omega
theorem isBody_eq {vi : VI} {n : Nat} {x : Int32} (h : vi 63 45 = nI n) (hn : n ≤ 50) : fX10_isBody x vi = some (decide (0 ≤ x.toInt ∧ x.toInt < n)) := by
  unfold fX10_isBody
  rw [h, in_eq]
  have e : (nI n - 1 : Int32).toInt = n - 1 := by rw [tsub (by rw [tnI (by omega), l1]; omega) (by rw [tnI (by omega), l1]; omega), tnI (by omega), l1]
  simp only [Option.bind_some, l0, e]
  simp; omega
theorem tLn (k : Nat) : (tL k).length ≤ 100 := by
  have h1 := rLn k
  have h2 := fLn k
  unfold tL
  split
  · decide
  · decide
  · simp only [List.length_cons, List.length_append]; omega
theorem p_act {vi : VI} (h : I_body vi) (x1 x2 x3 : Int32) : ∃ r vi1, fX9_act x1 x2 x3 vi = some (r, vi1) ∧ ∃ vi2, fX10_act x1 x2 x3 vi1 = some (r, vi2) ∧ I_trace vi2 ∧ ∀ o i, ¬ (o = 47 ∧ i = 3) → o ≠ 49 → ¬ (o = 63 ∧ i = 47) → o ≠ 93 → vi2 o i = vi o i := by
  obtain ⟨n, hn, h1, h2, h3⟩ := h
  unfold fX9_act
  rw [has_eq (n := n) (by rw [up_i (by decide)]; exact h1) hn]
  simp only [Option.bind_some, within_eq, decide_eq_true_eq, l3]
  have emp := act_fin (vi := vi) (l := []) (by decide)
  by_cases c1 : 0 ≤ x1.toInt ∧ x1.toInt < n
  · rw [if_pos c1]
    by_cases c2 : 0 ≤ x2.toInt ∧ x2.toInt ≤ 3
    · rw [if_pos c2]
      obtain ⟨b, hb, rfl⟩ := ex_nI (x := x1) (N := n) c1.1 c1.2 (by omega)
      obtain ⟨a, ha, rfl⟩ := ex_nI (x := x2) (N := 4) c2.1 (by omega) (by omega)
      obtain ⟨e1, e2⟩ := h3 b hb
      obtain ⟨k, hk, ek⟩ := ex_nI (x := vi 92 b) (N := 8) e2.1 (by have := e2.2; omega) (by omega)
      have e48 : (j_up vi 47 3 0) 48 b = nI k := by rw [up_o (by decide), e1, ek]
      have hm : (j_up vi 47 3 0) 47 3 = nI 0 := up_s
      rw [if_inb (by rw [tnI (by omega)]; omega), nI_clamp (by omega), e48, bindEta]
      have ten : ∀ {l : List Int32} {v : Int32} {r : Option (Int32 × VI)}, l.length ≤ 100 → r = some (v, l.foldl (stp 47 3 49) (j_up vi 47 3 0)) → (∀ vi' : VI, vi' 92 b = nI k → vi' 63 47 = nI 0 → vi' 63 45 = nI n → fX10_act (nI b) (nI a) x3 vi' = some (v, l.foldl (stp 63 47 93) (j_up vi' 63 47 0))) → ∃ r1 vi1, r = some (r1, vi1) ∧ ∃ vi2, fX10_act (nI b) (nI a) x3 vi1 = some (r1, vi2) ∧ I_trace vi2 ∧ ∀ o i, ¬ (o = 47 ∧ i = 3) → o ≠ 49 → ¬ (o = 63 ∧ i = 47) → o ≠ 93 → vi2 o i = vi o i := by
        sorry
      sorry
    · rw [if_neg c2]
      refine ⟨_, _, rfl, j_up (j_up vi 47 3 0) 63 47 0, ?_, emp⟩
      unfold fX10_act
      rw [isBody_eq (n := n) (by rw [up_i (by decide), up_o (by decide)]; exact h2) hn, in_eq]
      simp only [Option.bind_some, decide_eq_true_eq, l3, l0]
      rw [if_pos c1, if_neg c2]
  · rw [if_neg c1]
    refine ⟨_, _, rfl, j_up (j_up vi 47 3 0) 63 47 0, ?_, emp⟩
    unfold fX10_act
    rw [isBody_eq (n := n) (by rw [up_i (by decide), up_o (by decide)]; exact h2) hn]
    simp only [Option.bind_some, decide_eq_true_eq]
    rw [if_neg c1]
