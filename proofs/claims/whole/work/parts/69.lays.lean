/-! lays; whom and how much a LOOKING tells -/
theorem whom_eq {x : Int32} (h : 0 ≤ x.toInt ∧ x.toInt ≤ 65) : ∃ w : Nat, w < 6 ∧ fX9_whomOf x = some (nI w) ∧ fX10_whomIn x = some (nI w) := by
  obtain ⟨k, hk, rfl⟩ := ex_nI (x := x) (N := 66) h.1 (by omega) (by omega)
  unfold fX9_whomOf fX10_whomIn
  have : ∀ k : Nat, k < 66 → ∃ w : Nat, w < 6 ∧ (if 60 ≤ nI k then some (nI k - 60) else some (nI k / 10)) = some (nI w) := by
    intro k hk
    refine ⟨if 60 ≤ k then k - 60 else k / 10, by split <;> omega, ?_⟩
    revert k
    decide
  obtain ⟨w, w1, w2⟩ := this k hk
  exact ⟨w, w1, w2, w2⟩
theorem much_eq {vi vm : VI} (hp : ∀ p, p < 6 → vi 2 p = vi 66 p ∧ rng (vi 66 p) 0 9) (hv : ∀ p, p < 6 → vm 66 p = vi 66 p) {x : Int32} (h : 0 ≤ x.toInt ∧ x.toInt ≤ 65) : ∃ w : Nat, w < 10 ∧ fX9_muchOf x vi = some (nI w) ∧ fX10_muchIn x vm = some (nI w) := by
  obtain ⟨k, hk, rfl⟩ := ex_nI (x := x) (N := 66) h.1 (by omega) (by omega)
  unfold fX9_muchOf fX10_muchIn
  by_cases c : 60 ≤ k
  · obtain ⟨p, rfl⟩ : ∃ p, k = 60 + p := ⟨k - 60, by omega⟩
    have e : (nI (60 + p) - 60 : Int32) = nI p := by
      rw [teq, tsub (by rw [tnI (by omega), l60]; omega) (by rw [tnI (by omega), l60]; omega), tnI (by omega), l60, tnI (by omega)]; omega
    obtain ⟨g1, g2⟩ := hp p (by omega)
    obtain ⟨w, hw, ew⟩ := ex_nI (x := vi 66 p) (N := 10) g2.1 (by have := g2.2; omega) (by omega)
    have b6 : 0 ≤ (nI p).toInt ∧ (nI p).toInt < (6 : Nat) := by rw [tnI (by omega)]; omega
    have c6 : (60 : Int32) ≤ nI (60 + p) := by rw [tle, l60, tnI (by omega)]; omega
    simp only [if_pos c6, e, if_inb b6, nI_clamp (show p < 2 ^ 31 by omega), hv p (by omega), g1, ew]
    exact ⟨w, hw, rfl, rfl⟩
  · rw [if_neg (by rw [tle, l60, tnI (by omega)]; omega), if_neg (by rw [tle, l60, tnI (by omega)]; omega)]
    have : ∀ k : Nat, k < 66 → nI k - nI k / 10 * 10 = nI (k % 10) := by decide
    rw [this k hk]
    exact ⟨k % 10, by omega, rfl, rfl⟩
theorem p_lays {ns : Nat} {vi : VI} (hl : I_law vi) (hn : I_num ns vi) (hc : I_cache ns vi) (hd : I_dust ns vi) (x1 x2 : Int32) : ∃ r vi1, fX9_lays ns x1 x2 vi = some (r, vi1) ∧ ∃ vi2, fX10_lays x1 x2 vi1 = some (r, vi2) ∧ I_cache ns vi2 ∧ ∀ o i, ¬ (o = 5 ∧ i = 5) → o ≠ 7 → o ≠ 8 → o ≠ 80 → o ≠ 81 → ¬ (102 ≤ o ∧ o % 5 = 2) → vi2 o i = vi o i := by
  have h5 := hn.1
  have n1 := hn.2.1
  have n2 := hn.2.2.1
  have np := hn.2.2.2.2.1
  unfold fX9_lays
  rw [sillAt_eq h5 n1]
  simp only [Option.bind_some, looking9_eq]
  by_cases c : 0 ≤ x1.toInt ∧ x1.toInt < ns
  · rw [if_pos c]
    simp only [optS]
    obtain ⟨j, hj, rfl⟩ := ex_nI c.1 c.2 (by omega)
    have cj : (nI j).toNatClampNeg = j := nI_clamp (by omega)
    have bj : 0 ≤ (nI j).toInt ∧ (nI j).toInt < (5 : Nat) := by omega
    by_cases c2 : 0 ≤ x2.toInt ∧ x2.toInt ≤ 65
    · rw [if_pos (by simp only [decide_eq_true_eq]; exact c2), cj]
      obtain ⟨w, w1, w2, w3⟩ := whom_eq c2
      obtain ⟨m, m1, m2', -⟩ := much_eq (vm := vi) np (fun _ _ => rfl) c2
      obtain ⟨n, d1, d2, d3, d4⟩ := hd j hj
      rw [w2, m2']
      simp only [Option.bind_some]
      rw [show 98 + 5 * j + 1 = 99 + 5 * j by omega, d2]
      obtain ⟨r, vi1, a1, a2, a3, a4, a5⟩ := p_gives hl hn hc hj (ly := n) d1 w1 m1
      rw [a1]
      refine ⟨r, vi1, rfl, ?_⟩
      obtain ⟨m', m1', -, m3⟩ := much_eq (vm := vi1) np (fun p _ => a3 66 p (by omega) (by omega) (by omega) (by omega)) c2
      have em : m' = m := by
        obtain ⟨m'', -, q1, q2⟩ := much_eq (vm := vi1) np (fun p _ => a3 66 p (by omega) (by omega) (by omega) (by omega)) c2
        have e1 := Option.some.inj (q1.symm.trans m2')
        have e2 := Option.some.inj (q2.symm.trans m3)
        have e3 := e2.symm.trans e1
        rw [teq, tnI (by omega), tnI (by omega)] at e3
        omega
      subst em
      unfold fX10_lays
      rw [isSill_eq h5 (by rw [a3 63 1 (by omega) (by omega) (by omega) (by omega)]; exact n2), in_eq]
      simp only [Option.bind_some, decide_eq_true_eq, l0, l65]
      rw [if_pos c, if_pos c2, w3, m3]
      simp only [Option.bind_some]
      rw [if_inb bj, cj, a3 67 j (by omega) (by omega) (by omega) (by omega), d3]
      obtain ⟨vi2, b1, b2⟩ := a5 vi1 ⟨(a3 _ _ (by omega) (by omega) (by omega) (by omega)).symm, (a3 _ _ (by omega) (by omega) (by omega) (by omega)).symm, (a3 _ _ (by omega) (by omega) (by omega) (by omega)).symm, (a3 _ _ (by omega) (by omega) (by omega) (by omega)).symm, fun o i p q => (a3 o i (by omega) (by omega) (by omega) (by omega)).symm⟩
      rw [b1]
      refine ⟨vi2, rfl, cache_frame a4 (fun t _ => ⟨(b2 _ _ (by omega) (by omega)).symm, (b2 _ _ (by omega) (by omega)).symm, (b2 _ _ (by omega) (by omega)).symm, (b2 _ _ (by omega) (by omega)).symm, fun o i p q => (b2 o i (by omega) (by omega)).symm⟩) (fun t i _ _ => Or.inl (b2 _ _ (by omega) (by omega))), fun o i q1 q2 q3 q4 q5 q6 => by rw [b2 o i q4 q5, a3 o i q1 q2 q3 (by omega)]⟩
    · rw [if_neg (by simp only [decide_eq_true_eq]; exact c2)]
      refine ⟨_, _, rfl, vi, ?_, hc, fun _ _ _ _ _ _ _ _ => rfl⟩
      unfold fX10_lays
      rw [isSill_eq h5 n2, in_eq]
      simp only [Option.bind_some, decide_eq_true_eq, l0, l65]
      rw [if_pos c, if_neg c2]
  · rw [if_neg c]
    refine ⟨_, _, rfl, vi, ?_, hc, fun _ _ _ _ _ _ _ _ => rfl⟩
    unfold fX10_lays
    rw [isSill_eq h5 n2]
    simp only [Option.bind_some, decide_eq_true_eq]
    rw [if_neg c]
