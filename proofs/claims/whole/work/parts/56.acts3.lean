/-! ACTS: both -/
theorem act_fin {vi : VI} {l : List Int32} (hl : l.length ≤ 100) : I_trace (l.foldl (stp 63 47 93) (j_up (l.foldl (stp 47 3 49) (j_up vi 47 3 0)) 63 47 0)) ∧ ∀ o i, ¬ (o = 47 ∧ i = 3) → o ≠ 49 → ¬ (o = 63 ∧ i = 47) → o ≠ 93 → (l.foldl (stp 63 47 93) (j_up (l.foldl (stp 47 3 49) (j_up vi 47 3 0)) 63 47 0)) o i = vi o i := by
  obtain ⟨a1, a2, a3⟩ := fold_t (oc := 47) (ic := 3) (ot := 49) (by decide) l 0 (j_up vi 47 3 0) (by rw [up_s]; rfl) (by omega)
  obtain ⟨b1, b2, b3⟩ := fold_t (oc := 63) (ic := 47) (ot := 93) (by decide) l 0 (j_up (l.foldl (stp 47 3 49) (j_up vi 47 3 0)) 63 47 0) (by rw [up_s]; rfl) (by omega)
  refine ⟨⟨l.length, by omega, ?_, ?_, fun k hk hk2 => ?_⟩, fun o i g1 g2 g3 g4 => ?_⟩
  · rw [b3 47 3 (by omega) (by decide), up_o (by decide), a1]; congr 1; omega
  · rw [b1]; congr 1; omega
  · rw [b3 49 k (by omega) (by decide), up_o (by decide), a2 k hk2, b2 k hk2, if_pos (by omega), if_pos (by omega)]
  · rw [b3 o i g3 g4, up_at, if_neg g3, a3 o i g1 g2, up_at, if_neg g1]
theorem has_eq {vi : VI} {n : Nat} {x : Int32} (h : vi 47 1 = nI n) (hn : n ≤ 50) : fX0_has x vi = some (decide (0 ≤ x.toInt ∧ x.toInt < n)) := by
  unfold fX0_has
  rw [h]
  simp only [tlt, tle, l0, l50, tnI (show n < 2147483648 by omega)]
  split
  · simp; omega
  · split
    · simp; omega
    · split
      · simp; omega
      · simp; omega
theorem isBody_eq {vi : VI} {n : Nat} {x : Int32} (h : vi 63 45 = nI n) (hn : n ≤ 50) : fX10_isBody x vi = some (decide (0 ≤ x.toInt ∧ x.toInt < n)) := by
  unfold fX10_isBody
  rw [h, in_eq]
  have e : (nI n - 1 : Int32).toInt = n - 1 := by rw [tsub (by rw [tnI (by omega), l1]; omega) (by rw [tnI (by omega), l1]; omega), tnI (by omega), l1]
  rw [Option.bind_some, e, l0]
  congr 1
  rw [decide_eq_decide]
  omega
theorem tLn (k : Nat) : (tL k).length ≤ 100 := by
  have h1 := rLn k
  have h2 := fLn k
  unfold tL
  split
  · decide
  · decide
  · simp only [List.length_cons, List.length_append]; omega
theorem p_act {vi : VI} (h : I_body vi) (x1 x2 x3 : Int32) : ∃ r vi1, fX9_act x1 x2 x3 vi = some (r, vi1) ∧ ∃ vi2, fX10_act x1 x2 x3 vi1 = some (r, vi2) ∧ I_trace vi2 ∧ ∀ o i, ¬ (o = 47 ∧ i = 3) → o ≠ 49 → ¬ (o = 63 ∧ i = 47) → o ≠ 93 → vi2 o i = vi o i := by
  obtain ⟨n, hn, h1, h2, h3⟩ := h
  unfold fX9_act
  rw [has_eq (n := n) (by rw [up_i (by decide)]; exact h1) hn]
  simp only [Option.bind_some, within_eq, decide_eq_true_eq, l3]
  have emp := act_fin (vi := vi) (l := []) (by decide)
  by_cases c1 : 0 ≤ x1.toInt ∧ x1.toInt < n
  · rw [if_pos c1]
    by_cases c2 : 0 ≤ x2.toInt ∧ x2.toInt ≤ 3
    · rw [if_pos c2]
      obtain ⟨b, hb, rfl⟩ := ex_nI (x := x1) (N := n) c1.1 c1.2 (by omega)
      obtain ⟨a, ha, rfl⟩ := ex_nI (x := x2) (N := 4) c2.1 (by omega) (by omega)
      obtain ⟨e1, e2⟩ := h3 b hb
      obtain ⟨k, hk, ek⟩ := ex_nI (x := vi 92 b) (N := 8) e2.1 (by have := e2.2; omega) (by omega)
      have e48 : (j_up vi 47 3 0) 48 b = nI k := by rw [up_o (by decide), e1, ek]
      have hm : (j_up vi 47 3 0) 47 3 = nI 0 := up_s
      rw [if_inb (by rw [tnI (by omega)]; omega), nI_clamp (by omega), e48, bindEta]
      have ten : ∀ {l : List Int32} {v : Int32}, l.length ≤ 100 → fX0g 64 0 (nI b) (nI k) (nI a) x3 0 (j_up vi 47 3 0) = some (v, l.foldl (stp 47 3 49) (j_up vi 47 3 0)) → (∀ vi' : VI, vi' 92 b = nI k → vi' 63 47 = nI 0 → vi' 63 45 = nI n → fX10_act (nI b) (nI a) x3 vi' = some (v, l.foldl (stp 63 47 93) (j_up vi' 63 47 0))) → ∃ r1 vi1, fX0g 64 0 (nI b) (nI k) (nI a) x3 0 (j_up vi 47 3 0) = some (r1, vi1) ∧ ∃ vi2, fX10_act (nI b) (nI a) x3 vi1 = some (r1, vi2) ∧ I_trace vi2 ∧ ∀ o i, ¬ (o = 47 ∧ i = 3) → o ≠ 49 → ¬ (o = 63 ∧ i = 47) → o ≠ 93 → vi2 o i = vi o i := by
        intro l v hl g1 g2
        obtain ⟨-, -, a3⟩ := fold_t (oc := 47) (ic := 3) (ot := 49) (by decide) l 0 (j_up vi 47 3 0) (by rw [up_s]; rfl) (by omega)
        refine ⟨v, _, g1, _, ?_, act_fin hl⟩
        have := g2 (j_up (l.foldl (stp 47 3 49) (j_up vi 47 3 0)) 63 47 0) (by rw [up_o (by decide), a3 92 b (by omega) (by decide), up_o (by decide), ek]) up_s (by rw [up_i (by decide), a3 63 45 (by omega) (by decide), up_o (by decide), h2])
        have e : j_up (j_up (l.foldl (stp 47 3 49) (j_up vi 47 3 0)) 63 47 0) 63 47 0 = j_up (l.foldl (stp 47 3 49) (j_up vi 47 3 0)) 63 47 0 := by
          funext o i; rw [up_at, up_at]; split <;> rfl
        unfold fX10_act at this ⊢
        rw [e] at this
        exact this
      have mo : ∀ {l : List Int32} {v : Int32}, (∀ vi' : VI, vi' 92 b = nI k → vi' 63 47 = nI 0 → (if nI a = 0 then (fX10_lying (nI b) x3 vi') else if nI a = 1 then fX10_reading (nI b) x3 vi' else if nI a = 2 then fX10_falling (nI b) x3 vi' else fX10_telling (nI b) x3 vi') = some (v, l.foldl (stp 63 47 93) vi')) → ∀ vi' : VI, vi' 92 b = nI k → vi' 63 47 = nI 0 → vi' 63 45 = nI n → fX10_act (nI b) (nI a) x3 vi' = some (v, l.foldl (stp 63 47 93) (j_up vi' 63 47 0)) := by
        intro l v g vi' q1 q2 q3
        unfold fX10_act
        rw [isBody_eq (n := n) (by rw [up_i (by decide)]; exact q3) hn, in_eq]
        simp only [Option.bind_some, decide_eq_true_eq, l3, l0, bindEta]
        rw [if_pos c1, if_pos c2]
        exact g (j_up vi' 63 47 0) (by rw [up_o (by decide)]; exact q1) up_s
      have ha4 : a = 0 ∨ a = 1 ∨ a = 2 ∨ a = 3 := by omega
      rcases ha4 with rfl | rfl | rfl | rfl
      · refine ten (l := lL k) (by have := lLn k; omega) (cl (D := 58) (d := 0) hk (by omega) hm (by omega) (by omega)) (mo fun vi' q1 q2 => ?_)
        rw [if_pos (show nI 0 = 0 from rfl)]; exact ml hk (by omega) q1 q2 (by omega)
      · refine ten (l := rL k) (by have := rLn k; omega) (cr (D := 52) (d := 0) hk (by omega) e48 hm (by omega) (by omega)) (mo fun vi' q1 q2 => ?_)
        rw [if_neg (by decide), if_pos (show nI 1 = 1 from rfl)]; exact mr hk (by omega) q1 q2 (by omega)
      · refine ten (l := fL k) (by have := fLn k; omega) (cf (D := 56) (d := 0) hk (by omega) e48 hm (by omega) (by omega)) (mo fun vi' q1 q2 => ?_)
        rw [if_neg (by decide), if_neg (by decide), if_pos (show nI 2 = 2 from rfl)]; exact mf hk (by omega) q1 q2 (by omega)
      · refine ten (l := tL k) (tLn k) (ct (D := 46) (d := 0) hk (by omega) e48 hm (by omega) (by omega)) (mo fun vi' q1 q2 => ?_)
        rw [if_neg (by decide), if_neg (by decide), if_neg (by decide)]; exact mt hk (by omega) q1 q2 (by omega)
    · rw [if_neg c2]
      refine ⟨_, _, rfl, j_up (j_up vi 47 3 0) 63 47 0, ?_, emp⟩
      unfold fX10_act
      rw [isBody_eq (n := n) (by rw [up_i (by decide), up_o (by decide)]; exact h2) hn, in_eq]
      simp only [Option.bind_some, decide_eq_true_eq, l3, l0]
      rw [if_pos c1, if_neg c2]
  · rw [if_neg c1]
    refine ⟨_, _, rfl, j_up (j_up vi 47 3 0) 63 47 0, ?_, emp⟩
    unfold fX10_act
    rw [isBody_eq (n := n) (by rw [up_i (by decide), up_o (by decide)]; exact h2) hn]
    simp only [Option.bind_some, decide_eq_true_eq]
    rw [if_neg c1]
