/-! SHELVES: row, shift, taken -/
theorem fillJ {x0 N : Nat} {x : Int64} (hN : N ≤ 20000) : ∀ (m i F : Nat) (vl : VL), N - i = m → m < F → i ≤ N → ∃ vl', fJ7_fill_d0a16_6 x0 N F x (nI i) (nI N) vl = some vl' ∧ ∀ o k, vl' o k = if o = x0 ∧ i ≤ k ∧ k < N then x else vl o k := by
  intro m
  induction m with
  | zero =>
    intro i F vl h1 h2 h3
    obtain ⟨F, rfl⟩ : ∃ F', F = F' + 1 := ⟨F - 1, by omega⟩
    rw [fJ7_fill_d0a16_6, if_pos (by rw [tle, tnI (by omega), tnI (by omega)]; omega)]
    exact ⟨vl, rfl, fun o k => by rw [if_neg (by omega)]⟩
  | succ m ih =>
    intro i F vl h1 h2 h3
    obtain ⟨F, rfl⟩ : ∃ F', F = F' + 1 := ⟨F - 1, by omega⟩
    rw [fJ7_fill_d0a16_6, if_neg (by rw [tle, tnI (by omega), tnI (by omega)]; omega), if_inb (by rw [tnI (by omega)]; omega), nI_1, nI_clamp (by omega)]
    obtain ⟨vl', e1, e2⟩ := ih (i + 1) F (j_up vl x0 i x) (by omega) (by omega) (by omega)
    refine ⟨vl', e1, fun o k => ?_⟩
    rw [e2, up_at]
    by_cases c : o = x0 ∧ i + 1 ≤ k ∧ k < N
    · rw [if_pos c, if_pos (by omega)]
    · rw [if_neg c]
      by_cases c2 : o = x0 ∧ k = i
      · rw [if_pos c2, if_pos (by omega)]
      · rw [if_neg c2, if_neg (by omega)]
theorem fillJ_eq {x0 N : Nat} {x : Int64} (hN : N ≤ 20000) (vl : VL) : ∃ vl', fJ7_fill_d0a16 x0 N x vl = some vl' ∧ ∀ o k, vl' o k = if o = x0 ∧ k < N then x else vl o k := by
  obtain ⟨vl', e1, e2⟩ := fillJ (x0 := x0) (x := x) hN N 0 FU vl (by omega) (by rw [FU_eq]; omega) (by omega)
  refine ⟨vl', e1, fun o k => ?_⟩
  rw [e2]
  by_cases c : o = x0 ∧ k < N
  · rw [if_pos c, if_pos (by omega)]
  · rw [if_neg c, if_neg (by omega)]
theorem row10 {s : Nat} {vi : VI} (hs : s < 6) : ∀ (m k F : Nat) (vl : VL), 60 - k = m → m < F → k ≤ 60 → ∃ vl', fX10_row_54 F (nI s) (nI (60 * s + k)) vi vl = some (1, vi, vl') ∧ ∀ o j, vl' o j = if o = 96 ∧ 60 * s + k ≤ j ∧ j < 60 * s + 60 then 0 else vl o j := by
  intro m
  induction m with
  | zero =>
    intro k F vl h1 h2 h3
    obtain ⟨F, rfl⟩ : ∃ F', F = F' + 1 := ⟨F - 1, by omega⟩
    rw [fX10_row_54, if_pos (by rw [show (60 : Int32) = nI 60 from rfl, pk_mul, nI_add, tle, tnI (by omega), tnI (by omega)]; omega)]
    exact ⟨vl, rfl, fun o k => by rw [if_neg (by omega)]⟩
  | succ m ih =>
    intro k F vl h1 h2 h3
    obtain ⟨F, rfl⟩ : ∃ F', F = F' + 1 := ⟨F - 1, by omega⟩
    rw [fX10_row_54, if_neg (by rw [show (60 : Int32) = nI 60 from rfl, pk_mul, nI_add, tle, tnI (by omega), tnI (by omega)]; omega), if_inb (by rw [tnI (by omega)]; omega), nI_1, nI_clamp (by omega)]
    obtain ⟨vl', e1, e2⟩ := ih (k + 1) F (j_up vl 96 (60 * s + k) 0) (by omega) (by omega) (by omega)
    refine ⟨vl', e1, fun o j => ?_⟩
    rw [e2, up_at]
    by_cases c : o = 96 ∧ 60 * s + (k + 1) ≤ j ∧ j < 60 * s + 60
    · rw [if_pos c, if_pos (by omega)]
    · rw [if_neg c]
      by_cases c2 : o = 96 ∧ j = 60 * s + k
      · rw [if_pos c2, if_pos (by omega)]
      · rw [if_neg c2, if_neg (by omega)]
theorem p_row {vi : VI} {vl : VL} (h : I_shelf vi vl) (x1 x2 x3 : Int32) : ∃ r vi1 vl1, fX9_row x1 x2 x3 vi vl = some (r, vi1, vl1) ∧ ∃ vi2 vl2, fX10_row x1 x2 x3 vi1 vl1 = some (r, vi2, vl2) ∧ I_shelf vi2 vl2 ∧ ∀ o i, (o < 51 ∨ 62 < o) → o ≠ 94 → o ≠ 95 → vi2 o i = vi o i := by
  unfold fX9_row
  rw [shelf9_eq]
  simp only [Option.bind_some, within_eq, l4]
  by_cases c : 0 ≤ x1.toInt ∧ x1.toInt ≤ 5
  · rw [if_pos (by simp [c])]
    by_cases d : 0 ≤ x2.toInt ∧ x2.toInt ≤ 4
    · rw [if_pos (by simp [d])]
      by_cases e1 : x3 ≤ 60
      · rw [if_pos e1]
        by_cases e2 : 0 ≤ x3
        · rw [if_pos e2]
          obtain ⟨s, hs, rfl⟩ := ex_nI (N := 6) c.1 (by omega) (by omega)
          obtain ⟨q, hq, rfl⟩ := ex_nI (N := 5) d.1 (by omega) (by omega)
          rw [tle, l60] at e1
          rw [tle, l0] at e2
          obtain ⟨z, hz, rfl⟩ := ex_nI (x := x3) (N := 61) (by omega) (by omega) (by omega)
          have hbs : 0 ≤ (nI s).toInt ∧ (nI s).toInt < (6 : Nat) := by omega
          rw [if_inb hbs]
          simp only [nI_clamp (show s < 2 ^ 31 by omega)]
          obtain ⟨vl1, g1, g2⟩ := fillJ_eq (x0 := 51 + 2 * s + 1) (N := 60) (x := 0) (by omega) vl
          rw [g1]
          simp only [Option.bind_some]
          refine ⟨_, _, _, rfl, ?_⟩
          unfold fX10_row
          rw [shelf10_eq]
          simp only [Option.bind_some, in_eq, l0, l4]
          rw [if_pos (by simp [c]), if_pos (by simp [d]), if_pos (by rw [tle, l60]; omega), if_pos (by rw [tle, l0]; omega), if_inb hbs, if_inb hbs]
          simp only [nI_clamp (show s < 2 ^ 31 by omega)]
          rw [show (60 * nI s : Int32) = nI (60 * s + 0) by rw [show (60 : Int32) = nI 60 from rfl, pk_mul, Nat.add_zero]]
          obtain ⟨vl2, g3, g4⟩ := row10 (vi := j_up (j_up (j_up (j_up (j_up vi (51 + 2 * s) 0 2) (51 + 2 * s) 2 (nI q)) (51 + 2 * s) 3 (nI z)) 94 s (-2 - nI q)) 95 s (nI z)) hs 60 0 FU vl1 (by omega) (by rw [FU_eq]; omega) (by omega)
          rw [g3]
          refine ⟨_, vl2, rfl, ?_, ?_⟩
          · intro s' hs'
            obtain ⟨f1, f2, f3⟩ := h s' hs'
            by_cases c2 : s' = s
            · subst c2
              refine ⟨Or.inr (Or.inr ⟨?_, q, by omega, ?_, ?_⟩), ⟨z, by omega, ?_, ?_⟩, fun k hk => ?_⟩
              · rw [up_o (by omega), up_o (by omega), up_i (by omega), up_i (by omega), up_s]
              · rw [up_o (by omega), up_o (by omega), up_i (by omega), up_s]
              · rw [up_o (by omega), up_s]
              · rw [up_o (by omega), up_o (by omega), up_s]
              · rw [up_s]
              · rw [g4, if_neg (by omega), g2, if_pos (by omega), g4, if_pos (by omega)]
            · refine ⟨?_, ?_, fun k hk => ?_⟩
              · have e0 : ∀ i, (j_up (j_up (j_up (j_up (j_up vi (51 + 2 * s) 0 2) (51 + 2 * s) 2 (nI q)) (51 + 2 * s) 3 (nI z)) 94 s (-2 - nI q)) 95 s (nI z)) (51 + 2 * s') i = vi (51 + 2 * s') i := fun i => by rw [up_o (by omega), up_o (by omega), up_o (by omega), up_o (by omega), up_o (by omega)]
                have e94 : (j_up (j_up (j_up (j_up (j_up vi (51 + 2 * s) 0 2) (51 + 2 * s) 2 (nI q)) (51 + 2 * s) 3 (nI z)) 94 s (-2 - nI q)) 95 s (nI z)) 94 s' = vi 94 s' := by rw [up_o (by omega), up_i c2, up_o (by omega), up_o (by omega), up_o (by omega)]
                have e63 : (j_up (j_up (j_up (j_up (j_up vi (51 + 2 * s) 0 2) (51 + 2 * s) 2 (nI q)) (51 + 2 * s) 3 (nI z)) 94 s (-2 - nI q)) 95 s (nI z)) 63 45 = vi 63 45 := by rw [up_o (by omega), up_o (by omega), up_o (by omega), up_o (by omega), up_o (by omega)]
                simp only [shelfIs, e0, e94, e63] at f1 ⊢
                exact f1
              · obtain ⟨z', hz', z1, z2⟩ := f2
                refine ⟨z', hz', ?_, ?_⟩
                · rw [up_o (by omega), up_o (by omega), up_o (by omega), up_o (by omega), up_o (by omega)]; exact z1
                · rw [up_i c2, up_o (by omega), up_o (by omega), up_o (by omega), up_o (by omega)]; exact z2
              · rw [g4, if_neg (by omega), g2, if_neg (by omega), g4, if_neg (by omega), g2, if_neg (by omega)]
                exact f3 k hk
          · intro o i j1 j2 j3
            rw [up_o j3, up_o j2, up_o (by omega), up_o (by omega), up_o (by omega)]
        · rw [if_neg e2]
          refine ⟨_, _, _, rfl, vi, vl, ?_, h, fun _ _ _ _ _ => rfl⟩
          unfold fX10_row
          rw [shelf10_eq]
          simp only [Option.bind_some, in_eq, l0, l4]
          rw [if_pos (by simp [c]), if_pos (by simp [d]), if_pos e1, if_neg e2]
      · rw [if_neg e1]
        refine ⟨_, _, _, rfl, vi, vl, ?_, h, fun _ _ _ _ _ => rfl⟩
        unfold fX10_row
        rw [shelf10_eq]
        simp only [Option.bind_some, in_eq, l0, l4]
        rw [if_pos (by simp [c]), if_pos (by simp [d]), if_neg e1]
    · rw [if_neg (by simp; omega)]
      refine ⟨_, _, _, rfl, vi, vl, ?_, h, fun _ _ _ _ _ => rfl⟩
      unfold fX10_row
      rw [shelf10_eq]
      simp only [Option.bind_some, in_eq, l0, l4]
      rw [if_pos (by simp [c]), if_neg (by simp; omega)]
  · rw [if_neg (by simp; omega)]
    refine ⟨_, _, _, rfl, vi, vl, ?_, h, fun _ _ _ _ _ => rfl⟩
    unfold fX10_row
    rw [shelf10_eq]
    simp only [Option.bind_some, in_eq, l0, l4]
    rw [if_neg (by simp; omega)]
