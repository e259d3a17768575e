/-! EVALUATION: a whole TEXT -/
theorem len_pos {l : List Int32} {h : hrun l 0 = some 1} : l ≠ [] := by
  intro q; rw [q] at h; simp [hrun] at h
theorem text_both {r S N : Nat} (hr : r < 2) (hS : S ≤ 121) (hN : N ≤ 61) : ∀ (T : List (List Int32 × List Int32)) (j c s : Nat) (vc vm : VI), vc 5 5 = nI 0 → (∀ i, i < 6 → vc 7 i = vm 80 i) → linesAt vc vm 6 r T j c s → vc 5 1 = nI S → c + csz T = S → vm 77 r = nI N → j + T.length = N → s + ssz T ≤ 121 → ∃ v vc' vm', (∀ F, csz T < F → fX5_worth_72 5 F (nI c) vc = some (v, vc')) ∧ (∀ o i, ¬ (o = 5 ∧ i = 5) → o ≠ 8 → vc' o i = vc o i) ∧ (∀ F, T.length < F → fX10_gives_7 F (nI r) (nI s) (nI (61 * r + j)) vm = some (v, vm')) ∧ ∀ o i, o ≠ 81 → vm' o i = vm o i := by
  have br : 0 ≤ (nI r).toInt ∧ (nI r).toInt < (2 : Nat) := by rw [tnI (by omega)]; omega
  intro T
  induction T with
  | nil =>
    intro j c s vc vm h0 hn hl hsz hc h77 hj hs
    simp only [csz, List.length_nil] at hc hj
    refine ⟨0, vc, vm, fun F hF => ?_, fun _ _ _ _ => rfl, fun F hF => ?_, fun _ _ _ => rfl⟩
    · obtain ⟨F, rfl⟩ : ∃ F', F = F' + 1 := ⟨F - 1, by simp only [csz] at hF; omega⟩
      rw [fX5_worth_72, hsz, if_pos (by rw [tle, tnI (by omega), tnI (by omega)]; omega)]
    · obtain ⟨F, rfl⟩ : ∃ F', F = F' + 1 := ⟨F - 1, by omega⟩
      rw [fX10_gives_7, if_inb br, nI_clamp (by omega), h77, show (61 : Int32) = nI 61 from rfl, pk_mul, nI_add, if_pos (by rw [tle, tnI (by omega), tnI (by omega)]; omega)]
  | cons tv T ih =>
    intro j c s vc vm h0 hn hl hsz hc h77 hj hs
    obtain ⟨t, v⟩ := tv
    obtain ⟨a1, a2, a3, a4, a5, a6, a7, a8, a9⟩ := hl
    simp only [csz, ssz, List.length_cons] at hc hj hs
    have e61 : (61 * nI r + nI N : Int32) = nI (61 * r + N) := by rw [show (61 : Int32) = nI 61 from rfl, pk_mul, nI_add]
    have nle : ¬ nI (61 * r + N) ≤ nI (61 * r + j) := by rw [tle, tnI (by omega), tnI (by omega)]; omega
    have bj : 0 ≤ (nI (61 * r + j)).toInt ∧ (nI (61 * r + j)).toInt < (122 : Nat) := by rw [tnI (by omega)]; omega
    have cj : (nI (61 * r + j)).toNatClampNeg = 61 * r + j := nI_clamp (by omega)
    have vpos : 0 < v.length := List.length_pos_iff.2 (len_pos (h := a1))
    -- the value's part, from any state that is like the first
    have val : ∀ vc1 vm1 : VI, vc1 5 5 = nI 0 → (∀ o i, ¬ (o = 5 ∧ i = 5) → o ≠ 8 → vc1 o i = vc o i) → (∀ o i, o ≠ 81 → vm1 o i = vm o i) → ∃ u vc' vm', (∀ F, v.length + 1 < F → fX5_worth_72 5 F (nI (c + tl0 t)) vc1 = some (u, vc')) ∧ (∀ o i, ¬ (o = 5 ∧ i = 5) → o ≠ 8 → vc' o i = vc o i) ∧ fX10_gives_47 (nI r) (nI (61 * r + j)) vm1 = some (u, vm') ∧ ∀ o i, o ≠ 81 → vm' o i = vm o i := by
      intro vc1 vm1 z0 zf zm
      obtain ⟨vc2, vm2, y1, y2, y3, y4, y5⟩ := expr_both (s := s + t.length) hr hS z0 (fun i hi => by rw [zf 7 i (by omega) (by omega), zm 80 i (by omega)]; exact hn i hi) a1 (seg_fr a7 (fun i => zf 6 i (by omega) (by omega)) (fun o i q => zm o i (by omega))) (by rw [zf 5 1 (by omega) (by omega)]; exact hsz) (by omega) (by omega)
      refine ⟨vc2 8 0, j_up vc2 5 5 (nI 0), vm2, fun F hF => ?_, fun o i q1 q2 => by rw [up_at, if_neg q1, y2 o i q1 q2, zf o i q1 q2], ?_, fun o i q => (y5 o i q).trans (zm o i q)⟩
      · obtain ⟨F, rfl⟩ : ∃ F', F = F' + 1 + v.length := ⟨F - 1 - v.length, by omega⟩
        rw [y1, fX5_worth_72, y2 5 1 (by omega) (by omega), zf 5 1 (by omega) (by omega), hsz]
        simp only [Nat.reduceAdd]
        rw [if_neg (by rw [tle, tnI (by omega), tnI (by omega)]; omega), if_inb (by rw [tnI (by omega)]; omega), nI_clamp (by omega), y2 6 _ (by omega) (by omega), zf 6 _ (by omega) (by omega), a8, if_pos rfl, pop_eq (h := 0) y3 (by omega)]; rfl
      · unfold fX10_gives_47
        rw [if_inb bj, if_inb bj, cj, zm 78 _ (by omega), zm 79 _ (by omega), a3, a4, y4]; rfl
    by_cases ct : t = []
    · subst ct
      have tz : tl0 ([] : List Int32) = 0 := rfl
      rw [tz] at hc a7 a8 a9 val
      obtain ⟨u, vc', vm', y1, y2, y3, y4⟩ := val vc vm h0 (fun _ _ _ _ => rfl) (fun _ _ _ => rfl)
      refine ⟨u, vc', vm', fun F hF => ?_, y2, fun F hF => ?_, y4⟩
      · simp only [csz, tz] at hF
        exact y1 F (by omega)
      · obtain ⟨F, rfl⟩ : ∃ F', F = F' + 1 := ⟨F - 1, by omega⟩
        rw [fX10_gives_7, if_inb br, nI_clamp (by omega), h77, e61, if_neg nle, if_inb bj, cj, a3, if_pos (by simp), y3]
    · have tz : tl0 t = t.length + 1 := if_neg ct
      have hpos : 0 < t.length := List.length_pos_iff.2 ct
      rw [tz] at hc a7 a8 a9 val
      obtain ⟨vc1, vm1, x1, x2, x3, x4, x5⟩ := expr_both (s := s) hr hS h0 hn (a2.resolve_left ct) a5 hsz (by omega) (by omega)
      have w6 := a6 ct
      have pop1 : fX5_pop 5 vc1 = some (vc1 8 0, j_up vc1 5 5 (nI 0)) := pop_eq (h := 0) x3 (by omega)
      have fr1 : ∀ o i, ¬ (o = 5 ∧ i = 5) → o ≠ 8 → (j_up vc1 5 5 (nI 0)) o i = vc o i := fun o i q1 q2 => by rw [up_at, if_neg q1, x2 o i q1 q2]
      have stepW : ∀ F, fX5_worth_72 5 (F + 1 + t.length) (nI c) vc = if vc1 8 0 = 0 then fX5_worth_72 5 F (nI (c + (t.length + 1) + v.length + 1)) (j_up vc1 5 5 (nI 0)) else fX5_worth_72 5 F (nI (c + (t.length + 1))) (j_up vc1 5 5 (nI 0)) := by
        intro F
        rw [x1, fX5_worth_72, x2 5 1 (by omega) (by omega), hsz]
        simp only [Nat.reduceAdd]
        rw [if_neg (by rw [tle, tnI (by omega), tnI (by omega)]; omega), if_inb (by rw [tnI (by omega)]; omega), nI_clamp (by omega), x2 6 _ (by omega) (by omega), w6, if_neg (by decide), if_pos rfl, pop1]
        simp only [Option.bind_some]
        have eol : fX5_endOfLine 5 (nI (c + t.length)) (j_up vc1 5 5 (nI 0)) = some (nI (c + (t.length + 1) + v.length)) := by
          unfold fX5_endOfLine
          refine endLine (S := S) (by rw [fr1 5 1 (by omega) (by omega)]; exact hsz) hS (v.length + 1) _ _ FU (by omega) (by rw [FU_eq]; omega) (by omega) (by omega) (fun i p1 p2 => ?_) (by rw [fr1 6 _ (by omega) (by omega)]; exact a8)
          rw [fr1 6 i (by omega) (by omega)]
          by_cases ci : i = c + t.length
          · rw [ci, w6]; decide
          · have := a7 (i - (c + (t.length + 1))) (by omega)
            rw [show c + (t.length + 1) + (i - (c + (t.length + 1))) = i by omega] at this
            rw [this.1]
            exact (stepIs_ne this.2).1
        rw [eol]
        simp only [Option.bind_some]
        unfold fX5_worth_135
        rw [nI_1, nI_1, show c + t.length + 1 = c + (t.length + 1) by omega]
      by_cases cz : vc1 8 0 = 0
      · obtain ⟨u, vc', vm', y1, y2, y3, y4⟩ := ih (j + 1) (c + (t.length + 1) + v.length + 1) (s + t.length + v.length) (j_up vc1 5 5 (nI 0)) vm1 up_s (fun i hi => by rw [fr1 7 i (by omega) (by omega), x5 80 i (by omega)]; exact hn i hi) (lines_fr (fun i => fr1 6 i (by omega) (by omega)) (fun o i p1 p2 => x5 o i (by omega)) T _ _ _ a9) (by rw [fr1 5 1 (by omega) (by omega)]; exact hsz) (by omega) (by rw [x5 77 r (by omega)]; exact h77) (by omega) (by omega)
        refine ⟨u, vc', vm', fun F hF => ?_, fun o i q1 q2 => (y2 o i q1 q2).trans (fr1 o i q1 q2), fun F hF => ?_, fun o i q => (y4 o i q).trans (x5 o i q)⟩
        · simp only [csz, tz] at hF
          obtain ⟨F, rfl⟩ : ∃ F', F = F' + 1 + t.length := ⟨F - 1 - t.length, by omega⟩
          rw [stepW, if_pos cz]
          exact y1 F (by omega)
        · simp only [List.length_cons] at hF
          obtain ⟨F, rfl⟩ : ∃ F', F = F' + 1 := ⟨F - 1, by omega⟩
          rw [fX10_gives_7, if_inb br, nI_clamp (by omega), h77, e61, if_neg nle, if_inb bj, cj, a3, if_neg (by rw [teq, tnI (by omega), tnI (by omega)]; omega), if_inb bj, x4]
          simp only [Option.bind_some]
          rw [if_pos cz, if_inb bj, x5 79 _ (by omega), a4, nI_1, show 61 * r + j + 1 = 61 * r + (j + 1) by omega]
          exact y3 F (by omega)
      · obtain ⟨u, vc', vm', y1, y2, y3, y4⟩ := val (j_up vc1 5 5 (nI 0)) vm1 up_s fr1 x5
        refine ⟨u, vc', vm', fun F hF => ?_, y2, fun F hF => ?_, y4⟩
        · simp only [csz, tz] at hF
          obtain ⟨F, rfl⟩ : ∃ F', F = F' + 1 + t.length := ⟨F - 1 - t.length, by omega⟩
          rw [stepW, if_neg cz]
          exact y1 F (by omega)
        · obtain ⟨F, rfl⟩ : ∃ F', F = F' + 1 := ⟨F - 1, by omega⟩
          rw [fX10_gives_7, if_inb br, nI_clamp (by omega), h77, e61, if_neg nle, if_inb bj, cj, a3, if_neg (by rw [teq, tnI (by omega), tnI (by omega)]; omega), if_inb bj, x4]
          simp only [Option.bind_some]
          rw [if_neg cz, y3]
