/-! SHELVES: shift, taken -/
theorem shelf_facts {vi : VI} {s : Nat} (h : shelfIs vi s) : (vi (51 + 2 * s) 0 = 0 ↔ vi 94 s = -1) ∧ (vi (51 + 2 * s) 0 = 2 ↔ (vi 94 s).toInt < -1) ∧ (vi (51 + 2 * s) 0 = 2 → vi 94 s = -2 - vi (51 + 2 * s) 2 ∧ (0 ≤ (vi (51 + 2 * s) 2).toInt ∧ (vi (51 + 2 * s) 2).toInt ≤ 4) ∧ (vi 94 s).toInt = -2 - (vi (51 + 2 * s) 2).toInt) ∧ (vi (51 + 2 * s) 0 = 1 ↔ 0 ≤ (vi 94 s).toInt) ∧ (vi (51 + 2 * s) 0 = 1 → vi (51 + 2 * s) 1 = vi 94 s) := by
  rcases h with ⟨h0, h94⟩ | ⟨h0, b, n, hb1, h94, hn, hbn, hn50⟩ | ⟨h0, q, hq, h2, h94⟩
  · rw [h0, h94]; simp [lm1]
  · have e : (nI b).toInt = b := tnI (by omega)
    rw [h0, h94, hb1]
    refine ⟨⟨fun c => absurd c (by decide), fun c => ?_⟩, ⟨fun c => absurd c (by decide), fun c => ?_⟩, fun c => absurd c (by decide), ⟨fun _ => by omega, fun _ => rfl⟩, fun _ => rfl⟩
    · rw [teq, lm1] at c; omega
    · omega
  · have e := m2 hq
    have e2 : (nI q).toInt = q := tnI (by omega)
    rw [h0, h94, h2]
    refine ⟨⟨fun c => absurd c (by decide), fun c => ?_⟩, ⟨fun c => by omega, fun c => rfl⟩, fun c => ⟨rfl, by omega, by omega⟩, ⟨fun c => absurd c (by decide), fun c => by omega⟩, fun c => absurd c (by decide)⟩
    rw [teq, lm1] at c; omega
theorem places_eq (o : Nat) (x1 x2 : Int32) (vi : VI) {z : Nat} (hz : z ≤ 60) (h : vi o 3 = nI z) : fX6_hasPlaces o x1 x2 vi = some (decide (0 ≤ x1.toInt ∧ 0 ≤ x2.toInt ∧ x2.toInt ≤ z ∧ x1.toInt ≤ z - x2.toInt)) := by
  unfold fX6_hasPlaces
  rw [h]
  have ez : (nI z).toInt = z := tnI (by omega)
  simp only [tlt, l0, ez]
  split
  · simp; omega
  · split
    · simp; omega
    · split
      · simp; omega
      · have : (nI z - x2).toInt = z - x2.toInt := by rw [tsub (by omega) (by omega), ez]
        rw [this]
        split
        · simp; omega
        · simp; omega
theorem shift113 {vi : VI} {s i n : Nat} {x3 x4 : Int32} (hs : s < 6) (hi : i + n ≤ 60) : ∀ (m k F : Nat) (vl : VL), n - k = m → m < F → k ≤ n → ∃ vl', fX10_shift_113 vi F (nI s) (nI i) x3 x4 (nI n) (nI k) vl = fX10_shift_150 vi FU x3 x4 (nI n) 0 vl' ∧ (∀ o j, o ≠ 97 → vl' o j = vl o j) ∧ ∀ j, vl' 97 j = if k ≤ j ∧ j < n then vl 96 (60 * s + i + j) else vl 97 j := by
  intro m
  induction m with
  | zero =>
    intro k F vl h1 h2 h3
    obtain ⟨F, rfl⟩ : ∃ F', F = F' + 1 := ⟨F - 1, by omega⟩
    rw [fX10_shift_113, if_pos (by rw [tle, tnI (by omega), tnI (by omega)]; omega)]
    exact ⟨vl, rfl, fun o j _ => rfl, fun j => by rw [if_neg (by omega)]⟩
  | succ m ih =>
    intro k F vl h1 h2 h3
    obtain ⟨F, rfl⟩ : ∃ F', F = F' + 1 := ⟨F - 1, by omega⟩
    have e : (60 * nI s + nI i + nI k : Int32) = nI (60 * s + i + k) := by rw [show (60 : Int32) = nI 60 from rfl, pk_mul, nI_add, nI_add]
    rw [fX10_shift_113, if_neg (by rw [tle, tnI (by omega), tnI (by omega)]; omega), e, if_inb (by rw [tnI (by omega)]; omega), if_inb (by rw [tnI (by omega)]; omega), nI_1, nI_clamp (by omega), nI_clamp (by omega)]
    obtain ⟨vl', e1, e2, e3⟩ := ih (k + 1) F (j_up vl 97 k (vl 96 (60 * s + i + k))) (by omega) (by omega) (by omega)
    refine ⟨vl', e1, fun o j h => ?_, fun j => ?_⟩
    · rw [e2 o j h, up_o h]
    · rw [e3]
      by_cases c : k + 1 ≤ j ∧ j < n
      · rw [if_pos c, if_pos (by omega), up_o (by omega)]
      · rw [if_neg c]
        by_cases c2 : j = k
        · rw [c2, up_s, if_pos (by omega)]
        · rw [up_i c2, if_neg (by omega)]
theorem shift150 {vi : VI} {s i n : Nat} (hs : s < 6) (hi : i + n ≤ 60) : ∀ (m k F : Nat) (vl : VL), n - k = m → m < F → k ≤ n → ∃ vl', fX10_shift_150 vi F (nI s) (nI i) (nI n) (nI k) vl = some (nI n, vl') ∧ ∀ o j, vl' o j = if o = 96 ∧ 60 * s + i + k ≤ j ∧ j < 60 * s + i + n then vl 97 (j - (60 * s + i)) else vl o j := by
  intro m
  induction m with
  | zero =>
    intro k F vl h1 h2 h3
    obtain ⟨F, rfl⟩ : ∃ F', F = F' + 1 := ⟨F - 1, by omega⟩
    rw [fX10_shift_150, if_pos (by rw [tle, tnI (by omega), tnI (by omega)]; omega)]
    exact ⟨vl, rfl, fun o j => by rw [if_neg (by omega)]⟩
  | succ m ih =>
    intro k F vl h1 h2 h3
    obtain ⟨F, rfl⟩ : ∃ F', F = F' + 1 := ⟨F - 1, by omega⟩
    have e : (60 * nI s + nI i + nI k : Int32) = nI (60 * s + i + k) := by rw [show (60 : Int32) = nI 60 from rfl, pk_mul, nI_add, nI_add]
    rw [fX10_shift_150, if_neg (by rw [tle, tnI (by omega), tnI (by omega)]; omega), e, if_inb (by rw [tnI (by omega)]; omega), if_inb (by rw [tnI (by omega)]; omega), nI_1, nI_clamp (by omega), nI_clamp (by omega)]
    obtain ⟨vl', e1, e2⟩ := ih (k + 1) F (j_up vl 96 (60 * s + i + k) (vl 97 k)) (by omega) (by omega) (by omega)
    refine ⟨vl', e1, fun o j => ?_⟩
    rw [e2]
    by_cases c : o = 96 ∧ 60 * s + i + (k + 1) ≤ j ∧ j < 60 * s + i + n
    · rw [if_pos c, if_pos (by omega), up_o (by omega)]
    · rw [if_neg c]
      by_cases c2 : o = 96 ∧ j = 60 * s + i + k
      · rw [c2.1, c2.2, up_s, if_pos (by omega), show 60 * s + i + k - (60 * s + i) = k by omega]
      · rw [up_at, if_neg c2, if_neg (by omega)]
theorem p_shift {vi : VI} {vl : VL} (h : I_shelf vi vl) (x1 x2 x3 x4 x5 : Int32) : ∃ r vl1, fX9_shift x1 x2 x3 x4 x5 vi vl = some (r, vl1) ∧ ∃ vl2, fX10_shift x1 x2 x3 x4 x5 vi vl1 = some (r, vl2) ∧ I_shelf vi vl2 := by
  unfold fX9_shift fX10_shift
  rw [shelf9_eq, shelf9_eq, shelf10_eq, shelf10_eq]
  simp only [Option.bind_some, decide_eq_true_eq]
  by_cases c1 : 0 ≤ x1.toInt ∧ x1.toInt ≤ 5
  · by_cases c3 : 0 ≤ x3.toInt ∧ x3.toInt ≤ 5
    · obtain ⟨s, hs, rfl⟩ := ex_nI (x := x1) (N := 6) (by omega) (by omega) (by omega)
      obtain ⟨t, ht, rfl⟩ := ex_nI (x := x3) (N := 6) (by omega) (by omega) (by omega)
      have bs : 0 ≤ (nI s).toInt ∧ (nI s).toInt < (6 : Nat) := by omega
      have bt : 0 ≤ (nI t).toInt ∧ (nI t).toInt < (6 : Nat) := by omega
      obtain ⟨hs1, ⟨z, hz, hz1, hz2⟩, hs3⟩ := h s hs
      obtain ⟨ht1, ⟨y, hy, hy1, hy2⟩, ht3⟩ := h t ht
      obtain ⟨fs1, fs2, fs3, -, -⟩ := shelf_facts hs1
      obtain ⟨ft1, ft2, ft3, -, -⟩ := shelf_facts ht1
      simp only [c1, c3, and_self, if_true, if_inb bs, if_inb bt, nI_clamp (show s < 2 ^ 31 by omega), nI_clamp (show t < 2 ^ 31 by omega), isRow_eq, Option.bind_some, decide_eq_true_eq, places_eq _ _ _ _ hz hz1, places_eq _ _ _ _ hy hy1]
      by_cases d1 : vi (51 + 2 * s) 0 = 0
      · rw [if_pos d1]; exact ⟨_, _, rfl, vl, by rw [if_pos (fs1.1 d1)], h⟩
      · have m1 : ¬ vi 94 s = -1 := fun q => d1 (fs1.2 q)
        simp only [if_neg d1, if_neg m1]
        by_cases d2 : vi (51 + 2 * t) 0 = 0
        · rw [if_pos d2]; exact ⟨_, _, rfl, vl, by rw [if_pos (ft1.1 d2)], h⟩
        · have m2' : ¬ vi 94 t = -1 := fun q => d2 (ft1.2 q)
          simp only [if_neg d2, if_neg m2']
          have n1 : (vi 94 s).toInt ≠ -1 := fun q => d1 (fs1.2 (by rw [teq, q, lm1]))
          have n2 : (vi 94 t).toInt ≠ -1 := fun q => d2 (ft1.2 (by rw [teq, q, lm1]))
          by_cases d3 : vi (51 + 2 * s) 0 = 2
          · have g1 := fs2.1 d3
            obtain ⟨e1, e2, e3⟩ := fs3 d3
            have m3 : ¬ 0 ≤ vi 94 s := by rw [tle, l0]; omega
            simp only [if_pos d3, if_neg m3]
            by_cases d4 : vi (51 + 2 * t) 0 = 2
            · have g2 := ft2.1 d4
              obtain ⟨e4, e5, e6⟩ := ft3 d4
              simp only [if_pos d4]
              by_cases d5 : vi (51 + 2 * s) 2 = vi (51 + 2 * t) 2
              · have m4 : vi 94 s = vi 94 t := by rw [e1, e4, d5]
                simp only [if_pos d5, if_pos m4]
                have ez : (nI z).toInt = z := tnI (by omega)
                have ey : (nI y).toInt = y := tnI (by omega)
                have hl2 := tlo x2
                have hh2 := thi x2
                simp only [hz2, hy2, tlt, tle, l0]
                by_cases p5 : x5.toInt < 0
                · rw [if_neg (by omega)]; exact ⟨_, _, rfl, vl, by rw [if_pos p5], h⟩
                · have hh5 := thi x5
                  have ez5 : (nI z - x5).toInt = z - x5.toInt := by rw [tsub (by omega) (by omega), ez]
                  have ey5 : (nI y - x5).toInt = y - x5.toInt := by rw [tsub (by omega) (by omega), ey]
                  simp only [ez5, ey5, if_neg p5]
                  by_cases p2 : x2.toInt < 0
                  · rw [if_neg (by omega)]; exact ⟨_, _, rfl, vl, by rw [if_pos p2], h⟩
                  · simp only [if_neg p2]
                    by_cases p4 : x4.toInt < 0
                    · simp only [if_pos p4, if_neg (show ¬ (0 ≤ x4.toInt ∧ 0 ≤ x5.toInt ∧ x5.toInt ≤ (y : Int) ∧ x4.toInt ≤ (y : Int) - x5.toInt) by omega)]
                      by_cases pp : 0 ≤ x2.toInt ∧ 0 ≤ x5.toInt ∧ x5.toInt ≤ (z : Int) ∧ x2.toInt ≤ (z : Int) - x5.toInt
                      · rw [if_pos pp]; exact ⟨_, _, rfl, vl, rfl, h⟩
                      · rw [if_neg pp]; exact ⟨_, _, rfl, vl, rfl, h⟩
                    · simp only [if_neg p4]
                      by_cases q1 : (z : Int) - x5.toInt < x2.toInt
                      · rw [if_neg (by omega)]; exact ⟨_, _, rfl, vl, by rw [if_pos q1], h⟩
                      · simp only [if_neg q1]
                        rw [if_pos (by omega)]
                        by_cases q2 : x4.toInt ≤ (y : Int) - x5.toInt
                        · simp only [if_pos q2]
                          rw [if_pos (by omega)]
                          obtain ⟨i, hi, rfl⟩ := ex_nI (x := x2) (N := 61) (by omega) (by omega) (by omega)
                          obtain ⟨j, hj, rfl⟩ := ex_nI (x := x4) (N := 61) (by omega) (by omega) (by omega)
                          obtain ⟨n, hn, rfl⟩ := ex_nI (x := x5) (N := 61) (by omega) (by omega) (by omega)
                          rw [tnI (by omega)] at q1 q2
                          rw [tnI (by omega)] at q1 q2
                          have q1' : i + n ≤ 60 := by omega
                          have q2' : j + n ≤ 60 := by omega
                          rw [if_pos (by simp only [cpok, tlt, l0, nI_clamp (show i < 2 ^ 31 by omega), nI_clamp (show j < 2 ^ 31 by omega), nI_clamp (show n < 2 ^ 31 by omega), tnI (show i < 2147483648 by omega), tnI (show j < 2147483648 by omega), tnI (show n < 2147483648 by omega)]; simp; omega)]
                          simp only [nI_clamp (show i < 2 ^ 31 by omega), nI_clamp (show j < 2 ^ 31 by omega), nI_clamp (show n < 2 ^ 31 by omega)]
                          refine ⟨_, _, rfl, ?_⟩
                          obtain ⟨vl2, k1, k2, k3⟩ := shift113 (vi := vi) (x3 := nI t) (x4 := nI j) hs q1' n 0 FU (j_row vl (51 + 2 * t + 1) (va_cpy (vl (51 + 2 * s + 1)) (vl (51 + 2 * t + 1)) i j n)) (by omega) (by rw [FU_eq]; omega) (by omega)
                          obtain ⟨vl3, k4, k5⟩ := shift150 (vi := vi) ht q2' n 0 FU vl2 (by omega) (by rw [FU_eq]; omega) (by omega)
                          refine ⟨vl3, k1.trans k4, ?_⟩
                          intro u hu
                          obtain ⟨u1, u2, u3⟩ := h u hu
                          refine ⟨u1, u2, fun k hk => ?_⟩
                          rw [k5, if_neg (by omega), k2 _ _ (by omega), k5]
                          by_cases w : u = t ∧ j ≤ k ∧ k < j + n
                          · obtain ⟨rfl, w1, w2⟩ := w
                            rw [if_pos (by omega), k3, if_pos (by omega), j_row, if_pos rfl, va_cpy, if_pos (by omega), j_row, if_neg (by omega), hs3 _ (by omega)]
                            congr 1
                            omega
                          · rw [if_neg (by omega), k2 _ _ (by omega), j_row, j_row, if_neg (show ¬ 96 = 51 + 2 * t + 1 by omega)]
                            by_cases w2 : u = t
                            · subst w2
                              rw [if_pos rfl, va_cpy, if_neg (by omega)]
                              exact u3 k hk
                            · rw [if_neg (by omega)]
                              exact u3 k hk
                        · rw [if_neg (by omega)]; exact ⟨_, _, rfl, vl, by rw [if_neg q2], h⟩
              · rw [if_neg d5]; exact ⟨_, _, rfl, vl, by rw [if_neg (fun q => d5 (by rw [teq]; have := congrArg Int32.toInt q; omega))], h⟩
            · have g2 : ¬ (vi 94 t).toInt < -1 := fun q => d4 (ft2.2 q)
              rw [if_neg d4]; exact ⟨_, _, rfl, vl, by rw [if_neg (fun q => by have := congrArg Int32.toInt q; omega)], h⟩
          · have g1 : ¬ (vi 94 s).toInt < -1 := fun q => d3 (fs2.2 q)
            rw [if_neg d3]; exact ⟨_, _, rfl, vl, by rw [if_pos (by rw [tle, l0]; omega)], h⟩
    · simp only [c1, c3, and_self, if_true, if_false]; exact ⟨_, _, rfl, vl, rfl, h⟩
  · simp only [c1, if_false]; exact ⟨_, _, rfl, vl, rfl, h⟩
theorem under9 : ∀ k : Nat, k < 8 → ∀ t : Nat, t < 8 → ∀ vi : VI, fX0_isUnder (nI k) (nI t) vi = fX10_isUnder (nI k) (nI t) ∧ ∃ b, fX10_isUnder (nI k) (nI t) = some b := by
  intro k hk t ht vi
  have hk8 : k = 0 ∨ k = 1 ∨ k = 2 ∨ k = 3 ∨ k = 4 ∨ k = 5 ∨ k = 6 ∨ k = 7 := by omega
  have ht8 : t = 0 ∨ t = 1 ∨ t = 2 ∨ t = 3 ∨ t = 4 ∨ t = 5 ∨ t = 6 ∨ t = 7 := by omega
  rcases hk8 with rfl | rfl | rfl | rfl | rfl | rfl | rfl | rfl <;> rcases ht8 with rfl | rfl | rfl | rfl | rfl | rfl | rfl | rfl <;> exact ⟨rfl, _, rfl⟩
theorem p_taken {vi : VI} {vl : VL} (h : I_shelf vi vl) (hb : I_body vi) (x1 x2 : Int32) : ∃ r, fX9_taken x1 x2 vi = some r ∧ fX10_taken x1 x2 vi = some r := by
  unfold fX9_taken fX10_taken
  rw [shelf9_eq, shelf10_eq, within_eq, in_eq]
  simp only [Option.bind_some, decide_eq_true_eq, l0, l7]
  by_cases c1 : 0 ≤ x1.toInt ∧ x1.toInt ≤ 5
  · by_cases c2 : 0 ≤ x2.toInt ∧ x2.toInt ≤ 7
    · obtain ⟨s, hs, rfl⟩ := ex_nI (x := x1) (N := 6) (by omega) (by omega) (by omega)
      obtain ⟨t, ht, rfl⟩ := ex_nI (x := x2) (N := 8) (by omega) (by omega) (by omega)
      have bs : 0 ≤ (nI s).toInt ∧ (nI s).toInt < (6 : Nat) := by omega
      simp only [c1, c2, and_self, if_true, if_inb bs, nI_clamp (show s < 2 ^ 31 by omega)]
      rcases (h s hs).1 with ⟨h0, h94⟩ | ⟨h0, b, n, hb1, h94, hn, hbn, hn50⟩ | ⟨h0, q, hq, h2, h94⟩
      · rw [if_pos h0, if_pos h94]; exact ⟨_, rfl, rfl⟩
      · obtain ⟨n', g1, g2, g3, g4⟩ := hb
        have hnn : n' = n := by
          have e : nI n' = nI n := by rw [← g3, hn]
          rw [teq, tnI (by omega), tnI (by omega)] at e
          omega
        subst hnn
        have eb : (nI b).toInt = b := tnI (by omega)
        have w1 : ¬ nI b = -1 := by rw [teq, eb, lm1]; omega
        have w2 : ¬ nI b < 0 := by rw [tlt, eb, l0]; omega
        rw [if_neg (by rw [h0]; decide), if_pos h0, hb1, h94]
        simp only [if_neg w1, if_neg w2]
        unfold fX0_has
        rw [g2]
        have w3 : ¬ nI n' ≤ nI b := by rw [tle, eb, tnI (by omega)]; omega
        have w4 : ¬ 50 ≤ nI b := by rw [tle, eb, l50]; omega
        simp only [if_neg w2, if_neg w3, if_neg w4, Option.bind_some, if_true]
        have bb : 0 ≤ (nI b).toInt ∧ (nI b).toInt < (50 : Nat) := by omega
        simp only [if_inb bb, nI_clamp (show b < 2 ^ 31 by omega)]
        obtain ⟨f1, f2⟩ := g4 b (by omega)
        rw [f1]
        obtain ⟨k, hk, ek⟩ := ex_nI (x := vi 92 b) (N := 8) f2.1 (by have := f2.2; omega) (by omega)
        rw [ek]
        obtain ⟨u1, w, u2⟩ := under9 k hk t ht vi
        rw [u1, u2]
        simp only [Option.bind_some]
        cases w
        · exact ⟨_, rfl, rfl⟩
        · exact ⟨_, rfl, rfl⟩
      · rw [if_neg (by rw [h0]; decide), if_neg (by rw [h0]; decide), h94]
        exact ⟨_, rfl, by rw [if_neg (by rw [teq, m2 hq, lm1]; omega), if_pos (by rw [tlt, m2 hq, l0]; omega)]⟩
    · simp only [c1, c2, and_self, if_true, if_false]; exact ⟨_, rfl⟩
  · simp only [c1, if_false]; exact ⟨_, rfl, rfl⟩
