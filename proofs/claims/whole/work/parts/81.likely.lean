/-! LIKELY, EXPECTED -/
theorem weight_outer {ns : Nat} {vi : VI} (h5 : ns ≤ 5) (n1 : vi 0 1 = nI ns) (n2 : vi 63 1 = nI ns) (hd : I_dust ns vi) (p : Int32) : ∀ (m k s : Nat), ns - k = m → k ≤ ns → s ≤ 15444 * k → ∃ s', s' ≤ 77220 ∧ (∀ F, m < F → fX9_weightOf_4 ns vi F p (nI s) (nI k) = some (nI s')) ∧ ∀ F, m < F → fX10_weightOf_5 vi F p (nL s) (nI k) = some (nL s') := by
  intro m
  induction m with
  | zero =>
    intro k s q1 q2 q3
    have cc : nI ns ≤ nI k := by rw [tle, tnI (by omega), tnI (by omega)]; omega
    refine ⟨s, by omega, fun F hF => ?_, fun F hF => ?_⟩
    · obtain ⟨F, rfl⟩ : ∃ F', F = F' + 1 := ⟨F - 1, by omega⟩
      rw [fX9_weightOf_4, n1, if_pos cc]
    · obtain ⟨F, rfl⟩ : ∃ F', F = F' + 1 := ⟨F - 1, by omega⟩
      rw [fX10_weightOf_5, n2, if_pos cc]
  | succ m ih =>
    intro k s q1 q2 q3
    have cc : ¬ nI ns ≤ nI k := by rw [tle, tnI (by omega), tnI (by omega)]; omega
    have bk : 0 ≤ (nI k).toInt ∧ (nI k).toInt < ns := by rw [tnI (by omega)]; omega
    have ck : (nI k).toNatClampNeg = k := nI_clamp (by omega)
    obtain ⟨n, d1, d2, d3, d4⟩ := hd k (by omega)
    obtain ⟨s1, b0, b1, b2⟩ := weight_inner h5 hd (j := k) (by omega) p d1 d2 d3 d4 n 0 s (by omega) (by omega) (by omega)
    obtain ⟨s', a0, a1, a2⟩ := ih (k + 1) s1 (by omega) (by omega) (by omega)
    refine ⟨s', a0, fun F hF => ?_, fun F hF => ?_⟩
    · obtain ⟨F, rfl⟩ : ∃ F', F = F' + 1 := ⟨F - 1, by omega⟩
      rw [fX9_weightOf_4, n1, if_neg cc, if_inb bk, ck, show 98 + 5 * k + 1 = 99 + 5 * k by omega, show (0 : Int32) = nI 0 from rfl, b1 _ FU (by rw [FU_eq]; omega)]
      exact a1 F (by omega)
    · obtain ⟨F, rfl⟩ : ∃ F', F = F' + 1 := ⟨F - 1, by omega⟩
      rw [fX10_weightOf_5, n2, if_neg cc, show (0 : Int32) = nI 0 from rfl, b2 _ FU (by rw [FU_eq]; omega)]
      exact a2 F (by omega)
theorem weight_both {ns : Nat} {vi : VI} (hn : I_num ns vi) (hd : I_dust ns vi) : ∃ W : Nat → Nat, ∀ p, W p ≤ 77220 ∧ fX9_weightOf ns (nI p) vi = some (nI (W p)) ∧ fX10_weightOf (nI p) vi = some (nL (W p)) := by
  have one : ∀ p : Nat, ∃ s, s ≤ 77220 ∧ fX9_weightOf ns (nI p) vi = some (nI s) ∧ fX10_weightOf (nI p) vi = some (nL s) := by
    intro p
    obtain ⟨s, a0, a1, a2⟩ := weight_outer hn.1 hn.2.1 hn.2.2.1 hd (nI p) ns 0 0 (by omega) (by omega) (by omega)
    refine ⟨s, a0, ?_, ?_⟩
    · unfold fX9_weightOf
      exact a1 FU (by rw [FU_eq]; have := hn.1; omega)
    · unfold fX10_weightOf
      exact a2 FU (by rw [FU_eq]; have := hn.1; omega)
  exact ⟨fun p => (one p).choose, fun p => (one p).choose_spec⟩
theorem lcmp_le {a b : Nat} (ha : a < 2147483648) (hb : b < 2147483648) : lg_cmp (nL a) (nL b) ≤ 0 ↔ a ≤ b := by
  rw [lg_cmp_le, Int64.le_iff_toInt_le, nL_toInt ha, nL_toInt hb]; omega
theorem lcmp_eq {a b : Nat} (ha : a < 2147483648) (hb : b < 2147483648) : lg_cmp (nL a) (nL b) = 0 ↔ a = b := by
  rw [lg_cmp_eq, nL_inj ha hb]
theorem p_expected {ns : Nat} {vi : VI} (hn : I_num ns vi) (hd : I_dust ns vi) : ∃ r, fX9_expected ns vi = some r ∧ fX10_expected vi = some r := by
  obtain ⟨W, hW⟩ := weight_both hn hd
  have key : ∀ (m k : Nat) (x y : Int32), 6 - k = m → k ≤ 6 → ((x = -2 ∧ y = 0) ∨ ∃ b, b < 6 ∧ x = nI b ∧ y = nI (W b) ∧ 0 < W b) → ∃ r, (∀ F, m < F → fX9_expected_7 ns vi F x y (nI k) = some r) ∧ ∀ F, m < F → fX10_expected_5 vi F x (nI k) = some r := by
    intro m
    induction m with
    | zero =>
      intro k x y q1 q2 q3
      have : k = 6 := by omega
      subst this
      have c : (6 : Int32) ≤ nI 6 := by decide
      refine ⟨x, fun F hF => ?_, fun F hF => ?_⟩
      · obtain ⟨F, rfl⟩ : ∃ F', F = F' + 1 := ⟨F - 1, by omega⟩
        rw [fX9_expected_7, if_pos c]
      · obtain ⟨F, rfl⟩ : ∃ F', F = F' + 1 := ⟨F - 1, by omega⟩
        rw [fX10_expected_5, if_pos c]
    | succ m ih =>
      intro k x y q1 q2 q3
      have c : ¬ (6 : Int32) ≤ nI k := by rw [tle, l6, tnI (by omega)]; omega
      obtain ⟨t1, t2, t3⟩ := hW k
      have et : (nI (W k)).toInt = W k := tnI (by omega)
      by_cases ct : nI (W k) ≤ y
      · obtain ⟨r, a1, a2⟩ := ih (k + 1) x y (by omega) (by omega) q3
        refine ⟨r, fun F hF => ?_, fun F hF => ?_⟩
        · obtain ⟨F, rfl⟩ : ∃ F', F = F' + 1 := ⟨F - 1, by omega⟩
          rw [fX9_expected_7, if_neg c, t2, Option.bind_some, if_pos ct, fX9_expected_31, nI_1]
          exact a1 F (by omega)
        · obtain ⟨F, rfl⟩ : ∃ F', F = F' + 1 := ⟨F - 1, by omega⟩
          rw [fX10_expected_5, if_neg c, t3, Option.bind_some]
          by_cases c0 : lg_cmp (nL (W k)) (nL 0) ≤ 0
          · rw [show (0 : Int64) = nL 0 from rfl, if_pos c0, fX10_expected_41, nI_1]
            exact a2 F (by omega)
          · rw [show (0 : Int64) = nL 0 from rfl, if_neg c0]
            rcases q3 with ⟨e1, e2⟩ | ⟨b, b1, b2, b3, b4⟩
            · rw [lcmp_le (by omega) (by omega)] at c0
              rw [e2, tle, et, l0] at ct
              omega
            · have hb := (hW b).1
              have cb : lg_cmp (nL (W k)) (nL (W b)) ≤ 0 := by
                rw [lcmp_le (by omega) (by omega)]
                rw [b3, tle, et, tnI (by omega)] at ct
                omega
              rw [if_neg (by rw [b2, tlt, tnI (by omega), l0]; omega), b2, Option.bind_some, (hW b).2.2, Option.bind_some, if_pos cb, fX10_expected_41, nI_1, ← b2]
              exact a2 F (by omega)
      · have ypos : 0 ≤ y.toInt := by
          rcases q3 with ⟨e1, e2⟩ | ⟨b, b1, b2, b3, b4⟩
          · rw [e2, l0]; omega
          · rw [b3, tnI (by have := (hW b).1; omega)]; omega
        have tpos : 0 < W k := by rw [tle, et] at ct; omega
        obtain ⟨r, a1, a2⟩ := ih (k + 1) (nI k) (nI (W k)) (by omega) (by omega) (Or.inr ⟨k, by omega, rfl, rfl, tpos⟩)
        have c0 : ¬ lg_cmp (nL (W k)) (nL 0) ≤ 0 := by rw [lcmp_le (by omega) (by omega)]; omega
        refine ⟨r, fun F hF => ?_, fun F hF => ?_⟩
        · obtain ⟨F, rfl⟩ : ∃ F', F = F' + 1 := ⟨F - 1, by omega⟩
          rw [fX9_expected_7, if_neg c, t2, Option.bind_some, if_neg ct, fX9_expected_31, nI_1]
          exact a1 F (by omega)
        · obtain ⟨F, rfl⟩ : ∃ F', F = F' + 1 := ⟨F - 1, by omega⟩
          rw [fX10_expected_5, if_neg c, t3, Option.bind_some, show (0 : Int64) = nL 0 from rfl, if_neg c0]
          rcases q3 with ⟨e1, e2⟩ | ⟨b, b1, b2, b3, b4⟩
          · rw [if_pos (by rw [e1]; decide), fX10_expected_39, fX10_expected_41, nI_1]
            exact a2 F (by omega)
          · have hb := (hW b).1
            have cb : ¬ lg_cmp (nL (W k)) (nL (W b)) ≤ 0 := by
              rw [lcmp_le (by omega) (by omega)]
              rw [b3, tle, et, tnI (by omega)] at ct
              omega
            rw [if_neg (by rw [b2, tlt, tnI (by omega), l0]; omega), b2, Option.bind_some, (hW b).2.2, Option.bind_some, if_neg cb, fX10_expected_39, fX10_expected_41, nI_1]
            exact a2 F (by omega)
  obtain ⟨r, a1, a2⟩ := key 6 0 (-2) 0 (by omega) (by omega) (Or.inl ⟨rfl, rfl⟩)
  exact ⟨r, a1 FU (by rw [FU_eq]; omega), a2 FU (by rw [FU_eq]; omega)⟩
/-- two steps halve -/
theorem mod_half {a b : Nat} (h : 0 < a) (hb : a < b) : 2 * (b % a) < b := by
  by_cases c : 2 * a ≤ b
  · have := Nat.mod_lt b h; omega
  · have : b % a = b - a := by
      rw [Nat.mod_eq_sub_mod (by omega), Nat.mod_eq_of_lt (by omega)]
    omega
theorem gcd_class : ∀ (m a b i : Nat), a < 1000000 → b < 1000000 → b < 2 ^ m → i + 2 * m ≤ 64 → ∀ F, 2 * m < F → fX9_greatestCommon_7 F (nI a) (nI b) (nI i) = fX9_greatestCommon_34 (nI (Nat.gcd a b)) := by
  have l64' : (64 : Int32).toInt = 64 := rfl
  have stop : ∀ (a i F : Nat), fX9_greatestCommon_7 (F + 1) (nI a) (nI 0) (nI i) = fX9_greatestCommon_34 (nI (Nat.gcd a 0)) := by
    intro a i F
    rw [fX9_greatestCommon_7, Nat.gcd_zero_right]
    split
    · rfl
    · rw [if_pos (by decide)]
  have step : ∀ (a b i F : Nat), a < 1000000 → b < 1000000 → 0 < b → i < 64 → fX9_greatestCommon_7 (F + 1) (nI a) (nI b) (nI i) = fX9_greatestCommon_7 F (nI b) (nI (a % b)) (nI (i + 1)) := by
    intro a b i F ha hb hb0 hi
    rw [fX9_greatestCommon_7, if_neg (by rw [tle, l64', tnI (by omega)]; omega), if_neg (by rw [tle, l0, tnI (by omega)]; omega), if_neg (by rw [teq, l0, tnI (by omega)]; omega), nI_rem (by omega) (by omega), nI_1]
  intro m
  induction m with
  | zero =>
    intro a b i ha hb hm hi F hF
    have : b = 0 := by simp at hm; omega
    subst this
    obtain ⟨F, rfl⟩ : ∃ F', F = F' + 1 := ⟨F - 1, by omega⟩
    exact stop a i F
  | succ m ih =>
    intro a b i ha hb hm hi F hF
    obtain ⟨F, rfl⟩ : ∃ F', F = F' + 3 := ⟨F - 3, by omega⟩
    by_cases cb : b = 0
    · subst cb
      exact stop a i (F + 2)
    · rw [step a b i (F + 2) ha hb (by omega) (by omega)]
      have hr := Nat.mod_lt a (show b > 0 by omega)
      have g1 : Nat.gcd a b = Nat.gcd b (a % b) := by
        rw [Nat.gcd_comm a b, Nat.gcd_rec b a, Nat.gcd_comm]
      by_cases cr : a % b = 0
      · rw [cr, stop, g1, cr]
      · rw [step b (a % b) (i + 1) (F + 1) hb (by omega) (by omega) (by omega)]
        have g2 : Nat.gcd b (a % b) = Nat.gcd (a % b) (b % (a % b)) := by
          rw [Nat.gcd_comm b (a % b), Nat.gcd_rec (a % b) b, Nat.gcd_comm]
        have hh := mod_half (a := a % b) (b := b) (by omega) hr
        have hl := Nat.mod_lt b (show a % b > 0 by omega)
        rw [g1, g2]
        exact ih (a % b) (b % (a % b)) (i + 1 + 1) (by omega) (by omega) (by rw [Nat.pow_succ] at hm; omega) (by omega) (F + 1) (by omega)
theorem gcd_model {x0 x2 : Nat} {x4 : Int32} (h0 : x0 < 1000000) (h2 : x2 < 1000000) : ∀ (m a b : Nat), a < 1000000 → b < 1000000 → b < 2 ^ m → 0 < Nat.gcd a b → ∀ F, 2 * m < F → fX10_lowest_16 F (nL x0) (nL x2) x4 (nL a) (nL b) = some (if x4 = 0 then nL (x0 / Nat.gcd a b) else nL (x2 / Nat.gcd a b)) := by
  have stop : ∀ (a F : Nat), a < 1000000 → 0 < Nat.gcd a 0 → fX10_lowest_16 (F + 1) (nL x0) (nL x2) x4 (nL a) (nL 0) = some (if x4 = 0 then nL (x0 / Nat.gcd a 0) else nL (x2 / Nat.gcd a 0)) := by
    intro a F ha hg
    rw [Nat.gcd_zero_right] at hg ⊢
    have na : ¬ nL a = 0 := by rw [show (0 : Int64) = nL 0 from rfl, nL_inj (by omega) (by omega)]; omega
    rw [fX10_lowest_16, show (0 : Int64) = nL 0 from rfl, if_pos ((lcmp_eq (by omega) (by omega)).mpr rfl)]
    rw [show (0 : Int64) = nL 0 from rfl] at na
    by_cases c : x4 = 0
    · rw [if_pos c, if_neg na, if_pos c, nL_div (by omega) (by omega)]
    · rw [if_neg c, if_neg na, if_neg c, nL_div (by omega) (by omega)]
  have step : ∀ (a b F : Nat), a < 1000000 → b < 1000000 → 0 < b → fX10_lowest_16 (F + 1) (nL x0) (nL x2) x4 (nL a) (nL b) = fX10_lowest_16 F (nL x0) (nL x2) x4 (nL b) (nL (a % b)) := by
    intro a b F ha hb hb0
    have nb : ¬ b = 0 := by omega
    have c1 : ¬ lg_cmp (nL b) (nL 0) = 0 := by rw [lcmp_eq (by omega) (by omega)]; omega
    have c2 : ¬ nL b = nL 0 := by rw [nL_inj (by omega) (by omega)]; omega
    rw [fX10_lowest_16, show (0 : Int64) = nL 0 from rfl, if_neg c1, if_neg c2, nL_rem (by omega) (by omega)]
  intro m
  induction m with
  | zero =>
    intro a b ha hb hm hg F hF
    have : b = 0 := by simp at hm; omega
    subst this
    obtain ⟨F, rfl⟩ : ∃ F', F = F' + 1 := ⟨F - 1, by omega⟩
    exact stop a F ha hg
  | succ m ih =>
    intro a b ha hb hm hg F hF
    obtain ⟨F, rfl⟩ : ∃ F', F = F' + 3 := ⟨F - 3, by omega⟩
    by_cases cb : b = 0
    · subst cb
      exact stop a (F + 2) ha hg
    · rw [step a b (F + 2) ha hb (by omega)]
      have hr := Nat.mod_lt a (show b > 0 by omega)
      have g1 : Nat.gcd a b = Nat.gcd b (a % b) := by
        rw [Nat.gcd_comm a b, Nat.gcd_rec b a, Nat.gcd_comm]
      rw [g1] at hg ⊢
      by_cases cr : a % b = 0
      · rw [cr] at hg ⊢
        exact stop b (F + 1) hb hg
      · rw [step b (a % b) (F + 1) hb (by omega) (by omega)]
        have g2 : Nat.gcd b (a % b) = Nat.gcd (a % b) (b % (a % b)) := by
          rw [Nat.gcd_comm b (a % b), Nat.gcd_rec (a % b) b, Nat.gcd_comm]
        have hh := mod_half (a := a % b) (b := b) (by omega) hr
        have hl := Nat.mod_lt b (show a % b > 0 by omega)
        rw [g2] at hg ⊢
        exact ih (a % b) (b % (a % b)) (by omega) (by omega) (by rw [Nat.pow_succ] at hm; omega) hg (F + 1) (by omega)
theorem p_likely {ns : Nat} {vi : VI} (hn : I_num ns vi) (hd : I_dust ns vi) (x1 x2 : Int32) : ∃ r, fX9_likely ns x1 x2 vi = some r ∧ fX10_likely x1 x2 vi = some r := by
  obtain ⟨W, hW⟩ := weight_both hn hd
  unfold fX9_likely fX10_likely
  rw [one9_eq, one10_eq, within_eq, in_eq]
  simp only [Option.bind_some, decide_eq_true_eq, l0, l1]
  by_cases c1 : 0 ≤ x1.toInt ∧ x1.toInt ≤ 5
  · rw [if_pos c1, if_pos c1]
    by_cases c2 : 0 ≤ x2.toInt ∧ x2.toInt ≤ 1
    · rw [if_pos c2, if_pos c2]
      obtain ⟨p, hp, rfl⟩ := ex_nI (x := x1) (N := 6) c1.1 (by omega) (by omega)
      have key : ∀ (m k s : Nat), 6 - k = m → k ≤ 6 → s ≤ 77220 * k → (k = 6 → W p ≤ s) → (p < k → W p ≤ s) → ∃ r, (∀ F, m < F → fX9_likely_24 ns vi F (nI p) x2 (nI s) (nI k) = some r) ∧ ∀ F, m < F → fX10_likely_25 vi F (nI p) x2 (nL s) (nI k) = some r := by
        intro m
        induction m with
        | zero =>
          intro k s q1 q2 q3 q4 q5
          have : k = 6 := by omega
          subst this
          have c : (6 : Int32) ≤ nI 6 := by decide
          obtain ⟨w1, w2, w3⟩ := hW p
          have hle := q4 rfl
          by_cases cs : s = 0
          · subst cs
            have w0 : W p = 0 := by omega
            refine ⟨x2.toInt64, fun F hF => ?_, fun F hF => ?_⟩
            · obtain ⟨F, rfl⟩ : ∃ F', F = F' + 1 := ⟨F - 1, by omega⟩
              rw [fX9_likely_24, if_pos c, if_pos t00]
            · obtain ⟨F, rfl⟩ : ∃ F', F = F' + 1 := ⟨F - 1, by omega⟩
              rw [fX10_likely_25, if_pos c, w3, w0, Option.bind_some, fX10_lowest, show (0 : Int64) = nL 0 from rfl, if_pos ((lcmp_eq (by omega) (by omega)).mpr rfl)]
              rfl
          · have gpos : 0 < Nat.gcd s (W p) := Nat.gcd_pos_of_pos_left _ (by omega)
            have gle : Nat.gcd s (W p) ≤ s := Nat.gcd_le_left _ (by omega)
            have gc := gcd_class 20 s (W p) 0 (by omega) (by omega) (by simp; omega) (by omega) FU (by rw [FU_eq]; omega)
            have g34 : fX9_greatestCommon_34 (nI (Nat.gcd s (W p))) = some (nI (Nat.gcd s (W p))) := by
              unfold fX9_greatestCommon_34
              rw [if_neg (by rw [tlt, l1, tnI (by omega)]; omega)]
            have gne : ¬ nI (Nat.gcd s (W p)) = 0 := by rw [teq, l0, tnI (by omega)]; omega
            refine ⟨if x2 = 0 then nL (W p / Nat.gcd s (W p)) else nL (s / Nat.gcd s (W p)), fun F hF => ?_, fun F hF => ?_⟩
            · obtain ⟨F, rfl⟩ : ∃ F', F = F' + 1 := ⟨F - 1, by omega⟩
              rw [fX9_likely_24, if_pos c, if_neg (by rw [teq, l0, tnI (by omega)]; omega), w2, Option.bind_some, fX9_greatestCommon, show (0 : Int32) = nI 0 from rfl, gc, g34, Option.bind_some]
              rw [show nI 0 = (0 : Int32) from rfl]
              have d1 := Nat.div_le_self (W p) (Nat.gcd s (W p))
              have d2 := Nat.div_le_self s (Nat.gcd s (W p))
              by_cases c0 : x2 = 0
              · rw [if_pos c0, if_neg gne, if_pos c0, nI_div (by omega) (by omega), nI_64 (by omega)]
              · rw [if_neg c0, if_neg gne, if_neg c0, nI_div (by omega) (by omega), nI_64 (by omega)]
            · obtain ⟨F, rfl⟩ : ∃ F', F = F' + 1 := ⟨F - 1, by omega⟩
              rw [fX10_likely_25, if_pos c, w3, Option.bind_some, fX10_lowest, show (0 : Int64) = nL 0 from rfl]
              by_cases cw : W p = 0
              · rw [cw, if_pos ((lcmp_eq (by omega) (by omega)).mpr rfl), Nat.gcd_zero_right, Nat.zero_div, Nat.div_self (by omega), Option.bind_some]
                by_cases c0 : x2 = 0
                · rw [if_pos c0, c0]; rfl
                · have c1' : x2 = 1 := by rw [teq, l0] at c0; rw [teq, l1]; omega
                  rw [if_neg c0, c1']; rfl
              · rw [if_neg (by rw [lcmp_eq (by omega) (by omega)]; omega), gcd_model (by omega) (by omega) 20 (W p) s (by omega) (by omega) (by simp; omega) (by rw [Nat.gcd_comm]; exact gpos) FU (by rw [FU_eq]; omega), Nat.gcd_comm (W p) s, Option.bind_some]
        | succ m ih =>
          intro k s q1 q2 q3 q4 q5
          have c : ¬ (6 : Int32) ≤ nI k := by rw [tle, l6, tnI (by omega)]; omega
          obtain ⟨w1, w2, w3⟩ := hW k
          obtain ⟨r, a1, a2⟩ := ih (k + 1) (s + W k) (by omega) (by omega) (by omega) (by
            intro e
            by_cases cp : p = k
            · rw [cp]; omega
            · have := q5 (by omega); omega) (by
            intro e
            by_cases cp : p = k
            · rw [cp]; omega
            · have := q5 (by omega); omega)
          refine ⟨r, fun F hF => ?_, fun F hF => ?_⟩
          · obtain ⟨F, rfl⟩ : ∃ F', F = F' + 1 := ⟨F - 1, by omega⟩
            rw [fX9_likely_24, if_neg c, w2, Option.bind_some, nI_add, nI_1]
            exact a1 F (by omega)
          · obtain ⟨F, rfl⟩ : ∃ F', F = F' + 1 := ⟨F - 1, by omega⟩
            rw [fX10_likely_25, if_neg c, w3, Option.bind_some, nL_add, nI_1]
            exact a2 F (by omega)
      obtain ⟨r, a1, a2⟩ := key 6 0 0 (by omega) (by omega) (by omega) (by omega) (by omega)
      exact ⟨r, a1 FU (by rw [FU_eq]; omega), a2 FU (by rw [FU_eq]; omega)⟩
    · rw [if_neg c2, if_neg c2]; exact ⟨_, rfl, rfl⟩
  · rw [if_neg c1, if_neg c1]; exact ⟨_, rfl, rfl⟩
