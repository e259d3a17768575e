/-! SAME; LIKELY, EXPECTED -/
def nL (n : Nat) : Int64 := Int64.ofNat n
theorem nL_toInt {n : Nat} (h : n < 2147483648) : (nL n).toInt = n := Int64.toInt_ofNat_of_lt (by omega)
theorem nL_inj {a b : Nat} (ha : a < 2147483648) (hb : b < 2147483648) : nL a = nL b ↔ a = b := by
  rw [← Int64.toInt_inj, nL_toInt ha, nL_toInt hb]; omega
theorem nL_add (a b : Nat) : nL a + nL b = nL (a + b) := (Int64.ofNat_add a b).symm
theorem nL_div {a b : Nat} (ha : a < 2147483648) (hb : b < 2147483648) : nL a / nL b = nL (a / b) := (Int64.ofNat_div (by omega) (by omega)).symm
theorem nI_div {a b : Nat} (ha : a < 2147483648) (hb : b < 2147483648) : nI a / nI b = nI (a / b) := (Int32.ofNat_div (by omega) (by omega)).symm
theorem nI_sub {a b : Nat} (h : b ≤ a) : nI a - nI b = nI (a - b) := (Int32.ofNat_sub a b h).symm
theorem nL_sub {a b : Nat} (h : b ≤ a) : nL a - nL b = nL (a - b) := (Int64.ofNat_sub a b h).symm
theorem nI_mul (a b : Nat) : nI a * nI b = nI (a * b) := (Int32.ofNat_mul a b).symm
theorem nL_mul (a b : Nat) : nL a * nL b = nL (a * b) := (Int64.ofNat_mul a b).symm
theorem mod_by (a b : Nat) : a / b * b ≤ a ∧ a - a / b * b = a % b := by
  have := Nat.div_add_mod' a b
  omega
theorem nI_rem {a b : Nat} (ha : a < 2147483648) (hb : b < 2147483648) : nI a - nI a / nI b * nI b = nI (a % b) := by
  obtain ⟨h1, h2⟩ := mod_by a b
  rw [nI_div ha hb, nI_mul, nI_sub h1, h2]
theorem nL_rem {a b : Nat} (ha : a < 2147483648) (hb : b < 2147483648) : nL a - nL a / nL b * nL b = nL (a % b) := by
  obtain ⟨h1, h2⟩ := mod_by a b
  rw [nL_div ha hb, nL_mul, nL_sub h1, h2]
theorem nI_64 {n : Nat} (h : n < 2147483648) : (nI n).toInt64 = nL n := by
  rw [← Int64.toInt_inj, Int32.toInt_toInt64, tnI h, nL_toInt h]
theorem whomAt_eq {vi : VI} {j k : Nat} (hj : j < 5) (hk : k < 12) : fX10_whomAt (nI j) (nI k) vi = some (vi 68 (12 * j + k)) := by
  unfold fX10_whomAt
  have ek : (12 * nI j + nI k : Int32) = nI (12 * j + k) := by rw [show (12 : Int32) = nI 12 from rfl, pk_mul, nI_add]
  rw [ek, if_inb (by rw [tnI (by omega)]; omega), nI_clamp (by omega)]
/-- two SILLS in one number -/
theorem ab_eq {ns : Nat} {vi vm : VI} (h5 : ns ≤ 5) (n1 : vi 0 1 = nI ns) (n2 : vm 63 1 = nI ns) (x : Int32) : (∃ a b, a < ns ∧ b < ns ∧ x / 10 = nI a ∧ x - x / 10 * 10 = nI b ∧ fX10_areSills x vm = some true ∧ fX9_sillAt ns (x / 10) vi = some (some (98 + 5 * a)) ∧ fX9_sillAt ns (x - x / 10 * 10) vi = some (some (98 + 5 * b))) ∨ (fX10_areSills x vm = some false ∧ (fX9_sillAt ns (x / 10) vi = some none ∨ fX9_sillAt ns (x - x / 10 * 10) vi = some none) ∧ (∃ r, fX9_sillAt ns (x / 10) vi = some r) ∧ ∃ r, fX9_sillAt ns (x - x / 10 * 10) vi = some r) := by
  have s1 := sillAt_eq h5 n1 (x / 10)
  have s2 := sillAt_eq h5 n1 (x - x / 10 * 10)
  have i1 := isSill_eq h5 n2 (x / 10)
  have i2 := isSill_eq h5 n2 (x - x / 10 * 10)
  by_cases c1 : 0 ≤ (x / 10).toInt ∧ (x / 10).toInt < ns
  · by_cases c2 : 0 ≤ (x - x / 10 * 10).toInt ∧ (x - x / 10 * 10).toInt < ns
    · obtain ⟨a, ha, ea⟩ := ex_nI c1.1 c1.2 (by omega)
      obtain ⟨b, hb, eb⟩ := ex_nI c2.1 c2.2 (by omega)
      have ex : x = nI (b + a * 10) := by
        have : x = (x - x / 10 * 10) + x / 10 * 10 := (Int32.sub_add_cancel _ _).symm
        rw [eb, ea, show (10 : Int32) = nI 10 from rfl, nI_mul, nI_add] at this
        exact this
      have xp : ¬ x < 0 := by rw [ex, tlt, tnI (by omega), l0]; omega
      refine Or.inl ⟨a, b, ha, hb, ea, eb, ?_, ?_, ?_⟩
      · unfold fX10_areSills
        rw [if_neg xp, i1, i2]
        simp only [Option.bind_some, decide_eq_true_eq]
        rw [if_pos c1, if_pos c2]
      · rw [s1, if_pos c1, ea, nI_clamp (by omega)]
      · rw [s2, if_pos c2, eb, nI_clamp (by omega)]
    · refine Or.inr ⟨?_, Or.inr (by rw [s2, if_neg c2]), ⟨_, s1⟩, ⟨_, s2⟩⟩
      unfold fX10_areSills
      rw [i1, i2]
      simp only [Option.bind_some, decide_eq_true_eq]
      rw [if_pos c1, if_neg c2]
      split <;> rfl
  · refine Or.inr ⟨?_, Or.inl (by rw [s1, if_neg c1]), ⟨_, s1⟩, ⟨_, s2⟩⟩
    unfold fX10_areSills
    rw [i1]
    simp only [Option.bind_some, decide_eq_true_eq]
    rw [if_neg c1]
    split <;> rfl
theorem p_same {ns : Nat} {vi : VI} (hn : I_num ns vi) (hd : I_dust ns vi) (x1 : Int32) : ∃ r, fX9_same ns x1 vi = some r ∧ fX10_same x1 vi = some r := by
  have h5 := hn.1
  unfold fX9_same fX10_same
  rcases ab_eq h5 hn.2.1 hn.2.2.1 x1 with ⟨a, b, ha, hb, e1, e2, e3, e4, e5⟩ | ⟨e3, e4, ⟨ra, e5⟩, ⟨rb, e6⟩⟩
  · rw [e4, e5, e3, e2, e1]
    simp only [Option.bind_some, optS, if_true]
    rw [if_inb (by rw [tnI (by omega)]; omega), if_inb (by rw [tnI (by omega)]; omega), nI_clamp (show a < 2 ^ 31 by omega), nI_clamp (show b < 2 ^ 31 by omega)]
    obtain ⟨n, d1, d2, d3, d4⟩ := hd a ha
    obtain ⟨n', d1', d2', d3', d4'⟩ := hd b hb
    rw [show 98 + 5 * a + 1 = 99 + 5 * a by omega, show 98 + 5 * b + 1 = 99 + 5 * b by omega, d2, d2', d3, d3']
    by_cases c : nI n = nI n'
    · rw [if_pos c, if_pos c]
      have en : n = n' := (nI_inj (by omega) (by omega)).mp c
      subst en
      have key : ∀ (m k : Nat), n - k = m → k ≤ n → ∃ r, (∀ F, m < F → fX9_same_50 ns vi F (98 + 5 * a) (98 + 5 * b) (nI k) = some r) ∧ ∀ F, m < F → fX10_same_40 vi F (nI a) (nI b) (nI k) = some r := by
        intro m
        induction m with
        | zero =>
          intro k q1 q2
          have cc : nI n ≤ nI k := by rw [tle, tnI (by omega), tnI (by omega)]; omega
          refine ⟨1, fun F hF => ?_, fun F hF => ?_⟩
          · obtain ⟨F, rfl⟩ : ∃ F', F = F' + 1 := ⟨F - 1, by omega⟩
            rw [fX9_same_50, show 98 + 5 * a + 1 = 99 + 5 * a by omega, d2, if_pos cc]
          · obtain ⟨F, rfl⟩ : ∃ F', F = F' + 1 := ⟨F - 1, by omega⟩
            rw [fX10_same_40, if_inb (by rw [tnI (by omega)]; omega), nI_clamp (by omega), d3, if_pos cc]
        | succ m ih =>
          intro k q1 q2
          have cc : ¬ nI n ≤ nI k := by rw [tle, tnI (by omega), tnI (by omega)]; omega
          have bk : 0 ≤ (nI k).toInt ∧ (nI k).toInt < (12 : Nat) := by rw [tnI (by omega)]; omega
          obtain ⟨r, a1, a2⟩ := ih (k + 1) (by omega) (by omega)
          have g := (d4 k (by omega)).1
          have g' := (d4' k (by omega)).1
          by_cases cw : vi 68 (12 * a + k) = vi 68 (12 * b + k)
          · refine ⟨r, fun F hF => ?_, fun F hF => ?_⟩
            · obtain ⟨F, rfl⟩ : ∃ F', F = F' + 1 := ⟨F - 1, by omega⟩
              rw [fX9_same_50, show 98 + 5 * a + 1 = 99 + 5 * a by omega, show 98 + 5 * b + 1 = 99 + 5 * b by omega, d2, if_neg cc, if_inb bk, if_inb bk, nI_clamp (by omega), show 99 + 5 * a + 1 = 100 + 5 * a by omega, show 99 + 5 * b + 1 = 100 + 5 * b by omega, g, g', if_pos cw, nI_1]
              exact a1 F (by omega)
            · obtain ⟨F, rfl⟩ : ∃ F', F = F' + 1 := ⟨F - 1, by omega⟩
              rw [fX10_same_40, if_inb (by rw [tnI (by omega)]; omega), nI_clamp (show a < 2 ^ 31 by omega), d3, if_neg cc, whomAt_eq (by omega) (by omega), Option.bind_some, whomAt_eq (by omega) (by omega), Option.bind_some, if_pos cw, nI_1]
              exact a2 F (by omega)
          · refine ⟨0, fun F hF => ?_, fun F hF => ?_⟩
            · obtain ⟨F, rfl⟩ : ∃ F', F = F' + 1 := ⟨F - 1, by omega⟩
              rw [fX9_same_50, show 98 + 5 * a + 1 = 99 + 5 * a by omega, show 98 + 5 * b + 1 = 99 + 5 * b by omega, d2, if_neg cc, if_inb bk, if_inb bk, nI_clamp (by omega), show 99 + 5 * a + 1 = 100 + 5 * a by omega, show 99 + 5 * b + 1 = 100 + 5 * b by omega, g, g', if_neg cw]
            · obtain ⟨F, rfl⟩ : ∃ F', F = F' + 1 := ⟨F - 1, by omega⟩
              rw [fX10_same_40, if_inb (by rw [tnI (by omega)]; omega), nI_clamp (show a < 2 ^ 31 by omega), d3, if_neg cc, whomAt_eq (by omega) (by omega), Option.bind_some, whomAt_eq (by omega) (by omega), Option.bind_some, if_neg cw]
      obtain ⟨r, a1, a2⟩ := key n 0 (by omega) (by omega)
      exact ⟨r, a1 FU (by rw [FU_eq]; omega), a2 FU (by rw [FU_eq]; omega)⟩
    · rw [if_neg c, if_neg c]
      exact ⟨0, rfl, rfl⟩
  · rw [e3]
    refine ⟨-1, ?_, by rw [Option.bind_some]; rfl⟩
    rcases e4 with e4 | e4
    · rw [e4, e6]
      cases rb <;> rfl
    · rw [e5, e4]
      cases ra <;> rfl
/-- how much weight one has on a SILL -/
theorem weight_inner {ns : Nat} {vi : VI} (h5 : ns ≤ 5) (hd : I_dust ns vi) {j : Nat} (hj : j < ns) (p : Int32) {n : Nat} (d1 : n ≤ 12) (d2 : vi (99 + 5 * j) 2 = nI n) (d3 : vi 67 j = nI n) (d4 : ∀ k, k < n → vi (100 + 5 * j) k = vi 68 (12 * j + k) ∧ vi (101 + 5 * j) k = vi 69 (12 * j + k) ∧ rng (vi 68 (12 * j + k)) 0 5 ∧ rng (vi 69 (12 * j + k)) 1 99) : ∀ (m k s : Nat), n - k = m → k ≤ n → s + 1287 * m ≤ 100000 → ∃ s', s' ≤ s + 1287 * m ∧ (∀ k4 F, m < F → fX9_weightOf_26 ns vi k4 F p (nI s) (nI j) (99 + 5 * j) (nI k) = k4 p (nI s') (nI (j + 1))) ∧ ∀ k5 F, m < F → fX10_weightOf_17 vi k5 F p (nL s) (nI j) (nI k) = k5 p (nL s') (nI (j + 1)) := by
  have bj : 0 ≤ (nI j).toInt ∧ (nI j).toInt < (5 : Nat) := by rw [tnI (by omega)]; omega
  have cj : (nI j).toNatClampNeg = j := nI_clamp (by omega)
  intro m
  induction m with
  | zero =>
    intro k s q1 q2 q3
    have cc : nI n ≤ nI k := by rw [tle, tnI (by omega), tnI (by omega)]; omega
    refine ⟨s, by omega, fun k4 F hF => ?_, fun k5 F hF => ?_⟩
    · obtain ⟨F, rfl⟩ : ∃ F', F = F' + 1 := ⟨F - 1, by omega⟩
      rw [fX9_weightOf_26, d2, if_pos cc, nI_1]
    · obtain ⟨F, rfl⟩ : ∃ F', F = F' + 1 := ⟨F - 1, by omega⟩
      rw [fX10_weightOf_17, if_inb bj, cj, d3, if_pos cc, nI_1]
  | succ m ih =>
    intro k s q1 q2 q3
    have cc : ¬ nI n ≤ nI k := by rw [tle, tnI (by omega), tnI (by omega)]; omega
    have bk : 0 ≤ (nI k).toInt ∧ (nI k).toInt < (12 : Nat) := by rw [tnI (by omega)]; omega
    have ck : (nI k).toNatClampNeg = k := nI_clamp (by omega)
    obtain ⟨g1, g2, g3, g4⟩ := d4 k (by omega)
    obtain ⟨t, ht, et⟩ := rng_nI (x := vi 69 (12 * j + k)) (N := 99) ⟨by have := g4.1; omega, g4.2⟩ (by omega)
    have ekj : (12 * nI j + nI k : Int32) = nI (12 * j + k) := by rw [show (12 : Int32) = nI 12 from rfl, pk_mul, nI_add]
    have bkj : 0 ≤ (nI (12 * j + k)).toInt ∧ (nI (12 * j + k)).toInt < (60 : Nat) := by rw [tnI (by omega)]; omega
    have ckj : (nI (12 * j + k)).toNatClampNeg = 12 * j + k := nI_clamp (by omega)
    have ew : (13 - ((nI n - 1) - nI k) : Int32) = nI (13 - (n - 1 - k)) := by
      rw [show (1 : Int32) = nI 1 from rfl, show (13 : Int32) = nI 13 from rfl, nI_sub (by omega), nI_sub (by omega), nI_sub (by omega)]
    have hm : t * (13 - (n - 1 - k)) ≤ 1287 := Nat.le_trans (Nat.mul_le_mul ht (show 13 - (n - 1 - k) ≤ 13 by omega)) (by decide)
    by_cases cw : vi 68 (12 * j + k) = p
    · obtain ⟨s', a0, a1, a2⟩ := ih (k + 1) (s + t * (13 - (n - 1 - k))) (by omega) (by omega) (by omega)
      refine ⟨s', by omega, fun k4 F hF => ?_, fun k5 F hF => ?_⟩
      · obtain ⟨F, rfl⟩ : ∃ F', F = F' + 1 := ⟨F - 1, by omega⟩
        rw [fX9_weightOf_26, d2, if_neg cc, if_inb bk, ck, show 99 + 5 * j + 1 = 100 + 5 * j by omega, g1, if_pos cw, if_inb bk, show 99 + 5 * j + 2 = 101 + 5 * j by omega, g2, et, ew, nI_mul, nI_add, fX9_weightOf_73, nI_1]
        exact a1 k4 F (by omega)
      · obtain ⟨F, rfl⟩ : ∃ F', F = F' + 1 := ⟨F - 1, by omega⟩
        rw [fX10_weightOf_17, if_inb bj, cj, d3, if_neg cc, whomAt_eq (by omega) (by omega), Option.bind_some, if_pos cw, ekj, if_inb bkj, if_inb bj, ckj, et, ew, nI_mul, nI_64 (by omega), nL_add, fX10_weightOf_74, nI_1]
        exact a2 k5 F (by omega)
    · obtain ⟨s', a0, a1, a2⟩ := ih (k + 1) s (by omega) (by omega) (by omega)
      refine ⟨s', by omega, fun k4 F hF => ?_, fun k5 F hF => ?_⟩
      · obtain ⟨F, rfl⟩ : ∃ F', F = F' + 1 := ⟨F - 1, by omega⟩
        rw [fX9_weightOf_26, d2, if_neg cc, if_inb bk, ck, show 99 + 5 * j + 1 = 100 + 5 * j by omega, g1, if_neg cw, fX9_weightOf_73, nI_1]
        exact a1 k4 F (by omega)
      · obtain ⟨F, rfl⟩ : ∃ F', F = F' + 1 := ⟨F - 1, by omega⟩
        rw [fX10_weightOf_17, if_inb bj, cj, d3, if_neg cc, whomAt_eq (by omega) (by omega), Option.bind_some, if_neg cw, fX10_weightOf_74, nI_1]
        exact a2 k5 F (by omega)
