/-! what is read of a dust and of a pile that are alike -/
def popN (b : Nat) : Nat := b % 2 + b / 2 % 2 + b / 4 % 2 + b / 8 % 2 + b / 16 % 2 + b / 32 % 2
theorem t00 : nI 0 = (0 : Int32) := rfl
theorem t11 : nI 1 = (1 : Int32) := rfl
theorem bit_or : ∀ b, b < 64 → ∀ p, p < 6 → (nI b ||| ((1 : Int32) <<< (nI p &&& 31)) : Int32) = nI (b ||| 2 ^ p) ∧ b ||| 2 ^ p < 64 := by decide +kernel
theorem bit_at : ∀ b, b < 64 → ∀ p, p < 6 → ((nI b >>> (nI p &&& 31)) &&& 1 : Int32) = nI (b / 2 ^ p % 2) := by decide +kernel
theorem bit_and : ∀ b, b < 64 → ∀ p, p < 6 → (((nI b : Int32) &&& ((1 : Int32) <<< (nI p &&& 31))) = 0 ↔ b / 2 ^ p % 2 = 0) := by decide +kernel
theorem bit_set : ∀ b, b < 64 → ∀ p, p < 6 → ∀ q, q < 6 → (b ||| 2 ^ p) / 2 ^ q % 2 = if q = p then 1 else b / 2 ^ q % 2 := by decide +kernel
theorem pop_or : ∀ b, b < 64 → ∀ p, p < 6 → b / 2 ^ p % 2 = 0 → popN (b ||| 2 ^ p) = popN b + 1 := by decide +kernel
theorem popC : ∀ b, b < 64 → fJ6_bitCount_0f7a4 (nI b) = some (nI (popN b)) := by decide +kernel
theorem popM : ∀ b, b < 64 → fX10_bitsOf (nI b) = some (nI (popN b)) := by decide +kernel
theorem pop_le (b : Nat) : popN b ≤ 6 := by unfold popN; omega
theorem rng_nI {x : Int32} {N : Nat} (h : rng x 0 N) (hN : N < 2147483647) : ∃ j : Nat, j ≤ N ∧ x = nI j := by
  obtain ⟨j, h1, h2⟩ := ex_nI (x := x) (N := N + 1) h.1 (by have := h.2; omega) (by omega)
  exact ⟨j, by omega, h2⟩
theorem addm1 (x : Int32) : x + (-1) = x - 1 := (Int32.sub_eq_add_neg x 1).symm
theorem nI_inj {a b : Nat} (ha : a < 2147483648) (hb : b < 2147483648) : nI a = nI b ↔ a = b := by
  constructor
  · intro h
    have := (teq.mp h)
    rw [tnI ha, tnI hb] at this
    omega
  · intro h; rw [h]
theorem readBits_both {vc vm : VI} {o n : Nat} (h : DP vc o vm n) : ∃ b, b < 64 ∧ (∀ p, p < 6 → (b / 2 ^ p % 2 = 1 ↔ ∃ i, i < n ∧ vm 82 i = nI p)) ∧ fX3_readBits o vc = some (nI b) ∧ fX10_readNow vm = some (nI b) := by
  obtain ⟨h1, h2, h3, h4⟩ := h
  have key : ∀ (m k b : Nat), n - k = m → k ≤ n → b < 64 → (∀ p, p < 6 → (b / 2 ^ p % 2 = 1 ↔ ∃ i, i < k ∧ vm 82 i = nI p)) → ∃ b', b' < 64 ∧ (∀ p, p < 6 → (b' / 2 ^ p % 2 = 1 ↔ ∃ i, i < n ∧ vm 82 i = nI p)) ∧ (∀ F, m < F → fX3_readBits_4 o vc F (nI b) (nI k) = some (nI b')) ∧ ∀ F, m < F → fX10_readNow_4 vm F (nI b) (nI k) = some (nI b') := by
    intro m
    induction m with
    | zero =>
      intro k b q1 q2 q3 q4
      have : k = n := by omega
      subst this
      have c : nI k ≤ nI k := by rw [tle]; omega
      refine ⟨b, q3, q4, fun F hF => ?_, fun F hF => ?_⟩
      · obtain ⟨F, rfl⟩ : ∃ F', F = F' + 1 := ⟨F - 1, by omega⟩
        rw [fX3_readBits_4, h2, if_pos c]
      · obtain ⟨F, rfl⟩ : ∃ F', F = F' + 1 := ⟨F - 1, by omega⟩
        rw [fX10_readNow_4, h3, if_pos c]
    | succ m ih =>
      intro k b q1 q2 q3 q4
      have c : ¬ nI n ≤ nI k := by rw [tle, tnI (by omega), tnI (by omega)]; omega
      have ck : (nI k).toNatClampNeg = k := nI_clamp (by omega)
      obtain ⟨g1, g2, g3, g4⟩ := h4 k (by omega)
      obtain ⟨p, hp, ep⟩ := rng_nI (N := 5) g3 (by omega)
      obtain ⟨b1, b2⟩ := bit_or b q3 p (by omega)
      obtain ⟨b', a1, a2, a3, a4⟩ := ih (k + 1) (b ||| 2 ^ p) (by omega) (by omega) b2 (by
        intro q hq
        rw [bit_set b q3 p (by omega) q hq]
        by_cases cq : q = p
        · subst cq
          rw [if_pos rfl]
          exact ⟨fun _ => ⟨k, by omega, ep⟩, fun _ => rfl⟩
        · rw [if_neg cq, q4 q hq]
          constructor
          · rintro ⟨i, i1, i2⟩
            exact ⟨i, by omega, i2⟩
          · rintro ⟨i, i1, i2⟩
            by_cases ci : i = k
            · subst ci
              rw [ep, nI_inj (by omega) (by omega)] at i2
              omega
            · exact ⟨i, by omega, i2⟩)
      refine ⟨b', a1, a2, fun F hF => ?_, fun F hF => ?_⟩
      · obtain ⟨F, rfl⟩ : ∃ F', F = F' + 1 := ⟨F - 1, by omega⟩
        rw [fX3_readBits_4, h2, if_neg c, if_inb (by rw [tnI (by omega)]; omega), ck, g1, ep, b1, nI_1]
        exact a3 F (by omega)
      · obtain ⟨F, rfl⟩ : ∃ F', F = F' + 1 := ⟨F - 1, by omega⟩
        rw [fX10_readNow_4, h3, if_neg c, if_inb (by rw [tnI (by omega)]; omega), ck, ep, b1, nI_1]
        exact a4 F (by omega)
  obtain ⟨b, a1, a2, a3, a4⟩ := key n 0 0 (by omega) (by omega) (by omega) (by
    intro p hp
    have : 0 / 2 ^ p % 2 = 0 := by simp
    rw [this]
    exact ⟨fun q => absurd q (by omega), fun ⟨i, i1, _⟩ => absurd i1 (by omega)⟩)
  exact ⟨b, a1, a2, a3 FU (by rw [FU_eq]; omega), a4 FU (by rw [FU_eq]; omega)⟩
theorem thickOf_both {vc vm : VI} {o n : Nat} (h : DP vc o vm n) (p : Int32) : ∃ s, s ≤ 1188 ∧ fX3_thickOf o p vc = some (nI s) ∧ fX10_thickBy p vm = some (nI s) := by
  obtain ⟨h1, h2, h3, h4⟩ := h
  have key : ∀ (m k s : Nat), n - k = m → k ≤ n → s ≤ 99 * k → ∃ s', s' ≤ 99 * n ∧ (∀ F, m < F → fX3_thickOf_4 o vc F p (nI s) (nI k) = some (nI s')) ∧ ∀ F, m < F → fX10_thickBy_4 vm F p (nI s) (nI k) = some (nI s') := by
    intro m
    induction m with
    | zero =>
      intro k s q1 q2 q3
      have : k = n := by omega
      subst this
      have c : nI k ≤ nI k := by rw [tle]; omega
      refine ⟨s, q3, fun F hF => ?_, fun F hF => ?_⟩
      · obtain ⟨F, rfl⟩ : ∃ F', F = F' + 1 := ⟨F - 1, by omega⟩
        rw [fX3_thickOf_4, h2, if_pos c]
      · obtain ⟨F, rfl⟩ : ∃ F', F = F' + 1 := ⟨F - 1, by omega⟩
        rw [fX10_thickBy_4, h3, if_pos c]
    | succ m ih =>
      intro k s q1 q2 q3
      have c : ¬ nI n ≤ nI k := by rw [tle, tnI (by omega), tnI (by omega)]; omega
      have ck : (nI k).toNatClampNeg = k := nI_clamp (by omega)
      obtain ⟨g1, g2, g3, g4⟩ := h4 k (by omega)
      have b2 : 0 ≤ (nI k).toInt ∧ (nI k).toInt < (12 : Nat) := by rw [tnI (by omega)]; omega
      have b3 : 0 ≤ (nI k).toInt ∧ (nI k).toInt < (13 : Nat) := by omega
      obtain ⟨t, ht, et⟩ := rng_nI (x := vm 83 k) (N := 99) ⟨by have := g4.1; omega, g4.2⟩ (by omega)
      by_cases cp : vm 82 k = p
      · obtain ⟨s', a1, a2, a3⟩ := ih (k + 1) (s + t) (by omega) (by omega) (by omega)
        refine ⟨s', a1, fun F hF => ?_, fun F hF => ?_⟩
        · obtain ⟨F, rfl⟩ : ∃ F', F = F' + 1 := ⟨F - 1, by omega⟩
          rw [fX3_thickOf_4, h2, if_neg c, if_inb b2, ck, g1, if_pos cp, if_inb b2, g2, et, nI_add, fX3_thickOf_31, nI_1]
          exact a2 F (by omega)
        · obtain ⟨F, rfl⟩ : ∃ F', F = F' + 1 := ⟨F - 1, by omega⟩
          rw [fX10_thickBy_4, h3, if_neg c, if_inb b3, ck, if_pos cp, if_inb b3, et, nI_add, fX10_thickBy_31, nI_1]
          exact a3 F (by omega)
      · obtain ⟨s', a1, a2, a3⟩ := ih (k + 1) s (by omega) (by omega) (by omega)
        refine ⟨s', a1, fun F hF => ?_, fun F hF => ?_⟩
        · obtain ⟨F, rfl⟩ : ∃ F', F = F' + 1 := ⟨F - 1, by omega⟩
          rw [fX3_thickOf_4, h2, if_neg c, if_inb b2, ck, g1, if_neg cp, fX3_thickOf_31, nI_1]
          exact a2 F (by omega)
        · obtain ⟨F, rfl⟩ : ∃ F', F = F' + 1 := ⟨F - 1, by omega⟩
          rw [fX10_thickBy_4, h3, if_neg c, if_inb b3, ck, if_neg cp, fX10_thickBy_31, nI_1]
          exact a3 F (by omega)
  obtain ⟨s, a1, a2, a3⟩ := key n 0 0 (by omega) (by omega) (by omega)
  exact ⟨s, by omega, a2 FU (by rw [FU_eq]; omega), a3 FU (by rw [FU_eq]; omega)⟩
theorem most_both {vc vm : VI} {o n : Nat} (h : DP vc o vm n) : ∃ r, fX3_ofWhomMost o vc = some r ∧ fX10_mostNow vm = some r := by
  have hT : ∃ T : Nat → Nat, ∀ p, T p ≤ 1188 ∧ fX3_thickOf o (nI p) vc = some (nI (T p)) ∧ fX10_thickBy (nI p) vm = some (nI (T p)) := ⟨fun p => (thickOf_both h (nI p)).choose, fun p => (thickOf_both h (nI p)).choose_spec⟩
  obtain ⟨T, hT⟩ := hT
  have key : ∀ (m k : Nat) (x y : Int32), 6 - k = m → k ≤ 6 → ((x = -2 ∧ y = 0) ∨ ∃ b, b < 6 ∧ x = nI b ∧ y = nI (T b) ∧ 0 < T b) → ∃ r, (∀ F, m < F → fX3_ofWhomMost_7 o vc F x y (nI k) = some r) ∧ ∀ F, m < F → fX10_mostNow_5 vm F x (nI k) = some r := by
    intro m
    induction m with
    | zero =>
      intro k x y q1 q2 q3
      have : k = 6 := by omega
      subst this
      have c : (6 : Int32) ≤ nI 6 := by decide
      refine ⟨x, fun F hF => ?_, fun F hF => ?_⟩
      · obtain ⟨F, rfl⟩ : ∃ F', F = F' + 1 := ⟨F - 1, by omega⟩
        rw [fX3_ofWhomMost_7, if_pos c]
      · obtain ⟨F, rfl⟩ : ∃ F', F = F' + 1 := ⟨F - 1, by omega⟩
        rw [fX10_mostNow_5, if_pos c]
    | succ m ih =>
      intro k x y q1 q2 q3
      have c : ¬ (6 : Int32) ≤ nI k := by rw [tle, l6, tnI (by omega)]; omega
      obtain ⟨t1, t2, t3⟩ := hT k
      have et : (nI (T k)).toInt = T k := tnI (by omega)
      -- whether it becomes the best
      by_cases ct : nI (T k) ≤ y
      · obtain ⟨r, a1, a2⟩ := ih (k + 1) x y (by omega) (by omega) q3
        refine ⟨r, fun F hF => ?_, fun F hF => ?_⟩
        · obtain ⟨F, rfl⟩ : ∃ F', F = F' + 1 := ⟨F - 1, by omega⟩
          rw [fX3_ofWhomMost_7, if_neg c, t2, Option.bind_some, if_pos ct, fX3_ofWhomMost_31, nI_1]
          exact a1 F (by omega)
        · obtain ⟨F, rfl⟩ : ∃ F', F = F' + 1 := ⟨F - 1, by omega⟩
          rw [fX10_mostNow_5, if_neg c, t3, Option.bind_some]
          by_cases c0 : nI (T k) ≤ 0
          · rw [if_pos c0, fX10_mostNow_38, nI_1]
            exact a2 F (by omega)
          · rw [if_neg c0]
            rcases q3 with ⟨e1, e2⟩ | ⟨b, b1, b2, b3, b4⟩
            · rw [e2] at ct
              exact absurd ct c0
            · rw [if_neg (by rw [b2, tlt, tnI (by omega), l0]; omega), b2, Option.bind_some, (hT b).2.2, Option.bind_some, ← b3, if_pos ct, fX10_mostNow_38, nI_1, ← b2]
              exact a2 F (by omega)
      · have ypos : 0 ≤ y.toInt := by
          rcases q3 with ⟨e1, e2⟩ | ⟨b, b1, b2, b3, b4⟩
          · rw [e2, l0]; omega
          · rw [b3, tnI (by have := (hT b).1; omega)]; omega
        have tpos : 0 < T k := by rw [tle, et] at ct; omega
        obtain ⟨r, a1, a2⟩ := ih (k + 1) (nI k) (nI (T k)) (by omega) (by omega) (Or.inr ⟨k, by omega, rfl, rfl, tpos⟩)
        refine ⟨r, fun F hF => ?_, fun F hF => ?_⟩
        · obtain ⟨F, rfl⟩ : ∃ F', F = F' + 1 := ⟨F - 1, by omega⟩
          rw [fX3_ofWhomMost_7, if_neg c, t2, Option.bind_some, if_neg ct, fX3_ofWhomMost_31, nI_1]
          exact a1 F (by omega)
        · obtain ⟨F, rfl⟩ : ∃ F', F = F' + 1 := ⟨F - 1, by omega⟩
          rw [fX10_mostNow_5, if_neg c, t3, Option.bind_some, if_neg (by rw [tle, et, l0]; omega)]
          rcases q3 with ⟨e1, e2⟩ | ⟨b, b1, b2, b3, b4⟩
          · rw [if_pos (by rw [e1]; decide), fX10_mostNow_36, fX10_mostNow_38, nI_1]
            exact a2 F (by omega)
          · rw [if_neg (by rw [b2, tlt, tnI (by omega), l0]; omega), b2, Option.bind_some, (hT b).2.2, Option.bind_some, ← b3, if_neg ct, fX10_mostNow_36, fX10_mostNow_38, nI_1]
            exact a2 F (by omega)
  obtain ⟨r, a1, a2⟩ := key 6 0 (-2) 0 (by omega) (by omega) (Or.inl ⟨rfl, rfl⟩)
  exact ⟨r, a1 FU (by rw [FU_eq]; omega), a2 FU (by rw [FU_eq]; omega)⟩
theorem unlike_both {vc vm : VI} {o n : Nat} (h : DP vc o vm n) (x : Int32) : ∃ r, fX3_unlikeFromAbove o x vc = some r ∧ fX10_fromAbove x vm = some r := by
  obtain ⟨h1, h2, h3, h4⟩ := h
  have key : ∀ (k b : Nat), k ≤ n → b < 64 → ∃ r, (∀ F, k < F → fX3_unlikeFromAbove_12 o vc F x (nI b) (nI (popN b)) (nI k - 1) = some r) ∧ ∀ F, k < F → fX10_fromAbove_9 vm F x (nI b) (nI k - 1) = some r := by
    intro k
    induction k with
    | zero =>
      intro b q1 q2
      have c : (nI 0 - 1 : Int32) < 0 := by decide
      refine ⟨-2, fun F hF => ?_, fun F hF => ?_⟩
      · obtain ⟨F, rfl⟩ : ∃ F', F = F' + 1 := ⟨F - 1, by omega⟩
        rw [fX3_unlikeFromAbove_12, if_pos c]
      · obtain ⟨F, rfl⟩ : ∃ F', F = F' + 1 := ⟨F - 1, by omega⟩
        rw [fX10_fromAbove_9, if_pos c]
    | succ k ih =>
      intro b q1 q2
      have c : ¬ nI k < 0 := by rw [tlt, tnI (by omega), l0]; omega
      have ck : (nI k).toNatClampNeg = k := nI_clamp (by omega)
      obtain ⟨g1, g2, g3, g4⟩ := h4 k (by omega)
      obtain ⟨p, hp, ep⟩ := rng_nI (N := 5) g3 (by omega)
      have b2 : 0 ≤ (nI k).toInt ∧ (nI k).toInt < (12 : Nat) := by rw [tnI (by omega)]; omega
      have b3 : 0 ≤ (nI k).toInt ∧ (nI k).toInt < (13 : Nat) := by omega
      have e1 : ((nI b >>> (nI p &&& 31)) &&& 1 : Int32) = nI (b / 2 ^ p % 2) := bit_at b q2 p (by omega)
      rw [nsub1 (by omega)]
      by_cases cb : b / 2 ^ p % 2 = 0
      · obtain ⟨o1, o2⟩ := bit_or b q2 p (by omega)
        obtain ⟨r, a1, a2⟩ := ih (b ||| 2 ^ p) (by omega) o2
        by_cases cx : nI (popN b) = x
        · refine ⟨nI p, fun F hF => ?_, fun F hF => ?_⟩
          · obtain ⟨F, rfl⟩ : ∃ F', F = F' + 1 := ⟨F - 1, by omega⟩
            rw [fX3_unlikeFromAbove_12, if_neg c, if_inb b2, ck, g1, ep, e1, cb, if_pos t00, if_pos cx, if_inb b2]
          · obtain ⟨F, rfl⟩ : ∃ F', F = F' + 1 := ⟨F - 1, by omega⟩
            rw [fX10_fromAbove_9, if_neg c, if_inb b3, ck, ep, e1, cb, if_neg (by decide), popM b q2, Option.bind_some, if_pos cx, if_inb b3]
        · refine ⟨r, fun F hF => ?_, fun F hF => ?_⟩
          · obtain ⟨F, rfl⟩ : ∃ F', F = F' + 1 := ⟨F - 1, by omega⟩
            rw [fX3_unlikeFromAbove_12, if_neg c, if_inb b2, ck, g1, ep, e1, cb, if_pos t00, if_neg cx, if_inb b2, o1, fX3_unlikeFromAbove_59, addm1, nI_1, ← pop_or b q2 p (by omega) cb]
            exact a1 F (by omega)
          · obtain ⟨F, rfl⟩ : ∃ F', F = F' + 1 := ⟨F - 1, by omega⟩
            rw [fX10_fromAbove_9, if_neg c, if_inb b3, ck, ep, e1, cb, if_neg (by decide), popM b q2, Option.bind_some, if_neg cx, if_inb b3, o1, fX10_fromAbove_56, addm1]
            exact a2 F (by omega)
      · have cb1 : b / 2 ^ p % 2 = 1 := by omega
        obtain ⟨r, a1, a2⟩ := ih b (by omega) q2
        refine ⟨r, fun F hF => ?_, fun F hF => ?_⟩
        · obtain ⟨F, rfl⟩ : ∃ F', F = F' + 1 := ⟨F - 1, by omega⟩
          rw [fX3_unlikeFromAbove_12, if_neg c, if_inb b2, ck, g1, ep, e1, cb1, if_neg (by decide), fX3_unlikeFromAbove_59, addm1]
          exact a1 F (by omega)
        · obtain ⟨F, rfl⟩ : ∃ F', F = F' + 1 := ⟨F - 1, by omega⟩
          rw [fX10_fromAbove_9, if_neg c, if_inb b3, ck, ep, e1, cb1, if_pos t11, fX10_fromAbove_56, addm1]
          exact a2 F (by omega)
  obtain ⟨r, a1, a2⟩ := key n 0 (by omega) (by omega)
  refine ⟨r, ?_, ?_⟩
  · unfold fX3_unlikeFromAbove
    rw [h2]
    exact a1 FU (by rw [FU_eq]; omega)
  · unfold fX10_fromAbove
    rw [h3]
    exact a2 FU (by rw [FU_eq]; omega)
