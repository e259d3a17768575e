/-! ALIKE: the longest order, by how much is left on either -/
def lrow (v : Nat → Int32) (nb : Nat) (x : Int32) (f : Nat → Nat) : Nat → Nat
  | 0 => 0
  | q + 1 => if x = v (nb - (q + 1)) then 1 + f q else max (f (q + 1)) (lrow v nb x f q)
def lcs (u v : Nat → Int32) (na nb : Nat) : Nat → Nat → Nat
  | 0 => fun _ => 0
  | p + 1 => lrow v nb (u (na - (p + 1))) (lcs u v na nb p)
theorem lcs_0 {u v : Nat → Int32} {na nb q : Nat} : lcs u v na nb 0 q = 0 := rfl
theorem lcs_p0 {u v : Nat → Int32} {na nb p : Nat} : lcs u v na nb p 0 = 0 := by
  cases p <;> rfl
theorem lcs_ss {u v : Nat → Int32} {na nb p q : Nat} : lcs u v na nb (p + 1) (q + 1) = if u (na - (p + 1)) = v (nb - (q + 1)) then 1 + lcs u v na nb p q else max (lcs u v na nb p (q + 1)) (lcs u v na nb (p + 1) q) := rfl
theorem lcs_near {u v : Nat → Int32} {na nb : Nat} : ∀ (s p q : Nat), p + q ≤ s → (lcs u v na nb p q ≤ lcs u v na nb (p + 1) q ∧ lcs u v na nb p q ≤ lcs u v na nb p (q + 1)) ∧ (lcs u v na nb (p + 1) q ≤ lcs u v na nb p q + 1 ∧ lcs u v na nb p (q + 1) ≤ lcs u v na nb p q + 1) := by
  intro s
  induction s with
  | zero =>
    intro p q h
    have hp : p = 0 := by omega
    have hq : q = 0 := by omega
    subst hp
    subst hq
    simp only [lcs_0, lcs_p0]
    omega
  | succ s ih =>
    intro p q h
    refine ⟨⟨?_, ?_⟩, ?_, ?_⟩
    · cases q with
      | zero => simp only [lcs_p0]; omega
      | succ q =>
        rw [lcs_ss]
        have := (ih p q (by omega)).2.2
        split
        · omega
        · exact Nat.le_max_left _ _
    · cases p with
      | zero => simp only [lcs_0]; omega
      | succ p =>
        rw [lcs_ss]
        have := (ih p q (by omega)).2.1
        split
        · omega
        · exact Nat.le_max_right _ _
    · cases q with
      | zero => simp only [lcs_p0]; omega
      | succ q =>
        rw [lcs_ss]
        have a1 := (ih p q (by omega)).1.2
        have a2 := (ih p q (by omega)).2.1
        split
        · omega
        · omega
    · cases p with
      | zero => simp only [lcs_0]; omega
      | succ p =>
        rw [lcs_ss]
        have a1 := (ih p q (by omega)).1.1
        have a2 := (ih p q (by omega)).2.2
        split
        · omega
        · omega
theorem lcs_mono {u v : Nat → Int32} {na nb : Nat} : ∀ (d e p q : Nat), lcs u v na nb p q ≤ lcs u v na nb (p + d) (q + e) := by
  have one : ∀ d p q : Nat, lcs u v na nb p q ≤ lcs u v na nb (p + d) q := by
    intro d
    induction d with
    | zero => intro p q; exact Nat.le_refl _
    | succ d ih => intro p q; exact Nat.le_trans (ih p q) (lcs_near (p + d + q) (p + d) q (Nat.le_refl _)).1.1
  have two' : ∀ e p q : Nat, lcs u v na nb p q ≤ lcs u v na nb p (q + e) := by
    intro e
    induction e with
    | zero => intro p q; exact Nat.le_refl _
    | succ e ih => intro p q; exact Nat.le_trans (ih p q) (lcs_near (p + (q + e)) p (q + e) (Nat.le_refl _)).1.2
  intro d e p q
  exact Nat.le_trans (one d p q) (two' e (p + d) q)
theorem lcs_le {u v : Nat → Int32} {na nb : Nat} : ∀ (p q : Nat), lcs u v na nb p q ≤ p := by
  intro p
  induction p with
  | zero => intro q; exact Nat.le_refl _
  | succ p ih => intro q; have := (lcs_near (u := u) (v := v) (na := na) (nb := nb) (p + q) p q (Nat.le_refl _)).2.1; have := ih q; omega
theorem lcs_max {u v : Nat → Int32} {na nb p q : Nat} (h : u (na - (p + 1)) = v (nb - (q + 1))) : lcs u v na nb p (q + 1) ≤ 1 + lcs u v na nb p q ∧ lcs u v na nb (p + 1) q ≤ 1 + lcs u v na nb p q := by
  have := lcs_near (u := u) (v := v) (na := na) (nb := nb) (p + q) p q (Nat.le_refl _)
  omega
/-- a longest order begins somewhere -/
theorem lcs_first {u v : Nat → Int32} {na nb : Nat} : ∀ (s p q : Nat), p + q ≤ s → 0 < lcs u v na nb p q → ∃ p' q', p' < p ∧ q' < q ∧ u (na - (p' + 1)) = v (nb - (q' + 1)) ∧ lcs u v na nb p q = 1 + lcs u v na nb p' q' := by
  intro s
  induction s with
  | zero =>
    intro p q h h0
    have hp : p = 0 := by omega
    subst hp
    rw [lcs_0] at h0
    omega
  | succ s ih =>
    intro p q h h0
    cases p with
    | zero => rw [lcs_0] at h0; omega
    | succ p =>
      cases q with
      | zero => rw [lcs_p0] at h0; omega
      | succ q =>
        rw [lcs_ss] at h0 ⊢
        by_cases c : u (na - (p + 1)) = v (nb - (q + 1))
        · rw [if_pos c]
          exact ⟨p, q, by omega, by omega, c, rfl⟩
        · rw [if_neg c] at h0 ⊢
          by_cases cm : lcs u v na nb p (q + 1) ≤ lcs u v na nb (p + 1) q
          · rw [Nat.max_eq_right cm] at h0 ⊢
            obtain ⟨p', q', a1, a2, a3, a4⟩ := ih (p + 1) q (by omega) h0
            exact ⟨p', q', a1, by omega, a3, a4⟩
          · rw [Nat.max_eq_left (by omega)] at h0 ⊢
            obtain ⟨p', q', a1, a2, a3, a4⟩ := ih p (q + 1) (by omega) h0
            exact ⟨p', q', by omega, a2, a3, a4⟩
/-- the first places of the one with whom it begins serve too -/
theorem lcs_next {u v : Nat → Int32} {na nb i j : Nat} (hi : i ≤ na) (hj : j ≤ nb) (h0 : 0 < lcs u v na nb (na - i) (nb - j)) : ∃ (i' j' : Nat), i ≤ i' ∧ i' < na ∧ j ≤ j' ∧ j' < nb ∧ u i' = v j' ∧ ∀ i1 j1, i ≤ i1 → i1 ≤ i' → j ≤ j1 → j1 ≤ j' → u i1 = v j1 → 1 + lcs u v na nb (na - (i1 + 1)) (nb - (j1 + 1)) = lcs u v na nb (na - i) (nb - j) := by
  obtain ⟨p', q', a1, a2, a3, a4⟩ := lcs_first (na - i + (nb - j)) (na - i) (nb - j) (Nat.le_refl _) h0
  refine ⟨na - (p' + 1), nb - (q' + 1), by omega, by omega, by omega, by omega, a3, fun i1 j1 b1 b2 b3 b4 b5 => ?_⟩
  -- not less
  have m1 := lcs_mono (u := u) (v := v) (na := na) (nb := nb) (na - (i1 + 1) - p') (nb - (j1 + 1) - q') p' q'
  rw [show p' + (na - (i1 + 1) - p') = na - (i1 + 1) by omega, show q' + (nb - (j1 + 1) - q') = nb - (j1 + 1) by omega] at m1
  -- not more
  have m2 := lcs_mono (u := u) (v := v) (na := na) (nb := nb) (i1 - i) (j1 - j) (na - (i1 + 1) + 1) (nb - (j1 + 1) + 1)
  rw [show na - (i1 + 1) + 1 + (i1 - i) = na - i by omega, show nb - (j1 + 1) + 1 + (j1 - j) = nb - j by omega, lcs_ss, show na - (na - (i1 + 1) + 1) = i1 by omega, show nb - (nb - (j1 + 1) + 1) = j1 by omega, if_pos b5] at m2
  omega
/-- the first of one from a place on, class and model -/
theorem next_both {ns : Nat} {vc vm : VI} {j n : Nat} (hj : j < 5) (d1 : n ≤ 12) (d2 : vc (99 + 5 * j) 2 = nI n) (d3 : vm 67 j = nI n) (u : Nat → Int32) (hc : ∀ k, k < n → vc (100 + 5 * j) k = u k) (hm : ∀ k, k < n → vm 68 (12 * j + k) = u k) (p : Int32) : ∀ (m k : Nat), n - k = m → k ≤ n → (∃ q, k ≤ q ∧ q < n ∧ u q = p ∧ (∀ i, k ≤ i → i < q → u i ≠ p) ∧ (∀ F, m < F → fX3_nextOf_6 (99 + 5 * j) vc F p (nI k) = some (nI q)) ∧ ∀ F, m < F → fX10_placeOf_3 vm F (nI j) p (nI k) = some (nI q)) ∨ ((∀ i, k ≤ i → i < n → u i ≠ p) ∧ (∀ F, m < F → fX3_nextOf_6 (99 + 5 * j) vc F p (nI k) = some (-2)) ∧ ∀ F, m < F → fX10_placeOf_3 vm F (nI j) p (nI k) = some (-2)) := by
  have bj : 0 ≤ (nI j).toInt ∧ (nI j).toInt < (5 : Nat) := by rw [tnI (by omega)]; omega
  have cj : (nI j).toNatClampNeg = j := nI_clamp (by omega)
  intro m
  induction m with
  | zero =>
    intro k q1 q2
    have c : nI n ≤ nI k := by rw [tle, tnI (by omega), tnI (by omega)]; omega
    refine Or.inr ⟨fun i i1 i2 => absurd i1 (by omega), fun F hF => ?_, fun F hF => ?_⟩
    · obtain ⟨F, rfl⟩ : ∃ F', F = F' + 1 := ⟨F - 1, by omega⟩
      rw [fX3_nextOf_6, d2, if_pos c]
    · obtain ⟨F, rfl⟩ : ∃ F', F = F' + 1 := ⟨F - 1, by omega⟩
      rw [fX10_placeOf_3, if_inb bj, cj, d3, if_pos c]
  | succ m ih =>
    intro k q1 q2
    have c : ¬ nI n ≤ nI k := by rw [tle, tnI (by omega), tnI (by omega)]; omega
    have b2 : 0 ≤ (nI k).toInt ∧ (nI k).toInt < (12 : Nat) := by rw [tnI (by omega)]; omega
    have ck : (nI k).toNatClampNeg = k := nI_clamp (by omega)
    have g1 := hc k (by omega)
    have g2 := hm k (by omega)
    by_cases cp : u k = p
    · refine Or.inl ⟨k, by omega, by omega, cp, fun i i1 i2 => absurd i1 (by omega), fun F hF => ?_, fun F hF => ?_⟩
      · obtain ⟨F, rfl⟩ : ∃ F', F = F' + 1 := ⟨F - 1, by omega⟩
        rw [fX3_nextOf_6, d2, if_neg c, if_inb b2, ck, show 99 + 5 * j + 1 = 100 + 5 * j by omega, g1, if_pos cp]
      · obtain ⟨F, rfl⟩ : ∃ F', F = F' + 1 := ⟨F - 1, by omega⟩
        rw [fX10_placeOf_3, if_inb bj, cj, d3, if_neg c, whomAt_eq hj (by omega), Option.bind_some, g2, if_pos cp]
    · have one : ∀ F, m + 1 < F → ∃ F', m < F' ∧ fX3_nextOf_6 (99 + 5 * j) vc F p (nI k) = fX3_nextOf_6 (99 + 5 * j) vc F' p (nI (k + 1)) := by
        intro F hF
        obtain ⟨F, rfl⟩ : ∃ F', F = F' + 1 := ⟨F - 1, by omega⟩
        exact ⟨F, by omega, by rw [fX3_nextOf_6, d2, if_neg c, if_inb b2, ck, show 99 + 5 * j + 1 = 100 + 5 * j by omega, g1, if_neg cp, nI_1]⟩
      have oneM : ∀ F, m + 1 < F → ∃ F', m < F' ∧ fX10_placeOf_3 vm F (nI j) p (nI k) = fX10_placeOf_3 vm F' (nI j) p (nI (k + 1)) := by
        intro F hF
        obtain ⟨F, rfl⟩ : ∃ F', F = F' + 1 := ⟨F - 1, by omega⟩
        exact ⟨F, by omega, by rw [fX10_placeOf_3, if_inb bj, cj, d3, if_neg c, whomAt_eq hj (by omega), Option.bind_some, g2, if_neg cp, nI_1]⟩
      rcases ih (k + 1) (by omega) (by omega) with ⟨q, a1, a2, a3, a4, a5, a6⟩ | ⟨a1, a2, a3⟩
      · refine Or.inl ⟨q, by omega, a2, a3, fun i i1 i2 => ?_, fun F hF => ?_, fun F hF => ?_⟩
        · by_cases ci : i = k
          · subst ci; exact cp
          · exact a4 i (by omega) i2
        · obtain ⟨F', f1, f2⟩ := one F hF
          rw [f2]; exact a5 F' f1
        · obtain ⟨F', f1, f2⟩ := oneM F hF
          rw [f2]; exact a6 F' f1
      · refine Or.inr ⟨fun i i1 i2 => ?_, fun F hF => ?_, fun F hF => ?_⟩
        · by_cases ci : i = k
          · subst ci; exact cp
          · exact a1 i (by omega) i2
        · obtain ⟨F', f1, f2⟩ := one F hF
          rw [f2]; exact a2 F' f1
        · obtain ⟨F', f1, f2⟩ := oneM F hF
          rw [f2]; exact a3 F' f1
/-- what holds of either's dust for ALIKE -/
def ordIs (vc vm : VI) (j n : Nat) (u : Nat → Int32) : Prop := j < 5 ∧ n ≤ 12 ∧ vc (99 + 5 * j) 2 = nI n ∧ vm 67 j = nI n ∧ (∀ k, k < n → vc (100 + 5 * j) k = u k) ∧ (∀ k, k < n → vm 68 (12 * j + k) = u k) ∧ ∀ k, k < n → rng (u k) 0 5
theorem next_of {vc vm : VI} {j n : Nat} {u : Nat → Int32} (h : ordIs vc vm j n u) (p : Int32) {k : Nat} (hk : k ≤ n) : (∃ q, k ≤ q ∧ q < n ∧ u q = p ∧ (∀ i, k ≤ i → i < q → u i ≠ p) ∧ fX3_nextOf (99 + 5 * j) p (nI k) vc = some (nI q) ∧ fX10_placeOf (nI j) (nI k) p vm = some (nI q)) ∨ ((∀ i, k ≤ i → i < n → u i ≠ p) ∧ fX3_nextOf (99 + 5 * j) p (nI k) vc = some (-2) ∧ fX10_placeOf (nI j) (nI k) p vm = some (-2)) := by
  obtain ⟨h1, h2, h3, h4, h5, h6, -⟩ := h
  have e : (if nI k < 0 then (0 : Int32) else nI k) = nI k := if_neg (by rw [tlt, tnI (by omega), l0]; omega)
  unfold fX3_nextOf fX10_placeOf
  rw [e]
  rcases next_both (ns := 0) h1 h2 h3 h4 u h5 h6 p (n - k) k rfl hk with ⟨q, a1, a2, a3, a4, a5, a6⟩ | ⟨a1, a2, a3⟩
  · exact Or.inl ⟨q, a1, a2, a3, a4, a5 FU (by rw [FU_eq]; omega), a6 FU (by rw [FU_eq]; omega)⟩
  · exact Or.inr ⟨a1, a2 FU (by rw [FU_eq]; omega), a3 FU (by rw [FU_eq]; omega)⟩
/-- the class's table, as far as it is asked; the model's -/
def tabC (vc : VI) (u v : Nat → Int32) (na nb : Nat) : Prop := ∀ i j, i ≤ 12 → j ≤ 12 → vc 22 (i * 13 + j) = nI (lcs u v na nb (na - i) (nb - j))
def tabM (vm : VI) (u v : Nat → Int32) (na nb : Nat) : Prop := ∀ i j, i ≤ na → j ≤ nb → vm 86 (13 * i + j) = nI (lcs u v na nb (na - i) (nb - j))
theorem longest_eq (vc : VI) {i j : Nat} (hi : i ≤ 12) (hj : j ≤ 12) : fX9_longestFrom (nI i) (nI j) vc = some (vc 22 (i * 13 + j)) := by
  have l12' : (12 : Int32).toInt = 12 := rfl
  unfold fX9_longestFrom
  rw [within_eq, within_eq]
  simp only [Option.bind_some, decide_eq_true_eq, l12', tnI (show i < 2147483648 by omega), tnI (show j < 2147483648 by omega)]
  rw [if_pos (by omega), if_pos (by omega), fX9_longestFrom_23, if_neg (by decide), show (13 : Int32) = nI 13 from rfl, nI_mul, nI_add, if_inb (by rw [tnI (by omega)]; omega), nI_clamp (by omega)]
/-- the k-th one -/
theorem least_both {vc vm : VI} {a b na nb i j : Nat} {u v : Nat → Int32} (ha : ordIs vc vm a na u) (hb : ordIs vc vm b nb v) (tc : tabC vc u v na nb) (tm : tabM vm u v na nb) (hi : i ≤ na) (hj : j ≤ nb) (h0 : 0 < lcs u v na nb (na - i) (nb - j)) (k x : Int32) : ∃ p i1 j1, p < 6 ∧ i ≤ i1 ∧ i1 < na ∧ j ≤ j1 ∧ j1 < nb ∧ 1 + lcs u v na nb (na - (i1 + 1)) (nb - (j1 + 1)) = lcs u v na nb (na - i) (nb - j) ∧ fX9_nextAlike (99 + 5 * a) (99 + 5 * b) (nI i) (nI j) vc = some (nI p) ∧ fX3_nextOf (99 + 5 * a) (nI p) (nI i) vc = some (nI i1) ∧ fX3_nextOf (99 + 5 * b) (nI p) (nI j) vc = some (nI j1) ∧ ∀ k66, fX10_alike_75 k66 FU k (nI a) (nI b) (nI i) (nI j) x 0 vm = if x = k then some (nI p, vm) else k66 k (nI a) (nI b) (nI (i1 + 1)) (nI (j1 + 1)) (x + 1) vm := by
  have hna := ha.2.1
  have hnb := hb.2.1
  obtain ⟨i', j', e1, e2, e3, e4, e5, e6⟩ := lcs_next hi hj h0
  obtain ⟨p0, hp0, ep0⟩ := rng_nI (x := u i') (N := 5) (ha.2.2.2.2.2.2 i' e2) (by omega)
  have key : ∀ (m q : Nat), p0 - q = m → q ≤ p0 → ∃ p i1 j1, p < 6 ∧ i ≤ i1 ∧ i1 < na ∧ j ≤ j1 ∧ j1 < nb ∧ 1 + lcs u v na nb (na - (i1 + 1)) (nb - (j1 + 1)) = lcs u v na nb (na - i) (nb - j) ∧ (∀ F, m < F → fX9_nextAlike_3 (99 + 5 * a) (99 + 5 * b) vc F (nI i) (nI j) (nI q) = some (nI p)) ∧ fX3_nextOf (99 + 5 * a) (nI p) (nI i) vc = some (nI i1) ∧ fX3_nextOf (99 + 5 * b) (nI p) (nI j) vc = some (nI j1) ∧ ∀ k66 F, m < F → fX10_alike_75 k66 F k (nI a) (nI b) (nI i) (nI j) x (nI q) vm = if x = k then some (nI p, vm) else k66 k (nI a) (nI b) (nI (i1 + 1)) (nI (j1 + 1)) (x + 1) vm := by
    -- the one that is found
    have hit : ∀ (q i1 j1 : Nat), q ≤ 5 → i ≤ i1 → i1 < na → j ≤ j1 → j1 < nb → fX3_nextOf (99 + 5 * a) (nI q) (nI i) vc = some (nI i1) → fX10_placeOf (nI a) (nI i) (nI q) vm = some (nI i1) → fX3_nextOf (99 + 5 * b) (nI q) (nI j) vc = some (nI j1) → fX10_placeOf (nI b) (nI j) (nI q) vm = some (nI j1) → 1 + lcs u v na nb (na - (i1 + 1)) (nb - (j1 + 1)) = lcs u v na nb (na - i) (nb - j) → (∀ F, 0 < F → fX9_nextAlike_3 (99 + 5 * a) (99 + 5 * b) vc F (nI i) (nI j) (nI q) = some (nI q)) ∧ ∀ k66 F, 0 < F → fX10_alike_75 k66 F k (nI a) (nI b) (nI i) (nI j) x (nI q) vm = if x = k then some (nI q, vm) else k66 k (nI a) (nI b) (nI (i1 + 1)) (nI (j1 + 1)) (x + 1) vm := by
      intro q i1 j1 hq g1 g2 g3 g4 g5 g6 g7 g8 g9
      have ni : ¬ nI i1 < 0 := by rw [tlt, tnI (by omega), l0]; omega
      have nj : ¬ nI j1 < 0 := by rw [tlt, tnI (by omega), l0]; omega
      have et : (1 + nI (lcs u v na nb (na - (i1 + 1)) (nb - (j1 + 1))) : Int32) = nI (lcs u v na nb (na - i) (nb - j)) := by
        rw [show (1 : Int32) = nI 1 from rfl, nI_add, g9]
      refine ⟨fun F hF => ?_, fun k66 F hF => ?_⟩
      · obtain ⟨F, rfl⟩ : ∃ F', F = F' + 1 := ⟨F - 1, by omega⟩
        rw [fX9_nextAlike_3, if_neg (by rw [tle, l6, tnI (by omega)]; omega), g5, Option.bind_some, g7, Option.bind_some, if_neg ni, if_neg nj, nI_1, nI_1, longest_eq vc (by omega) (by omega), Option.bind_some, longest_eq vc (by omega) (by omega), Option.bind_some, tc _ _ (by omega) (by omega), tc _ _ (by omega) (by omega), if_pos et]
      · obtain ⟨F, rfl⟩ : ∃ F', F = F' + 1 := ⟨F - 1, by omega⟩
        have x1 : (13 * (nI i1 + 1) + nI j1 + 1 : Int32) = nI (13 * (i1 + 1) + (j1 + 1)) := by
          rw [nI_1, show (13 : Int32) = nI 13 from rfl, nI_mul, nI_add, nI_1]; rfl
        have x2 : (13 * nI i + nI j : Int32) = nI (13 * i + j) := by
          rw [show (13 : Int32) = nI 13 from rfl, nI_mul, nI_add]
        have b1 : 0 ≤ (nI (13 * (i1 + 1) + (j1 + 1))).toInt ∧ (nI (13 * (i1 + 1) + (j1 + 1))).toInt < (169 : Nat) := by rw [tnI (by omega)]; omega
        have b2 : 0 ≤ (nI (13 * i + j)).toInt ∧ (nI (13 * i + j)).toInt < (169 : Nat) := by rw [tnI (by omega)]; omega
        rw [fX10_alike_75, g6, Option.bind_some, if_neg ni, g8, Option.bind_some, if_neg nj, Option.bind_some, Option.bind_some, x1, if_inb b1, x2, if_inb b2, nI_clamp (by omega), nI_clamp (by omega), tm _ _ (by omega) (by omega), tm _ _ (by omega) (by omega), if_pos et, Option.bind_some, Option.bind_some, nI_1, nI_1]
    have skip : ∀ (q : Nat), q ≤ 5 → ((fX3_nextOf (99 + 5 * a) (nI q) (nI i) vc = some (-2) ∧ fX10_placeOf (nI a) (nI i) (nI q) vm = some (-2) ∧ ∃ y, fX3_nextOf (99 + 5 * b) (nI q) (nI j) vc = some y) ∨ (∃ i1, i ≤ i1 ∧ i1 < na ∧ fX3_nextOf (99 + 5 * a) (nI q) (nI i) vc = some (nI i1) ∧ fX10_placeOf (nI a) (nI i) (nI q) vm = some (nI i1) ∧ ((fX3_nextOf (99 + 5 * b) (nI q) (nI j) vc = some (-2) ∧ fX10_placeOf (nI b) (nI j) (nI q) vm = some (-2)) ∨ ∃ j1, j ≤ j1 ∧ j1 < nb ∧ fX3_nextOf (99 + 5 * b) (nI q) (nI j) vc = some (nI j1) ∧ fX10_placeOf (nI b) (nI j) (nI q) vm = some (nI j1) ∧ 1 + lcs u v na nb (na - (i1 + 1)) (nb - (j1 + 1)) ≠ lcs u v na nb (na - i) (nb - j)))) → (∀ F, fX9_nextAlike_3 (99 + 5 * a) (99 + 5 * b) vc (F + 1) (nI i) (nI j) (nI q) = fX9_nextAlike_3 (99 + 5 * a) (99 + 5 * b) vc F (nI i) (nI j) (nI (q + 1))) ∧ ∀ k66 F, fX10_alike_75 k66 (F + 1) k (nI a) (nI b) (nI i) (nI j) x (nI q) vm = fX10_alike_75 k66 F k (nI a) (nI b) (nI i) (nI j) x (nI (q + 1)) vm := by
      intro q hq hh
      have c6 : ¬ (6 : Int32) ≤ nI q := by rw [tle, l6, tnI (by omega)]; omega
      have m2' : (-2 : Int32) < 0 := by decide
      rcases hh with ⟨g1, g2, y, g3⟩ | ⟨i1, g1, g2, g3, g4, g5⟩
      · refine ⟨fun F => ?_, fun k66 F => ?_⟩
        · rw [fX9_nextAlike_3, if_neg c6, g1, Option.bind_some, g3, Option.bind_some, if_pos m2', fX9_nextAlike_66, nI_1]
        · rw [fX10_alike_75, g2, Option.bind_some, if_pos m2', fX10_alike_150, nI_1]
      · have ni : ¬ nI i1 < 0 := by rw [tlt, tnI (by omega), l0]; omega
        rcases g5 with ⟨h1, h2⟩ | ⟨j1, h1, h2, h3, h4, h5⟩
        · refine ⟨fun F => ?_, fun k66 F => ?_⟩
          · rw [fX9_nextAlike_3, if_neg c6, g3, Option.bind_some, h1, Option.bind_some, if_neg ni, if_pos m2', fX9_nextAlike_66, nI_1]
          · rw [fX10_alike_75, g4, Option.bind_some, if_neg ni, h2, Option.bind_some, if_pos m2', fX10_alike_150, nI_1]
        · have nj : ¬ nI j1 < 0 := by rw [tlt, tnI (by omega), l0]; omega
          have y1 := lcs_le (u := u) (v := v) (na := na) (nb := nb) (na - (i1 + 1)) (nb - (j1 + 1))
          have y2 := lcs_le (u := u) (v := v) (na := na) (nb := nb) (na - i) (nb - j)
          have et : ¬ (1 + nI (lcs u v na nb (na - (i1 + 1)) (nb - (j1 + 1))) : Int32) = nI (lcs u v na nb (na - i) (nb - j)) := by
            rw [show (1 : Int32) = nI 1 from rfl, nI_add, nI_inj (by omega) (by omega)]; exact h5
          refine ⟨fun F => ?_, fun k66 F => ?_⟩
          · rw [fX9_nextAlike_3, if_neg c6, g3, Option.bind_some, h3, Option.bind_some, if_neg ni, if_neg nj, nI_1, nI_1, longest_eq vc (by omega) (by omega), Option.bind_some, longest_eq vc (by omega) (by omega), Option.bind_some, tc _ _ (by omega) (by omega), tc _ _ (by omega) (by omega), if_neg et, fX9_nextAlike_66, nI_1]
          · have x1 : (13 * (nI i1 + 1) + nI j1 + 1 : Int32) = nI (13 * (i1 + 1) + (j1 + 1)) := by
              rw [nI_1, show (13 : Int32) = nI 13 from rfl, nI_mul, nI_add, nI_1]; rfl
            have x2 : (13 * nI i + nI j : Int32) = nI (13 * i + j) := by
              rw [show (13 : Int32) = nI 13 from rfl, nI_mul, nI_add]
            have b1 : 0 ≤ (nI (13 * (i1 + 1) + (j1 + 1))).toInt ∧ (nI (13 * (i1 + 1) + (j1 + 1))).toInt < (169 : Nat) := by rw [tnI (by omega)]; omega
            have b2 : 0 ≤ (nI (13 * i + j)).toInt ∧ (nI (13 * i + j)).toInt < (169 : Nat) := by rw [tnI (by omega)]; omega
            rw [fX10_alike_75, g4, Option.bind_some, if_neg ni, h4, Option.bind_some, if_neg nj, Option.bind_some, Option.bind_some, x1, if_inb b1, x2, if_inb b2, nI_clamp (by omega), nI_clamp (by omega), tm _ _ (by omega) (by omega), tm _ _ (by omega) (by omega), if_neg et, fX10_alike_150, nI_1]
    intro m
    induction m with
    | zero =>
      intro q q1 q2
      have : q = p0 := by omega
      subst this
      rcases next_of ha (nI q) hi with ⟨i1, f1, f2, f3, f4, f5, f6⟩ | ⟨f1, -, -⟩
      · rcases next_of hb (nI q) hj with ⟨j1, h1, h2, h3, h4, h5, h6⟩ | ⟨h1, -, -⟩
        · have li : i1 ≤ i' := by
            by_cases c : i1 ≤ i'
            · exact c
            · exact absurd ep0 (f4 i' e1 (by omega))
          have lj : j1 ≤ j' := by
            by_cases c : j1 ≤ j'
            · exact c
            · exact absurd (e5.symm.trans ep0) (h4 j' e3 (by omega))
          have w := e6 i1 j1 f1 li h1 lj (f3.trans h3.symm)
          obtain ⟨r1, r2⟩ := hit q i1 j1 (by omega) f1 f2 h1 h2 f5 f6 h5 h6 w
          exact ⟨q, i1, j1, by omega, f1, f2, h1, h2, w, r1, f5, h5, r2⟩
        · exact absurd (e5.symm.trans ep0) (h1 j' e3 e4)
      · exact absurd ep0 (f1 i' e1 e2)
    | succ m ih =>
      intro q q1 q2
      obtain ⟨p, i1, j1, s1, s2, s3, s4, s5, s6, s7, s8, s9, s10⟩ := ih (q + 1) (by omega) (by omega)
      have go : (∀ F, fX9_nextAlike_3 (99 + 5 * a) (99 + 5 * b) vc (F + 1) (nI i) (nI j) (nI q) = fX9_nextAlike_3 (99 + 5 * a) (99 + 5 * b) vc F (nI i) (nI j) (nI (q + 1))) ∧ (∀ k66 F, fX10_alike_75 k66 (F + 1) k (nI a) (nI b) (nI i) (nI j) x (nI q) vm = fX10_alike_75 k66 F k (nI a) (nI b) (nI i) (nI j) x (nI (q + 1)) vm) → ∃ p i1 j1, p < 6 ∧ i ≤ i1 ∧ i1 < na ∧ j ≤ j1 ∧ j1 < nb ∧ 1 + lcs u v na nb (na - (i1 + 1)) (nb - (j1 + 1)) = lcs u v na nb (na - i) (nb - j) ∧ (∀ F, m + 1 < F → fX9_nextAlike_3 (99 + 5 * a) (99 + 5 * b) vc F (nI i) (nI j) (nI q) = some (nI p)) ∧ fX3_nextOf (99 + 5 * a) (nI p) (nI i) vc = some (nI i1) ∧ fX3_nextOf (99 + 5 * b) (nI p) (nI j) vc = some (nI j1) ∧ ∀ k66 F, m + 1 < F → fX10_alike_75 k66 F k (nI a) (nI b) (nI i) (nI j) x (nI q) vm = if x = k then some (nI p, vm) else k66 k (nI a) (nI b) (nI (i1 + 1)) (nI (j1 + 1)) (x + 1) vm := by
        rintro ⟨t1, t2⟩
        refine ⟨p, i1, j1, s1, s2, s3, s4, s5, s6, fun F hF => ?_, s8, s9, fun k66 F hF => ?_⟩
        · obtain ⟨F, rfl⟩ : ∃ F', F = F' + 1 := ⟨F - 1, by omega⟩
          rw [t1]; exact s7 F (by omega)
        · obtain ⟨F, rfl⟩ : ∃ F', F = F' + 1 := ⟨F - 1, by omega⟩
          rw [t2]; exact s10 k66 F (by omega)
      rcases next_of ha (nI q) hi with ⟨i2, f1, f2, f3, f4, f5, f6⟩ | ⟨f1, f2, f3⟩
      · rcases next_of hb (nI q) hj with ⟨j2, h1, h2, h3, h4, h5, h6⟩ | ⟨h1, h2, h3⟩
        · by_cases w : 1 + lcs u v na nb (na - (i2 + 1)) (nb - (j2 + 1)) = lcs u v na nb (na - i) (nb - j)
          · obtain ⟨r1, r2⟩ := hit q i2 j2 (by omega) f1 f2 h1 h2 f5 f6 h5 h6 w
            exact ⟨q, i2, j2, by omega, f1, f2, h1, h2, w, fun F hF => r1 F (by omega), f5, h5, fun k66 F hF => r2 k66 F (by omega)⟩
          · exact go (skip q (by omega) (Or.inr ⟨i2, f1, f2, f5, f6, Or.inr ⟨j2, h1, h2, h5, h6, w⟩⟩))
        · exact go (skip q (by omega) (Or.inr ⟨i2, f1, f2, f5, f6, Or.inl ⟨h2, h3⟩⟩))
      · refine go (skip q (by omega) (Or.inl ⟨f2, f3, ?_⟩))
        rcases next_of hb (nI q) hj with ⟨j2, h1, h2, h3, h4, h5, h6⟩ | ⟨h1, h2, h3⟩
        · exact ⟨_, h5⟩
        · exact ⟨_, h2⟩
  obtain ⟨p, i1, j1, s1, s2, s3, s4, s5, s6, s7, s8, s9, s10⟩ := key p0 0 (by omega) (by omega)
  refine ⟨p, i1, j1, s1, s2, s3, s4, s5, s6, ?_, s8, s9, fun k66 => ?_⟩
  · unfold fX9_nextAlike
    exact s7 FU (by rw [FU_eq]; omega)
  · exact s10 k66 FU (by rw [FU_eq]; omega)
