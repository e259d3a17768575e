/-! laying on the class's dust, on the model's pile -/
def cap99 (x : Int32) : Int32 := if 99 < x then 99 else x
theorem heldTo_eq (x : Int32) : fX10_heldTo x = some (cap99 x) := by
  unfold fX10_heldTo cap99
  simp only [tle, tlt, l99]
  by_cases c : x.toInt ≤ 99
  · rw [if_pos c, if_neg (by omega)]
  · rw [if_neg c, if_pos (by omega)]
theorem cap_rng {a b : Int32} (ha : rng a 1 99) (hb : rng b 1 99) : rng (cap99 (a + b)) 1 99 := by
  obtain ⟨a1, a2⟩ := ha
  obtain ⟨b1, b2⟩ := hb
  have e : (a + b).toInt = a.toInt + b.toInt := tadd (by omega) (by omega)
  unfold cap99 rng
  simp only [tlt, l99, e]
  split
  · rw [l99]; omega
  · rw [e]; omega
theorem press26 {o : Nat} : ∀ (m k F : Nat) (vc : VI), 11 - k = m → m < F → k ≤ 11 → ∃ vc', fX3_press_26 o F (nI k) vc = some vc' ∧ vc' o 2 = nI 11 ∧ (∀ i, vc' (o + 1) i = if k ≤ i ∧ i < 11 then vc (o + 1) (i + 1) else vc (o + 1) i) ∧ (∀ i, vc' (o + 2) i = if k ≤ i ∧ i < 11 then vc (o + 2) (i + 1) else vc (o + 2) i) ∧ ∀ a i, ¬ (a = o ∧ i = 2) → a ≠ o + 1 → a ≠ o + 2 → vc' a i = vc a i := by
  intro m
  induction m with
  | zero =>
    intro k F vc h1 h2 h3
    obtain ⟨F, rfl⟩ : ∃ F', F = F' + 1 := ⟨F - 1, by omega⟩
    rw [fX3_press_26, if_pos (by rw [tle, tnI (by omega)]; show (11 : Int) ≤ _; omega)]
    refine ⟨_, rfl, up_s, fun i => ?_, fun i => ?_, fun a i q1 q2 q3 => ?_⟩
    · rw [up_o (by omega), if_neg (by omega)]
    · rw [up_o (by omega), if_neg (by omega)]
    · rw [up_at, if_neg q1]
  | succ m ih =>
    intro k F vc h1 h2 h3
    obtain ⟨F, rfl⟩ : ∃ F', F = F' + 1 := ⟨F - 1, by omega⟩
    have b0 : 0 ≤ (nI k).toInt ∧ (nI k).toInt < (12 : Nat) := by rw [tnI (by omega)]; omega
    have b1 : 0 ≤ (nI (k + 1)).toInt ∧ (nI (k + 1)).toInt < (12 : Nat) := by rw [tnI (by omega)]; omega
    rw [fX3_press_26, if_neg (by rw [tle, tnI (by omega)]; show ¬ (11 : Int) ≤ _; omega), nI_1]
    simp only [if_inb b0, if_inb b1, nI_clamp (show k < 2 ^ 31 by omega), nI_clamp (show k + 1 < 2 ^ 31 by omega)]
    rw [up_o (show o + 2 ≠ o + 1 by omega)]
    obtain ⟨vc', e1, e2, e3, e4, e5⟩ := ih (k + 1) F (j_up (j_up vc (o + 1) k (vc (o + 1) (k + 1))) (o + 2) k (vc (o + 2) (k + 1))) (by omega) (by omega) (by omega)
    refine ⟨vc', e1, e2, fun i => ?_, fun i => ?_, fun a i q1 q2 q3 => by rw [e5 a i q1 q2 q3, up_o q3, up_o q2]⟩
    · rw [e3 i]
      by_cases c : k + 1 ≤ i ∧ i < 11
      · rw [if_pos c, if_pos (by omega), up_o (by omega), up_i (by omega)]
      · rw [if_neg c, up_o (by omega)]
        by_cases c2 : i = k
        · rw [c2, up_s, if_pos (by omega)]
        · rw [up_i c2, if_neg (by omega)]
    · rw [e4 i]
      by_cases c : k + 1 ≤ i ∧ i < 11
      · rw [if_pos c, if_pos (by omega), up_i (by omega), up_o (by omega)]
      · rw [if_neg c]
        by_cases c2 : i = k
        · rw [c2, up_s, if_pos (by omega)]
        · rw [up_i c2, up_o (by omega), if_neg (by omega)]
theorem press24 : ∀ (m k F : Nat) (vm : VI), 11 - k = m → m < F → k ≤ 11 → vm 63 30 = nI 12 → ∃ vm', fX10_pressLowest_24 F (nI k) vm = some vm' ∧ vm' 63 30 = nI 11 ∧ (∀ i, vm' 82 i = if k ≤ i ∧ i < 11 then vm 82 (i + 1) else vm 82 i) ∧ (∀ i, vm' 83 i = if k ≤ i ∧ i < 11 then vm 83 (i + 1) else vm 83 i) ∧ ∀ a i, ¬ (a = 63 ∧ i = 30) → a ≠ 82 → a ≠ 83 → vm' a i = vm a i := by
  have e11 : (nI 12 - 1 : Int32) = nI 11 := rfl
  intro m
  induction m with
  | zero =>
    intro k F vm h1 h2 h3 h
    obtain ⟨F, rfl⟩ : ∃ F', F = F' + 1 := ⟨F - 1, by omega⟩
    rw [fX10_pressLowest_24, h, e11, if_pos (by rw [tle, tnI (by omega), tnI (by omega)]; omega)]
    refine ⟨_, rfl, up_s, fun i => ?_, fun i => ?_, fun a i q1 q2 q3 => ?_⟩
    · rw [up_o (by omega), if_neg (by omega)]
    · rw [up_o (by omega), if_neg (by omega)]
    · rw [up_at, if_neg q1]
  | succ m ih =>
    intro k F vm h1 h2 h3 h
    obtain ⟨F, rfl⟩ : ∃ F', F = F' + 1 := ⟨F - 1, by omega⟩
    have b0 : 0 ≤ (nI k).toInt ∧ (nI k).toInt < (13 : Nat) := by rw [tnI (by omega)]; omega
    have b1 : 0 ≤ (nI (k + 1)).toInt ∧ (nI (k + 1)).toInt < (13 : Nat) := by rw [tnI (by omega)]; omega
    rw [fX10_pressLowest_24, h, e11, if_neg (by rw [tle, tnI (by omega), tnI (by omega)]; omega), nI_1]
    simp only [if_inb b0, if_inb b1, nI_clamp (show k < 2 ^ 31 by omega), nI_clamp (show k + 1 < 2 ^ 31 by omega)]
    rw [up_o (show (83 : Nat) ≠ 82 by omega)]
    obtain ⟨vm', e1, e2, e3, e4, e5⟩ := ih (k + 1) F (j_up (j_up vm 82 k (vm 82 (k + 1))) 83 k (vm 83 (k + 1))) (by omega) (by omega) (by omega) (by rw [up_o (by omega), up_o (by omega)]; exact h)
    refine ⟨vm', e1, e2, fun i => ?_, fun i => ?_, fun a i q1 q2 q3 => by rw [e5 a i q1 q2 q3, up_o q3, up_o q2]⟩
    · rw [e3 i]
      by_cases c : k + 1 ≤ i ∧ i < 11
      · rw [if_pos c, if_pos (by omega), up_o (by omega), up_i (by omega)]
      · rw [if_neg c, up_o (by omega)]
        by_cases c2 : i = k
        · rw [c2, up_s, if_pos (by omega)]
        · rw [up_i c2, if_neg (by omega)]
    · rw [e4 i]
      by_cases c : k + 1 ≤ i ∧ i < 11
      · rw [if_pos c, if_pos (by omega), up_i (by omega), up_o (by omega)]
      · rw [if_neg c]
        by_cases c2 : i = k
        · rw [c2, up_s, if_pos (by omega)]
        · rw [up_i c2, up_o (by omega), if_neg (by omega)]
theorem press_both {vc vm : VI} {o : Nat} (h : DP vc o vm 12) : ∃ vc' vm', fX3_press o vc = some vc' ∧ fX10_pressLowest vm = some vm' ∧ DP vc' o vm' 11 ∧ (∀ a i, ¬ (a = o ∧ i = 2) → a ≠ o + 1 → a ≠ o + 2 → vc' a i = vc a i) ∧ ∀ a i, ¬ (a = 63 ∧ i = 30) → a ≠ 82 → a ≠ 83 → vm' a i = vm a i := by
  obtain ⟨-, h2, h3, h4⟩ := h
  obtain ⟨p1, p2, p3, p4⟩ := h4 0 (by omega)
  obtain ⟨q1, q2, q3, q4⟩ := h4 1 (by omega)
  unfold fX3_press fX10_pressLowest
  rw [heldTo_eq]
  simp only [Option.bind_some, show (0 : Int32).toNatClampNeg = 0 from rfl, show (1 : Int32).toNatClampNeg = 1 from rfl]
  rw [show (if 99 < vc (o + 2) 0 + vc (o + 2) 1 then (99 : Int32) else vc (o + 2) 0 + vc (o + 2) 1) = cap99 (vc (o + 2) 0 + vc (o + 2) 1) from rfl, p2, q2]
  obtain ⟨vc', e1, e2, e3, e4, e5⟩ := press26 (o := o) 10 1 FU (j_up vc (o + 2) 0 (cap99 (vm 83 0 + vm 83 1))) (by omega) (by rw [FU_eq]; omega) (by omega)
  obtain ⟨vm', f1, f2, f3, f4, f5⟩ := press24 10 1 FU (j_up vm 83 0 (cap99 (vm 83 0 + vm 83 1))) (by omega) (by rw [FU_eq]; omega) (by omega) (by rw [up_o (by omega)]; exact h3)
  refine ⟨vc', vm', e1, f1, ⟨by omega, e2, f2, fun k hk => ?_⟩, fun a i r1 r2 r3 => by rw [e5 a i r1 r2 r3, up_o r3], fun a i r1 r2 r3 => by rw [f5 a i r1 r2 r3, up_o r3]⟩
  rw [e3, e4, f3, f4]
  by_cases c : 1 ≤ k ∧ k < 11
  · simp only [if_pos c]
    rw [up_o (show o + 1 ≠ o + 2 by omega), up_o (show (82 : Nat) ≠ 83 by decide)]
    simp only [up_i (show k + 1 ≠ 0 by omega)]
    exact h4 (k + 1) (by omega)
  · have : k = 0 := by omega
    subst this
    simp only [if_neg c]
    rw [up_o (show o + 1 ≠ o + 2 by omega), up_o (show (82 : Nat) ≠ 83 by decide)]
    simp only [up_s]
    exact ⟨p1, trivial, p3, cap_rng p4 q4⟩
