/-! law -/
theorem step_rng {c a w : Int32} (h : stepIs c a w) : 0 ≤ a.toInt ∧ a.toInt ≤ 127 := by
  rcases h with ⟨-, -, e, -⟩ | ⟨q, -, -, e, -⟩ | ⟨-, e⟩ | ⟨-, e⟩ | ⟨g, hg, -, e⟩
  · rw [e]; decide
  · rw [e]; decide
  · rw [e]; decide
  · rw [e]; decide
  · have hg2 : 37 ≤ g ∧ g < 125 := by simp [signs] at hg; omega
    rw [e, tnI (by omega)]; omega
theorem lines_rng {vc vm : VI} {ob r : Nat} : ∀ (T : List (List Int32 × List Int32)) (j c s : Nat), linesAt vc vm ob r T j c s → ∀ k, s ≤ k → k < s + ssz T → 0 ≤ (vm 75 (130 * r + k)).toInt ∧ (vm 75 (130 * r + k)).toInt ≤ 127
  | [], j, c, s, _, k, h1, h2 => by simp only [ssz] at h2; omega
  | (t, v) :: T, j, c, s, h, k, h1, h2 => by
    obtain ⟨a1, a2, a3, a4, a5, a6, a7, a8, a9⟩ := h
    simp only [ssz] at h2
    by_cases q1 : k < s + t.length
    · have := (a5 (k - s) (by omega)).2
      rw [show 130 * r + s + (k - s) = 130 * r + k by omega] at this
      exact step_rng this
    · by_cases q2 : k < s + t.length + v.length
      · have := (a7 (k - (s + t.length)) (by omega)).2
        rw [show 130 * r + (s + t.length) + (k - (s + t.length)) = 130 * r + k by omega] at this
        exact step_rng this
      · exact lines_rng T _ _ _ a9 k (by omega) (by omega)
theorem lines_marks {vc vm : VI} {ob r : Nat} : ∀ (T : List (List Int32 × List Int32)) (j c s : Nat), linesAt vc vm ob r T j c s → ∀ i, j ≤ i → i < j + T.length → (∃ x, x ≤ s + ssz T ∧ vm 78 (61 * r + i) = nI x) ∧ ∃ x, x ≤ s + ssz T ∧ vm 79 (61 * r + i) = nI x
  | [], j, c, s, _, i, h1, h2 => by simp at h2; omega
  | (t, v) :: T, j, c, s, h, i, h1, h2 => by
    obtain ⟨a1, a2, a3, a4, a5, a6, a7, a8, a9⟩ := h
    simp only [ssz]
    simp only [List.length_cons] at h2
    by_cases q : i = j
    · subst q
      exact ⟨⟨_, by omega, a3⟩, ⟨_, by omega, a4⟩⟩
    · obtain ⟨⟨x, x1, x2⟩, ⟨y, y1, y2⟩⟩ := lines_marks T _ _ _ a9 i (by omega) (by omega)
      exact ⟨⟨x, by omega, x2⟩, ⟨y, by omega, y2⟩⟩
theorem copy_177 {N : Nat} (hN : N ≤ 61) : ∀ (m k : Nat) (vm : VI), N - k = m → k ≤ N → vm 77 0 = nI N → (∀ i, k ≤ i → i < N → (∃ x, x ≤ 200 ∧ vm 78 (61 + i) = nI x) ∧ ∃ x, x ≤ 200 ∧ vm 79 (61 + i) = nI x) → ∃ vm', (∀ F, m < F → fX10_readText_177 F 0 (nI k) vm = some (-1, vm')) ∧ (∀ i, k ≤ i → i < N → vm' 78 i = vm 78 (61 + i) ∧ vm' 79 i = vm 79 (61 + i)) ∧ ∀ a i, ¬ ((a = 78 ∨ a = 79) ∧ k ≤ i ∧ i < N) → vm' a i = vm a i := by
  have z0 : (0 : Int32).toNatClampNeg = 0 := rfl
  have b0 : 0 ≤ (0 : Int32).toInt ∧ (0 : Int32).toInt < (2 : Nat) := by decide
  intro m
  induction m with
  | zero =>
    intro k vm q1 q2 h0 hr
    refine ⟨vm, fun F hF => ?_, fun i a b => absurd a (by omega), fun _ _ _ => rfl⟩
    obtain ⟨F, rfl⟩ : ∃ G, F = G + 1 := ⟨F - 1, by omega⟩
    rw [fX10_readText_177, if_inb b0, z0, h0, if_pos (by rw [tle, tnI (by omega), tnI (by omega)]; omega)]
  | succ m ih =>
    intro k vm q1 q2 h0 hr
    have e1 : (61 + nI k : Int32) = nI (61 + k) := by rw [show (61 : Int32) = nI 61 from rfl, nI_add]
    have e2 : (61 * 0 + nI k : Int32) = nI k := by rw [show (61 : Int32) = nI 61 from rfl, show (0 : Int32) = nI 0 from rfl, nI_mul, nI_add]; simp
    have b1 : 0 ≤ (nI (61 + k)).toInt ∧ (nI (61 + k)).toInt < (122 : Nat) := by rw [tnI (by omega)]; omega
    have b2 : 0 ≤ (nI k).toInt ∧ (nI k).toInt < (122 : Nat) := by rw [tnI (by omega)]; omega
    have c1 : (nI (61 + k)).toNatClampNeg = 61 + k := nI_clamp (by omega)
    have c2 : (nI k).toNatClampNeg = k := nI_clamp (by omega)
    obtain ⟨⟨x, hx, ex⟩, ⟨y, hy, ey⟩⟩ := hr k (by omega) (by omega)
    have i1 : (vm 78 (61 + k)).toInt16.toInt32 = vm 78 (61 + k) := i16id (by rw [ex, tnI (by omega)]; omega)
    have i2 : (vm 79 (61 + k)).toInt16.toInt32 = vm 79 (61 + k) := i16id (by rw [ey, tnI (by omega)]; omega)
    obtain ⟨vm', a1, a2, a3⟩ := ih (k + 1) (j_up (j_up vm 78 k (vm 78 (61 + k))) 79 k (vm 79 (61 + k))) (by omega) (by omega) (by rw [up_o (by decide), up_o (by decide)]; exact h0) (fun i hi1 hi2 => by
      have := hr i (by omega) hi2
      rw [up_o (show (78 : Nat) ≠ 79 by decide), up_i (show 61 + i ≠ k by omega), up_i (show 61 + i ≠ k by omega), up_o (show (79 : Nat) ≠ 78 by decide)]
      exact this)
    refine ⟨vm', fun F hF => ?_, fun i hi1 hi2 => ?_, fun a i q => ?_⟩
    · obtain ⟨F, rfl⟩ : ∃ G, F = G + 1 := ⟨F - 1, by omega⟩
      rw [fX10_readText_177, if_inb b0, z0, h0, if_neg (by rw [tle, tnI (by omega), tnI (by omega)]; omega), e1, e2, if_inb b1, if_inb b2, if_inb b1, if_inb b2, c1, c2, i1, up_o (show (79 : Nat) ≠ 78 by decide), i2, nI_1]
      exact a1 F (by omega)
    · by_cases ci : i = k
      · subst ci
        rw [a3 78 i (by omega), a3 79 i (by omega), up_o (by decide), up_s, up_s]
        exact ⟨rfl, rfl⟩
      · obtain ⟨g1, g2⟩ := a2 i (by omega) hi2
        rw [g1, g2, up_o (show (78 : Nat) ≠ 79 by decide), up_i (show 61 + i ≠ k by omega), up_i (show 61 + i ≠ k by omega), up_o (show (79 : Nat) ≠ 78 by decide)]
        exact ⟨rfl, rfl⟩
    · rw [a3 a i (by omega), up_at, if_neg (by omega), up_at, if_neg (by omega)]
theorem copy_105 {S : Nat} (hS : S ≤ 130) : ∀ (m k : Nat) (vm : VI), S - k = m → k ≤ S → vm 63 20 = nI S → (∀ i, k ≤ i → i < S → 0 ≤ (vm 75 (130 + i)).toInt ∧ (vm 75 (130 + i)).toInt ≤ 127) → ∃ vm', (∀ F, m < F → fX10_readText_105 F 0 (nI k) vm = fX10_readText_177 FU 0 0 (j_up vm' 77 0 (vm' 77 1))) ∧ (∀ i, k ≤ i → i < S → vm' 75 i = vm 75 (130 + i) ∧ vm' 76 i = vm 76 (130 + i)) ∧ ∀ a i, ¬ ((a = 75 ∨ a = 76) ∧ k ≤ i ∧ i < S) → vm' a i = vm a i := by
  have z0 : (0 : Int32).toNatClampNeg = 0 := rfl
  have z1 : (1 : Int32).toNatClampNeg = 1 := rfl
  have b0 : 0 ≤ (0 : Int32).toInt ∧ (0 : Int32).toInt < (2 : Nat) := by decide
  intro m
  induction m with
  | zero =>
    intro k vm q1 q2 h0 hr
    refine ⟨vm, fun F hF => ?_, fun i a b => absurd a (by omega), fun _ _ _ => rfl⟩
    obtain ⟨F, rfl⟩ : ∃ G, F = G + 1 := ⟨F - 1, by omega⟩
    rw [fX10_readText_105, h0, if_pos (by rw [tle, tnI (by omega), tnI (by omega)]; omega), if_inb b0, z0, z1]
  | succ m ih =>
    intro k vm q1 q2 h0 hr
    have e1 : (130 + nI k : Int32) = nI (130 + k) := by rw [show (130 : Int32) = nI 130 from rfl, nI_add]
    have e2 : (130 * 0 + nI k : Int32) = nI k := by rw [show (130 : Int32) = nI 130 from rfl, show (0 : Int32) = nI 0 from rfl, nI_mul, nI_add]; simp
    have b1 : 0 ≤ (nI (130 + k)).toInt ∧ (nI (130 + k)).toInt < (260 : Nat) := by rw [tnI (by omega)]; omega
    have b2 : 0 ≤ (nI k).toInt ∧ (nI k).toInt < (260 : Nat) := by rw [tnI (by omega)]; omega
    have c1 : (nI (130 + k)).toNatClampNeg = 130 + k := nI_clamp (by omega)
    have c2 : (nI k).toNatClampNeg = k := nI_clamp (by omega)
    have r1 := hr k (by omega) (by omega)
    have i1 : (vm 75 (130 + k)).toInt8.toInt32 = vm 75 (130 + k) := i8id (by omega)
    obtain ⟨vm', a1, a2, a3⟩ := ih (k + 1) (j_up (j_up vm 75 k (vm 75 (130 + k))) 76 k (vm 76 (130 + k))) (by omega) (by omega) (by rw [up_o (by decide), up_o (by decide)]; exact h0) (fun i hi1 hi2 => by
      have := hr i (by omega) hi2
      rw [up_o (show (75 : Nat) ≠ 76 by decide), up_i (show 130 + i ≠ k by omega)]
      exact this)
    refine ⟨vm', fun F hF => ?_, fun i hi1 hi2 => ?_, fun a i q => ?_⟩
    · obtain ⟨F, rfl⟩ : ∃ G, F = G + 1 := ⟨F - 1, by omega⟩
      rw [fX10_readText_105, h0, if_neg (by rw [tle, tnI (by omega), tnI (by omega)]; omega), e1, e2, if_inb b1, if_inb b2, if_inb b1, if_inb b2, c1, c2, i1, up_o (show (76 : Nat) ≠ 75 by decide), nI_1]
      exact a1 F (by omega)
    · by_cases ci : i = k
      · subst ci
        rw [a3 75 i (by omega), a3 76 i (by omega), up_o (by decide), up_s, up_s]
        exact ⟨rfl, rfl⟩
      · obtain ⟨g1, g2⟩ := a2 i (by omega) hi2
        rw [g1, g2, up_o (show (75 : Nat) ≠ 76 by decide), up_i (show 130 + i ≠ k by omega), up_i (show 130 + i ≠ k by omega), up_o (show (76 : Nat) ≠ 75 by decide)]
        exact ⟨rfl, rfl⟩
    · rw [a3 a i (by omega), up_at, if_neg (by omega), up_at, if_neg (by omega)]
theorem become5 (vi : VI) : ∃ vi', fX5_become 5 9 vi = some vi' ∧ vi' 5 1 = vi 9 1 ∧ (∀ k, k < 121 → vi' 6 k = vi 10 k) ∧ ∀ a i, ¬ (a = 5 ∧ i = 1) → a ≠ 6 → vi' a i = vi a i := by
  have z0 : (0 : Int32).toNatClampNeg = 0 := rfl
  have z121 : (121 : Int32).toNatClampNeg = 121 := rfl
  unfold fX5_become
  rw [if_pos (by decide)]
  simp only [z0, z121]
  refine ⟨_, rfl, ?_, fun k hk => ?_, fun a i q1 q2 => ?_⟩
  · rw [up_s, row_o (by decide)]
  · rw [up_o (by decide), row_s, cpy0, if_pos hk]
  · rw [up_at, if_neg q1, row_o q2]
/-- what law leaves -/
def LawLeft (ns : Nat) (vi vc vm vm' : VI) : Prop := (∀ a i, a ≠ 3 → ¬ (a = 9 ∧ i = 1) → a ≠ 10 → ¬ (a = 5 ∧ i = 1) → a ≠ 6 → ¬ (102 ≤ a ∧ a % 5 = 2) → vc a i = vi a i) ∧ (∀ a i, ¬ (a = 63 ∧ (16 ≤ i ∧ i ≤ 20 ∨ i = 28)) → ¬ (75 ≤ a ∧ a ≤ 79) → vm' a i = vm a i) ∧ vc 3 1 = 0 ∧ vm' 63 16 = 0 ∧ ((vm' 63 28 = 1 ∧ (∀ j, j < ns → ∀ i, i < 780 → vc (102 + 5 * j) i = 0) ∧ ∃ T : List (List Int32 × List Int32), T ≠ [] ∧ T.length ≤ 61 ∧ csz T ≤ 121 ∧ ssz T ≤ 121 ∧ vc 5 1 = nI (csz T) ∧ vm' 77 0 = nI T.length ∧ linesAt vc vm' 6 0 T 0 0 0) ∨ (vm' 63 28 = vm 63 28 ∧ (∀ a i, (a = 5 ∧ i = 1) ∨ a = 6 ∨ (102 ≤ a ∧ a % 5 = 2) → vc a i = vi a i) ∧ ∀ a i, 75 ≤ a → (a ≤ 79 ∧ ((a ≤ 76 ∧ i < 130) ∨ (a = 77 ∧ i = 0) ∨ (78 ≤ a ∧ i < 61))) → vm' a i = vm a i))
