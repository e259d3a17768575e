/-! AN IMAGE -/
def imgIs (vi : VI) (K i : Nat) : Prop := (i < K ∧ ∃ n : Nat, n ≤ 12 ∧ vi (27 + 3 * i) 2 = nI n ∧ vi 88 i = nI n ∧ ∀ k, k < n → vi (28 + 3 * i) k = vi 89 (12 * i + k) ∧ vi (29 + 3 * i) k = vi 90 (12 * i + k) ∧ rng (vi 89 (12 * i + k)) 0 5 ∧ rng (vi 90 (12 * i + k)) 1 99) ∨ (K ≤ i ∧ vi (27 + 3 * i) 2 = 0)
def I_image (ns : Nat) (vi : VI) : Prop := (vi 24 2 = 0 ∧ vi 63 39 = 0 ∧ ∀ i, i < 5 → vi (27 + 3 * i) 2 = 0) ∨ (vi 24 2 = 1 ∧ vi 63 39 = 1 ∧ ∃ K, K ≤ ns ∧ vi 63 40 = nI K ∧ (∀ k, k < 5 → vi 26 k = vi 91 k) ∧ ∀ i, i < 5 → imgIs vi K i)
def F_image (o i : Nat) : Prop := (24 ≤ o ∧ o ≤ 41) ∨ (88 ≤ o ∧ o ≤ 91) ∨ (o = 63 ∧ (i = 39 ∨ i = 40))
theorem image_frame {ns : Nat} {vi vi' : VI} (h : I_image ns vi) (hf : ∀ o i, F_image o i → vi' o i = vi o i) : I_image ns vi' := by
  have f : ∀ i, i < 5 → ∀ k, vi' (27 + 3 * i) k = vi (27 + 3 * i) k ∧ vi' (28 + 3 * i) k = vi (28 + 3 * i) k ∧ vi' (29 + 3 * i) k = vi (29 + 3 * i) k := fun i hi k => ⟨hf _ _ (by unfold F_image; omega), hf _ _ (by unfold F_image; omega), hf _ _ (by unfold F_image; omega)⟩
  rcases h with ⟨h1, h2, h3⟩ | ⟨h1, h2, K, h3, h4, h5, h6⟩
  · exact Or.inl ⟨(hf _ _ (by unfold F_image; omega)).trans h1, (hf _ _ (by unfold F_image; omega)).trans h2, fun i hi => ((f i hi 2).1).trans (h3 i hi)⟩
  · refine Or.inr ⟨(hf _ _ (by unfold F_image; omega)).trans h1, (hf _ _ (by unfold F_image; omega)).trans h2, K, h3, (hf _ _ (by unfold F_image; omega)).trans h4, fun k hk => ?_, fun i hi => ?_⟩
    · rw [hf 26 k (by unfold F_image; omega), hf 91 k (by unfold F_image; omega)]; exact h5 k hk
    · rcases h6 i hi with ⟨g0, n, g1, g2, g3, g4⟩ | ⟨g1, g2⟩
      · refine Or.inl ⟨g0, n, g1, ((f i hi 2).1).trans g2, (hf _ _ (by unfold F_image; omega)).trans g3, fun k hk => ?_⟩
        rw [(f i hi k).2.1, (f i hi k).2.2, hf 89 _ (by unfold F_image; omega), hf 90 _ (by unfold F_image; omega)]
        exact g4 k hk
      · exact Or.inr ⟨g1, ((f i hi 2).1).trans g2⟩
theorem imageC_loop {ns : Nat} (h5 : ns ≤ 5) : ∀ (m k : Nat) (vi : VI), ns - k = m → k ≤ ns → vi 0 1 = nI ns → ∃ vi', (∀ F, m < F → fX9_image_2 ns F (nI k) vi = some (vi' 23 0, j_up (j_row vi' 26 (va_cpy (vi' 23) (vi' 26) 0 0 5)) 24 2 1)) ∧ (∀ t, k ≤ t → t < ns → vi' (27 + 3 * t) 2 = vi (99 + 5 * t) 2 ∧ ∀ q, q < 12 → vi' (28 + 3 * t) q = vi (100 + 5 * t) q ∧ vi' (29 + 3 * t) q = vi (101 + 5 * t) q) ∧ ∀ a i, a < 27 + 3 * k ∨ 27 + 3 * ns ≤ a → vi' a i = vi a i := by
  intro m
  induction m with
  | zero =>
    intro k vi q1 q2 q3
    refine ⟨vi, fun F hF => ?_, fun t a b => absurd a (by omega), fun _ _ _ => rfl⟩
    obtain ⟨F, rfl⟩ : ∃ F', F = F' + 1 := ⟨F - 1, by omega⟩
    rw [fX9_image_2, q3, if_pos (by rw [tle, tnI (by omega), tnI (by omega)]; omega), if_pos (by decide)]
    simp only [show (0 : Int32).toNatClampNeg = 0 from rfl, show (5 : Int32).toNatClampNeg = 5 from rfl]
    rw [up_o (show (23 : Nat) ≠ 24 by decide), row_o (show (23 : Nat) ≠ 26 by decide)]
  | succ m ih =>
    intro k vi q1 q2 q3
    have bk : 0 ≤ (nI k).toInt ∧ (nI k).toInt < ns := by rw [tnI (by omega)]; omega
    have bk5 : 0 ≤ (nI k).toInt ∧ (nI k).toInt < (5 : Nat) := by omega
    have ck : (nI k).toNatClampNeg = k := nI_clamp (by omega)
    obtain ⟨v1, e1, e2, e3, e4⟩ := become_eq (o := 27 + 3 * k) (x := 99 + 5 * k) (by omega) vi
    obtain ⟨vi', a1, a2, a3⟩ := ih (k + 1) v1 (by omega) (by omega) (by rw [e4 0 1 (by omega) (by omega) (by omega)]; exact q3)
    refine ⟨vi', fun F hF => ?_, fun t b1 b2 => ?_, fun a i q => ?_⟩
    · obtain ⟨F, rfl⟩ : ∃ F', F = F' + 1 := ⟨F - 1, by omega⟩
      rw [fX9_image_2, q3, if_neg (by rw [tle, tnI (by omega), tnI (by omega)]; omega), if_inb bk5, if_inb bk, ck, show 98 + 5 * k + 1 = 99 + 5 * k by omega, e1, Option.bind_some, nI_1]
      exact a1 F (by omega)
    · by_cases c : t = k
      · subst c
        refine ⟨by rw [a3 _ _ (by omega), e2], fun q hq => ?_⟩
        obtain ⟨f1, f2⟩ := e3 q hq
        rw [a3 (28 + 3 * t) q (by omega), a3 (29 + 3 * t) q (by omega), show 28 + 3 * t = 27 + 3 * t + 1 by omega, show 29 + 3 * t = 27 + 3 * t + 2 by omega, f1, f2]
        exact ⟨by rw [show 99 + 5 * t + 1 = 100 + 5 * t by omega], by rw [show 99 + 5 * t + 2 = 101 + 5 * t by omega]⟩
      · obtain ⟨f1, f2⟩ := a2 t (by omega) b2
        refine ⟨by rw [f1, e4 _ _ (by omega) (by omega) (by omega)], fun q hq => ?_⟩
        obtain ⟨g1, g2⟩ := f2 q hq
        rw [g1, g2, e4 (100 + 5 * t) q (by omega) (by omega) (by omega), e4 (101 + 5 * t) q (by omega) (by omega) (by omega)]
        exact ⟨rfl, rfl⟩
    · rw [a3 a i (by omega), e4 a i (by omega) (by omega) (by omega)]
theorem imageM_81 : ∀ (m k : Nat) (vi : VI), 5 - k = m → k ≤ 5 → ∃ vi', (∀ F, m < F → fX10_image_81 F (nI k) vi = some (vi 87 0, vi')) ∧ (∀ t, k ≤ t → t < 5 → vi' 91 t = vi 87 t) ∧ ∀ a i, ¬ (a = 91 ∧ k ≤ i) → vi' a i = vi a i := by
  intro m
  induction m with
  | zero =>
    intro k vi q1 q2
    refine ⟨vi, fun F hF => ?_, fun t a b => absurd a (by omega), fun _ _ _ => rfl⟩
    obtain ⟨F, rfl⟩ : ∃ F', F = F' + 1 := ⟨F - 1, by omega⟩
    rw [fX10_image_81, if_pos (by rw [tle, tnI (by omega), l5]; omega)]; rfl
  | succ m ih =>
    intro k vi q1 q2
    have b5 : 0 ≤ (nI k).toInt ∧ (nI k).toInt < (5 : Nat) := by rw [tnI (by omega)]; omega
    obtain ⟨vi', a1, a2, a3⟩ := ih (k + 1) (j_up vi 91 k (vi 87 k)) (by omega) (by omega)
    refine ⟨vi', fun F hF => ?_, fun t b1 b2 => ?_, fun a i q => ?_⟩
    · obtain ⟨F, rfl⟩ : ∃ F', F = F' + 1 := ⟨F - 1, by omega⟩
      rw [fX10_image_81, if_neg (by rw [tle, tnI (by omega), l5]; omega), if_inb b5, if_inb b5, nI_clamp (by omega), nI_1, a1 F (by omega), up_o (show (87 : Nat) ≠ 91 by decide)]
    · by_cases c : t = k
      · subst c
        rw [a3 91 t (by omega), up_s]
      · rw [a2 t (by omega) b2, up_o (by decide)]
    · rw [a3 a i (by omega), up_at, if_neg (by omega)]
theorem imageM_43 : ∀ (m k : Nat) (vi : VI), 60 - k = m → k ≤ 60 → ∃ vi', (∀ F, m < F → fX10_image_43 F (nI k) vi = fX10_image_81 FU 0 vi') ∧ (∀ t, k ≤ t → t < 60 → vi' 89 t = vi 68 t ∧ vi' 90 t = vi 69 t) ∧ ∀ a i, ¬ ((a = 89 ∨ a = 90) ∧ k ≤ i) → vi' a i = vi a i := by
  intro m
  induction m with
  | zero =>
    intro k vi q1 q2
    refine ⟨vi, fun F hF => ?_, fun t a b => absurd a (by omega), fun _ _ _ => rfl⟩
    obtain ⟨F, rfl⟩ : ∃ F', F = F' + 1 := ⟨F - 1, by omega⟩
    rw [fX10_image_43, if_pos (by rw [tle, tnI (by omega), l60]; omega)]
  | succ m ih =>
    intro k vi q1 q2
    have b6 : 0 ≤ (nI k).toInt ∧ (nI k).toInt < (60 : Nat) := by rw [tnI (by omega)]; omega
    obtain ⟨vi', a1, a2, a3⟩ := ih (k + 1) (j_up (j_up vi 89 k (vi 68 k)) 90 k (vi 69 k)) (by omega) (by omega)
    refine ⟨vi', fun F hF => ?_, fun t b1 b2 => ?_, fun a i q => ?_⟩
    · obtain ⟨F, rfl⟩ : ∃ F', F = F' + 1 := ⟨F - 1, by omega⟩
      rw [fX10_image_43, if_neg (by rw [tle, tnI (by omega), l60]; omega)]
      simp only [if_inb b6, nI_clamp (show k < 2 ^ 31 by omega), nI_1]
      rw [up_o (show (69 : Nat) ≠ 89 by decide)]
      exact a1 F (by omega)
    · by_cases c : t = k
      · subst c
        rw [a3 89 t (by omega), a3 90 t (by omega), up_o (by decide), up_s, up_s]; exact ⟨rfl, rfl⟩
      · obtain ⟨f1, f2⟩ := a2 t (by omega) b2
        rw [f1, f2, up_o (by decide), up_o (by decide), up_o (by decide), up_o (by decide)]; exact ⟨rfl, rfl⟩
    · rw [a3 a i (by omega), up_at, if_neg (by omega), up_at, if_neg (by omega)]
theorem imageM_15 {ns : Nat} (h5 : ns ≤ 5) : ∀ (m k : Nat) (vi : VI), ns - k = m → k ≤ ns → vi 63 1 = nI ns → ∃ vi', (∀ F, m < F → fX10_image_15 F (nI k) vi = fX10_image_43 FU 0 vi') ∧ (∀ t, k ≤ t → t < ns → vi' 88 t = vi 67 t) ∧ ∀ a i, ¬ (a = 88 ∧ k ≤ i) → vi' a i = vi a i := by
  intro m
  induction m with
  | zero =>
    intro k vi q1 q2 q3
    refine ⟨vi, fun F hF => ?_, fun t a b => absurd a (by omega), fun _ _ _ => rfl⟩
    obtain ⟨F, rfl⟩ : ∃ F', F = F' + 1 := ⟨F - 1, by omega⟩
    rw [fX10_image_15, q3, if_pos (by rw [tle, tnI (by omega), tnI (by omega)]; omega)]
  | succ m ih =>
    intro k vi q1 q2 q3
    have b5 : 0 ≤ (nI k).toInt ∧ (nI k).toInt < (5 : Nat) := by rw [tnI (by omega)]; omega
    obtain ⟨vi', a1, a2, a3⟩ := ih (k + 1) (j_up vi 88 k (vi 67 k)) (by omega) (by omega) (by rw [up_o (by decide)]; exact q3)
    refine ⟨vi', fun F hF => ?_, fun t b1 b2 => ?_, fun a i q => ?_⟩
    · obtain ⟨F, rfl⟩ : ∃ F', F = F' + 1 := ⟨F - 1, by omega⟩
      rw [fX10_image_15, q3, if_neg (by rw [tle, tnI (by omega), tnI (by omega)]; omega), if_inb b5, if_inb b5, nI_clamp (by omega), nI_1]
      exact a1 F (by omega)
    · by_cases c : t = k
      · subst c
        rw [a3 88 t (by omega), up_s]
      · rw [a2 t (by omega) b2, up_o (by decide)]
    · rw [a3 a i (by omega), up_at, if_neg (by omega)]
theorem p_image {ns : Nat} {vi : VI} (hn : I_num ns vi) (hd : I_dust ns vi) (hg : I_led vi) (hi : I_image ns vi) : ∃ r vi1, fX9_image ns vi = some (r, vi1) ∧ ∃ vi2, fX10_image vi1 = some (r, vi2) ∧ I_image ns vi2 ∧ ∀ o i, ¬ F_image o i → vi2 o i = vi o i := by
  have h5 := hn.1
  obtain ⟨w, a1, a2, a3⟩ := imageC_loop h5 ns 0 vi (by omega) (by omega) hn.2.1
  obtain ⟨v1, hv1⟩ : ∃ v1, v1 = j_up (j_row w 26 (va_cpy (w 23) (w 26) 0 0 5)) 24 2 1 := ⟨_, rfl⟩
  have b1 := a1 FU (by rw [FU_eq]; omega)
  rw [← hv1] at b1
  have fr1 : ∀ a i, a ≠ 26 → ¬ (a = 24 ∧ i = 2) → (a < 27 ∨ 42 ≤ a) → v1 a i = vi a i := fun a i q1 q2 q3 => by rw [hv1, up_at, if_neg q2, row_o q1, a3 a i (by omega)]
  have fr27 : ∀ a i, 27 ≤ a → v1 a i = w a i := fun a i q => by rw [hv1, up_at, if_neg (by omega), row_o (by omega)]
  -- the model
  obtain ⟨v2, c1, c2, c3⟩ := imageM_15 h5 ns 0 (j_up (j_up v1 63 39 1) 63 40 (v1 63 1)) (by omega) (by omega) (by rw [up_i (by decide), up_i (by decide), fr1 63 1 (by omega) (by omega) (by omega)]; exact hn.2.2.1)
  obtain ⟨v3, d1, d2, d3⟩ := imageM_43 60 0 v2 (by omega) (by omega)
  obtain ⟨v4, e1, e2, e3⟩ := imageM_81 5 0 v3 (by omega) (by omega)
  have fr4 : ∀ a i, ¬ (88 ≤ a ∧ a ≤ 91) → ¬ (a = 63 ∧ (i = 39 ∨ i = 40)) → v4 a i = v1 a i := fun a i q1 q2 => by rw [e3 a i (by omega), d3 a i (by omega), c3 a i (by omega), up_at, if_neg (by omega), up_at, if_neg (by omega)]
  have led0 : v3 87 0 = w 23 0 := by
    rw [d3 87 0 (by omega), c3 87 0 (by omega), up_o (by decide), up_o (by decide), fr1 87 0 (by omega) (by omega) (by omega), a3 23 0 (by omega)]
    exact (hg 0 (by omega)).symm
  refine ⟨w 23 0, v1, ?_, v4, ?_, ?_, fun o i q => ?_⟩
  · unfold fX9_image
    exact b1
  · unfold fX10_image
    rw [up_i (show (1 : Nat) ≠ 39 by decide)]
    have c1' := c1 FU (by rw [FU_eq]; omega)
    have d1' := d1 FU (by rw [FU_eq]; omega)
    have e1' := e1 FU (by rw [FU_eq]; omega)
    rw [show nI 0 = (0 : Int32) from rfl] at c1' d1' e1'
    rw [c1', d1', e1', led0]
  · refine Or.inr ⟨?_, ?_, ns, Nat.le_refl _, ?_, fun k hk => ?_, fun i hi5 => ?_⟩
    · rw [fr4 24 2 (by omega) (by omega), hv1, up_s]
    · rw [e3 63 39 (by omega), d3 63 39 (by omega), c3 63 39 (by omega), up_i (by decide), up_s]
    · rw [e3 63 40 (by omega), d3 63 40 (by omega), c3 63 40 (by omega), up_s, fr1 63 1 (by omega) (by omega) (by omega)]
      exact hn.2.2.1
    · rw [fr4 26 k (by omega) (by omega), e2 k (by omega) hk, hv1, up_o (by decide), row_s, cpy0, if_pos hk, a3 23 k (by omega), d3 87 k (by omega), c3 87 k (by omega), up_o (by decide), up_o (by decide), fr1 87 k (by omega) (by omega) (by omega)]
      exact hg k hk
    · by_cases cn : i < ns
      · obtain ⟨n, g1, g2, g3, g4⟩ := hd i cn
        obtain ⟨f1, f2⟩ := a2 i (by omega) cn
        refine Or.inl ⟨cn, n, g1, ?_, ?_, fun k hk => ?_⟩
        · rw [fr4 _ _ (by omega) (by omega), fr27 _ _ (by omega), f1]; exact g2
        · rw [e3 88 i (by omega), d3 88 i (by omega), c2 i (by omega) cn, up_o (by decide), up_o (by decide), fr1 67 i (by omega) (by omega) (by omega)]
          exact g3
        · obtain ⟨p1, p2⟩ := f2 k (by omega)
          obtain ⟨o1, o2⟩ := d2 (12 * i + k) (by omega) (by omega)
          rw [fr4 (28 + 3 * i) k (by omega) (by omega), fr27 (28 + 3 * i) k (by omega), p1, fr4 (29 + 3 * i) k (by omega) (by omega), fr27 (29 + 3 * i) k (by omega), p2, e3 89 _ (by omega), e3 90 _ (by omega), o1, o2, c3 68 _ (by omega), c3 69 _ (by omega), up_o (by decide), up_o (by decide), up_o (by decide), up_o (by decide), fr1 68 _ (by omega) (by omega) (by omega), fr1 69 _ (by omega) (by omega) (by omega)]
          exact g4 k hk
      · refine Or.inr ⟨by omega, ?_⟩
        rw [fr4 _ _ (by omega) (by omega), fr27 _ _ (by omega), a3 _ _ (by omega)]
        rcases hi with ⟨-, -, z⟩ | ⟨-, -, K, z1, -, -, z2⟩
        · exact z i hi5
        · rcases z2 i hi5 with ⟨y, -⟩ | ⟨-, y⟩
          · omega
          · exact y
  · have q' : ¬ ((24 ≤ o ∧ o ≤ 41) ∨ (88 ≤ o ∧ o ≤ 91) ∨ (o = 63 ∧ (i = 39 ∨ i = 40))) := q
    rw [fr4 o i (by omega) (by omega), fr1 o i (by omega) (by omega) (by omega)]
theorem backC_loop {ns : Nat} (h5 : ns ≤ 5) : ∀ (m k : Nat) (vi : VI), ns - k = m → k ≤ ns → vi 0 1 = nI ns → ∃ vi', (∀ F, m < F → fX9_back_15 ns F (nI k) vi = some (vi' 26 0, j_row vi' 23 (va_cpy (vi' 26) (vi' 23) 0 0 5))) ∧ (∀ t, k ≤ t → t < ns → vi' (99 + 5 * t) 2 = vi (27 + 3 * t) 2 ∧ ∀ q, q < 12 → vi' (100 + 5 * t) q = vi (28 + 3 * t) q ∧ vi' (101 + 5 * t) q = vi (29 + 3 * t) q) ∧ ∀ a i, ¬ (99 + 5 * k ≤ a ∧ ((a % 5 = 4 ∧ i = 2) ∨ a % 5 = 0 ∨ a % 5 = 1)) → vi' a i = vi a i := by
  intro m
  induction m with
  | zero =>
    intro k vi q1 q2 q3
    refine ⟨vi, fun F hF => ?_, fun t a b => absurd a (by omega), fun _ _ _ => rfl⟩
    obtain ⟨F, rfl⟩ : ∃ F', F = F' + 1 := ⟨F - 1, by omega⟩
    rw [fX9_back_15, q3, if_pos (by rw [tle, tnI (by omega), tnI (by omega)]; omega), if_pos (by decide)]
    simp only [show (0 : Int32).toNatClampNeg = 0 from rfl, show (5 : Int32).toNatClampNeg = 5 from rfl]
    rw [row_s, cpy0, if_pos (by decide)]
  | succ m ih =>
    intro k vi q1 q2 q3
    have bk : 0 ≤ (nI k).toInt ∧ (nI k).toInt < ns := by rw [tnI (by omega)]; omega
    have bk5 : 0 ≤ (nI k).toInt ∧ (nI k).toInt < (5 : Nat) := by omega
    have ck : (nI k).toNatClampNeg = k := nI_clamp (by omega)
    obtain ⟨v1, e1, e2, e3, e4⟩ := become_eq (o := 99 + 5 * k) (x := 27 + 3 * k) (by omega) vi
    obtain ⟨vi', a1, a2, a3⟩ := ih (k + 1) v1 (by omega) (by omega) (by rw [e4 0 1 (by omega) (by omega) (by omega)]; exact q3)
    refine ⟨vi', fun F hF => ?_, fun t b1 b2 => ?_, fun a i q => ?_⟩
    · obtain ⟨F, rfl⟩ : ∃ F', F = F' + 1 := ⟨F - 1, by omega⟩
      rw [fX9_back_15, q3, if_neg (by rw [tle, tnI (by omega), tnI (by omega)]; omega), if_inb bk, if_inb bk5, ck, show 98 + 5 * k + 1 = 99 + 5 * k by omega, e1, Option.bind_some, nI_1]
      exact a1 F (by omega)
    · by_cases c : t = k
      · subst c
        refine ⟨by rw [a3 _ _ (by omega), e2], fun q hq => ?_⟩
        obtain ⟨f1, f2⟩ := e3 q hq
        rw [a3 (100 + 5 * t) q (by omega), a3 (101 + 5 * t) q (by omega), show 100 + 5 * t = 99 + 5 * t + 1 by omega, show 101 + 5 * t = 99 + 5 * t + 2 by omega, f1, f2]
        exact ⟨by rw [show 27 + 3 * t + 1 = 28 + 3 * t by omega], by rw [show 27 + 3 * t + 2 = 29 + 3 * t by omega]⟩
      · obtain ⟨f1, f2⟩ := a2 t (by omega) b2
        refine ⟨by rw [f1, e4 _ _ (by omega) (by omega) (by omega)], fun q hq => ?_⟩
        obtain ⟨g1, g2⟩ := f2 q hq
        rw [g1, g2, e4 (28 + 3 * t) q (by omega) (by omega) (by omega), e4 (29 + 3 * t) q (by omega) (by omega) (by omega)]
        exact ⟨rfl, rfl⟩
    · rw [a3 a i (by omega), e4 a i (by omega) (by omega) (by omega)]
theorem backM_90 : ∀ (m k : Nat) (vi : VI), 5 - k = m → k ≤ 5 → ∃ vi', (∀ F, m < F → fX10_back_90 F (nI k) vi = some (vi' 87 0, vi')) ∧ (∀ t, k ≤ t → t < 5 → vi' 87 t = vi 91 t) ∧ ∀ a i, ¬ (a = 87 ∧ k ≤ i) → vi' a i = vi a i := by
  intro m
  induction m with
  | zero =>
    intro k vi q1 q2
    refine ⟨vi, fun F hF => ?_, fun t a b => absurd a (by omega), fun _ _ _ => rfl⟩
    obtain ⟨F, rfl⟩ : ∃ F', F = F' + 1 := ⟨F - 1, by omega⟩
    rw [fX10_back_90, if_pos (by rw [tle, tnI (by omega), l5]; omega)]; rfl
  | succ m ih =>
    intro k vi q1 q2
    have b5 : 0 ≤ (nI k).toInt ∧ (nI k).toInt < (5 : Nat) := by rw [tnI (by omega)]; omega
    obtain ⟨vi', a1, a2, a3⟩ := ih (k + 1) (j_up vi 87 k (vi 91 k)) (by omega) (by omega)
    refine ⟨vi', fun F hF => ?_, fun t b1 b2 => ?_, fun a i q => ?_⟩
    · obtain ⟨F, rfl⟩ : ∃ F', F = F' + 1 := ⟨F - 1, by omega⟩
      rw [fX10_back_90, if_neg (by rw [tle, tnI (by omega), l5]; omega), if_inb b5, if_inb b5, nI_clamp (by omega), nI_1, a1 F (by omega)]
    · by_cases c : t = k
      · subst c
        rw [a3 87 t (by omega), up_s]
      · rw [a2 t (by omega) b2, up_o (by decide)]
    · rw [a3 a i (by omega), up_at, if_neg (by omega)]
theorem backM_52 : ∀ (m k : Nat) (vi : VI), 60 - k = m → k ≤ 60 → ∃ vi', (∀ F, m < F → fX10_back_52 F (nI k) vi = fX10_back_90 FU 0 vi') ∧ (∀ t, k ≤ t → t < 60 → vi' 68 t = vi 89 t ∧ vi' 69 t = vi 90 t) ∧ ∀ a i, ¬ ((a = 68 ∨ a = 69) ∧ k ≤ i) → vi' a i = vi a i := by
  intro m
  induction m with
  | zero =>
    intro k vi q1 q2
    refine ⟨vi, fun F hF => ?_, fun t a b => absurd a (by omega), fun _ _ _ => rfl⟩
    obtain ⟨F, rfl⟩ : ∃ F', F = F' + 1 := ⟨F - 1, by omega⟩
    rw [fX10_back_52, if_pos (by rw [tle, tnI (by omega), l60]; omega)]
  | succ m ih =>
    intro k vi q1 q2
    have b6 : 0 ≤ (nI k).toInt ∧ (nI k).toInt < (60 : Nat) := by rw [tnI (by omega)]; omega
    obtain ⟨vi', a1, a2, a3⟩ := ih (k + 1) (j_up (j_up vi 68 k (vi 89 k)) 69 k (vi 90 k)) (by omega) (by omega)
    refine ⟨vi', fun F hF => ?_, fun t b1 b2 => ?_, fun a i q => ?_⟩
    · obtain ⟨F, rfl⟩ : ∃ F', F = F' + 1 := ⟨F - 1, by omega⟩
      rw [fX10_back_52, if_neg (by rw [tle, tnI (by omega), l60]; omega)]
      simp only [if_inb b6, nI_clamp (show k < 2 ^ 31 by omega), nI_1]
      rw [up_o (show (90 : Nat) ≠ 68 by decide)]
      exact a1 F (by omega)
    · by_cases c : t = k
      · subst c
        rw [a3 68 t (by omega), a3 69 t (by omega), up_o (by decide), up_s, up_s]; exact ⟨rfl, rfl⟩
      · obtain ⟨f1, f2⟩ := a2 t (by omega) b2
        rw [f1, f2, up_o (by decide), up_o (by decide), up_o (by decide), up_o (by decide)]; exact ⟨rfl, rfl⟩
    · rw [a3 a i (by omega), up_at, if_neg (by omega), up_at, if_neg (by omega)]
theorem backM_12 {ns K : Nat} (h5 : ns ≤ 5) (hK : K ≤ 5) : ∀ (m k : Nat) (vi : VI), ns - k = m → k ≤ ns → vi 63 1 = nI ns → vi 63 40 = nI K → ∃ vi', (∀ F, m < F → fX10_back_12 F (nI k) vi = fX10_back_52 FU 0 vi') ∧ (∀ t, k ≤ t → t < ns → vi' 67 t = if t < K then vi 88 t else 0) ∧ ∀ a i, ¬ (a = 67 ∧ k ≤ i) → vi' a i = vi a i := by
  intro m
  induction m with
  | zero =>
    intro k vi q1 q2 q3 q4
    refine ⟨vi, fun F hF => ?_, fun t a b => absurd a (by omega), fun _ _ _ => rfl⟩
    obtain ⟨F, rfl⟩ : ∃ F', F = F' + 1 := ⟨F - 1, by omega⟩
    rw [fX10_back_12, q3, if_pos (by rw [tle, tnI (by omega), tnI (by omega)]; omega)]
  | succ m ih =>
    intro k vi q1 q2 q3 q4
    have b5 : 0 ≤ (nI k).toInt ∧ (nI k).toInt < (5 : Nat) := by rw [tnI (by omega)]; omega
    have one : ∀ F, fX10_back_12 (F + 1) (nI k) vi = fX10_back_12 F (nI (k + 1)) (j_up vi 67 k (if k < K then vi 88 k else 0)) := by
      intro F
      rw [fX10_back_12, q3, if_neg (by rw [tle, tnI (by omega), tnI (by omega)]; omega), q4]
      by_cases cK : k < K
      · rw [if_neg (by rw [tle, tnI (by omega), tnI (by omega)]; omega), if_inb b5, nI_clamp (by omega), fX10_back_43, if_inb b5, nI_clamp (by omega), nI_1, if_pos cK]
      · rw [if_pos (by rw [tle, tnI (by omega), tnI (by omega)]; omega), fX10_back_43, if_inb b5, nI_clamp (by omega), nI_1, if_neg cK]
    obtain ⟨vi', a1, a2, a3⟩ := ih (k + 1) (j_up vi 67 k (if k < K then vi 88 k else 0)) (by omega) (by omega) (by rw [up_o (by decide)]; exact q3) (by rw [up_o (by decide)]; exact q4)
    refine ⟨vi', fun F hF => ?_, fun t b1 b2 => ?_, fun a i q => ?_⟩
    · obtain ⟨F, rfl⟩ : ∃ F', F = F' + 1 := ⟨F - 1, by omega⟩
      rw [one]
      exact a1 F (by omega)
    · by_cases c : t = k
      · subst c
        rw [a3 67 t (by omega), up_s]
      · rw [a2 t (by omega) b2, up_o (by decide)]
    · rw [a3 a i (by omega), up_at, if_neg (by omega)]
/-- what laying back an IMAGE writes -/
def WB (a i : Nat) : Prop := (99 ≤ a ∧ ((a % 5 = 4 ∧ i = 2) ∨ a % 5 = 0 ∨ a % 5 = 1)) ∨ a = 23 ∨ (67 ≤ a ∧ a ≤ 69) ∨ a = 87
theorem p_back {ns : Nat} {vi : VI} (hn : I_num ns vi) (hd : I_dust ns vi) (hg : I_led vi) (hi : I_image ns vi) : ∃ r vi1, fX9_back ns vi = some (r, vi1) ∧ ∃ vi2, fX10_back vi1 = some (r, vi2) ∧ I_dust ns vi2 ∧ I_led vi2 ∧ ∀ o i, ¬ WB o i → vi2 o i = vi o i := by
  have h5 := hn.1
  unfold fX9_back
  rcases hi with ⟨z1, z2, z3⟩ | ⟨z1, z2, K, z3, z4, z5, z6⟩
  · rw [if_pos z1]
    refine ⟨-5, vi, rfl, vi, ?_, hd, hg, fun _ _ _ => rfl⟩
    unfold fX10_back
    rw [if_pos z2]
  · rw [if_neg (by rw [z1]; decide)]
    obtain ⟨w, a1, a2, a3⟩ := backC_loop h5 ns 0 vi (by omega) (by omega) hn.2.1
    obtain ⟨v1, hv1⟩ : ∃ v1, v1 = j_row w 23 (va_cpy (w 26) (w 23) 0 0 5) := ⟨_, rfl⟩
    have b1 := a1 FU (by rw [FU_eq]; omega)
    rw [← hv1, show nI 0 = (0 : Int32) from rfl] at b1
    have fr1 : ∀ a i, a ≠ 23 → v1 a i = w a i := fun a i q => by rw [hv1, row_o q]
    have fr0 : ∀ a i, ¬ (99 ≤ a ∧ ((a % 5 = 4 ∧ i = 2) ∨ a % 5 = 0 ∨ a % 5 = 1)) → a ≠ 23 → v1 a i = vi a i := fun a i q1 q2 => (fr1 a i q2).trans (a3 a i (by omega))
    obtain ⟨v2, c1, c2, c3⟩ := backM_12 h5 (show K ≤ 5 by omega) ns 0 v1 (by omega) (by omega) (by rw [fr0 63 1 (by omega) (by omega)]; exact hn.2.2.1) (by rw [fr0 63 40 (by omega) (by omega)]; exact z4)
    obtain ⟨v3, d1, d2, d3⟩ := backM_52 60 0 v2 (by omega) (by omega)
    obtain ⟨v4, e1, e2, e3⟩ := backM_90 5 0 v3 (by omega) (by omega)
    have fr4 : ∀ a i, ¬ (67 ≤ a ∧ a ≤ 69) → a ≠ 87 → v4 a i = v1 a i := fun a i q1 q2 => by rw [e3 a i (by omega), d3 a i (by omega), c3 a i (by omega)]
    have led : ∀ k, k < 5 → v4 87 k = w 26 k := fun k hk => by
      rw [e2 k (by omega) hk, d3 91 k (by omega), c3 91 k (by omega), fr0 91 k (by omega) (by omega), a3 26 k (by omega)]
      exact (z5 k hk).symm
    refine ⟨w 26 0, v1, b1, v4, ?_, fun j hj => ?_, fun k hk => ?_, fun o i q => ?_⟩
    · unfold fX10_back
      rw [if_neg (by rw [fr0 63 39 (by omega) (by omega), z2]; decide)]
      have c1' := c1 FU (by rw [FU_eq]; omega)
      have d1' := d1 FU (by rw [FU_eq]; omega)
      have e1' := e1 FU (by rw [FU_eq]; omega)
      rw [show nI 0 = (0 : Int32) from rfl] at c1' d1' e1'
      rw [c1', d1', e1', led 0 (by omega)]
    · obtain ⟨f1, f2⟩ := a2 j (by omega) hj
      have m67 : v4 67 j = if j < K then v1 88 j else 0 := by rw [e3 67 j (by omega), d3 67 j (by omega), c2 j (by omega) hj]
      rcases z6 j (by omega) with ⟨g0, n, g1, g2, g3, g4⟩ | ⟨g1, g2⟩
      · refine ⟨n, g1, ?_, ?_, fun k hk => ?_⟩
        · rw [fr4 _ _ (by omega) (by omega), fr1 _ _ (by omega), f1]; exact g2
        · rw [m67, if_pos g0, fr0 88 j (by omega) (by omega)]; exact g3
        · obtain ⟨p1, p2⟩ := f2 k (by omega)
          obtain ⟨o1, o2⟩ := d2 (12 * j + k) (by omega) (by omega)
          rw [fr4 (100 + 5 * j) k (by omega) (by omega), fr1 (100 + 5 * j) k (by omega), p1, fr4 (101 + 5 * j) k (by omega) (by omega), fr1 (101 + 5 * j) k (by omega), p2, e3 68 _ (by omega), e3 69 _ (by omega), o1, o2, c3 89 _ (by omega), c3 90 _ (by omega), fr0 89 _ (by omega) (by omega), fr0 90 _ (by omega) (by omega)]
          exact g4 k hk
      · refine ⟨0, by omega, ?_, ?_, fun k hk => absurd hk (by omega)⟩
        · rw [fr4 _ _ (by omega) (by omega), fr1 _ _ (by omega), f1]; exact g2
        · rw [m67, if_neg (by omega)]; rfl
    · rw [fr4 23 k (by omega) (by omega), led k hk, hv1, row_s, cpy0, if_pos hk]
    · have q' : ¬ ((99 ≤ o ∧ ((o % 5 = 4 ∧ i = 2) ∨ o % 5 = 0 ∨ o % 5 = 1)) ∨ o = 23 ∨ (67 ≤ o ∧ o ≤ 69) ∨ o = 87) := q
      rw [fr4 o i (by omega) (by omega), fr0 o i (by omega) (by omega)]
