/-! READING A TEXT: all levels -/
theorem g10_1 (D : Nat) (v : VI) : fX10g (D + 1) 1 v = fX10_product (fX10g D) v := by rw [fX10g, if_neg (by decide), if_pos rfl]
theorem g10_2 (D : Nat) (v : VI) : fX10g (D + 1) 2 v = fX10_sum (fX10g D) v := by rw [fX10g, if_neg (by decide), if_neg (by decide), if_pos rfl]
theorem g10_3 (D : Nat) (v : VI) : fX10g (D + 1) 3 v = fX10_compared (fX10g D) v := by rw [fX10g, if_neg (by decide), if_neg (by decide), if_neg (by decide), if_pos rfl]
theorem g10_4 (D : Nat) (v : VI) : fX10g (D + 1) 4 v = fX10_both (fX10g D) v := by rw [fX10g, if_neg (by decide), if_neg (by decide), if_neg (by decide), if_neg (by decide), if_pos rfl]
theorem g10_5 (D : Nat) (v : VI) : fX10g (D + 1) 5 v = fX10_either (fX10g D) v := by rw [fX10g, if_neg (by decide), if_neg (by decide), if_neg (by decide), if_neg (by decide), if_neg (by decide), if_pos rfl]
theorem nf {vm : VI} (h : vm 63 18 = -1) : ¬ 0 ≤ vm 63 18 := by rw [h]; decide
theorem g8_3 (D : Nat) (a b : Int32) (v : VI) : fX8g (D + 1) 3 a b v = fX8_readTighter (fX8g D) a b v := by rw [fX8g, if_neg (by decide), if_neg (by decide), if_neg (by decide), if_pos rfl]
/-- what a part's signs join: the next part -/
theorem tgt {o i E : Nat} {Gm : VI → Option VI} (hi : i < 4) (h : PSpec o (fX8g E 0 (nI (i + 1)) (nI o)) Gm) : PSpec o (fX8g (E + 1) 3 (nI i) (nI o)) Gm := by
  intro n p c s vc vm hP hs hc
  rw [g8_3]
  unfold fX8_readTighter
  rw [if_neg (by rw [tle, l4, tnI (by omega)]; omega), bind_id, nI_1]
  exact h n p c s vc vm hP hs hc
/-- what a part's signs join: the operand -/
theorem tgt4 {o E : Nat} {Gm : VI → Option VI} (h : PSpec o (fX8g E 1 (nI o) 0) Gm) : PSpec o (fX8g (E + 1) 3 (nI 4) (nI o)) Gm := by
  intro n p c s vc vm hP hs hc
  rw [g8_3]
  unfold fX8_readTighter
  rw [if_pos (by decide), bind_id]
  exact h n p c s vc vm hP hs hc
theorem lvl4 {o E D : Nat} (h : PSpec o (fX8g E 3 (nI 4) (nI o)) (fX10g D 0)) : PSpec o (fX8g (E + 1) 0 (nI 4) (nI o)) (fX10g (D + 1) 1) := by
  refine level_both (i := 4) (Gm := fX10g D 0) (ML := fX10_product_4 (fX10g D)) (by decide) (by decide) h (fun vm => by rw [g10_1]; rfl) (fun F vm y g hf hl hg hy => ?_) (fun F vm y hf hl hy => ?_) (fun F vm hf => by rw [fX10_product_4, if_pos hf])
  · rw [fX10_product_4, if_neg (nf hf), hl, Option.bind_some, Option.bind_some, Option.bind_some]
    have e38 : ∀ k4 : VI → Option VI, fX10_product_38 (fX10g D) k4 vm = (fX10g D 0 (j_up vm 63 17 (vm 63 17 + 1))).bind fun r4 => (fX10_addStep (nI g) 0 r4).bind fun r5 => k4 r5 := by
      intro k4
      unfold fX10_product_38
      rw [hl, Option.bind_some, hy]
    rw [e38]
    simp [sg] at hg
    rcases hg with rfl | rfl | rfl
    · rw [if_pos (show y = 42 from hy)]
    · rw [if_neg (show ¬ y = 42 by rw [hy]; decide), if_pos (show y = 47 from hy)]
    · rw [if_neg (show ¬ y = 42 by rw [hy]; decide), if_neg (show ¬ y = 47 by rw [hy]; decide), if_pos (show y = 37 from hy)]
  · rw [fX10_product_4, if_neg (nf hf), hl, Option.bind_some, Option.bind_some, Option.bind_some, if_neg (show ¬ y = 42 from hy 42 (by simp [sg])), if_neg (show ¬ y = 47 from hy 47 (by simp [sg])), if_neg (show ¬ y = 37 from hy 37 (by simp [sg]))]
theorem lvl3 {o E D : Nat} (h : PSpec o (fX8g E 3 (nI 3) (nI o)) (fX10g D 1)) : PSpec o (fX8g (E + 1) 0 (nI 3) (nI o)) (fX10g (D + 1) 2) := by
  refine level_both (i := 3) (Gm := fX10g D 1) (ML := fX10_sum_4 (fX10g D)) (by decide) (by decide) h (fun vm => by rw [g10_2]; rfl) (fun F vm y g hf hl hg hy => ?_) (fun F vm y hf hl hy => ?_) (fun F vm hf => by rw [fX10_sum_4, if_pos hf])
  · rw [fX10_sum_4, if_neg (nf hf), hl, Option.bind_some, Option.bind_some]
    have e29 : ∀ k4 : VI → Option VI, fX10_sum_29 (fX10g D) k4 vm = (fX10g D 1 (j_up vm 63 17 (vm 63 17 + 1))).bind fun r4 => (fX10_addStep (nI g) 0 r4).bind fun r5 => k4 r5 := by
      intro k4
      unfold fX10_sum_29
      rw [hl, Option.bind_some, hy]
    rw [e29]
    simp [sg] at hg
    rcases hg with rfl | rfl
    · rw [if_pos (show y = 43 from hy)]
    · rw [if_neg (show ¬ y = 43 by rw [hy]; decide), if_pos (show y = 45 from hy)]
  · rw [fX10_sum_4, if_neg (nf hf), hl, Option.bind_some, Option.bind_some, if_neg (show ¬ y = 43 from hy 43 (by simp [sg])), if_neg (show ¬ y = 45 from hy 45 (by simp [sg]))]
theorem lvl1 {o E D : Nat} (h : PSpec o (fX8g E 3 (nI 1) (nI o)) (fX10g D 3)) : PSpec o (fX8g (E + 1) 0 (nI 1) (nI o)) (fX10g (D + 1) 4) := by
  refine level_both (i := 1) (Gm := fX10g D 3) (ML := fX10_both_4 (fX10g D)) (by decide) (by decide) h (fun vm => by rw [g10_4]; rfl) (fun F vm y g hf hl hg hy => ?_) (fun F vm y hf hl hy => ?_) (fun F vm hf => by rw [fX10_both_4, if_pos hf])
  · rw [fX10_both_4, if_neg (nf hf), hl, Option.bind_some]
    simp [sg] at hg
    subst hg
    rw [if_pos (show y = 38 from hy)]; rfl
  · rw [fX10_both_4, if_neg (nf hf), hl, Option.bind_some, if_neg (show ¬ y = 38 from hy 38 (by simp [sg]))]
theorem lvl0 {o E D : Nat} (h : PSpec o (fX8g E 3 (nI 0) (nI o)) (fX10g D 4)) : PSpec o (fX8g (E + 1) 0 (nI 0) (nI o)) (fX10g (D + 1) 5) := by
  refine level_both (i := 0) (Gm := fX10g D 4) (ML := fX10_either_4 (fX10g D)) (by decide) (by decide) h (fun vm => by rw [g10_5]; rfl) (fun F vm y g hf hl hg hy => ?_) (fun F vm y hf hl hy => ?_) (fun F vm hf => by rw [fX10_either_4, if_pos hf])
  · rw [fX10_either_4, if_neg (nf hf), hl, Option.bind_some]
    simp [sg] at hg
    subst hg
    rw [if_pos (show y = 124 from hy)]; rfl
  · rw [fX10_either_4, if_neg (nf hf), hl, Option.bind_some, if_neg (show ¬ y = 124 from hy 124 (by simp [sg]))]
theorem badM_look {vm : VI} {n f p s : Nat} (h : BadM vm n f p s) (hn : n ≤ 120) : ∃ y, fX10_looksOn vm = some y := by
  obtain ⟨h1, h2, h3, -, -, -⟩ := h
  unfold fX10_looksOn
  rw [h1, h2]
  by_cases c : nI n ≤ nI p
  · rw [if_pos c]; exact ⟨_, rfl⟩
  · rw [if_neg c, if_inb (by rw [tle, tnI (by omega), tnI (by omega)] at c; rw [tnI (by omega)]; omega)]; exact ⟨_, rfl⟩
theorem lvl2 {o E D : Nat} (h : PSpec o (fX8g E 3 (nI 2) (nI o)) (fX10g D 2)) : PSpec o (fX8g (E + 1) 0 (nI 2) (nI o)) (fX10g (D + 1) 3) := by
  intro n p c s vc vm hP hs hc
  have hn : n ≤ 120 := hP.1.1
  obtain ⟨F0, hF0⟩ := FU_s
  obtain ⟨vc1, vm1, r1, r2, r3⟩ := h n p c s vc vm hP hs hc
  rw [g8_0, g10_3]
  unfold fX8_readPart fX10_compared
  rw [r2, Option.bind_some, r1, Option.bind_some, if_pos (by decide)]
  unfold fX8_readPart_17
  rcases r3 with ⟨p', l, hS⟩ | ⟨f, p', s', g1, g2, g3, g4, g5, g6⟩
  · have hP1 : PS vc1 vm1 n p' o (c + l.length) (s + l.length) := hS.2.2.2.1
    obtain ⟨x, y, lr, ly, lx, -, lp, -⟩ := letter hP1
    have h63 := hP1.2.2.2.2.2.2.1
    have h17 := hP1.2.2.2.2.2.1
    have h33 := hP1.2.2.2.1
    rw [ly, Option.bind_some, if_neg (nf h63)]
    rcases part_of vc1 lr (i := 2) (by decide) with ⟨g, hg, ex, ey, -⟩ | ⟨ny, r, er, nr⟩
    · obtain ⟨-, s2, -, -⟩ := sg_signs 2 (by decide) g hg
      have hp : p' < n ∧ vc1 4 p' = nI g := by
        rcases lx with ⟨w, -⟩ | ⟨w1, w2, -⟩
        · rw [w, teq, lm1, tnI (by omega)] at ex; omega
        · exact ⟨w1, w2.trans ex⟩
      have hS' : St n p o c s vc vm vc1 vm1 p' l := hS
      obtain ⟨vc2, vc3, vm2, vm3, q1, q2, q3, q4, q5⟩ := iter (i := 2) (by decide) h hs hc hS' hg hp.1 hp.2
      have model : (if y = 60 then fX10_compared_35 (fX10g D) y vm1 else if y = 61 then fX10_compared_35 (fX10g D) y vm1 else if y = 62 then fX10_compared_35 (fX10g D) y vm1 else some vm1) = some vm3 := by
        have e35 : fX10_compared_35 (fX10g D) y vm1 = some vm3 := by
          unfold fX10_compared_35
          rw [h17, nI_1, q3, Option.bind_some, ey, q4, Option.bind_some]
        rw [e35]
        simp [sg] at hg
        rcases hg with rfl | rfl | rfl
        · rw [if_pos (show y = 60 from ey)]
        · rw [if_neg (show ¬ y = 60 by rw [ey]; decide), if_pos (show y = 61 from ey)]
        · rw [if_neg (show ¬ y = 60 by rw [ey]; decide), if_neg (show ¬ y = 61 by rw [ey]; decide), if_pos (show y = 62 from ey)]
      have cls : fX8_readPart_21 (fX8g E) FU (nI 2) (nI o) 1 0 vc1 = some vc3 := by
        obtain ⟨F1, hF1⟩ : ∃ F1, F0 = F1 + 1 := ⟨99998, by have : FU = 100000 := rfl; omega⟩
        rw [hF0, show (0 : Int32) = nI 0 from rfl, turnC hP1 (by decide) hp.1 hp.2 hg (by decide), q1, Option.bind_some, q2, Option.bind_some, hF1, fX8_readPart_21, if_pos (by decide)]
      rw [model, cls]
      rcases q5 with ⟨p2, l2, -, hS2⟩ | hb
      · exact ⟨vc3, vm3, rfl, rfl, Or.inl ⟨p2, l2, hS2⟩⟩
      · exact ⟨vc3, vm3, rfl, rfl, Or.inr hb⟩
    · have model : (if y = 60 then fX10_compared_35 (fX10g D) y vm1 else if y = 61 then fX10_compared_35 (fX10g D) y vm1 else if y = 62 then fX10_compared_35 (fX10g D) y vm1 else some vm1) = some vm1 := by
        rw [if_neg (show ¬ y = 60 from ny 60 (by simp [sg])), if_neg (show ¬ y = 61 from ny 61 (by simp [sg])), if_neg (show ¬ y = 62 from ny 62 (by simp [sg]))]
      have cls : fX8_readPart_21 (fX8g E) FU (nI 2) (nI o) 1 0 vc1 = some vc1 := by
        rw [hF0, fX8_readPart_21, if_neg (by decide), if_pos h33, lp, er, Option.bind_some, if_neg nr]
      rw [model, cls]
      exact ⟨vc1, vm1, rfl, rfl, Or.inl ⟨p', l, hS⟩⟩
  · obtain ⟨y, ly⟩ := badM_look g2 hn
    have hfn := g2.2.2.2.2.1
    rw [ly, Option.bind_some, if_pos (by rw [g2.2.2.2.1, tle, l0, tnI (by omega)]; omega), hF0, badC_loop g1 hfn hn (by decide)]
    exact ⟨vc1, vm1, rfl, rfl, Or.inr ⟨f, p', s', g1, g2, g3, g4, g5, g6⟩⟩
theorem parse_o : ∀ (j o : Nat), o + j = 6 → (∀ D D', 12 * j + 2 ≤ D → 6 * j + 1 ≤ D' → PSpec o (fX8g D 1 (nI o) 0) (fX10g D' 0)) ∧ ∀ D D', 12 * j + 12 ≤ D → 6 * j + 6 ≤ D' → PSpec o (fX8g D 0 (nI 0) (nI o)) (fX10g D' 5) := by
  intro j
  induction j with
  | zero =>
    intro o ho
    have op : ∀ D D', 12 * 0 + 2 ≤ D → 6 * 0 + 1 ≤ D' → PSpec o (fX8g D 1 (nI o) 0) (fX10g D' 0) := by
      intro D D' h1 h2
      obtain ⟨D, rfl⟩ : ∃ E, D = E + 2 := ⟨D - 2, by omega⟩
      obtain ⟨D', rfl⟩ : ∃ E, D' = E + 1 := ⟨D' - 1, by omega⟩
      exact operand_both (by omega) (fun q => by omega) (fun q => by omega)
    refine ⟨op, fun D D' h1 h2 => ?_⟩
    obtain ⟨D, rfl⟩ : ∃ E, D = E + 10 := ⟨D - 10, by omega⟩
    obtain ⟨D', rfl⟩ : ∃ E, D' = E + 5 := ⟨D' - 5, by omega⟩
    exact lvl0 (tgt (by decide) (lvl1 (tgt (by decide) (lvl2 (tgt (by decide) (lvl3 (tgt (by decide) (lvl4 (tgt4 (op D D' (by omega) (by omega)))))))))))
  | succ j ih =>
    intro o ho
    obtain ⟨i1, i2⟩ := ih (o + 1) (by omega)
    have op : ∀ D D', 12 * (j + 1) + 2 ≤ D → 6 * (j + 1) + 1 ≤ D' → PSpec o (fX8g D 1 (nI o) 0) (fX10g D' 0) := by
      intro D D' h1 h2
      obtain ⟨D, rfl⟩ : ∃ E, D = E + 2 := ⟨D - 2, by omega⟩
      obtain ⟨D', rfl⟩ : ∃ E, D' = E + 1 := ⟨D' - 1, by omega⟩
      exact operand_both (by omega) (fun q => i2 D D' (by omega) (by omega)) (fun q => i1 D D' (by omega) (by omega))
    refine ⟨op, fun D D' h1 h2 => ?_⟩
    obtain ⟨D, rfl⟩ : ∃ E, D = E + 10 := ⟨D - 10, by omega⟩
    obtain ⟨D', rfl⟩ : ∃ E, D' = E + 5 := ⟨D' - 5, by omega⟩
    exact lvl0 (tgt (by decide) (lvl1 (tgt (by decide) (lvl2 (tgt (by decide) (lvl3 (tgt (by decide) (lvl4 (tgt4 (op D D' (by omega) (by omega)))))))))))
theorem parse_both : PSpec 0 (fX8g 100 0 0 0) (fX10g 400 5) := (parse_o 6 0 rfl).2 100 400 (by decide) (by decide)
