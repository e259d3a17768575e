/-! OK6: law -/
theorem law_both {ns n : Nat} {vi vm : VI} (h5 : ns ≤ 5) (n1 : vi 0 1 = nI ns) (hT : TS vi vm n) : ∃ r vc' vm', fX9_law ns vi = some (r, vc') ∧ fX10_law vm = some (r, vm') ∧ LawLeft ns vi vc' vm vm' := by
  have hn : n ≤ 120 := hT.1
  unfold fX9_law fX10_law
  rcases read_both hT with ⟨T, vc1, vm1, ⟨z1, hP, z3, z4, z5, z6, z7, z8, z9⟩, e1, e2⟩ | ⟨f, vc1, vm1, hf, e1, e2, e3, f1, f2⟩
  · have h18 := hP.2.2.2.2.2.2.1
    have h20 := hP.2.2.2.2.2.2.2.2
    have h91 := hP.2.2.2.2.1
    -- the class
    obtain ⟨vc2, a1, a2, a3, a4⟩ := become5 (j_up vc1 3 1 0)
    obtain ⟨vc3, b1, b2⟩ := forgetAll_eq (ns := ns) h5 ns 0 FU vc2 (by omega) (by rw [FU_eq]; omega) (by omega) (by rw [a4 0 1 (by omega) (by omega), up_o (by decide), z8 0 1 (by omega) (by omega) (by omega)]; exact n1)
    have fa : fX9_forgetAll ns vc2 = some vc3 := by
      unfold fX9_forgetAll
      exact b1
    -- the model
    obtain ⟨vma, hma⟩ : ∃ v, v = j_up vm1 63 16 0 := ⟨_, rfl⟩
    obtain ⟨vmb, c1, c2, c3⟩ := copy_105 (S := ssz T) (by omega) (ssz T) 0 vma (by omega) (by omega) (by rw [hma, up_i (by decide)]; exact h20) (fun i _ hi => by
      rw [hma, up_o (by decide)]
      exact lines_rng T 0 0 0 z3 i (by omega) (by omega))
    have h771 : vmb 77 1 = nI T.length := by rw [c3 77 1 (by omega), hma, up_o (by decide)]; exact z4
    obtain ⟨vmc, d1, d2, d3⟩ := copy_177 (N := T.length) (by omega) T.length 0 (j_up vmb 77 0 (nI T.length)) (by omega) (by omega) up_s (fun i _ hi => by
      rw [up_o (by decide), up_o (by decide), c3 78 _ (by omega), c3 79 _ (by omega), hma, up_o (by decide), up_o (by decide)]
      obtain ⟨⟨x, x1, x2⟩, ⟨y, y1, y2⟩⟩ := lines_marks T 0 0 0 z3 i (by omega) (by omega)
      exact ⟨⟨x, by omega, x2⟩, ⟨y, by omega, y2⟩⟩)
    have m1 : fX10_readText 0 vm = some (-1, vmc) := by
      rw [e2]
      unfold fX10_readText_86
      rw [← hma, if_pos (by rw [hma, up_i (by decide), h18]; decide)]
      have q1 := c1 FU (by rw [FU_eq]; omega)
      have q2 := d1 FU (by rw [FU_eq]; omega)
      rw [show nI 0 = (0 : Int32) from rfl] at q1 q2
      rw [q1, h771, q2]
    rw [e1, Option.bind_some, if_pos (show (-1 : Int32) < 0 by decide), a1, Option.bind_some, fa, Option.bind_some, m1, Option.bind_some, if_pos (show (-1 : Int32) < 0 by decide)]
    have mfr : ∀ a i, ¬ (a = 63 ∧ (16 ≤ i ∧ i ≤ 20 ∨ i = 28)) → ¬ (75 ≤ a ∧ a ≤ 79) → (j_up vmc 63 28 1) a i = vm a i := by
      intro a i q1 q2
      rw [up_at, if_neg (by omega), d3 a i (by omega), up_at, if_neg (by omega), c3 a i (by omega), hma, up_at, if_neg (by omega), z9 a i (by omega) (by omega) (by omega) (by omega) (by omega) (by omega)]
    refine ⟨1, vc3, j_up vmc 63 28 1, rfl, rfl, fun a i q1 q2 q3 q4 q5 q6 => ?_, mfr, ?_, ?_, Or.inl ⟨up_s, fun j hj i hi => ?_, T, z1, by omega, by omega, by omega, ?_, ?_, ?_⟩⟩
    · rw [b2, if_neg (by omega), a4 a i q4 q5, up_o q1, z8 a i (by omega) q2 q3]
    · rw [b2, if_neg (by omega), a4 3 1 (by omega) (by omega), up_s]
    · rw [up_i (by decide), d3 63 16 (by omega), up_o (by decide), c3 63 16 (by omega), hma, up_s]
    · rw [b2, if_pos (by omega)]
    · rw [b2, if_neg (by omega), a2, up_o (by decide)]; exact h91
    · rw [up_o (by decide), d3 77 0 (by omega), up_s]
    · refine lines_gen T 0 0 0 (fun i _ hi => ?_) (fun k _ hk => ⟨?_, ?_⟩) (fun i _ hi => ⟨?_, ?_⟩) z3
      · rw [b2, if_neg (by omega), a3 i (by omega), up_o (by decide)]
      · rw [up_o (by decide), d3 75 _ (by omega), up_o (by decide), show 130 * 0 + k = k by omega, (c2 k (by omega) (by omega)).1, hma, up_o (by decide)]
      · rw [up_o (by decide), d3 76 _ (by omega), up_o (by decide), show 130 * 0 + k = k by omega, (c2 k (by omega) (by omega)).2, hma, up_o (by decide)]
      · rw [up_o (by decide), show 61 * 0 + i = i by omega, (d2 i (by omega) (by omega)).1, up_o (by decide), c3 78 _ (by omega), hma, up_o (by decide)]
      · rw [up_o (by decide), show 61 * 0 + i = i by omega, (d2 i (by omega) (by omega)).2, up_o (by decide), c3 79 _ (by omega), hma, up_o (by decide)]
  · have nf0 : ¬ nI f < 0 := by rw [tlt, l0, tnI (by omega)]; omega
    have m1 : fX10_readText 0 vm = some (nI f, j_up vm1 63 16 0) := by
      rw [e2]
      unfold fX10_readText_86
      rw [up_i (show (18 : Nat) ≠ 16 by decide), e3, if_neg nf0]
    rw [e1, Option.bind_some, if_neg nf0, m1, Option.bind_some, if_neg nf0]
    refine ⟨-100 - nI f, j_up vc1 3 1 0, j_up vm1 63 16 0, rfl, rfl, fun a i q1 q2 q3 q4 q5 q6 => ?_, fun a i q1 q2 => ?_, up_s, up_s, Or.inr ⟨?_, fun a i q => ?_, fun a i q1 q2 => ?_⟩⟩
    · rw [up_o q1, f1 a i (by omega) q2 q3]
    · rw [up_at, if_neg (by omega), f2 a i (by omega) (by omega) (by omega) (by omega) (by omega) (by omega)]
    · rw [up_i (by decide), f2 63 28 (by omega) (by omega) (by omega) (by omega) (by omega) (by omega)]
    · rw [up_o (by omega), f1 a i (by omega) (by omega) (by omega)]
    · rw [up_o (by omega), f2 a i (by omega) (by omega) (by omega) (by omega) (by omega) (by omega)]
theorem ok6 : OK6 INV := by
  intro ns vi vl h
  have h5 : ns ≤ 5 := h.1.1
  have n1 := h.1.2.1
  obtain ⟨k1, k2, k3, k4, k5, k6, k7, k8, k9, k10, k11, k12⟩ := h
  obtain ⟨n, t1, t2, t3, t4⟩ := k11
  obtain ⟨r, vi1, e1, vi2, e2, g1, g2, g3, g4, g5⟩ := two (C := fX9_law ns vi) (M := fX10_law) (vi := vi) (Q := fun a b c => LawLeft ns vi a b c) fun vm hv => by
    obtain ⟨r, vc', vm', f1, f2, f3⟩ := law_both (n := n) (vm := vm) h5 n1 ⟨t1, t2, (ag hv 63 16 (by omega)).trans t3, fun i hi => ⟨(t4 i hi).1, by rw [ag hv 74 i (by omega)]; exact (t4 i hi).2⟩⟩
    exact ⟨r, vc', vm', f1, f2, fun o i q1 q2 _ => f3.1 o i (by omega) (by omega) (by omega) (by omega) (by omega) (by omega), f3⟩
  have fr : ∀ a i, a ≠ 3 → ¬ (a = 9 ∧ i = 1) → a ≠ 10 → ¬ (a = 5 ∧ i = 1) → a ≠ 6 → ¬ (102 ≤ a ∧ a % 5 = 2) → ¬ (a = 63 ∧ (16 ≤ i ∧ i ≤ 20 ∨ i = 28)) → ¬ (75 ≤ a ∧ a ≤ 79) → vi2 a i = vi a i := fun a i q1 q2 q3 q4 q5 q6 q7 q8 => (g2 a i q7 q8).trans (g1 a i q1 q2 q3 q4 q5 q6)
  refine ⟨r, vi1, e1, vi2, e2, num_frame k1 fun o i q => ?_, ?_, chg_frame k3 fun o i q => ?_, dust_frame k4 fun o i q => ?_, image_frame k5 fun o i q => ?_, led_frame k6 fun o i q => ?_, body_frame k7 fun o i q => ?_, trace_frame k8 fun o i q => ?_, shelf_frame k9 fun o i q => ?_, byte_frame k10 (fun s hs => ⟨?_, ?_⟩) (fun _ _ _ _ => rfl), ⟨0, by omega, ?_, g4, fun i hi => absurd hi (by omega)⟩, ?_⟩
  · unfold F_num at q
    exact fr o i (by omega) (by omega) (by omega) (by omega) (by omega) (by omega) (by omega) (by omega)
  · rcases g5 with ⟨-, z, -⟩ | ⟨z1, z2, z3⟩
    · intro j hj ly one much q1 q2 q3
      exact Or.inl (by rw [g2 _ _ (by omega) (by omega)]; exact z j hj _ (by omega))
    · refine cache_frame k2 (fun j hj => ⟨?_, ?_, ?_, ?_, fun o i p q => ?_⟩) (fun j i hj hi => Or.inl ?_)
      · exact (fr _ _ (by omega) (by omega) (by omega) (by omega) (by omega) (by omega) (by omega) (by omega)).symm
      · exact (fr _ _ (by omega) (by omega) (by omega) (by omega) (by omega) (by omega) (by omega) (by omega)).symm
      · exact (fr _ _ (by omega) (by omega) (by omega) (by omega) (by omega) (by omega) (by omega) (by omega)).symm
      · rw [z1]
        exact (g1 _ _ (by omega) (by omega) (by omega) (by omega) (by omega) (by omega)).symm
      · rw [z3 o i p q]
        exact (g1 _ _ (by omega) (by omega) (by omega) (by omega) (by omega) (by omega)).symm
      · rw [g2 _ _ (by omega) (by omega)]
        exact z2 _ _ (by omega)
  · unfold Ch at q
    exact fr o i (by omega) (by omega) (by omega) (by omega) (by omega) (by omega) (by omega) (by omega)
  · exact fr o i (by omega) (by omega) (by omega) (by omega) (by omega) (by omega) (by omega) (by omega)
  · unfold F_image at q
    exact fr o i (by omega) (by omega) (by omega) (by omega) (by omega) (by omega) (by omega) (by omega)
  · exact fr o i (by omega) (by omega) (by omega) (by omega) (by omega) (by omega) (by omega) (by omega)
  · exact fr o i (by omega) (by omega) (by omega) (by omega) (by omega) (by omega) (by omega) (by omega)
  · exact fr o i (by omega) (by omega) (by omega) (by omega) (by omega) (by omega) (by omega) (by omega)
  · have q' : (51 ≤ o ∧ o ≤ 61) ∨ o = 94 ∨ o = 95 ∨ (o = 63 ∧ i = 45) := by
      rcases q with ⟨s, hs, e⟩ | q
      · omega
      · omega
    exact fr o i (by omega) (by omega) (by omega) (by omega) (by omega) (by omega) (by omega) (by omega)
  · exact fr _ _ (by omega) (by omega) (by omega) (by omega) (by omega) (by omega) (by omega) (by omega)
  · exact fr _ _ (by omega) (by omega) (by omega) (by omega) (by omega) (by omega) (by omega) (by omega)
  · rw [g2 3 1 (by omega) (by omega)]; exact g3
  · rcases g5 with ⟨z, -, T, y1, y2, y3, y4, y5, y6, y7⟩ | ⟨z1, z2, z3⟩
    · refine Or.inr ⟨z, T, y1, y2, y3, y4, ?_, y6, ?_⟩
      · rw [g2 5 1 (by omega) (by omega)]; exact y5
      · exact lines_gen T 0 0 0 (fun i _ _ => g2 6 i (by omega) (by omega)) (fun _ _ _ => ⟨rfl, rfl⟩) (fun _ _ _ => ⟨rfl, rfl⟩) y7
    · refine law_frame k12 fun o i q => ?_
      rcases q with q | q | q | q
      · obtain ⟨rfl, rfl⟩ := q
        rw [z1]
        exact g1 _ _ (by omega) (by omega) (by omega) (by omega) (by omega) (by omega)
      · rw [g2 o i (by omega) (by omega)]
        exact z2 o i (by omega)
      · rw [g2 o i (by omega) (by omega)]
        exact z2 o i (by omega)
      · rw [z3 o i (by omega) (by omega)]
        exact g1 _ _ (by omega) (by omega) (by omega) (by omega) (by omega) (by omega)
