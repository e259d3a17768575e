/-! ALL THAT HOLDS; one SILL more on either side -/
theorem led_frame {vi vi' : VI} (h : I_led vi) (hf : ∀ o i, o = 23 ∨ o = 87 → vi' o i = vi o i) : I_led vi' := fun k hk => by rw [hf 23 k (by omega), hf 87 k (by omega)]; exact h k hk
theorem body_frame {vi vi' : VI} (h : I_body vi) (hf : ∀ o i, (o = 47 ∧ i = 1) ∨ (o = 63 ∧ i = 45) ∨ o = 48 ∨ o = 92 → vi' o i = vi o i) : I_body vi' := by
  obtain ⟨n, h1, h2, h3, h4⟩ := h
  exact ⟨n, h1, (hf _ _ (by omega)).trans h2, (hf _ _ (by omega)).trans h3, fun k hk => by rw [hf 48 k (by omega), hf 92 k (by omega)]; exact h4 k hk⟩
theorem trace_frame {vi vi' : VI} (h : I_trace vi) (hf : ∀ o i, (o = 47 ∧ i = 3) ∨ (o = 63 ∧ i = 47) ∨ o = 49 ∨ o = 93 → vi' o i = vi o i) : I_trace vi' := by
  obtain ⟨n, h1, h2, h3, h4⟩ := h
  exact ⟨n, h1, (hf _ _ (by omega)).trans h2, (hf _ _ (by omega)).trans h3, fun k hk1 hk2 => by rw [hf 49 k (by omega), hf 93 k (by omega)]; exact h4 k hk1 hk2⟩
def INV (ns : Nat) (vi : VI) (vl : VL) : Prop := I_num ns vi ∧ I_cache ns vi ∧ I_chg ns vi ∧ I_dust ns vi ∧ I_image ns vi ∧ I_led vi ∧ I_body vi ∧ I_trace vi ∧ I_shelf vi vl ∧ I_byte vi vl ∧ I_tape vi ∧ I_law vi
theorem inv_more {ns m : Nat} {vi vi' : VI} {vl vl' : VL} {hs gs : Nat → Int32} (h : INV ns vi vl) (h5 : ns + m ≤ 5) (c1 : vi' 0 1 = nI (ns + m)) (c2 : vi' 63 1 = nI (ns + m)) (hn : ∀ t, t < m → rng (hs t) 0 9 ∧ rng (gs t) 0 9 ∧ vi' (98 + 5 * (ns + t)) 3 = hs t ∧ vi' (98 + 5 * (ns + t)) 4 = gs t ∧ vi' 64 (ns + t) = hs t ∧ vi' 65 (ns + t) = gs t ∧ vi' 67 (ns + t) = 0 ∧ vi' (99 + 5 * (ns + t)) 2 = 0 ∧ ∀ i, vi' (102 + 5 * (ns + t)) i = 0) (hf : ∀ a i, a < 98 + 5 * ns → ¬ (a = 0 ∧ i = 1) → ¬ (a = 63 ∧ i = 1) → ¬ ((a = 64 ∨ a = 65 ∨ a = 67) ∧ ns ≤ i) → vi' a i = vi a i) (hl : ∀ a i, a < 98 → vl' a i = vl a i) : INV (ns + m) vi' vl' := by
  obtain ⟨k1, k2, k3, k4, k5, k6, k7, k8, k9, k10, k11, k12⟩ := h
  obtain ⟨n0, n1, n2, n3, n4, n5, n6⟩ := k1
  have same : ∀ j, j < ns → LawSame j vi vi' := fun j hj => ⟨(hf _ _ (by omega) (by omega) (by omega) (by omega)).symm, (hf _ _ (by omega) (by omega) (by omega) (by omega)).symm, (hf _ _ (by omega) (by omega) (by omega) (by omega)).symm, (hf _ _ (by omega) (by omega) (by omega) (by omega)).symm, fun o i p q => (hf o i (by omega) (by omega) (by omega) (by omega)).symm⟩
  refine ⟨⟨h5, c1, c2, fun j hj => ?_, fun p hp => ?_, ?_, ?_⟩, fun j hj ly one much q1 q2 q3 => ?_, ?_, fun j hj => ?_, ?_, ?_, ?_, ?_, ?_, ?_, ?_, ?_⟩
  · by_cases c : j < ns
    · rw [hf (98 + 5 * j) 3 (by omega) (by omega) (by omega) (by omega), hf (98 + 5 * j) 4 (by omega) (by omega) (by omega) (by omega), hf 64 j (by omega) (by omega) (by omega) (by omega), hf 65 j (by omega) (by omega) (by omega) (by omega)]
      exact n3 j c
    · obtain ⟨t, rfl⟩ : ∃ t, j = ns + t := ⟨j - ns, by omega⟩
      obtain ⟨y1, y2, y3, y4, y5, y6, -⟩ := hn t (by omega)
      rw [y3, y4, y5, y6]
      exact ⟨rfl, rfl, y1, y2⟩
  · rw [hf 2 p (by omega) (by omega) (by omega) (by omega), hf 66 p (by omega) (by omega) (by omega) (by omega)]
    exact n4 p hp
  · rw [hf 5 2 (by omega) (by omega) (by omega) (by omega), hf 63 5 (by omega) (by omega) (by omega) (by omega)]
    exact n5
  · rw [hf 63 5 (by omega) (by omega) (by omega) (by omega)]
    exact n6
  · by_cases c : j < ns
    · rw [hf (102 + 5 * j) _ (by omega) (by omega) (by omega) (by omega)]
      rcases k2 j c ly one much q1 q2 q3 with g | ⟨g1, g2⟩
      · exact Or.inl g
      · refine Or.inr ⟨g1, fun vm hv => g2 vm ?_⟩
        obtain ⟨a1, a2, a3, a4, a5⟩ := same j c
        obtain ⟨b1, b2, b3, b4, b5⟩ := hv
        exact ⟨a1.trans b1, a2.trans b2, a3.trans b3, a4.trans b4, fun o i p q => (a5 o i p q).trans (b5 o i p q)⟩
    · obtain ⟨t, rfl⟩ : ∃ t, j = ns + t := ⟨j - ns, by omega⟩
      obtain ⟨-, -, -, -, -, -, -, -, y⟩ := hn t (by omega)
      exact Or.inl (y _)
  · obtain ⟨d, u, g1, g2, g3, g4, g5, g6⟩ := k3
    refine ⟨d, u, g1, ?_, ?_, ?_, ?_, fun i hi => ?_⟩
    · rw [hf _ _ (by omega) (by omega) (by omega) (by omega)]; exact g2
    · rw [hf _ _ (by omega) (by omega) (by omega) (by omega)]; exact g3
    · rw [hf _ _ (by omega) (by omega) (by omega) (by omega)]; exact g4
    · rw [hf _ _ (by omega) (by omega) (by omega) (by omega)]; exact g5
    · rw [hf 43 i (by omega) (by omega) (by omega) (by omega), hf 44 i (by omega) (by omega) (by omega) (by omega), hf 45 i (by omega) (by omega) (by omega) (by omega), hf 46 i (by omega) (by omega) (by omega) (by omega), hf 70 i (by omega) (by omega) (by omega) (by omega), hf 71 i (by omega) (by omega) (by omega) (by omega), hf 72 i (by omega) (by omega) (by omega) (by omega), hf 73 i (by omega) (by omega) (by omega) (by omega)]
      obtain ⟨f1, f2, f3, f4, f5, f6, f7⟩ := g6 i hi
      refine ⟨f1, f2, f3, f4, ?_, f6, f7⟩
      rcases f5 with ⟨w, x, y⟩ | w | w
      · exact Or.inl ⟨w, x, by omega⟩
      · exact Or.inr (Or.inl w)
      · exact Or.inr (Or.inr w)
  · by_cases c : j < ns
    · obtain ⟨n, d1, d2, d3, d4⟩ := k4 j c
      refine ⟨n, d1, ?_, ?_, fun k hk => ?_⟩
      · rw [hf _ _ (by omega) (by omega) (by omega) (by omega)]; exact d2
      · rw [hf _ _ (by omega) (by omega) (by omega) (by omega)]; exact d3
      · rw [hf (100 + 5 * j) k (by omega) (by omega) (by omega) (by omega), hf (101 + 5 * j) k (by omega) (by omega) (by omega) (by omega), hf 68 _ (by omega) (by omega) (by omega) (by omega), hf 69 _ (by omega) (by omega) (by omega) (by omega)]
        exact d4 k hk
    · obtain ⟨t, rfl⟩ : ∃ t, j = ns + t := ⟨j - ns, by omega⟩
      obtain ⟨-, -, -, -, -, -, y1, y2, -⟩ := hn t (by omega)
      exact ⟨0, by omega, y2, y1, fun k hk => absurd hk (by omega)⟩
  · rcases image_frame k5 (vi' := vi') (fun o i q => hf o i (by unfold F_image at q; omega) (by unfold F_image at q; omega) (by unfold F_image at q; omega) (by unfold F_image at q; omega)) with w | ⟨w1, w2, K, w3, w4⟩
    · exact Or.inl w
    · exact Or.inr ⟨w1, w2, K, by omega, w4⟩
  · exact led_frame k6 fun o i q => hf o i (by omega) (by omega) (by omega) (by omega)
  · exact body_frame k7 fun o i q => hf o i (by omega) (by omega) (by omega) (by omega)
  · exact trace_frame k8 fun o i q => hf o i (by omega) (by omega) (by omega) (by omega)
  · have w := shelf_frame k9 (vi' := vi') (fun o i q => by
      have q' : (51 ≤ o ∧ o ≤ 61) ∨ o = 94 ∨ o = 95 ∨ (o = 63 ∧ i = 45) := by
        rcases q with ⟨s, hs, e⟩ | q
        · omega
        · omega
      exact hf o i (by omega) (by omega) (by omega) (by omega))
    intro s hs
    obtain ⟨w1, w2, w3⟩ := w s hs
    exact ⟨w1, w2, fun k hk => by rw [hl _ _ (by omega), hl _ _ (by omega)]; exact w3 k hk⟩
  · exact byte_frame k10 (fun s hs => ⟨hf _ _ (by omega) (by omega) (by omega) (by omega), hf _ _ (by omega) (by omega) (by omega) (by omega)⟩) (fun s hs k hk => hl _ _ (by omega))
  · exact tape_frame k11 fun o i q => hf o i (by omega) (by omega) (by omega) (by omega)
  · exact law_frame k12 fun o i q => hf o i (by omega) (by omega) (by omega) (by omega)
theorem add_eq {ns : Nat} {vm : VI} {x1 x2 : Int32} (h5 : ns < 5) (n1 : vm 63 1 = nI ns) : ∃ vm', fX10_addSill x1 x2 vm = some (nI ns, vm') ∧ vm' 63 1 = nI (ns + 1) ∧ vm' 64 ns = x1 ∧ vm' 65 ns = x2 ∧ vm' 67 ns = 0 ∧ ∀ a i, ¬ (a = 63 ∧ i = 1) → ¬ ((a = 64 ∨ a = 65 ∨ a = 67) ∧ i = ns) → vm' a i = vm a i := by
  have b5 : 0 ≤ (nI ns).toInt ∧ (nI ns).toInt < (5 : Nat) := by rw [tnI (by omega)]; omega
  have cn : (nI ns).toNatClampNeg = ns := nI_clamp (by omega)
  have s1 : ∀ x : Int32, (j_up vm 64 ns x) 63 1 = nI ns := fun x => by rw [up_o (by decide)]; exact n1
  have s2 : ∀ x y : Int32, (j_up (j_up vm 64 ns x) 65 ns y) 63 1 = nI ns := fun x y => by rw [up_o (by decide)]; exact s1 x
  have s3 : ∀ x y z : Int32, (j_up (j_up (j_up vm 64 ns x) 65 ns y) 67 ns z) 63 1 = nI ns := fun x y z => by rw [up_o (by decide)]; exact s2 x y
  unfold fX10_addSill
  simp only [n1, cn, s1, s2, s3, if_inb b5, up_s, nI_1, nsub1 (show ns < 100000 by omega)]
  refine ⟨_, rfl, up_s, ?_, ?_, ?_, fun a i q1 q2 => ?_⟩
  · rw [up_o (by decide), up_o (by decide), up_o (by decide), up_s]
  · rw [up_o (by decide), up_o (by decide), up_s]
  · rw [up_o (by decide), up_s]
  · rw [up_at, if_neg q1, up_at, if_neg (by omega), up_at, if_neg (by omega), up_at, if_neg (by omega)]
theorem ok0 : OK0 INV := by
  intro ns sv vi vl x1 x2 hW h
  have h5 : ns ≤ 5 := h.1.1
  have n1 := h.1.2.1
  have n2 := h.1.2.2.1
  by_cases c : (0 ≤ x1.toInt ∧ x1.toInt ≤ 9) ∧ (0 ≤ x2.toInt ∧ x2.toInt ≤ 9)
  · obtain ⟨c1, c2⟩ := c
    by_cases cn : ns < 5
    · obtain ⟨sv1, vi1, vl1, a1, a2, a3, a4, a5, a6, a7, a8, a9⟩ := sill_make hW cn n1 c1 c2
      obtain ⟨vi2, b1, b2, b3, b4, b5, b6⟩ := add_eq (vm := vi1) (x1 := x1) (x2 := x2) cn ((a8 63 1 (by omega) (by omega)).trans n2)
      refine ⟨_, sv1, vi1, vl1, a1, vi2, ?_, ns + 1, a2, inv_more (hs := fun _ => x1) (gs := fun _ => x2) h (by omega) ?_ b2 (fun t ht => ?_) (fun a i q1 q2 q3 q4 => ?_) (fun a i q => a9 a i (by omega))⟩
      · unfold fX10_sill
        rw [in_eq, in_eq]
        simp only [Option.bind_some, decide_eq_true_eq, l0, l9]
        rw [if_pos c1, if_pos c2, a8 63 1 (by omega) (by omega), n2, if_neg (by rw [teq, l5, tnI (by omega)]; omega), b1]
        rfl
      · rw [b6 0 1 (by omega) (by omega)]; exact a3
      · have : t = 0 := by omega
        subst this
        rw [Nat.add_zero, b6 (98 + 5 * ns) 3 (by omega) (by omega), b6 (98 + 5 * ns) 4 (by omega) (by omega), b6 (99 + 5 * ns) 2 (by omega) (by omega)]
        exact ⟨c1, c2, a4, a5, b3, b4, b5, a6 2, fun i => by rw [b6 (102 + 5 * ns) i (by omega) (by omega)]; exact a7 i⟩
      · rw [b6 a i q3 (by omega), a8 a i q1 q2]
    · have e5 : ns = 5 := by omega
      refine ⟨-3, sv, vi, vl, ?_, vi, ?_, ns, hW, h⟩
      · unfold fX9_sill
        simp only [optL]
        rw [if_pos (by decide), within_eq, Option.bind_some, if_pos (by simp [l9, c1]), if_pos (by decide), within_eq, Option.bind_some, if_pos (by simp [l9, c2]), if_ob (wf_2 hW), n1, if_neg (by rw [tlt, l5, tnI (by omega)]; omega), if_pos (by decide)]
      · unfold fX10_sill
        rw [in_eq, in_eq]
        simp only [Option.bind_some, decide_eq_true_eq, l0, l9]
        rw [if_pos c1, if_pos c2, n2, if_pos (by rw [e5]; rfl)]
  · refine ⟨-1, sv, vi, vl, ?_, vi, ?_, ns, hW, h⟩
    · unfold fX9_sill
      simp only [optL]
      rw [if_pos (by decide), within_eq, Option.bind_some, within_eq, Option.bind_some]
      by_cases c1 : 0 ≤ x1.toInt ∧ x1.toInt ≤ 9
      · rw [if_pos (by simp [l9, c1]), if_pos (by decide), if_neg (by rw [decide_eq_true_eq]; intro c2; exact c ⟨c1, c2⟩), if_pos (by decide)]
      · rw [if_neg (by rw [decide_eq_true_eq]; exact c1), if_pos (by decide)]
    · unfold fX10_sill
      rw [in_eq, in_eq]
      simp only [Option.bind_some, decide_eq_true_eq, l0, l9]
      by_cases c1 : 0 ≤ x1.toInt ∧ x1.toInt ≤ 9
      · rw [if_pos c1, if_neg (fun c2 => c ⟨c1, c2⟩)]
      · rw [if_neg c1]
