/-! ALL CALLS -/
/-- places of which nothing is said between calls -/
def Scr (a i : Nat) : Prop := (a = 5 ∧ i = 5) ∨ a = 7 ∨ a = 8 ∨ (9 ≤ a ∧ a ≤ 22) ∨ (102 ≤ a ∧ a % 5 = 2) ∨ (a = 63 ∧ 29 ≤ i ∧ i ≤ 38) ∨ (80 ≤ a ∧ a ≤ 86)
theorem inv_scr {ns : Nat} {vi vi' : VI} {vl vl' : VL} (h : INV ns vi vl) (hc : I_cache ns vi') (hf : ∀ a i, ¬ Scr a i → vi' a i = vi a i) (hl : ∀ a i, a ≠ 17 → a ≠ 84 → vl' a i = vl a i) : INV ns vi' vl' := by
  obtain ⟨k1, k2, k3, k4, k5, k6, k7, k8, k9, k10, k11, k12⟩ := h
  refine ⟨num_frame k1 fun o i q => hf o i ?_, hc, chg_frame k3 fun o i q => hf o i ?_, dust_frame k4 fun o i q => hf o i ?_, image_frame k5 fun o i q => hf o i ?_, led_frame k6 fun o i q => hf o i ?_, body_frame k7 fun o i q => hf o i ?_, trace_frame k8 fun o i q => hf o i ?_, ?_, byte_frame k10 (fun s hs => ⟨hf _ _ ?_, hf _ _ ?_⟩) (fun s hs k hk => hl _ _ (by omega) (by omega)), tape_frame k11 fun o i q => hf o i ?_, law_frame k12 fun o i q => hf o i ?_⟩
  · unfold F_num at q; unfold Scr; omega
  · unfold Ch at q; unfold Scr; omega
  · unfold Scr; omega
  · unfold F_image at q; unfold Scr; omega
  · unfold Scr; omega
  · unfold Scr; omega
  · unfold Scr; omega
  · have w := shelf_frame k9 (vi' := vi') (fun o i q => by
      have q' : (51 ≤ o ∧ o ≤ 61) ∨ o = 94 ∨ o = 95 ∨ (o = 63 ∧ i = 45) := by
        rcases q with ⟨s, hs, e⟩ | q
        · omega
        · omega
      exact hf o i (by unfold Scr; omega))
    intro s hs
    obtain ⟨w1, w2, w3⟩ := w s hs
    exact ⟨w1, w2, fun k hk => by rw [hl _ _ (by omega) (by omega), hl _ _ (by omega) (by omega)]; exact w3 k hk⟩
  · unfold Scr; omega
  · unfold Scr; omega
  · unfold Scr; omega
  · unfold Scr; omega
theorem cache_scr {ns : Nat} {vi vi' : VI} (hc : I_cache ns vi) (hf : ∀ a i, ¬ Scr a i ∨ (102 ≤ a ∧ a % 5 = 2) → vi' a i = vi a i) : I_cache ns vi' := cache_plain hc fun a i q => hf a i (by unfold Scr; omega)
theorem inv_thought {ns : Nat} {vi : VI} {vl : VL} {C : Option (Int32 × VI)} {M : VI → Option (Int32 × VI)} (h : INV ns vi vl) (t : Thought ns vi C M) : ∃ (r : Int32) (vi1 : VI), C = some (r, vi1) ∧ ∃ (vi2 : VI), M vi1 = some (r, vi2) ∧ INV ns vi2 vl := by
  obtain ⟨r, vi1, e1, vi2, e2, g1, g2⟩ := t
  exact ⟨r, vi1, e1, vi2, e2, inv_scr h g1 (fun a i q => g2 a i (by unfold Scr at q; unfold WL; omega) (by unfold Scr at q; unfold WQ; omega)) (fun _ _ _ _ => rfl)⟩
theorem inv_asks {ns : Nat} {vi : VI} {vl : VL} {C : Option Int32} {M : Option (Int32 × VI)} (h : INV ns vi vl) (t : Asks vi C M) : ∃ (r : Int32), C = some r ∧ ∃ (vi2 : VI), M = some (r, vi2) ∧ INV ns vi2 vl := by
  obtain ⟨r, e1, vi2, e2, g2⟩ := t
  exact ⟨r, e1, vi2, e2, inv_scr h (cache_scr h.2.1 fun a i q => g2 a i (by unfold Scr at q; unfold WQ; omega)) (fun a i q => g2 a i (by unfold Scr at q; unfold WQ; omega)) (fun _ _ _ _ => rfl)⟩
theorem inv_deed {ns : Nat} {vi : VI} {vl : VL} {C : Option (Int32 × VI)} {M : VI → Option (Int32 × VI)} (h : INV ns vi vl) (t : Deed ns vi C M) : ∃ (r : Int32) (vi1 : VI), C = some (r, vi1) ∧ ∃ (vi2 : VI), M vi1 = some (r, vi2) ∧ INV ns vi2 vl := by
  obtain ⟨r, vi1, e1, vi2, e2, g1, g2, g3, g4⟩ := t
  obtain ⟨k1, k2, k3, k4, k5, k6, k7, k8, k9, k10, k11, k12⟩ := h
  have n5 := k1.1
  have fr : ∀ a i, ¬ ((a = 5 ∧ i = 5) ∨ a = 7 ∨ a = 8 ∨ (99 ≤ a ∧ (a % 5 = 0 ∨ a % 5 = 1 ∨ a % 5 = 2 ∨ (a % 5 = 4 ∧ i = 2)))) → ¬ ((80 ≤ a ∧ a ≤ 83) ∨ (a = 63 ∧ (i = 29 ∨ i = 30 ∨ i = 33)) ∨ (67 ≤ a ∧ a ≤ 69)) → a ≠ 23 → a ≠ 87 → vi2 a i = vi a i := fun a i q1 q2 q3 q4 => g4 a i (by unfold WD; omega) (by unfold WN WQ; omega) q3 q4
  refine ⟨r, vi1, e1, vi2, e2, num_frame k1 fun o i q => ?_, g1, chg_frame k3 fun o i q => ?_, g2, image_frame k5 fun o i q => ?_, g3, body_frame k7 fun o i q => ?_, trace_frame k8 fun o i q => ?_, shelf_frame k9 fun o i q => ?_, byte_frame k10 (fun s hs => ⟨?_, ?_⟩) (fun _ _ _ _ => rfl), tape_frame k11 fun o i q => ?_, law_frame k12 fun o i q => ?_⟩
  · unfold F_num at q
    exact fr o i (by omega) (by omega) (by omega) (by omega)
  · unfold Ch at q
    exact fr o i (by omega) (by omega) (by omega) (by omega)
  · unfold F_image at q
    exact fr o i (by omega) (by omega) (by omega) (by omega)
  · exact fr o i (by omega) (by omega) (by omega) (by omega)
  · exact fr o i (by omega) (by omega) (by omega) (by omega)
  · have q' : (51 ≤ o ∧ o ≤ 61) ∨ o = 94 ∨ o = 95 ∨ (o = 63 ∧ i = 45) := by
      rcases q with ⟨s, hs, e⟩ | q
      · omega
      · omega
    exact fr o i (by omega) (by omega) (by omega) (by omega)
  · exact fr _ _ (by omega) (by omega) (by omega) (by omega)
  · exact fr _ _ (by omega) (by omega) (by omega) (by omega)
  · exact fr o i (by omega) (by omega) (by omega) (by omega)
  · exact fr o i (by omega) (by omega) (by omega) (by omega)
theorem inv_mend {ns : Nat} {vi vi2 : VI} {vl : VL} (h : INV ns vi vl) (g1 : I_num ns vi2) (g2 : I_cache ns vi2) (g3 : I_chg ns vi2) (g4 : ∀ o i, ¬ WM o i → vi2 o i = vi o i) : INV ns vi2 vl := by
  obtain ⟨k1, k2, k3, k4, k5, k6, k7, k8, k9, k10, k11, k12⟩ := h
  have fr : ∀ a i, ¬ (a = 2 ∨ (a = 5 ∧ i = 2) ∨ (98 ≤ a ∧ a % 5 = 3 ∧ (i = 3 ∨ i = 4)) ∨ (102 ≤ a ∧ a % 5 = 2)) → ¬ ((42 ≤ a ∧ a ≤ 46) ∨ (70 ≤ a ∧ a ≤ 73) ∨ (a = 63 ∧ (i = 9 ∨ i = 10))) → a ≠ 64 → a ≠ 65 → a ≠ 66 → ¬ (a = 63 ∧ i = 5) → vi2 a i = vi a i := fun a i q1 q2 q3 q4 q5 q6 => g4 a i (by unfold WM S9 Ch; omega)
  refine ⟨g1, g2, g3, dust_frame k4 fun o i q => ?_, image_frame k5 fun o i q => ?_, led_frame k6 fun o i q => ?_, body_frame k7 fun o i q => ?_, trace_frame k8 fun o i q => ?_, shelf_frame k9 fun o i q => ?_, byte_frame k10 (fun s hs => ⟨?_, ?_⟩) (fun _ _ _ _ => rfl), tape_frame k11 fun o i q => ?_, law_frame k12 fun o i q => ?_⟩
  · exact fr o i (by omega) (by omega) (by omega) (by omega) (by omega) (by omega)
  · unfold F_image at q
    exact fr o i (by omega) (by omega) (by omega) (by omega) (by omega) (by omega)
  · exact fr o i (by omega) (by omega) (by omega) (by omega) (by omega) (by omega)
  · exact fr o i (by omega) (by omega) (by omega) (by omega) (by omega) (by omega)
  · exact fr o i (by omega) (by omega) (by omega) (by omega) (by omega) (by omega)
  · have q' : (51 ≤ o ∧ o ≤ 61) ∨ o = 94 ∨ o = 95 ∨ (o = 63 ∧ i = 45) := by
      rcases q with ⟨s, hs, e⟩ | q
      · omega
      · omega
    exact fr o i (by omega) (by omega) (by omega) (by omega) (by omega) (by omega)
  · exact fr _ _ (by omega) (by omega) (by omega) (by omega) (by omega) (by omega)
  · exact fr _ _ (by omega) (by omega) (by omega) (by omega) (by omega) (by omega)
  · exact fr o i (by omega) (by omega) (by omega) (by omega) (by omega) (by omega)
  · exact fr o i (by omega) (by omega) (by omega) (by omega) (by omega) (by omega)
/-- all but one component, by one frame -/
theorem inv_but {ns : Nat} {vi vi2 : VI} {vl vl2 : VL} {W : Nat → Nat → Prop} (h : INV ns vi vl) (hf : ∀ a i, ¬ W a i → vi2 a i = vi a i) (w1 : ∀ a i, F_num a i → ¬ W a i) (w2 : ∀ a i, a = 64 ∨ a = 65 ∨ (75 ≤ a ∧ a ≤ 79) ∨ (a = 63 ∧ (i = 5 ∨ i = 28)) ∨ (102 ≤ a ∧ a % 5 = 2) → ¬ W a i) (w3 : ∀ a i, Ch a i ∨ a = 42 → ¬ W a i) (g4 : I_dust ns vi2) (g5 : I_image ns vi2) (g6 : I_led vi2) (g7 : I_body vi2) (g8 : I_trace vi2) (g9 : I_shelf vi2 vl2) (g10 : I_byte vi2 vl2) (g11 : I_tape vi2) (w12 : ∀ o i, (o = 63 ∧ i = 28) ∨ (o = 5 ∧ i = 1) ∨ o = 6 ∨ (75 ≤ o ∧ o ≤ 79) → ¬ W o i) : INV ns vi2 vl2 :=
  ⟨num_frame h.1 fun o i q => hf o i (w1 o i q), cache_frame h.2.1 (fun j _ => ⟨(hf _ _ (w2 _ _ (by omega))).symm, (hf _ _ (w2 _ _ (by omega))).symm, (hf _ _ (w2 _ _ (by omega))).symm, (hf _ _ (w2 _ _ (by omega))).symm, fun o i p q => (hf o i (w2 o i (by omega))).symm⟩) (fun j i _ _ => Or.inl (hf _ _ (w2 _ _ (by omega)))), chg_frame h.2.2.1 fun o i q => hf o i (w3 o i q), g4, g5, g6, g7, g8, g9, g10, g11, law_frame h.2.2.2.2.2.2.2.2.2.2.2 fun o i q => hf o i (w12 o i (by omega))⟩
theorem bodyC_45 {x r : Int32} {vi vi1 : VI} (h : fX9_body x vi = some (r, vi1)) : vi1 63 45 = vi 63 45 := by
  unfold fX9_body at h
  obtain ⟨b, -, h⟩ := bind_some_of h
  rcases ite_or h with ⟨-, h⟩ | ⟨-, h⟩
  · obtain ⟨q, h1, h2⟩ := bind_some_of h
    rw [← (Prod.mk.inj (Option.some.inj h2)).2]
    unfold fX0_add at h1
    rcases ite_or h1 with ⟨-, h1⟩ | ⟨-, h1⟩
    · rcases ite_or h1 with ⟨-, h1⟩ | ⟨-, h1⟩
      · rw [← Option.some.inj h1]
        simp only [up_o (show (63 : Nat) ≠ 47 by decide), up_o (show (63 : Nat) ≠ 48 by decide)]
      · exact absurd h1 (by simp)
    · rw [← Option.some.inj h1]
  · rw [(Prod.mk.inj (Option.some.inj h)).2]
theorem bodyM_45 {x r : Int32} {vi vi1 : VI} (h : fX10_body x vi = some (r, vi1)) : vi1 63 45 = vi 63 45 ∨ vi1 63 45 = vi 63 45 + 1 := by
  unfold fX10_body at h
  obtain ⟨b, -, h⟩ := bind_some_of h
  rcases ite_or h with ⟨-, h⟩ | ⟨-, h⟩
  · rcases ite_or h with ⟨-, h⟩ | ⟨-, h⟩
    · rw [(Prod.mk.inj (Option.some.inj h)).2]; exact Or.inl rfl
    · rcases ite_or h with ⟨-, h⟩ | ⟨-, h⟩
      · refine Or.inr ?_
        rw [← (Prod.mk.inj (Option.some.inj h)).2, up_s, up_o (by decide)]
      · exact absurd h (by simp)
  · rw [(Prod.mk.inj (Option.some.inj h)).2]; exact Or.inl rfl
theorem ok2 : OK2 INV := by
  intro ns vi vl a0 a1 a2 h
  obtain ⟨r, vi1, e1, vi2, e2, g1, g2, g3, g4⟩ := p_mend h.1 h.2.1 h.2.2.1 a0 a1 a2
  exact ⟨r, vi1, e1, vi2, e2, inv_mend h g1 g2 g3 g4⟩
theorem ok3 : OK3 INV := by
  intro ns vi vl a0 a1 h
  obtain ⟨r, e1, vi2, e2, g⟩ := p_of h.1 h.2.2.2.1 a0 a1
  exact ⟨r, e1, vi2, e2, inv_scr h (cache_scr h.2.1 fun a i q => g a i (by unfold Scr at q; unfold WP; omega)) (fun a i q => g a i (by unfold Scr at q; unfold WP; omega)) (fun _ _ _ _ => rfl)⟩
theorem ok4 : OK4 INV := by
  intro ns vi vl a0 a1 a2 h
  obtain ⟨r, e1, e2⟩ := p_layer h.1 h.2.2.2.1 a0 a1 a2
  exact ⟨r, e1, e2, h⟩
theorem ok5 : OK5 INV := by
  intro ns vi vl a0 h
  obtain ⟨r, vi1, e1, vi2, e2, g1, g2⟩ := p_feed h.2.2.2.2.2.2.2.2.2.2.1 a0
  obtain ⟨k1, k2, k3, k4, k5, k6, k7, k8, k9, k10, k11, k12⟩ := h
  have fr : ∀ a i, ¬ ((a = 3 ∧ i = 1) ∨ (a = 63 ∧ i = 16) ∨ a = 4 ∨ a = 74) → vi2 a i = vi a i := fun a i q => g2 a i (by omega) (by omega) (by omega) (by omega)
  refine ⟨r, vi1, e1, vi2, e2, inv_but (W := fun a i => (a = 3 ∧ i = 1) ∨ (a = 63 ∧ i = 16) ∨ a = 4 ∨ a = 74) ⟨k1, k2, k3, k4, k5, k6, k7, k8, k9, k10, k11, k12⟩ fr (fun a i q => by unfold F_num at q; omega) (fun a i q => by omega) (fun a i q => by unfold Ch at q; omega) (dust_frame k4 fun o i q => fr o i (by omega)) (image_frame k5 fun o i q => fr o i (by unfold F_image at q; omega)) (led_frame k6 fun o i q => fr o i (by omega)) (body_frame k7 fun o i q => fr o i (by omega)) (trace_frame k8 fun o i q => fr o i (by omega)) (shelf_frame k9 fun o i q => fr o i ?_) (byte_frame k10 (fun s hs => ⟨fr _ _ (by omega), fr _ _ (by omega)⟩) (fun _ _ _ _ => rfl)) g1 (fun a i q => by omega)⟩
  rcases q with ⟨s, hs, e⟩ | q
  · omega
  · omega
theorem ok7 : OK7 INV := by
  intro ns vi vl a0 a1 h
  obtain ⟨r, vi1, e1, vi2, e2, g1, g2⟩ := p_lays h.2.2.2.2.2.2.2.2.2.2.2 h.1 h.2.1 h.2.2.2.1 a0 a1
  exact ⟨r, vi1, e1, vi2, e2, inv_scr h g1 (fun a i q => g2 a i (by unfold Scr at q; omega) (by unfold Scr at q; omega) (by unfold Scr at q; omega) (by unfold Scr at q; omega) (by unfold Scr at q; omega) (by unfold Scr at q; omega)) (fun _ _ _ _ => rfl)⟩
theorem ok8 : OK8 INV := by
  intro ns vi vl a0 a1 a2 a3 h
  exact inv_thought h (p_later h.2.2.2.2.2.2.2.2.2.2.2 h.1 h.2.1 h.2.2.2.1 h.2.2.2.2.2.2.2.2.1 a0 a1 a2 a3)
theorem ok9 : OK9 INV := by
  intro ns vi vl a0 a1 a2 a3 h
  exact inv_thought h (p_laid h.2.2.2.2.2.2.2.2.2.2.2 h.1 h.2.1 h.2.2.2.1 h.2.2.2.2.2.2.2.2.1 a0 a1 a2 a3)
theorem ok10 : OK10 INV := by
  intro ns vi vl a0 a1 a2 h
  exact inv_thought h (p_breath h.1 h.2.1 h.2.2.2.1 a0 a1 a2)
theorem ok11 : OK11 INV := by
  intro ns vi vl a0 a1 h
  exact inv_asks h (p_clear h.1 h.2.2.2.1 a0 a1)
theorem ok12 : OK12 INV := by
  intro ns vi vl a0 a1 a2 h
  exact inv_thought h (p_touch h.2.2.2.2.2.2.2.2.2.2.2 h.1 h.2.1 h.2.2.2.1 a0 a1 a2)
theorem ok13 : OK13 INV := by
  intro ns vi vl a0 h
  exact inv_asks h (p_tellsOf h.1 h.2.2.2.1 a0)
theorem ok14 : OK14 INV := by
  intro ns vi vl a0 a1 h
  exact inv_asks h (p_fewest h.1 h.2.2.2.1 a0 a1)
theorem ok15 : OK15 INV := by
  intro ns vi vl h
  exact inv_asks h (p_corner h.1 h.2.2.2.1)
theorem ok20 : OK20 INV := by
  intro ns vi vl a0 a1 h
  obtain ⟨r, vi1, e1, vi2, e2, g⟩ := p_alike h.1 h.2.2.2.1 a0 a1
  exact ⟨r, vi1, e1, vi2, e2, inv_scr h (cache_scr h.2.1 fun a i q => g a i (by unfold Scr at q; omega) (by unfold Scr at q; omega)) (fun a i q => g a i (by unfold Scr at q; omega) (by unfold Scr at q; omega)) (fun _ _ _ _ => rfl)⟩
theorem ok21 : OK21 INV := by
  intro ns vi vl a0 h
  obtain ⟨r, e1, e2⟩ := p_same h.1 h.2.2.2.1 a0
  exact ⟨r, e1, e2, h⟩
theorem ok22 : OK22 INV := by
  intro ns vi vl a0 a1 h
  obtain ⟨r, e1, e2⟩ := p_likely h.1 h.2.2.2.1 a0 a1
  exact ⟨r, e1, e2, h⟩
theorem ok23 : OK23 INV := by
  intro ns vi vl h
  obtain ⟨r, e1, e2⟩ := p_expected h.1 h.2.2.2.1
  exact ⟨r, e1, e2, h⟩
theorem ok24 : OK24 INV := by
  intro ns vi vl a0 a1 h
  obtain ⟨r, e1, e2⟩ := p_judge h.1 h.2.2.2.1 h.2.2.2.2.2.2.2.2.1 h.2.2.2.2.2.2.2.2.2.1 a0 a1
  exact ⟨r, e1, e2, h⟩
theorem ok25 : OK25 INV := by
  intro ns vi vl a0 a1 a2 a3 h
  exact inv_thought h (p_drawn h.2.2.2.2.2.2.2.2.2.2.2 h.1 h.2.1 h.2.2.2.1 a0 a1 a2 a3)
theorem ok26 : OK26 INV := by
  intro ns vi vl a0 h
  exact inv_deed h (p_look h.2.2.2.2.2.2.2.2.2.2.2 h.1 h.2.1 h.2.2.2.1 h.2.2.2.2.2.1 a0)
theorem ok27 : OK27 INV := by
  intro ns vi vl a0 a1 h
  exact inv_deed h (p_blow h.1 h.2.1 h.2.2.2.1 h.2.2.2.2.2.1 a0 a1)
theorem ok28 : OK28 INV := by
  intro ns vi vl a0 h
  exact inv_deed h (p_sweep h.1 h.2.1 h.2.2.2.1 h.2.2.2.2.2.1 a0)
theorem ok29 : OK29 INV := by
  intro ns vi vl a0 h
  obtain ⟨r, e1, e2⟩ := p_led h.2.2.2.2.2.1 a0
  exact ⟨r, e1, e2, h⟩
theorem sh_far {o i : Nat} (q : F_shelf o i) : (51 ≤ o ∧ o ≤ 61) ∨ o = 94 ∨ o = 95 ∨ (o = 63 ∧ i = 45) := by
  rcases q with ⟨s, hs, e⟩ | q
  · omega
  · omega
theorem ok30 : OK30 INV := by
  intro ns vi vl h
  obtain ⟨r, vi1, e1, vi2, e2, g1, g2⟩ := p_image h.1 h.2.2.2.1 h.2.2.2.2.2.1 h.2.2.2.2.1
  have h' := h
  obtain ⟨k1, k2, k3, k4, k5, k6, k7, k8, k9, k10, k11, k12⟩ := h
  exact ⟨r, vi1, e1, vi2, e2, inv_but (W := F_image) h' g2 (fun a i q => by unfold F_num at q; unfold F_image; omega) (fun a i q => by unfold F_image; omega) (fun a i q => by unfold Ch at q; unfold F_image; omega) (dust_frame k4 fun o i q => g2 o i (by unfold F_image; omega)) g1 (led_frame k6 fun o i q => g2 o i (by unfold F_image; omega)) (body_frame k7 fun o i q => g2 o i (by unfold F_image; omega)) (trace_frame k8 fun o i q => g2 o i (by unfold F_image; omega)) (shelf_frame k9 fun o i q => g2 o i (by have := sh_far q; unfold F_image; omega)) (byte_frame k10 (fun s hs => ⟨g2 _ _ (by unfold F_image; omega), g2 _ _ (by unfold F_image; omega)⟩) (fun _ _ _ _ => rfl)) (tape_frame k11 fun o i q => g2 o i (by unfold F_image; omega)) (fun a i q => by unfold F_image; omega)⟩
theorem ok31 : OK31 INV := by
  intro ns vi vl h
  obtain ⟨r, vi1, e1, vi2, e2, g1, g0, g2⟩ := p_back h.1 h.2.2.2.1 h.2.2.2.2.2.1 h.2.2.2.2.1
  have h' := h
  obtain ⟨k1, k2, k3, k4, k5, k6, k7, k8, k9, k10, k11, k12⟩ := h
  exact ⟨r, vi1, e1, vi2, e2, inv_but (W := WB) h' g2 (fun a i q => by unfold F_num at q; unfold WB; omega) (fun a i q => by unfold WB; omega) (fun a i q => by unfold Ch at q; unfold WB; omega) g1 (image_frame k5 fun o i q => g2 o i (by unfold F_image at q; unfold WB; omega)) g0 (body_frame k7 fun o i q => g2 o i (by unfold WB; omega)) (trace_frame k8 fun o i q => g2 o i (by unfold WB; omega)) (shelf_frame k9 fun o i q => g2 o i (by have := sh_far q; unfold WB; omega)) (byte_frame k10 (fun s hs => ⟨g2 _ _ (by unfold WB; omega), g2 _ _ (by unfold WB; omega)⟩) (fun _ _ _ _ => rfl)) (tape_frame k11 fun o i q => g2 o i (by unfold WB; omega)) (fun a i q => by unfold WB; omega)⟩
theorem ok32 : OK32 INV := by
  intro ns vi vl h
  obtain ⟨r, vi1, e1, vi2, e2, g1, g2, g3, g4⟩ := p_undo h.1 h.2.1 h.2.2.1
  exact ⟨r, vi1, e1, vi2, e2, inv_mend h g1 g2 g3 g4⟩
theorem ok33 : OK33 INV := by
  intro ns vi vl h
  obtain ⟨r, vi1, e1, vi2, e2, g1, g2, g3, g4⟩ := p_redo h.1 h.2.1 h.2.2.1
  exact ⟨r, vi1, e1, vi2, e2, inv_mend h g1 g2 g3 g4⟩
theorem ok34 : OK34 INV := by
  intro ns vi vl a0 h
  obtain ⟨r, vi1, e1, vi2, e2, g1, g2⟩ := p_body h.2.2.2.2.2.2.1 a0
  have h' := h
  obtain ⟨k1, k2, k3, k4, k5, k6, k7, k8, k9, k10, k11, k12⟩ := h
  have fr : ∀ a i, ¬ (a = 48 ∨ a = 92 ∨ (a = 47 ∧ i = 1) ∨ (a = 63 ∧ i = 45)) → vi2 a i = vi a i := fun a i q => g2 a i (by omega) (by omega) (by omega) (by omega)
  have sh : I_shelf vi2 vl := by
    intro s hs
    obtain ⟨w1, w2, w3⟩ := k9 s hs
    refine ⟨?_, ?_, w3⟩
    · have e0 : ∀ i, vi2 (51 + 2 * s) i = vi (51 + 2 * s) i := fun i => fr _ _ (by omega)
      have e94 : vi2 94 s = vi 94 s := fr _ _ (by omega)
      rcases w1 with ⟨a, b⟩ | ⟨a, b, n, b1, b2, b3, b4, b5⟩ | ⟨a, q, b1, b2, b3⟩
      · exact Or.inl ⟨(e0 0).trans a, e94.trans b⟩
      · obtain ⟨n2, c1, -, c3, -⟩ := g1
        refine Or.inr (Or.inl ⟨(e0 0).trans a, b, n2, (e0 1).trans b1, e94.trans b2, c3, ?_, c1⟩)
        have c := bodyC_45 e1
        rcases bodyM_45 e2 with m | m
        · rw [c3, c, b3, nI_inj (by omega) (by omega)] at m
          omega
        · rw [c3, c, b3, nI_1, nI_inj (by omega) (by omega)] at m
          omega
      · exact Or.inr (Or.inr ⟨(e0 0).trans a, q, b1, (e0 2).trans b2, e94.trans b3⟩)
    · obtain ⟨z, z1, z2, z3⟩ := w2
      exact ⟨z, z1, (fr _ _ (by omega)).trans z2, (fr _ _ (by omega)).trans z3⟩
  exact ⟨r, vi1, e1, vi2, e2, inv_but (W := fun a i => a = 48 ∨ a = 92 ∨ (a = 47 ∧ i = 1) ∨ (a = 63 ∧ i = 45)) h' fr (fun a i q => by unfold F_num at q; omega) (fun a i q => by omega) (fun a i q => by unfold Ch at q; omega) (dust_frame k4 fun o i q => fr o i (by omega)) (image_frame k5 fun o i q => fr o i (by unfold F_image at q; omega)) (led_frame k6 fun o i q => fr o i (by omega)) g1 (trace_frame k8 fun o i q => fr o i (by omega)) sh (byte_frame k10 (fun s hs => ⟨fr _ _ (by omega), fr _ _ (by omega)⟩) (fun _ _ _ _ => rfl)) (tape_frame k11 fun o i q => fr o i (by omega)) (fun a i q => by omega)⟩
theorem ok35 : OK35 INV := by
  intro ns vi vl a0 a1 a2 h
  obtain ⟨r, vi1, e1, vi2, e2, g1, g2⟩ := p_act h.2.2.2.2.2.2.1 a0 a1 a2
  have h' := h
  obtain ⟨k1, k2, k3, k4, k5, k6, k7, k8, k9, k10, k11, k12⟩ := h
  have fr : ∀ a i, ¬ ((a = 47 ∧ i = 3) ∨ a = 49 ∨ (a = 63 ∧ i = 47) ∨ a = 93) → vi2 a i = vi a i := fun a i q => g2 a i (by omega) (by omega) (by omega) (by omega)
  exact ⟨r, vi1, e1, vi2, e2, inv_but (W := fun a i => (a = 47 ∧ i = 3) ∨ a = 49 ∨ (a = 63 ∧ i = 47) ∨ a = 93) h' fr (fun a i q => by unfold F_num at q; omega) (fun a i q => by omega) (fun a i q => by unfold Ch at q; omega) (dust_frame k4 fun o i q => fr o i (by omega)) (image_frame k5 fun o i q => fr o i (by unfold F_image at q; omega)) (led_frame k6 fun o i q => fr o i (by omega)) (body_frame k7 fun o i q => fr o i (by omega)) g1 (shelf_frame k9 fun o i q => fr o i (by have := sh_far q; omega)) (byte_frame k10 (fun s hs => ⟨fr _ _ (by omega), fr _ _ (by omega)⟩) (fun _ _ _ _ => rfl)) (tape_frame k11 fun o i q => fr o i (by omega)) (fun a i q => by omega)⟩
theorem ok36 : OK36 INV := by
  intro ns vi vl a0 h
  obtain ⟨r, e1, e2⟩ := p_trace h.2.2.2.2.2.2.2.1 a0
  exact ⟨r, e1, e2, h⟩
theorem inv_sh {ns : Nat} {vi vi2 : VI} {vl vl2 : VL} (h : INV ns vi vl) (g1 : I_shelf vi2 vl2) (g2 : I_byte vi2 vl2) (g3 : ∀ o i, (o < 51 ∨ 62 < o) → o ≠ 94 → o ≠ 95 → vi2 o i = vi o i) : INV ns vi2 vl2 := by
  have h' := h
  obtain ⟨k1, k2, k3, k4, k5, k6, k7, k8, k9, k10, k11, k12⟩ := h
  have fr : ∀ a i, ¬ ((51 ≤ a ∧ a ≤ 62) ∨ a = 94 ∨ a = 95) → vi2 a i = vi a i := fun a i q => g3 a i (by omega) (by omega) (by omega)
  exact inv_but (W := fun a i => (51 ≤ a ∧ a ≤ 62) ∨ a = 94 ∨ a = 95) h' fr (fun a i q => by unfold F_num at q; omega) (fun a i q => by omega) (fun a i q => by unfold Ch at q; omega) (dust_frame k4 fun o i q => fr o i (by omega)) (image_frame k5 fun o i q => fr o i (by unfold F_image at q; omega)) (led_frame k6 fun o i q => fr o i (by omega)) (body_frame k7 fun o i q => fr o i (by omega)) (trace_frame k8 fun o i q => fr o i (by omega)) g1 g2 (tape_frame k11 fun o i q => fr o i (by omega)) (fun a i q => by omega)
theorem ok37 : OK37 INV := by
  intro ns vi vl a0 a1 h
  obtain ⟨r, vi1, e1, vi2, e2, g1, g2, g3⟩ := p_keep2 h.2.2.2.2.2.2.2.2.1 h.2.2.2.2.2.2.1 h.2.2.2.2.2.2.2.2.2.1 a0 a1
  exact ⟨r, vi1, e1, vi2, e2, inv_sh h g1 g2 fun o i q1 q2 _ => g3 o i q1 q2⟩
theorem ok38 : OK38 INV := by
  intro ns vi vl a0 a1 a2 h
  obtain ⟨r, vi1, vl1, e1, vi2, vl2, e2, g1, g2, g3⟩ := p_row2 h.2.2.2.2.2.2.2.2.1 h.2.2.2.2.2.2.2.2.2.1 a0 a1 a2
  exact ⟨r, vi1, vl1, e1, vi2, vl2, e2, inv_sh h g1 g2 g3⟩
theorem ok39 : OK39 INV := by
  intro ns vi vl a0 a1 a2 h
  obtain ⟨r, vl1, e1, vl2, e2, g1, g2⟩ := p_put2 h.2.2.2.2.2.2.2.2.1 h.2.2.2.2.2.2.2.2.2.1 a0 a1 a2
  exact ⟨r, vl1, e1, vl2, e2, inv_sh h g1 g2 fun _ _ _ _ _ => rfl⟩
theorem ok40 : OK40 INV := by
  intro ns vi vl a0 a1 h
  obtain ⟨r, e1, e2⟩ := p_element h.2.2.2.2.2.2.2.2.1 a0 a1
  exact ⟨r, e1, e2, h⟩
theorem ok41 : OK41 INV := by
  intro ns vi vl a0 a1 a2 a3 a4 h
  obtain ⟨r, vl1, e1, vl2, e2, g1, g2⟩ := p_shift2 h.2.2.2.2.2.2.2.2.1 h.2.2.2.2.2.2.2.2.2.1 a0 a1 a2 a3 a4
  exact ⟨r, vl1, e1, vl2, e2, inv_sh h g1 g2 fun _ _ _ _ _ => rfl⟩
theorem ok42 : OK42 INV := by
  intro ns vi vl a0 a1 h
  obtain ⟨r, e1, e2⟩ := p_taken h.2.2.2.2.2.2.2.2.1 h.2.2.2.2.2.2.1 a0 a1
  exact ⟨r, e1, e2, h⟩
theorem ok43 : OK43 INV := by
  intro ns vi vl a0 h
  obtain ⟨r, e1, e2⟩ := p_count h.1 h.2.2.1 h.2.2.2.2.2.2.2.2.2.2.1 h.2.2.2.2.2.2.1 h.2.2.2.2.2.2.2.1 a0
  exact ⟨r, e1, e2, h⟩
