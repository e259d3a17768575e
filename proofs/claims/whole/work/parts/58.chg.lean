/-! CHANGES: setting, keeping -/
def okN (ns : Nat) (n w : Int32) : Prop := ((w = 0 ∨ w = 1) ∧ 0 ≤ n.toInt ∧ n.toInt < ns) ∨ (w = 2 ∧ 0 ≤ n.toInt ∧ n.toInt ≤ 5) ∨ (w = 3 ∧ n = 0)
def okV (w v : Int32) : Prop := rng v 0 9 ∧ (w = 3 → v.toInt ≤ 3)
theorem mendable {ns : Nat} {vi vm : VI} (h5 : ns ≤ 5) (h : vi 0 1 = nI ns) (h' : vm 63 1 = nI ns) (n w : Int32) : (okN ns n w ∧ fX9_isMendable ns n w vi = some true ∧ fX10_isOne n w vm = some true) ∨ (¬ okN ns n w ∧ fX9_isMendable ns n w vi = some false ∧ fX10_isOne n w vm = some false) := by
  unfold fX9_isMendable fX10_isOne okN
  rw [one9_eq, one10_eq, isSill_eq h5 h', in_eq, sillAt_eq h5 h, l0, l1]
  simp only [Option.bind_some]
  by_cases c0 : w = 0
  · subst c0
    by_cases c : 0 ≤ n.toInt ∧ n.toInt < ns
    · left; simp [c, optS]
    · right; simp only [c, optS, if_false, if_true, decide_false]; simp
  · by_cases c1 : w = 1
    · subst c1
      by_cases c : 0 ≤ n.toInt ∧ n.toInt < ns
      · left; simp [c, optS]
      · right; simp only [c, optS, if_false, if_true, decide_false]; simp
    · have nn : ¬ (0 ≤ w.toInt ∧ w.toInt ≤ 1) := by
        rintro ⟨a, b⟩
        have : w.toInt = 0 ∨ w.toInt = 1 := by omega
        rcases this with e | e
        · exact c0 (by rw [teq, e]; rfl)
        · exact c1 (by rw [teq, e]; rfl)
      by_cases c2 : w = 2
      · subst c2
        by_cases c : 0 ≤ n.toInt ∧ n.toInt ≤ 5
        · left; simp [c]
        · right; simp only [c, decide_false]; simp
      · by_cases c3 : w = 3
        · subst c3
          by_cases c : n = 0
          · left; simp [c]
          · right; simp [c]
        · right; simp [c0, c1, c2, c3, nn]
theorem numbers {ns : Nat} {vi vm : VI} (h : I_num ns vi) (hv : ∀ o i, o = 64 ∨ o = 65 ∨ o = 66 ∨ (o = 63 ∧ i = 5) → vm o i = vi o i) {n w : Int32} (ok : okN ns n w) : ∃ x, fX9_numberOf ns n w vi = some x ∧ fX10_valueAt w n vm = some x ∧ okV w x := by
  obtain ⟨h5, h2, h3, h4, hp, h6, h7⟩ := h
  unfold fX9_numberOf fX10_valueAt
  rcases ok with ⟨w01, n0, n1⟩ | ⟨rfl, n0, n1⟩ | ⟨rfl, rfl⟩
  · obtain ⟨j, hj, rfl⟩ := ex_nI n0 n1 (by omega)
    obtain ⟨g1, g2, g3, g4⟩ := h4 j hj
    rw [sillAt_in h5 h2 hj]
    have b5 : 0 ≤ (nI j).toInt ∧ (nI j).toInt < (5 : Nat) := by rw [tnI (by omega)]; omega
    simp only [Option.bind_some, optS, if_inb b5, nI_clamp (show j < 2 ^ 31 by omega)]
    rcases w01 with rfl | rfl
    · rw [if_pos rfl, if_pos rfl, g1, hv 64 j (by omega)]
      exact ⟨_, rfl, rfl, g3, fun q => absurd q (by decide)⟩
    · rw [if_neg (by decide), if_pos rfl, if_neg (by decide), if_pos rfl, g2, hv 65 j (by omega)]
      exact ⟨_, rfl, rfl, g4, fun q => absurd q (by decide)⟩
  · obtain ⟨j, hj, rfl⟩ := ex_nI (N := 6) n0 (by omega) (by omega)
    obtain ⟨g1, g2⟩ := hp j hj
    rw [one9_eq]
    simp only [Option.bind_some]
    rw [if_pos (show decide (0 ≤ (nI j).toInt ∧ (nI j).toInt ≤ 5) = true by simp [n0, n1]), if_inb (show 0 ≤ (nI j).toInt ∧ (nI j).toInt < (6 : Nat) by omega), if_inb (show 0 ≤ (nI j).toInt ∧ (nI j).toInt < (6 : Nat) by omega), nI_clamp (by omega)]
    refine ⟨vi 66 j, ?_, ?_, g2, fun q => absurd q (by decide)⟩
    · rw [sillAt_eq h5 h2, Option.bind_some]
      split
      · exact congrArg some g1
      · exact congrArg some g1
    · exact congrArg some (hv 66 j (by omega))
  · refine ⟨vi 63 5, ?_, ?_, ⟨h7.1, by have := h7.2; omega⟩, fun _ => h7.2⟩
    · rw [sillAt_eq h5 h2, Option.bind_some]
      split
      · exact congrArg some h6
      · exact congrArg some h6
    · exact congrArg some (hv 63 5 (by omega))
/-- what the class writes when a number is set -/
def S9 (o i : Nat) : Prop := o = 2 ∨ (o = 5 ∧ i = 2) ∨ (98 ≤ o ∧ o % 5 = 3 ∧ (i = 3 ∨ i = 4)) ∨ (102 ≤ o ∧ o % 5 = 2)
def Ch (o i : Nat) : Prop := (42 ≤ o ∧ o ≤ 46) ∨ (70 ≤ o ∧ o ≤ 73) ∨ (o = 63 ∧ (i = 9 ∨ i = 10))
theorem set_both {ns : Nat} {vi : VI} {n w v : Int32} (h : I_num ns vi) (hc : I_cache ns vi) (ok : okN ns n w) (kv : okV w v) : ∃ vi1, fX9_setNumber ns n w v vi = some vi1 ∧ (∀ o i, ¬ S9 o i → vi1 o i = vi o i) ∧ ∀ vm, (∀ o i, ¬ Ch o i → vm o i = vi1 o i) → ∃ vm1, fX10_lays1 w n v vm = some vm1 ∧ I_num ns vm1 ∧ I_cache ns vm1 ∧ ∀ o i, o ≠ 64 → o ≠ 65 → o ≠ 66 → ¬ (o = 63 ∧ i = 5) → vm1 o i = vm o i := by
  obtain ⟨h5, h2, h3, h4, hp, h6, h7⟩ := h
  unfold fX9_setNumber fX10_lays1
  rcases ok with ⟨w01, n0, n1⟩ | ⟨rfl, n0, n1⟩ | ⟨rfl, rfl⟩
  · obtain ⟨j, hj, rfl⟩ := ex_nI n0 n1 (by omega)
    have wn : ¬ w = 3 ∧ ¬ w = 2 := by rcases w01 with rfl | rfl <;> decide
    rw [if_neg wn.1, if_neg wn.2]
    unfold fX9_setNumber_42
    rw [sillAt_in h5 h2 hj]
    simp only [Option.bind_some, optS]
    have s27 : ∀ vi' : VI, ∃ vi1, fX9_setSill_27 (98 + 5 * j) vi' = some vi1 ∧ ∀ a k, vi1 a k = if a = 102 + 5 * j ∧ k < 780 then 0 else vi' a k := by
      intro vi'
      obtain ⟨v1, e1, e2⟩ := forget_eq (98 + 5 * j) vi'
      refine ⟨v1, by unfold fX9_setSill_27; rw [e1]; rfl, fun a k => ?_⟩
      rw [e2, show 98 + 5 * j + 4 = 102 + 5 * j by omega]
    -- which of the two
    obtain ⟨f, r, hf, hr, hs, hl⟩ : ∃ f r : Nat, (f = 3 ∧ r = 64 ∨ f = 4 ∧ r = 65) ∧ (r = 64 ∨ r = 65) ∧ (fX9_setSill (98 + 5 * j) w v vi = fX9_setSill_27 (98 + 5 * j) (j_up vi (98 + 5 * j) f v)) ∧ ∀ vm : VI, (if w = 0 then (if inb (nI j) 5 = true then some (j_up vm 64 (nI j).toNatClampNeg v) else none) else if w = 1 then (if inb (nI j) 5 = true then some (j_up vm 65 (nI j).toNatClampNeg v) else none) else if w = 2 then (if inb (nI j) 6 = true then some (j_up vm 66 (nI j).toNatClampNeg v) else none) else some (j_up vm 63 5 v)) = some (j_up vm r j v) := by
      have b5 : 0 ≤ (nI j).toInt ∧ (nI j).toInt < (5 : Nat) := by rw [tnI (by omega)]; omega
      rcases w01 with rfl | rfl
      · refine ⟨3, 64, Or.inl ⟨rfl, rfl⟩, Or.inl rfl, ?_, fun vm => ?_⟩
        · unfold fX9_setSill; rw [if_pos rfl]
        · rw [if_pos rfl, if_inb b5, nI_clamp (by omega)]
      · refine ⟨4, 65, Or.inr ⟨rfl, rfl⟩, Or.inr rfl, ?_, fun vm => ?_⟩
        · unfold fX9_setSill; rw [if_neg (by decide), if_pos rfl]
        · rw [if_neg (by decide), if_pos rfl, if_inb b5, nI_clamp (by omega)]
    rw [hs]
    obtain ⟨v1, e1, e2⟩ := s27 (j_up vi (98 + 5 * j) f v)
    rw [e1]
    refine ⟨v1, rfl, fun o i hn => ?_, fun vm hm => ?_⟩
    · rw [e2, if_neg (fun q => hn (Or.inr (Or.inr (Or.inr ⟨by omega, by omega⟩)))), up_at, if_neg (fun q => hn (Or.inr (Or.inr (Or.inl ⟨by omega, by omega, by omega⟩))))]
    · rw [hl]
      have ev : ∀ o i, ¬ Ch o i → o ≠ r → (j_up vm r j v) o i = if o = 102 + 5 * j ∧ i < 780 then 0 else if o = 98 + 5 * j ∧ i = f then v else vi o i := by
        intro o i q1 q2
        rw [up_o q2, hm o i q1, e2]; rfl
      have er : ∀ i, (j_up vm r j v) r i = if i = j then v else vi r i := by
        intro i
        rw [up_at]
        by_cases c : i = j
        · rw [if_pos ⟨rfl, c⟩, if_pos c]
        · rw [if_neg (fun q => c q.2), if_neg c, hm r i (by unfold Ch; omega), e2, if_neg (by omega), up_o (by omega)]
      have eo : ∀ o i, ¬ Ch o i → o < 98 → o ≠ r → (j_up vm r j v) o i = vi o i := by
        intro o i q1 q2 q3
        rw [ev o i q1 q3, if_neg (by omega), if_neg (by omega)]
      refine ⟨_, rfl, ⟨h5, ?_, ?_, fun t ht => ?_, fun p hp' => ?_, ?_, ?_⟩, ?_, fun o i q1 q2 q3 q4 => ?_⟩
      · rw [eo 0 1 (by unfold Ch; omega) (by omega) (by omega)]; exact h2
      · rw [eo 63 1 (by unfold Ch; omega) (by omega) (by omega)]; exact h3
      · obtain ⟨g1, g2, g3, g4⟩ := h4 t ht
        have a3 := ev (98 + 5 * t) 3 (by unfold Ch; omega) (by omega)
        have a4 := ev (98 + 5 * t) 4 (by unfold Ch; omega) (by omega)
        rw [if_neg (by omega)] at a3 a4
        by_cases c : t = j
        · subst c
          rcases hf with ⟨rfl, rfl⟩ | ⟨rfl, rfl⟩
          · rw [if_pos ⟨rfl, rfl⟩] at a3
            rw [if_neg (by omega)] at a4
            rw [a3, a4, er, if_pos rfl, eo 65 t (by unfold Ch; omega) (by omega) (by omega)]
            exact ⟨rfl, g2, kv.1, g4⟩
          · rw [if_neg (by omega)] at a3
            rw [if_pos ⟨rfl, rfl⟩] at a4
            rw [a3, a4, er, if_pos rfl, eo 64 t (by unfold Ch; omega) (by omega) (by omega)]
            exact ⟨g1, rfl, g3, kv.1⟩
        · rw [if_neg (by omega)] at a3 a4
          rw [a3, a4]
          rcases hf with ⟨rfl, rfl⟩ | ⟨rfl, rfl⟩
          · rw [er, if_neg c, eo 65 t (by unfold Ch; omega) (by omega) (by omega)]; exact ⟨g1, g2, g3, g4⟩
          · rw [er, if_neg c, eo 64 t (by unfold Ch; omega) (by omega) (by omega)]; exact ⟨g1, g2, g3, g4⟩
      · rw [eo 2 p (by unfold Ch; omega) (by omega) (by omega), eo 66 p (by unfold Ch; omega) (by omega) (by omega)]; exact hp p hp'
      · rw [eo 5 2 (by unfold Ch; omega) (by omega) (by omega), eo 63 5 (by unfold Ch; omega) (by omega) (by omega)]; exact h6
      · rw [eo 63 5 (by unfold Ch; omega) (by omega) (by omega)]; exact h7
      · intro t ht ly one much hly ho hmu
        by_cases c : t = j
        · subst c
          left
          rw [ev _ _ (by unfold Ch; omega) (by omega), if_pos ⟨rfl, by omega⟩]
        · rw [ev _ _ (by unfold Ch; omega) (by omega), if_neg (by omega), if_neg (by omega)]
          rcases hc t ht ly one much hly ho hmu with g | ⟨g1, g2⟩
          · exact Or.inl g
          · refine Or.inr ⟨g1, fun vm' hv => g2 vm' ?_⟩
            obtain ⟨b1, b2, b3, b4, b5⟩ := hv
            have t64 : (j_up vm r j v) 64 t = vi 64 t := by
              by_cases cr : (64 : Nat) = r
              · rw [← cr] at er ⊢; rw [er, if_neg c]
              · exact eo 64 t (by unfold Ch; omega) (by omega) cr
            have t65 : (j_up vm r j v) 65 t = vi 65 t := by
              by_cases cr : (65 : Nat) = r
              · rw [← cr] at er ⊢; rw [er, if_neg c]
              · exact eo 65 t (by unfold Ch; omega) (by omega) cr
            exact ⟨t64.symm.trans b1, t65.symm.trans b2, (eo 63 5 (by unfold Ch; omega) (by omega) (by omega)).symm.trans b3, (eo 63 28 (by unfold Ch; omega) (by omega) (by omega)).symm.trans b4, fun o i p q => (eo o i (by unfold Ch; omega) (by omega) (by omega)).symm.trans (b5 o i p q)⟩
      · rw [up_o (by omega)]
  · obtain ⟨j, hj, rfl⟩ := ex_nI (N := 6) n0 (by omega) (by omega)
    have b6 : 0 ≤ (nI j).toInt ∧ (nI j).toInt < (6 : Nat) := by omega
    rw [if_neg (by decide), if_pos rfl, one9_eq, Option.bind_some, if_pos (by simp [n0, n1]), if_inb b6, nI_clamp (by omega)]
    refine ⟨_, rfl, fun o i hn => ?_, fun vm hm => ?_⟩
    · rw [up_o (fun q => hn (Or.inl q))]
    · simp only [if_inb b6]
      rw [if_neg (by decide), if_neg (by decide), if_pos trivial]
      have ev : ∀ o i, ¬ Ch o i → (j_up vm 66 j v) o i = if (o = 66 ∨ o = 2) ∧ i = j then v else vi o i := by
        intro o i q
        rw [up_at]
        by_cases c : o = 66 ∧ i = j
        · rw [if_pos c, if_pos (by omega)]
        · rw [if_neg c, hm o i q, up_at]
          by_cases c2 : o = 2 ∧ i = j
          · rw [if_pos c2, if_pos (by omega)]
          · rw [if_neg c2, if_neg (by omega)]
      have eo : ∀ o i, ¬ Ch o i → o ≠ 66 → o ≠ 2 → (j_up vm 66 j v) o i = vi o i := fun o i q1 q2 q3 => by rw [ev o i q1, if_neg (by omega)]
      have same : ∀ t, LawSame t vi (j_up vm 66 j v) := fun t => ⟨(eo _ _ (by unfold Ch; omega) (by omega) (by omega)).symm, (eo _ _ (by unfold Ch; omega) (by omega) (by omega)).symm, (eo _ _ (by unfold Ch; omega) (by omega) (by omega)).symm, (eo _ _ (by unfold Ch; omega) (by omega) (by omega)).symm, fun o i p q => (eo o i (by unfold Ch; omega) (by omega) (by omega)).symm⟩
      refine ⟨_, rfl, ⟨h5, ?_, ?_, fun t ht => ?_, fun p hp' => ?_, ?_, ?_⟩, ?_, fun o i q1 q2 q3 q4 => ?_⟩
      · rw [eo 0 1 (by unfold Ch; omega) (by omega) (by omega)]; exact h2
      · rw [eo 63 1 (by unfold Ch; omega) (by omega) (by omega)]; exact h3
      · rw [eo (98 + 5 * t) 3 (by unfold Ch; omega) (by omega) (by omega), eo (98 + 5 * t) 4 (by unfold Ch; omega) (by omega) (by omega), eo 64 t (by unfold Ch; omega) (by omega) (by omega), eo 65 t (by unfold Ch; omega) (by omega) (by omega)]
        exact h4 t ht
      · rw [ev 2 p (by unfold Ch; omega), ev 66 p (by unfold Ch; omega)]
        by_cases c : p = j
        · rw [if_pos (by omega), if_pos (by omega)]; exact ⟨rfl, kv.1⟩
        · rw [if_neg (by omega), if_neg (by omega)]; exact hp p hp'
      · rw [eo 5 2 (by unfold Ch; omega) (by omega) (by omega), eo 63 5 (by unfold Ch; omega) (by omega) (by omega)]; exact h6
      · rw [eo 63 5 (by unfold Ch; omega) (by omega) (by omega)]; exact h7
      · exact cache_frame hc (fun t _ => same t) (fun t i ht hi => Or.inl (eo _ _ (by unfold Ch; omega) (by omega) (by omega)))
      · rw [up_o q3]
  · rw [if_pos rfl]
    obtain ⟨v1, e1, e2⟩ := forgetAll_eq h5 ns 0 FU (j_up vi 5 2 v) (by omega) (by rw [FU_eq]; omega) (by omega) (by rw [up_o (by decide)]; exact h2)
    unfold fX9_forgetAll
    rw [show (0 : Int32) = nI 0 from rfl, e1]
    refine ⟨v1, rfl, fun o i hn => ?_, fun vm hm => ?_⟩
    · rw [e2, if_neg (fun q => hn (Or.inr (Or.inr (Or.inr ⟨by omega, by omega⟩)))), up_at, if_neg (fun q => hn (Or.inr (Or.inl q)))]
    · rw [if_neg (by decide), if_neg (by decide), if_neg (by decide)]
      have ev : ∀ o i, ¬ Ch o i → (j_up vm 63 5 v) o i = if (o = 63 ∧ i = 5) ∨ (o = 5 ∧ i = 2) then v else if (102 + 5 * 0 ≤ o ∧ o < 102 + 5 * ns ∧ o % 5 = 2) ∧ i < 780 then 0 else vi o i := by
        intro o i q
        rw [up_at]
        by_cases c : o = 63 ∧ i = 5
        · rw [if_pos c, if_pos (by omega)]
        · rw [if_neg c, hm o i q, e2, up_at]
          by_cases c2 : o = 5 ∧ i = 2
          · rw [if_neg (by omega), if_pos c2, if_pos (by omega)]
          · rw [if_neg c2, if_neg (show ¬ (o = 63 ∧ i = 5 ∨ o = 5 ∧ i = 2) by omega)]
      have eo : ∀ o i, ¬ Ch o i → ¬ (o = 63 ∧ i = 5) → ¬ (o = 5 ∧ i = 2) → ¬ (102 ≤ o ∧ o % 5 = 2) → (j_up vm 63 5 v) o i = vi o i := fun o i q1 q2 q3 q4 => by rw [ev o i q1, if_neg (by omega), if_neg (by omega)]
      refine ⟨_, rfl, ⟨h5, ?_, ?_, fun t ht => ?_, fun p hp' => ?_, ?_, ?_⟩, ?_, fun o i q1 q2 q3 q4 => ?_⟩
      · rw [eo 0 1 (by unfold Ch; omega) (by omega) (by omega) (by omega)]; exact h2
      · rw [eo 63 1 (by unfold Ch; omega) (by omega) (by omega) (by omega)]; exact h3
      · rw [eo (98 + 5 * t) 3 (by unfold Ch; omega) (by omega) (by omega) (by omega), eo (98 + 5 * t) 4 (by unfold Ch; omega) (by omega) (by omega) (by omega), eo 64 t (by unfold Ch; omega) (by omega) (by omega) (by omega), eo 65 t (by unfold Ch; omega) (by omega) (by omega) (by omega)]
        exact h4 t ht
      · rw [eo 2 p (by unfold Ch; omega) (by omega) (by omega) (by omega), eo 66 p (by unfold Ch; omega) (by omega) (by omega) (by omega)]
        exact hp p hp'
      · rw [ev 5 2 (by unfold Ch; omega), ev 63 5 (by unfold Ch; omega)]; rfl
      · rw [ev 63 5 (by unfold Ch; omega), if_pos (by omega)]
        exact ⟨kv.1.1, kv.2 rfl⟩
      · intro t ht ly one much hly ho hmu
        left
        rw [ev _ _ (by unfold Ch; omega), if_neg (by omega), if_pos (by omega)]
      · rw [up_at, if_neg q4]
