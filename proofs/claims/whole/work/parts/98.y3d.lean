/-! Days: the places of a stack, sorted for each count of layers -/
theorem ft_loop {ns j n : Nat} {wh th : Nat → Nat} {A : Nat → Nat → Nat} {vi : VI} {vl : VL} (h : DA ns j n wh th A vi vl) : ∀ (d k F : Nat), n - k = d → k ≤ n → d < F → fX3_thickFrom_10 (99 + 5 * j) vi F (nI (sm th k)) (nI k) = some (nI (sm th n)) := by
  have n12 := h.2.2.1
  intro d
  induction d with
  | zero =>
    intro k F hd hk hF
    obtain ⟨F, rfl⟩ : ∃ F', F = F' + 1 := ⟨F - 1, by omega⟩
    obtain rfl : k = n := by omega
    exact if_pos (by rw [h.2.2.2.1]; exact Int32.le_refl _)
  | succ d ih =>
    intro k F hd hk hF
    obtain ⟨F, rfl⟩ : ∃ F', F = F' + 1 := ⟨F - 1, by omega⟩
    have c : ¬ vi (99 + 5 * j) 2 ≤ nI k := by rw [h.2.2.2.1, tle, tnI (by omega), tnI (by omega)]; omega
    refine (if_neg c).trans ((if_inb (by rw [tnI (by omega)]; omega)).trans ?_)
    rw [nI_clamp (by omega), show 99 + 5 * j + 2 = 101 + 5 * j by omega, (h.2.2.2.2.1 k (by omega)).2.1, nI_add, nI_1]
    exact ih (k + 1) F (by omega) (by omega) (by omega)
theorem grains_eq {ns j n : Nat} {wh th : Nat → Nat} {A : Nat → Nat → Nat} {vi : VI} {vl : VL} (h : DA ns j n wh th A vi vl) : fX3_allThick (99 + 5 * j) vi = some (nI (sm th n)) := by
  have e := ft_loop h n 0 FU (by omega) (by omega) (by rw [FU_eq]; have := h.2.2.1; omega)
  unfold fX3_allThick fX3_thickFrom
  rw [if_pos (by decide)]
  exact (congrArg (fun o => o.bind fun r1 => some r1) e).trans rfl
theorem sm_th {th : Nat → Nat} {n : Nat} (h : ∀ k, k < n → th k ≤ 99) {k : Nat} (hk : k ≤ n) (hn : n ≤ 12) : sm th k ≤ 1188 := by
  have := sm_le (f := th) (b := 99) (n := k) fun i q => h i (by omega)
  omega
theorem sort_both {ns j n k : Nat} {wh th : Nat → Nat} {A : Nat → Nat → Nat} {ex : Nat → Bool} {vi : VI} {vl : VL} {x3 : Int32} (hk : k ≤ n) (hx : ∀ c, c < 60 → (ex c = true ↔ nI (c / 10) = x3)) (h : DA ns j n wh th A vi vl) (z : vi 19 k = 0 ∧ ∀ a, a < 10 → vi 20 (k * 10 + a) = 0 ∧ vi 21 (k * 10 + a) = 0) : ∃ vi', fX2_sortLookings (98 + 5 * j) (nI k) x3 vi = some vi' ∧ DA ns j n wh th A vi' vl ∧ cnt wh A ex n k 60 vi' ∧ ∀ a i, ¬ srt j k a i → vi' a i = vi a i := by
  have n12 := h.2.2.1
  have hw := h.2.2.2.2.1
  have t1 := tells_eq h.2.2.1 h.2.2.2.1 (nI k - 1) 0
  have t2 := tells_eq h.2.2.1 h.2.2.2.1 (nI k) 0
  obtain ⟨r1, e1, q1⟩ : ∃ r1, fX3_tells (98 + 5 * j + 1) (nI k - 1) 0 vi = some r1 ∧ ∀ c, c < 60 → (nI (c / 10) = r1 ↔ (0 < k ∧ wh (k - 1) = c / 10)) := by
    refine ⟨_, (show fX3_tells (98 + 5 * j + 1) (nI k - 1) 0 vi = fX3_tells (99 + 5 * j) (nI k - 1) 0 vi by rw [show 98 + 5 * j + 1 = 99 + 5 * j by omega]).trans t1, fun c hc => ?_⟩
    by_cases k0 : k = 0
    · subst k0
      rw [if_neg (by intro q; exact absurd q.1 (by decide))]
      exact ⟨fun q => absurd (congrArg Int32.toInt q) (by rw [tnI (by omega), lm2]; omega), fun q => absurd q.1 (by omega)⟩
    · obtain ⟨p, rfl⟩ : ∃ p, k = p + 1 := ⟨k - 1, by omega⟩
      have e : (nI (p + 1) - 1 : Int32) = nI p := nI_sub (a := p + 1) (b := 1) (by omega)
      rw [e, tnI (by omega), if_pos (by omega), if_pos rfl]
      show nI (c / 10) = vi (99 + 5 * j + 1) p ↔ (0 < p + 1 ∧ wh p = c / 10)
      have hp := hw p (by omega)
      rw [show 99 + 5 * j + 1 = 100 + 5 * j by omega, hp.1, nI_inj (by omega) (by omega)]
      omega
  obtain ⟨r2, e2, q2⟩ : ∃ r2, fX3_tells (98 + 5 * j + 1) (nI k) 0 vi = some r2 ∧ ∀ c, c < 60 → (nI (c / 10) = r2 ↔ (k < n ∧ wh k = c / 10)) := by
    refine ⟨_, (show fX3_tells (98 + 5 * j + 1) (nI k) 0 vi = fX3_tells (99 + 5 * j) (nI k) 0 vi by rw [show 98 + 5 * j + 1 = 99 + 5 * j by omega]).trans t2, fun c hc => ?_⟩
    rw [tnI (by omega)]
    by_cases k0 : k < n
    · rw [if_pos (by omega), if_pos rfl]
      show nI (c / 10) = vi (99 + 5 * j + 1) k ↔ (k < n ∧ wh k = c / 10)
      have hp := hw k k0
      rw [show 99 + 5 * j + 1 = 100 + 5 * j by omega, hp.1, nI_inj (by omega) (by omega)]
      omega
    · rw [if_neg (by omega)]
      exact ⟨fun q => absurd (congrArg Int32.toInt q) (by rw [tnI (by omega), lm2]; omega), fun q => absurd q.1 k0⟩
  obtain ⟨vi', g1, g2, g3, g4⟩ := sort_loop (vl := vl) (th := th) (x3 := x3) hk hx q1 q2 60 0 vi (by omega) (by omega) h ⟨z.1.trans rfl, fun a ha => ⟨(z.2 a ha).1.trans rfl, (z.2 a ha).2.trans rfl⟩⟩
  refine ⟨vi', ?_, g2, g3, g4⟩
  unfold fX2_sortLookings
  rw [e1, Option.bind_some, e2, Option.bind_some]
  exact g1 FU (by rw [FU_eq]; omega)
/-- sorted below k, empty from k on -/
def SB (wh th : Nat → Nat) (A : Nat → Nat → Nat) (ex : Nat → Bool) (n k : Nat) (vi : VI) : Prop := vi 16 5 = nI n ∧ vi 16 6 = nI (sm th n) ∧ (∀ i, i < k → vi 18 i = nI (sm th i) ∧ cnt wh A ex n i 60 vi) ∧ ∀ i, k ≤ i → i ≤ n → vi 19 i = 0 ∧ ∀ a, a < 10 → vi 20 (i * 10 + a) = 0 ∧ vi 21 (i * 10 + a) = 0
theorem sb_step {ns j n k : Nat} {wh th : Nat → Nat} {A : Nat → Nat → Nat} {ex : Nat → Bool} {vi : VI} {vl : VL} {x3 : Int32} (hk : k ≤ n) (hx : ∀ c, c < 60 → (ex c = true ↔ nI (c / 10) = x3)) (h : DA ns j n wh th A vi vl) (s : SB wh th A ex n k vi) : ∃ vi', fX2_sortLookings (98 + 5 * j) (nI k) x3 (j_up vi 18 k (nI (sm th k))) = some vi' ∧ DA ns j n wh th A vi' vl ∧ SB wh th A ex n (k + 1) vi' ∧ ∀ a i, ¬ Scr a i → vi' a i = vi a i := by
  obtain ⟨s1, s2, s3, s4⟩ := s
  have n12 := h.2.2.1
  have hj : j < 5 := by have := h.2.1.1.1; have := h.1; omega
  have d1 : DA ns j n wh th A (j_up vi 18 k (nI (sm th k))) vl := da_plain h (fun a i q _ _ => up_o (by omega)) fun _ _ _ _ => rfl
  obtain ⟨vi', g1, g2, g3, g4⟩ := sort_both (k := k) hk hx d1 ⟨(up_o (by omega)).trans (s4 k (by omega) hk).1, fun a ha => ⟨(up_o (by omega)).trans ((s4 k (by omega) hk).2 a ha).1, (up_o (by omega)).trans ((s4 k (by omega) hk).2 a ha).2⟩⟩
  have fr : ∀ a i, ¬ srt j k a i → ¬ (a = 18 ∧ i = k) → vi' a i = vi a i := fun a i q q2 => (g4 a i q).trans (if_neg q2)
  refine ⟨vi', g1, g2, ⟨(fr _ _ (by unfold srt; omega) (by omega)).trans s1, (fr _ _ (by unfold srt; omega) (by omega)).trans s2, fun i hi => ?_, fun i q1 q2 => ?_⟩, fun a i q => fr a i (by unfold Scr at q; unfold srt; omega) (by unfold Scr at q; omega)⟩
  · by_cases e : i = k
    · subst e
      exact ⟨(g4 18 i (by unfold srt; omega)).trans up_s, g3⟩
    · obtain ⟨c1, c2, c3⟩ := s3 i (by omega)
      exact ⟨(fr _ _ (by unfold srt; omega) (by omega)).trans c1, (fr _ _ (by unfold srt; omega) (by omega)).trans c2, fun a ha => ⟨(fr _ _ (by unfold srt; omega) (by omega)).trans (c3 a ha).1, (fr _ _ (by unfold srt; omega) (by omega)).trans (c3 a ha).2⟩⟩
  · obtain ⟨c1, c2⟩ := s4 i (by omega) q2
    exact ⟨(fr _ _ (by unfold srt; omega) (by omega)).trans c1, fun a ha => ⟨(fr _ _ (by unfold srt; omega) (by omega)).trans (c2 a ha).1, (fr _ _ (by unfold srt; omega) (by omega)).trans (c2 a ha).2⟩⟩
theorem loop67 {ns j n : Nat} {wh th : Nat → Nat} {A : Nat → Nat → Nat} {ex : Nat → Bool} {vl : VL} {x2 x3 : Int32} (hx : ∀ c, c < 60 → (ex c = true ↔ nI (c / 10) = x3)) (hg : sm th n ≤ 81) : ∀ (d k : Nat) (vi : VI), n + 1 - k = d → k ≤ n + 1 → DA ns j n wh th A vi vl → SB wh th A ex n k vi → ∃ vi', (∀ F, d < F → fX2_workOut_67 (98 + 5 * j) F x2 x3 (nI k) vi vl = fX2_workOut_141 (98 + 5 * j) FU x2 1 vi' (j_up vl 17 (sm th n) 1)) ∧ DA ns j n wh th A vi' vl ∧ SB wh th A ex n (n + 1) vi' ∧ ∀ a i, ¬ Scr a i → vi' a i = vi a i := by
  intro d
  induction d with
  | zero =>
    intro k vi hd hk hD hs
    obtain rfl : k = n + 1 := by omega
    have n12 := hD.2.2.1
    refine ⟨vi, fun F hF => ?_, hD, hs, fun _ _ _ => rfl⟩
    obtain ⟨F, rfl⟩ : ∃ G, F = G + 1 := ⟨F - 1, by omega⟩
    refine (if_pos (by rw [hs.1, tlt, tnI (by omega), tnI (by omega)]; omega)).trans ((if_inb (by rw [hs.2.1, tnI (by omega)]; omega)).trans ?_)
    rw [hs.2.1, nI_clamp (by omega)]
  | succ d ih =>
    intro k vi hd hk hD hs
    have n12 := hD.2.2.1
    obtain ⟨vi1, g1, g2, g3, g4⟩ := sb_step (k := k) (by omega) hx hD hs
    obtain ⟨vi2, f1, f2, f3, f4⟩ := ih (k + 1) vi1 (by omega) (by omega) g2 g3
    refine ⟨vi2, fun F hF => ?_, f2, f3, fun a i q => (f4 a i q).trans (g4 a i q)⟩
    obtain ⟨F, rfl⟩ : ∃ G, F = G + 1 := ⟨F - 1, by omega⟩
    have fin : fX2_workOut_113 (98 + 5 * j) (fX2_workOut_67 (98 + 5 * j) F) x2 x3 (nI k) (nI k) (nI (sm th k)) vi vl = fX2_workOut_141 (98 + 5 * j) FU x2 1 vi2 (j_up vl 17 (sm th n) 1) := by
      refine (if_inb (by rw [tnI (by omega)]; omega)).trans ?_
      rw [nI_clamp (by omega), g1, Option.bind_some, nI_1]
      exact f1 F (by omega)
    refine (if_neg (by rw [hs.1, tlt, tnI (by omega), tnI (by omega)]; omega)).trans ?_
    by_cases k0 : k = 0
    · subst k0
      exact (if_pos (show nI 0 = (0 : Int32) from rfl)).trans fin
    · obtain ⟨p, rfl⟩ : ∃ p, k = p + 1 := ⟨k - 1, by omega⟩
      have e : (nI (p + 1) - 1 : Int32) = nI p := nI_sub (a := p + 1) (b := 1) (by omega)
      refine (if_neg (by rw [← t00, nI_inj (by omega) (by omega)]; omega)).trans ?_
      rw [e]
      refine (if_inb (by rw [tnI (by omega)]; omega)).trans ((if_inb (by rw [tnI (by omega)]; omega)).trans ?_)
      rw [nI_clamp (by omega), (hs.2.2.1 p (by omega)).1, show 98 + 5 * j + 1 + 2 = 101 + 5 * j by omega, (hD.2.2.2.2.1 p (by omega)).2.1, nI_add]
      exact fin
