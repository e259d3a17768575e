/-! Days: ways and least -/
theorem nL_big {n : Nat} (h : n < 9223372036854775808) : (nL n).toInt = n := Int64.toInt_ofNat_of_lt (by omega)
theorem lz_le {n : Nat} (h : n < 9223372036854775808) : lg_cmp (nL n) 0 ≤ 0 ↔ n = 0 := by
  rw [lg_cmp_le, Int64.le_iff_toInt_le, nL_big h]
  show (n : Int) ≤ 0 ↔ n = 0
  omega
theorem lz_eq {n : Nat} (h : n < 9223372036854775808) : lg_cmp (nL n) 0 = 0 ↔ n = 0 := by
  rw [lg_cmp_eq, ← Int64.toInt_inj, nL_big h]
  show (n : Int) = 0 ↔ n = 0
  omega
def e0 : Nat → Bool := fun _ => false
theorem hx0 : ∀ c, c < 60 → (e0 c = true ↔ nI (c / 10) = -1) := fun c hc =>
  ⟨fun q => absurd q (by unfold e0; exact Bool.noConfusion), fun q => absurd (congrArg Int32.toInt q) (by rw [tnI (by omega), lm1]; omega)⟩
def e1 (q : Nat) : Nat → Bool := fun c => decide (c / 10 = q)
theorem hx1 {q : Nat} (hq : q < 6) : ∀ c, c < 60 → (e1 q c = true ↔ nI (c / 10) = nI q) := fun c hc => by
  unfold e1
  rw [decide_eq_true_iff, nI_inj (by omega) (by omega)]
theorem wo_A {ns j n : Nat} {wh th : Nat → Nat} {A : Nat → Nat → Nat} {vi : VI} {vl : VL} (h : DA ns j n wh th A vi vl) : ∀ m c, m ≤ n → c < 60 → A m c ≤ 9 := fun m c hm hc => (h.2.2.2.2.2 m (by have := h.2.2.1; omega) c hc).1
theorem vd_0 {th : Nat → Nat} {n : Nat} : Vd th n 0 0 := ⟨Nat.zero_le n, fun _ => rfl, fun q => absurd q (by omega)⟩
theorem from_bare {ns j n D l : Nat} {wh th : Nat → Nat} {A : Nat → Nat → Nat} {ex : Nat → Bool} {vi : VI} {vl : VL} (h : WO ns j n wh th A ex D vi vl) (hD : D ≤ 9) (hl : l ≤ D) : fX2_fromBare (nI l) vl = some (nL (wy wh th A ex n n l 0 0)) := by
  unfold fX2_fromBare
  rcases h.2.2 with ⟨g, s, c⟩ | ⟨g, z⟩
  · have e : fX2_waysFrom 0 (nI l) vl = some (nL (wy wh th A ex n n l 0 0)) := (from_eq (p := 0) (l := l) (by omega) (by omega) vl).trans (congrArg some (c l 0 0 hl vd_0))
    rw [e, Option.bind_some]
  · rw [from_bare0 _ _ z, Option.bind_some, wy_far (wo_A h.1) l 0 0 vd_0 (by show 0 + 9 * l < sm th n; omega)]; rfl
theorem out_ways {ns : Nat} {vi : VI} (h5 : ns ≤ 5) (n1 : vi 0 1 = nI ns) (n2 : vi 63 1 = nI ns) (x : Int32) : (∃ j, j < ns ∧ x = nI j ∧ fX9_sillAt ns x vi = some (some (98 + 5 * j)) ∧ fX10_isSill x vi = some true) ∨ (fX9_sillAt ns x vi = some none ∧ fX10_isSill x vi = some false) := by
  by_cases c : 0 ≤ x.toInt ∧ x.toInt < ns
  · obtain ⟨j, hj, rfl⟩ := ex_nI (x := x) (N := ns) c.1 c.2 (by omega)
    exact Or.inl ⟨j, hj, rfl, sillAt_in h5 n1 hj, (isSill_eq h5 n2 _).trans (by rw [decide_eq_true c])⟩
  · exact Or.inr ⟨sillAt_out h5 n1 c, (isSill_eq h5 n2 x).trans (by rw [decide_eq_false c])⟩
theorem days_eq (x : Int32) : (∃ D : Nat, D ≤ 9 ∧ x = nI D ∧ fX9_isWithin x 9 = some true ∧ fX10_areDays x = some true) ∨ (fX9_isWithin x 9 = some false ∧ fX10_areDays x = some false) := by
  have a := within_eq x 9
  have b : fX10_areDays x = some (decide ((0 : Int32).toInt ≤ x.toInt ∧ x.toInt ≤ (9 : Int32).toInt)) := by
    unfold fX10_areDays; rw [in_eq, Option.bind_some]
  rw [l9] at a b
  rw [l0] at b
  by_cases c : 0 ≤ x.toInt ∧ x.toInt ≤ 9
  · obtain ⟨j, hj, rfl⟩ := ex_nI (x := x) (N := 10) c.1 (by omega) (by omega)
    rw [decide_eq_true c] at a b
    exact Or.inl ⟨j, by omega, rfl, a, b⟩
  · rw [decide_eq_false c] at a b
    exact Or.inr ⟨a, b⟩
theorem sill_t {ns j : Nat} {vi : VI} {vl : VL} (h : INV ns vi vl) (hj : j < ns) : fX10_isSill (nI j) vi = some true := by
  have h5 := h.1.1
  rw [isSill_eq h5 h.1.2.2.1, decide_eq_true (by rw [tnI (by omega)]; omega)]
theorem ok16 : OK16 INV := by
  intro ns vi vl a0 a1 h
  rcases out_ways h.1.1 h.1.2.1 h.1.2.2.1 a0 with ⟨j, hj, rfl, s1, s2⟩ | ⟨s1, s2⟩
  · rcases days_eq a1 with ⟨D, hD, rfl, d1, d2⟩ | ⟨d1, d2⟩
    · obtain ⟨n, wh, th, A, hA⟩ := da_start h hj
      obtain ⟨vi1, vl1, w1, w2, w3, w4⟩ := workout (D := D) hD hx0 hA
      obtain ⟨vm, vl2, m1, m2, m3, m4, m5, m6⟩ := all_ways (D := D) w2.1 hx0 hD
      refine ⟨nL (wy wh th A e0 n n D 0 0), vi1, vl1, ?_, vm, vl2, ?_, m6.2.1⟩
      · unfold fX9_ways
        rw [s1, Option.bind_some]
        refine (congrArg (fun o => o.bind fun r3 => if r3 = true then (fX2_workOut (98 + 5 * j) (nI D) (-1) vi vl).bind fun r4 => (fX2_fromBare (nI D) r4.2).bind fun r5 => some (r5, r4.1, r4.2) else some ((-9223372036854775808), vi, vl)) d1).trans ?_
        rw [Option.bind_some, if_pos rfl, w1, Option.bind_some, from_bare w2 hD (Nat.le_refl D), Option.bind_some]
      · unfold fX10_ways
        rw [sill_t w2.1.2.1 hj, Option.bind_some, if_pos rfl, d2, Option.bind_some, if_pos rfl, m1, Option.bind_some]
    · refine ⟨-9223372036854775808, vi, vl, ?_, vi, vl, ?_, h⟩
      · unfold fX9_ways
        rw [s1, Option.bind_some]
        exact (congrArg (fun o => o.bind fun r3 => if r3 = true then (fX2_workOut (98 + 5 * j) a1 (-1) vi vl).bind fun r4 => (fX2_fromBare a1 r4.2).bind fun r5 => some (r5, r4.1, r4.2) else some ((-9223372036854775808), vi, vl)) d1).trans rfl
      · unfold fX10_ways
        rw [s2, Option.bind_some, if_pos rfl, d2, Option.bind_some, if_neg (by exact Bool.noConfusion)]
  · refine ⟨-9223372036854775808, vi, vl, ?_, vi, vl, ?_, h⟩
    · unfold fX9_ways
      rw [s1, Option.bind_some]; rfl
    · unfold fX10_ways
      rw [s2, Option.bind_some, if_neg (by exact Bool.noConfusion)]
theorem least_loop {ns j n : Nat} {wh th : Nat → Nat} {A : Nat → Nat → Nat} {vi : VI} {vl : VL} (h : WO ns j n wh th A e0 9 vi vl) : ∀ (d l : Nat), 10 - l = d → l ≤ 10 → ∃ r, (∀ F, d < F → fX9_least_25 ns F (nI l) vi vl = some (r, vi, vl)) ∧ ∀ vm vlm, DA ns j n wh th A vm vlm → ∃ vm' vlm', (∀ F, d < F → fX10_least_12 F (nI j) (nI l) vm vlm = some (r, vm', vlm')) ∧ DA ns j n wh th A vm' vlm' := by
  intro d
  induction d with
  | zero =>
    intro l hd hl
    obtain rfl : l = 10 := by omega
    refine ⟨-2, fun F hF => ?_, fun vm vlm hm => ⟨vm, vlm, fun F hF => ?_, hm⟩⟩
    · obtain ⟨F, rfl⟩ : ∃ F', F = F' + 1 := ⟨F - 1, by omega⟩
      exact if_pos (by decide)
    · obtain ⟨F, rfl⟩ : ∃ F', F = F' + 1 := ⟨F - 1, by omega⟩
      exact if_pos (by decide)
  | succ d ih =>
    intro l hd hl
    have no : ¬ (9 : Int32) < nI l := by rw [tlt, tnI (by omega), l9]; omega
    have lt := wy_lt (wh := wh) (th := th) (A := A) (ex := e0) (N := n) (K := n) (l := l) (m := 0) (t := 0) (by omega)
    by_cases z : wy wh th A e0 n n l 0 0 = 0
    · obtain ⟨r, g1, g2⟩ := ih (l + 1) (by omega) (by omega)
      refine ⟨r, fun F hF => ?_, fun vm vlm hm => ?_⟩
      · obtain ⟨F, rfl⟩ : ∃ F', F = F' + 1 := ⟨F - 1, by omega⟩
        refine (if_neg no).trans ?_
        rw [from_bare h (by omega) (by omega), Option.bind_some, if_pos ((lz_le lt).2 z), nI_1]
        exact g1 F (by omega)
      · obtain ⟨vm1, vl1, m1, m2, m3, m4, m5, m6⟩ := all_ways (D := l) hm hx0 (by omega)
        obtain ⟨vm', vl', k1, k2⟩ := g2 vm1 vl1 m6
        refine ⟨vm', vl', fun F hF => ?_, k2⟩
        obtain ⟨F, rfl⟩ : ∃ F', F = F' + 1 := ⟨F - 1, by omega⟩
        refine (if_neg no).trans ?_
        rw [m1, Option.bind_some]
        refine (if_pos ((lz_le lt).2 z)).trans ?_
        rw [nI_1]
        exact k1 F (by omega)
    · refine ⟨nI l, fun F hF => ?_, fun vm vlm hm => ?_⟩
      · obtain ⟨F, rfl⟩ : ∃ F', F = F' + 1 := ⟨F - 1, by omega⟩
        refine (if_neg no).trans ?_
        rw [from_bare h (by omega) (by omega), Option.bind_some, if_neg fun q => z ((lz_le lt).1 q)]
      · obtain ⟨vm1, vl1, m1, m2, m3, m4, m5, m6⟩ := all_ways (D := l) hm hx0 (by omega)
        refine ⟨vm1, vl1, fun F hF => ?_, m6⟩
        obtain ⟨F, rfl⟩ : ∃ F', F = F' + 1 := ⟨F - 1, by omega⟩
        refine (if_neg no).trans ?_
        rw [m1, Option.bind_some]
        exact if_neg fun q => z ((lz_le lt).1 q)
theorem optS_t {α : Type} (q : Nat) (a : α) (f : Nat → α) : optS (some q) a f = f q := rfl
theorem optS_f {α : Type} (a : α) (f : Nat → α) : optS none a f = a := rfl
theorem ok18 : OK18 INV := by
  intro ns vi vl a0 h
  rcases out_ways h.1.1 h.1.2.1 h.1.2.2.1 a0 with ⟨j, hj, rfl, s1, s2⟩ | ⟨s1, s2⟩
  · obtain ⟨n, wh, th, A, hA⟩ := da_start h hj
    obtain ⟨vi1, vl1, w1, w2, w3, w4⟩ := workout (D := 9) (by omega) hx0 hA
    obtain ⟨r, g1, g2⟩ := least_loop w2 10 0 (by omega) (by omega)
    obtain ⟨vm', vl', k1, k2⟩ := g2 vi1 vl1 w2.1
    refine ⟨r, vi1, vl1, ?_, vm', vl', ?_, k2.2.1⟩
    · unfold fX9_least
      rw [s1, Option.bind_some, optS_t, show (9 : Int32) = nI 9 from rfl, w1, Option.bind_some, ← t00]
      exact g1 FU (by rw [FU_eq]; omega)
    · unfold fX10_least
      rw [sill_t w2.1.2.1 hj, Option.bind_some, if_pos rfl, ← t00]
      exact k1 FU (by rw [FU_eq]; omega)
  · refine ⟨-1, vi, vl, ?_, vi, vl, ?_, h⟩
    · unfold fX9_least
      rw [s1, Option.bind_some, optS_f]
    · unfold fX10_least
      rw [s2, Option.bind_some, if_neg (by exact Bool.noConfusion)]
