/-! Days: certain -/
set_option maxRecDepth 100000 in
theorem bits_inj : ∀ a, a < 64 → ∀ b, b < 64 → (∀ q, q < 6 → (a / 2 ^ q % 2 = 1 ↔ b / 2 ^ q % 2 = 1)) → a = b := by decide +kernel
theorem bits_ex {ns j n : Nat} {wh th : Nat → Nat} {A : Nat → Nat → Nat} {vi : VI} {vl : VL} (h : DA ns j n wh th A vi vl) : ∃ b, b < 64 ∧ (∀ p, p < 6 → (b / 2 ^ p % 2 = 1 ↔ ∃ i, i < n ∧ wh i = p)) ∧ fX3_readBits (99 + 5 * j) vi = some (nI b) := by
  have n12 := h.2.2.1
  obtain ⟨n', vm1, a1, a2, a3, a4⟩ := layNow_DP h.2.1.2.2.2.1 h.2.1.1.1 h.1 (vm := vi) fun _ _ _ => rfl
  have en : n' = n := by
    have := h.2.2.2.1
    rw [a2.2.1] at this
    exact (nI_inj (by have := a2.1; omega) (by omega)).1 this
  subst en
  obtain ⟨b, b1, b2, b3, b4⟩ := readBits_both a2
  refine ⟨b, b1, fun p hp => (b2 p hp).trans ?_, b3⟩
  have w : ∀ i, i < n' → (vm1 82 i = nI p ↔ wh i = p) := fun i hi => by
    obtain ⟨w1, w2, w3, _⟩ := h.2.2.2.2.1 i hi
    have u1 := (a2.2.2.2 i hi).1
    rw [show 99 + 5 * j + 1 = 100 + 5 * j by omega, w1] at u1
    rw [← u1, nI_inj (by omega) (by omega)]
  exact ⟨fun ⟨i, i1, i2⟩ => ⟨i, i1, (w i i1).1 i2⟩, fun ⟨i, i1, i2⟩ => ⟨i, i1, (w i i1).2 i2⟩⟩
theorem there_0 {n D q : Nat} {wh th : Nat → Nat} {A : Nat → Nat → Nat} (h : ∃ i, i < n ∧ wh i = q) : wy wh th A (e1 q) n n D 0 0 = 0 := by
  obtain ⟨i, hi, e⟩ := h
  exact wy_out hi (fun c hc => decide_eq_true (hc.symm.trans e)) D 0 0 (Nat.zero_le i)
theorem bit01 (b p : Nat) : b / 2 ^ p % 2 = 0 ∨ b / 2 ^ p % 2 = 1 := by omega
theorem cert_class {ns j n D : Nat} {wh th : Nat → Nat} {A : Nat → Nat → Nat} (hD : D ≤ 9) : ∀ (d p b : Nat) (vi : VI) (vl : VL), 6 - p = d → p ≤ 6 → DA ns j n wh th A vi vl → b < 64 → (∀ q, q < 6 → q < p → (b / 2 ^ q % 2 = 1 ↔ wy wh th A (e1 q) n n D 0 0 = 0)) → (∀ q, q < 6 → p ≤ q → (b / 2 ^ q % 2 = 1 ↔ ∃ i, i < n ∧ wh i = q)) → ∃ R vi' vl', R < 64 ∧ (∀ q, q < 6 → (R / 2 ^ q % 2 = 1 ↔ wy wh th A (e1 q) n n D 0 0 = 0)) ∧ (∀ F, d < F → fX9_certain_58 ns F (nI D) (98 + 5 * j) (nI b) (nI p) vi vl = some (nI R, vi', vl')) ∧ DA ns j n wh th A vi' vl' := by
  intro d
  induction d with
  | zero =>
    intro p b vi vl hd hp h hb h1 h2
    obtain rfl : p = 6 := by omega
    refine ⟨b, vi, vl, hb, fun q hq => h1 q hq hq, fun F hF => ?_, h⟩
    obtain ⟨F, rfl⟩ : ∃ F', F = F' + 1 := ⟨F - 1, by omega⟩
    exact if_pos (by decide)
  | succ d ih =>
    intro p b vi vl hd hp h hb h1 h2
    have hp' : p < 6 := by omega
    have no : ¬ (6 : Int32) ≤ nI p := by rw [tle, tnI (by omega), l6]; omega
    have lt := wy_lt (wh := wh) (th := th) (A := A) (ex := e1 p) (N := n) (K := n) (l := D) (m := 0) (t := 0) hD
    have test : (((nI b : Int32) >>> (nI p &&& 31)) &&& 1) = 0 ↔ b / 2 ^ p % 2 = 0 := by
      rw [bit_at b hb p hp', ← t00, nI_inj (by omega) (by omega)]
    by_cases c : b / 2 ^ p % 2 = 0
    · obtain ⟨vi1, vl1, w1, w2, w3, w4⟩ := workout (D := D) hD (hx1 hp') h
      have fb := from_bare w2 hD (Nat.le_refl D)
      by_cases z : wy wh th A (e1 p) n n D 0 0 = 0
      · obtain ⟨o1, o2⟩ := bit_or b hb p hp'
        obtain ⟨R, vi', vl', r1, r2, r3, r4⟩ := ih (p + 1) (b ||| 2 ^ p) vi1 vl1 (by omega) (by omega) w2.1 o2 (fun q hq hlt => by
          rw [bit_set b hb p hp' q hq]
          by_cases e : q = p
          · subst e; rw [if_pos rfl]; exact ⟨fun _ => z, fun _ => rfl⟩
          · rw [if_neg e]; exact h1 q hq (by omega)) (fun q hq hle => by
          rw [bit_set b hb p hp' q hq, if_neg (by omega)]; exact h2 q hq (by omega))
        refine ⟨R, vi', vl', r1, r2, fun F hF => ?_, r4⟩
        obtain ⟨F, rfl⟩ : ∃ F', F = F' + 1 := ⟨F - 1, by omega⟩
        refine (if_neg no).trans ((if_pos (test.2 c)).trans ?_)
        rw [w1, Option.bind_some, fb, Option.bind_some, if_pos ((lz_eq lt).2 z)]
        unfold fX9_certain_108
        rw [o1, nI_1]
        exact r3 F (by omega)
      · obtain ⟨R, vi', vl', r1, r2, r3, r4⟩ := ih (p + 1) b vi1 vl1 (by omega) (by omega) w2.1 hb (fun q hq hlt => by
          by_cases e : q = p
          · subst e; exact ⟨fun k => absurd k (by omega), fun k => absurd k z⟩
          · exact h1 q hq (by omega)) (fun q hq hle => h2 q hq (by omega))
        refine ⟨R, vi', vl', r1, r2, fun F hF => ?_, r4⟩
        obtain ⟨F, rfl⟩ : ∃ F', F = F' + 1 := ⟨F - 1, by omega⟩
        refine (if_neg no).trans ((if_pos (test.2 c)).trans ?_)
        rw [w1, Option.bind_some, fb, Option.bind_some, if_neg fun k => z ((lz_eq lt).1 k)]
        unfold fX9_certain_108
        rw [nI_1]
        exact r3 F (by omega)
    · have c1 : b / 2 ^ p % 2 = 1 := by
        rcases bit01 b p with k | k
        · exact absurd k c
        · exact k
      obtain ⟨R, vi', vl', r1, r2, r3, r4⟩ := ih (p + 1) b vi vl (by omega) (by omega) h hb (fun q hq hlt => by
        by_cases e : q = p
        · subst e; exact ⟨fun _ => there_0 ((h2 q hq (by omega)).1 c1), fun _ => c1⟩
        · exact h1 q hq (by omega)) (fun q hq hle => h2 q hq (by omega))
      refine ⟨R, vi', vl', r1, r2, fun F hF => ?_, r4⟩
      obtain ⟨F, rfl⟩ : ∃ F', F = F' + 1 := ⟨F - 1, by omega⟩
      refine (if_neg no).trans ((if_neg fun k => c (test.1 k)).trans ?_)
      unfold fX9_certain_108
      rw [nI_1]
      exact r3 F (by omega)
theorem cert_model {ns j n D : Nat} {wh th : Nat → Nat} {A : Nat → Nat → Nat} (hD : D ≤ 9) : ∀ (d p b : Nat) (vi : VI) (vl : VL), 6 - p = d → p ≤ 6 → DA ns j n wh th A vi vl → b < 64 → (∀ q, q < 6 → q < p → (b / 2 ^ q % 2 = 1 ↔ wy wh th A (e1 q) n n D 0 0 = 0)) → (∀ q, q < 6 → p ≤ q → b / 2 ^ q % 2 = 0) → ∃ R vi' vl', R < 64 ∧ (∀ q, q < 6 → (R / 2 ^ q % 2 = 1 ↔ wy wh th A (e1 q) n n D 0 0 = 0)) ∧ (∀ F, d < F → fX10_certain_36 F (nI j) (nI D) (nI b) (nI p) vi vl = some (nI R, vi', vl')) ∧ DA ns j n wh th A vi' vl' := by
  intro d
  induction d with
  | zero =>
    intro p b vi vl hd hp h hb h1 h2
    obtain rfl : p = 6 := by omega
    refine ⟨b, vi, vl, hb, fun q hq => h1 q hq hq, fun F hF => ?_, h⟩
    obtain ⟨F, rfl⟩ : ∃ F', F = F' + 1 := ⟨F - 1, by omega⟩
    exact if_pos (by decide)
  | succ d ih =>
    intro p b vi vl hd hp h hb h1 h2
    have hp' : p < 6 := by omega
    have no : ¬ (6 : Int32) ≤ nI p := by rw [tle, tnI (by omega), l6]; omega
    have lt := wy_lt (wh := wh) (th := th) (A := A) (ex := e1 p) (N := n) (K := n) (l := D) (m := 0) (t := 0) hD
    obtain ⟨vm, vl1, m1, m2, m3, m4, m5, m6⟩ := all_ways (D := D) h (hx1 hp') hD
    by_cases z : wy wh th A (e1 p) n n D 0 0 = 0
    · obtain ⟨o1, o2⟩ := bit_or b hb p hp'
      obtain ⟨R, vi', vl', r1, r2, r3, r4⟩ := ih (p + 1) (b ||| 2 ^ p) vm vl1 (by omega) (by omega) m6 o2 (fun q hq hlt => by
        rw [bit_set b hb p hp' q hq]
        by_cases e : q = p
        · subst e; rw [if_pos rfl]; exact ⟨fun _ => z, fun _ => rfl⟩
        · rw [if_neg e]; exact h1 q hq (by omega)) (fun q hq hle => by
        rw [bit_set b hb p hp' q hq, if_neg (by omega)]; exact h2 q hq (by omega))
      refine ⟨R, vi', vl', r1, r2, fun F hF => ?_, r4⟩
      obtain ⟨F, rfl⟩ : ∃ F', F = F' + 1 := ⟨F - 1, by omega⟩
      refine (if_neg no).trans ?_
      rw [m1, Option.bind_some]
      refine (if_pos ((lz_eq lt).2 z)).trans ?_
      unfold fX10_certain_63
      rw [o1, nI_1]
      exact r3 F (by omega)
    · obtain ⟨R, vi', vl', r1, r2, r3, r4⟩ := ih (p + 1) b vm vl1 (by omega) (by omega) m6 hb (fun q hq hlt => by
        by_cases e : q = p
        · subst e
          have := h2 q hq (Nat.le_refl q)
          exact ⟨fun k => absurd k (by omega), fun k => absurd k z⟩
        · exact h1 q hq (by omega)) (fun q hq hle => h2 q hq (by omega))
      refine ⟨R, vi', vl', r1, r2, fun F hF => ?_, r4⟩
      obtain ⟨F, rfl⟩ : ∃ F', F = F' + 1 := ⟨F - 1, by omega⟩
      refine (if_neg no).trans ?_
      rw [m1, Option.bind_some]
      refine (if_neg fun k => z ((lz_eq lt).1 k)).trans ?_
      unfold fX10_certain_63
      rw [nI_1]
      exact r3 F (by omega)
theorem cert_all {ns j n D : Nat} {wh th : Nat → Nat} {A : Nat → Nat → Nat} {vi : VI} {vl : VL} (hD : D ≤ 9) (h : DA ns j n wh th A vi vl) : ∃ r vi1 vl1, ((fX2_workOut (98 + 5 * j) (nI D) (-1) vi vl).bind fun r4 => (fX2_fromBare (nI D) r4.2).bind fun r5 => if (lg_cmp r5 0) = 0 then some (0, r4.1, r4.2) else (fX3_readBits (98 + 5 * j + 1) r4.1).bind fun r6 => fX9_certain_58 ns FU (nI D) (98 + 5 * j) r6 0 r4.1 r4.2) = some (r, vi1, vl1) ∧ DA ns j n wh th A vi1 vl1 ∧ ∃ vi2 vl2, ((fX10_allWays (nI j) (nI D) (-1) vi1 vl1).bind fun r3 => if (lg_cmp r3.1 0) = 0 then some (0, r3.2.1, r3.2.2) else fX10_certain_36 FU (nI j) (nI D) 0 0 r3.2.1 r3.2.2) = some (r, vi2, vl2) ∧ DA ns j n wh th A vi2 vl2 := by
  obtain ⟨vi1, vl1, w1, w2, w3, w4⟩ := workout (D := D) hD hx0 h
  have fb := from_bare w2 hD (Nat.le_refl D)
  have lt := wy_lt (wh := wh) (th := th) (A := A) (ex := e0) (N := n) (K := n) (l := D) (m := 0) (t := 0) hD
  have f6 : 6 < FU := by rw [FU_eq]; omega
  generalize FU = N at f6
  by_cases z : wy wh th A e0 n n D 0 0 = 0
  · obtain ⟨vm, vl2, m1, m2, m3, m4, m5, m6⟩ := all_ways (D := D) w2.1 hx0 hD
    refine ⟨0, vi1, vl1, ?_, w2.1, vm, vl2, ?_, m6⟩
    · rw [w1, Option.bind_some, fb, Option.bind_some, if_pos ((lz_eq lt).2 z)]
    · rw [m1, Option.bind_some]
      exact if_pos ((lz_eq lt).2 z)
  · obtain ⟨b, b1, b2, b3⟩ := bits_ex w2.1
    obtain ⟨R, vi2, vl2, r1, r2, r3, r4⟩ := cert_class (D := D) hD 6 0 b vi1 vl1 (by omega) (by omega) w2.1 b1 (fun q _ k => absurd k (by omega)) (fun q hq _ => b2 q hq)
    obtain ⟨vm, vl3, m1, m2, m3, m4, m5, m6⟩ := all_ways (D := D) r4 hx0 hD
    obtain ⟨R', vi4, vl4, k1, k2, k3, k4⟩ := cert_model (D := D) hD 6 0 0 vm vl3 (by omega) (by omega) m6 (by omega) (fun q _ k => absurd k (by omega)) (fun q hq _ => by rw [Nat.zero_div])
    have e : R' = R := bits_inj R' k1 R r1 fun q hq => (k2 q hq).trans (r2 q hq).symm
    subst e
    refine ⟨nI R', vi2, vl2, ?_, r4, vi4, vl4, ?_, k4⟩
    · rw [w1, Option.bind_some, fb, Option.bind_some, if_neg fun k => z ((lz_eq lt).1 k), show 98 + 5 * j + 1 = 99 + 5 * j by omega, b3, Option.bind_some, ← t00]
      exact r3 N f6
    · rw [m1, Option.bind_some]
      refine (if_neg fun k => z ((lz_eq lt).1 k)).trans ?_
      rw [← t00]
      exact k3 N f6
theorem ok19 : OK19 INV := by
  intro ns vi vl a0 a1 h
  rcases out_ways h.1.1 h.1.2.1 h.1.2.2.1 a0 with ⟨j, hj, rfl, s1, s2⟩ | ⟨s1, s2⟩
  · rcases days_eq a1 with ⟨D, hD, rfl, d1, d2⟩ | ⟨d1, d2⟩
    · obtain ⟨n, wh, th, A, hA⟩ := da_start h hj
      obtain ⟨r, vi1, vl1, g1, g2, vi2, vl2, g3, g4⟩ := cert_all hD hA
      refine ⟨r, vi1, vl1, ?_, vi2, vl2, ?_, g4.2.1⟩
      · unfold fX9_certain
        rw [s1, Option.bind_some, optS_t, d1, Option.bind_some, if_pos rfl]
        exact g1
      · unfold fX10_certain
        rw [sill_t g2.2.1 hj, Option.bind_some, if_pos rfl, d2, Option.bind_some, if_pos rfl]
        exact g3
    · refine ⟨-1, vi, vl, ?_, vi, vl, ?_, h⟩
      · unfold fX9_certain
        rw [s1, Option.bind_some, optS_t, d1, Option.bind_some, if_neg (by exact Bool.noConfusion)]
      · unfold fX10_certain
        rw [s2, Option.bind_some, if_pos rfl, d2, Option.bind_some, if_neg (by exact Bool.noConfusion)]
  · refine ⟨-1, vi, vl, ?_, vi, vl, ?_, h⟩
    · unfold fX9_certain
      rw [s1, Option.bind_some, optS_f]
    · unfold fX10_certain
      rw [s2, Option.bind_some, if_neg (by exact Bool.noConfusion)]
