/-! ALIKE: the tables -/
def doneC (vc : VI) (u v : Nat → Int32) (na nb r k : Nat) : Prop := ∀ i j, i ≤ 12 → j ≤ 12 → (r < i ∨ (i = r ∧ k ≤ j) ∨ nb ≤ j) → vc 22 (i * 13 + j) = nI (lcs u v na nb (na - i) (nb - j))
theorem measure_inner {a b na nb : Nat} {u v : Nat → Int32} (hna : na ≤ 12) (hnb : nb ≤ 12) {r : Nat} (hr : r < na) : ∀ (k : Nat) (vc : VI), k ≤ nb → (∀ i, i < na → vc (100 + 5 * a) i = u i) → (∀ i, i < nb → vc (100 + 5 * b) i = v i) → doneC vc u v na nb r k → ∃ vc', (∀ (k15 : Int32 → VI → Option VI) F, k < F → fX9_measureAlike_27 (99 + 5 * a) (99 + 5 * b) k15 F (nI r) (nI k - 1) vc = k15 (nI r - 1) vc') ∧ doneC vc' u v na nb r 0 ∧ ∀ o i, o ≠ 22 → vc' o i = vc o i := by
  intro k
  induction k with
  | zero =>
    intro vc q1 hu hv hd
    refine ⟨vc, fun k15 F hF => ?_, hd, fun _ _ _ => rfl⟩
    obtain ⟨F, rfl⟩ : ∃ F', F = F' + 1 := ⟨F - 1, by omega⟩
    rw [fX9_measureAlike_27, if_pos (by decide), addm1]
  | succ k ih =>
    intro vc q1 hu hv hd
    have br : 0 ≤ (nI r).toInt ∧ (nI r).toInt < (12 : Nat) := by rw [tnI (by omega)]; omega
    have bk : 0 ≤ (nI k).toInt ∧ (nI k).toInt < (12 : Nat) := by rw [tnI (by omega)]; omega
    have cr : (nI r).toNatClampNeg = r := nI_clamp (by omega)
    have ck : (nI k).toNatClampNeg = k := nI_clamp (by omega)
    have bb : 0 ≤ (nI (r * 13 + k)).toInt ∧ (nI (r * 13 + k)).toInt < (169 : Nat) := by rw [tnI (by omega)]; omega
    obtain ⟨p, hp⟩ : ∃ p, na - r = p + 1 := ⟨na - r - 1, by omega⟩
    obtain ⟨q, hq⟩ : ∃ q, nb - k = q + 1 := ⟨nb - k - 1, by omega⟩
    have er : na - (p + 1) = r := by omega
    have ek : nb - (q + 1) = k := by omega
    have t1 : vc 22 ((r + 1) * 13 + k) = nI (lcs u v na nb p (q + 1)) := by
      rw [hd (r + 1) k (by omega) (by omega) (Or.inl (by omega)), show na - (r + 1) = p by omega, hq]
    have t2 : vc 22 (r * 13 + (k + 1)) = nI (lcs u v na nb (p + 1) q) := by
      rw [hd r (k + 1) (by omega) (by omega) (Or.inr (Or.inl ⟨rfl, by omega⟩)), show nb - (k + 1) = q by omega, hp]
    have t3 : vc 22 ((r + 1) * 13 + (k + 1)) = nI (lcs u v na nb p q) := by
      rw [hd (r + 1) (k + 1) (by omega) (by omega) (Or.inl (by omega)), show na - (r + 1) = p by omega, show nb - (k + 1) = q by omega]
    have y1 := lcs_le (u := u) (v := v) (na := na) (nb := nb) p (q + 1)
    have y2 := lcs_le (u := u) (v := v) (na := na) (nb := nb) (p + 1) q
    -- one cell
    have cell : ∀ (k15 : Int32 → VI → Option VI) F, fX9_measureAlike_27 (99 + 5 * a) (99 + 5 * b) k15 (F + 1) (nI r) (nI k) vc = fX9_measureAlike_27 (99 + 5 * a) (99 + 5 * b) k15 F (nI r) (nI k - 1) (j_up vc 22 (r * 13 + k) (nI (lcs u v na nb (p + 1) (q + 1)))) := by
      intro k15 F
      rw [fX9_measureAlike_27, if_neg (by rw [tlt, l0, tnI (by omega)]; omega), nI_1, nI_1, longest_eq vc (by omega) (by omega), Option.bind_some, longest_eq vc (by omega) (by omega), Option.bind_some, if_inb br, if_inb bk, cr, ck, show 99 + 5 * a + 1 = 100 + 5 * a by omega, show 99 + 5 * b + 1 = 100 + 5 * b by omega, hu r hr, hv k (by omega), t1, t2, longest_eq vc (by omega) (by omega), t3, Option.bind_some, fX9_measureAlike_86, fX9_measureAlike_86, show (13 : Int32) = nI 13 from rfl, nI_mul, nI_add, if_inb bb, if_inb bb, nI_clamp (by omega), addm1, lcs_ss, er, ek]
      by_cases c : u r = v k
      · rw [if_pos c, if_pos c, show (1 : Int32) = nI 1 from rfl, nI_add]
      · rw [if_neg c, if_neg c]
        have e : ((if nI (lcs u v na nb p (q + 1)) < nI (lcs u v na nb (p + 1) q) then nI (lcs u v na nb (p + 1) q) else nI (lcs u v na nb p (q + 1))) : Int32) = nI (max (lcs u v na nb p (q + 1)) (lcs u v na nb (p + 1) q)) := by
          by_cases m : lcs u v na nb p (q + 1) < lcs u v na nb (p + 1) q
          · rw [if_pos (by rw [tlt, tnI (by omega), tnI (by omega)]; omega), Nat.max_eq_right (by omega)]
          · rw [if_neg (by rw [tlt, tnI (by omega), tnI (by omega)]; omega), Nat.max_eq_left (by omega)]
        rw [e]
    obtain ⟨vc', a1, a2, a3⟩ := ih (j_up vc 22 (r * 13 + k) (nI (lcs u v na nb (p + 1) (q + 1)))) (by omega) (fun i hi => by rw [up_o (by omega)]; exact hu i hi) (fun i hi => by rw [up_o (by omega)]; exact hv i hi) (by
      intro i j hi hj hh
      by_cases c : i = r ∧ j = k
      · obtain ⟨rfl, rfl⟩ := c
        rw [up_s, hp, hq]
      · rw [up_i (by omega)]
        exact hd i j hi hj (by omega))
    refine ⟨vc', fun k15 F hF => ?_, a2, fun o i q => by rw [a3 o i q, up_o q]⟩
    obtain ⟨F, rfl⟩ : ∃ F', F = F' + 1 := ⟨F - 1, by omega⟩
    rw [nsub1 (by omega), cell]
    exact a1 k15 F (by omega)
theorem measure_outer {a b na nb : Nat} {u v : Nat → Int32} (hna : na ≤ 12) (hnb : nb ≤ 12) : ∀ (r : Nat) (vc : VI), r ≤ na → vc (99 + 5 * b) 2 = nI nb → (∀ i, i < na → vc (100 + 5 * a) i = u i) → (∀ i, i < nb → vc (100 + 5 * b) i = v i) → (∀ i j, i ≤ 12 → j ≤ 12 → (r ≤ i ∨ nb ≤ j) → vc 22 (i * 13 + j) = nI (lcs u v na nb (na - i) (nb - j))) → ∃ vc', (∀ F, r < F → fX9_measureAlike_15 (99 + 5 * a) (99 + 5 * b) F (nI r - 1) vc = some vc') ∧ tabC vc' u v na nb ∧ ∀ o i, o ≠ 22 → vc' o i = vc o i := by
  intro r
  induction r with
  | zero =>
    intro vc q1 h2 hu hv hd
    refine ⟨vc, fun F hF => ?_, fun i j hi hj => hd i j hi hj (by omega), fun _ _ _ => rfl⟩
    obtain ⟨F, rfl⟩ : ∃ F', F = F' + 1 := ⟨F - 1, by omega⟩
    rw [fX9_measureAlike_15, if_pos (by decide)]
  | succ r ih =>
    intro vc q1 h2 hu hv hd
    obtain ⟨vc1, same, b2, b3⟩ := measure_inner (a := a) (b := b) hna hnb (u := u) (v := v) (r := r) (by omega) nb vc (Nat.le_refl _) hu hv (fun i j hi hj hh => hd i j hi hj (by omega))
    obtain ⟨vc', a1, a2, a3⟩ := ih vc1 (by omega) (by rw [b3 _ _ (by omega)]; exact h2) (fun i hi => by rw [b3 _ _ (by omega)]; exact hu i hi) (fun i hi => by rw [b3 _ _ (by omega)]; exact hv i hi) (fun i j hi hj hh => by
      by_cases c : nb ≤ j
      · exact b2 i j hi hj (Or.inr (Or.inr c))
      · by_cases ci : i = r
        · exact b2 i j hi hj (Or.inr (Or.inl ⟨ci, by omega⟩))
        · exact b2 i j hi hj (Or.inl (by omega)))
    refine ⟨vc', fun F hF => ?_, a2, fun o i q => by rw [a3 o i q, b3 o i q]⟩
    obtain ⟨F, rfl⟩ : ∃ F', F = F' + 1 := ⟨F - 1, by omega⟩
    rw [nsub1 (by omega), fX9_measureAlike_15, if_neg (by rw [tlt, l0, tnI (by omega)]; omega), h2, same _ FU (by rw [FU_eq]; omega)]
    exact a1 F (by omega)
theorem measure_eq {vi : VI} {a b na nb : Nat} {u v : Nat → Int32} (ha : ordIs vi vi a na u) (hb : ordIs vi vi b nb v) : ∃ vc', fX9_measureAlike (99 + 5 * a) (99 + 5 * b) vi = some vc' ∧ tabC vc' u v na nb ∧ ∀ o i, o ≠ 22 → vc' o i = vi o i := by
  obtain ⟨v1, e1, e2⟩ := fillI_eq (x0 := 22) (N := 169) (x := 0) (by omega) vi
  have fr : ∀ o i, o ≠ 22 → v1 o i = vi o i := fun o i q => by rw [e2, if_neg (by omega)]
  obtain ⟨vc', a1, a2, a3⟩ := measure_outer (a := a) (b := b) (u := u) (v := v) ha.2.1 hb.2.1 na v1 (Nat.le_refl _) (by rw [fr _ _ (by omega)]; exact hb.2.2.1) (fun i hi => by rw [fr _ _ (by omega)]; exact ha.2.2.2.2.1 i hi) (fun i hi => by rw [fr _ _ (by omega)]; exact hb.2.2.2.2.1 i hi) (fun i j hi hj hh => by
    rw [e2, if_pos ⟨rfl, by omega⟩]
    rcases hh with h | h
    · rw [show na - i = 0 by omega, lcs_0]; rfl
    · rw [show nb - j = 0 by omega, lcs_p0]; rfl)
  refine ⟨vc', ?_, a2, fun o i q => (a3 o i q).trans (fr o i q)⟩
  unfold fX9_measureAlike
  rw [e1, Option.bind_some, fr _ _ (by omega), ha.2.2.1]
  exact a1 FU (by rw [FU_eq]; have := ha.2.1; omega)
/-! the model's table -/
theorem find_inner {a b na nb : Nat} {u v : Nat → Int32} (h5 : a < 5) (h5' : b < 5) (hna : na ≤ 12) (hnb : nb ≤ 12) {r : Nat} (hr : r ≤ na) : ∀ (k : Nat) (vm : VI), k ≤ nb + 1 → vm 67 a = nI na → vm 67 b = nI nb → (∀ i, i < na → vm 68 (12 * a + i) = u i) → (∀ i, i < nb → vm 68 (12 * b + i) = v i) → (∀ i j, i ≤ na → j ≤ nb → (r < i ∨ (i = r ∧ k ≤ j)) → vm 86 (13 * i + j) = nI (lcs u v na nb (na - i) (nb - j))) → ∃ vm', (∀ (k7 : Int32 → Int32 → Int32 → VI → Option VI) F, k < F → fX10_findAlike_19 k7 F (nI a) (nI b) (nI r) (nI k - 1) vm = k7 (nI a) (nI b) (nI r - 1) vm') ∧ (∀ i j, i ≤ na → j ≤ nb → r ≤ i → vm' 86 (13 * i + j) = nI (lcs u v na nb (na - i) (nb - j))) ∧ ∀ o i, o ≠ 86 → vm' o i = vm o i := by
  have ba : 0 ≤ (nI a).toInt ∧ (nI a).toInt < (5 : Nat) := by rw [tnI (by omega)]; omega
  have bb : 0 ≤ (nI b).toInt ∧ (nI b).toInt < (5 : Nat) := by rw [tnI (by omega)]; omega
  have ca : (nI a).toNatClampNeg = a := nI_clamp (by omega)
  have cb : (nI b).toNatClampNeg = b := nI_clamp (by omega)
  intro k
  induction k with
  | zero =>
    intro vm q1 w1 w2 hu hv hd
    refine ⟨vm, fun k7 F hF => ?_, fun i j hi hj hh => hd i j hi hj (by omega), fun _ _ _ => rfl⟩
    obtain ⟨F, rfl⟩ : ∃ F', F = F' + 1 := ⟨F - 1, by omega⟩
    rw [fX10_findAlike_19, if_pos (by decide), addm1]
  | succ k ih =>
    intro vm q1 w1 w2 hu hv hd
    have er : (nI r).toInt = r := tnI (by omega)
    have ek : (nI k).toInt = k := tnI (by omega)
    have bc : 0 ≤ (nI (13 * r + k)).toInt ∧ (nI (13 * r + k)).toInt < (169 : Nat) := by rw [tnI (by omega)]; omega
    have xc : (13 * nI r + nI k : Int32) = nI (13 * r + k) := by rw [show (13 : Int32) = nI 13 from rfl, nI_mul, nI_add]
    have cc : (nI (13 * r + k)).toNatClampNeg = 13 * r + k := nI_clamp (by omega)
    have nk : ¬ nI k < 0 := by rw [tlt, l0, ek]; omega
    have put : ∀ (k7 : Int32 → Int32 → Int32 → VI → Option VI) k19 (x : Int32), fX10_findAlike_158 k7 k19 (nI a) (nI b) (nI r) (nI k) x vm = k19 (nI a) (nI b) (nI r) (nI k - 1) (j_up vm 86 (13 * r + k) x) := by
      intro k7 k19 x
      rw [fX10_findAlike_158, xc, if_inb bc, cc, addm1]
    have cell : ∀ (k7 : Int32 → Int32 → Int32 → VI → Option VI) F, fX10_findAlike_19 k7 (F + 1) (nI a) (nI b) (nI r) (nI k) vm = fX10_findAlike_19 k7 F (nI a) (nI b) (nI r) (nI k - 1) (j_up vm 86 (13 * r + k) (nI (lcs u v na nb (na - r) (nb - k)))) := by
      intro k7 F
      rw [fX10_findAlike_19, if_neg nk, if_inb ba, ca, w1]
      by_cases c1 : na ≤ r
      · rw [if_pos (by rw [tle, er, tnI (by omega)]; omega), put, show na - r = 0 by omega, lcs_0]; rfl
      · rw [if_neg (by rw [tle, er, tnI (by omega)]; omega), if_inb bb, cb, w2]
        by_cases c2 : nb ≤ k
        · rw [if_pos (by rw [tle, ek, tnI (by omega)]; omega), put, show nb - k = 0 by omega, lcs_p0]; rfl
        · rw [if_neg (by rw [tle, ek, tnI (by omega)]; omega)]
          obtain ⟨p, hp⟩ : ∃ p, na - r = p + 1 := ⟨na - r - 1, by omega⟩
          obtain ⟨q, hq⟩ : ∃ q, nb - k = q + 1 := ⟨nb - k - 1, by omega⟩
          have e1 : na - (p + 1) = r := by omega
          have e2 : nb - (q + 1) = k := by omega
          have x1 : (13 * (nI r + 1) + nI k : Int32) = nI (13 * (r + 1) + k) := by rw [nI_1, show (13 : Int32) = nI 13 from rfl, nI_mul, nI_add]
          have x2 : (nI (13 * r + k) + 1 : Int32) = nI (13 * r + (k + 1)) := by rw [nI_1]; rfl
          have x3 : (nI (13 * (r + 1) + k) + 1 : Int32) = nI (13 * (r + 1) + (k + 1)) := by rw [nI_1]; rfl
          have b1 : 0 ≤ (nI (13 * (r + 1) + k)).toInt ∧ (nI (13 * (r + 1) + k)).toInt < (169 : Nat) := by rw [tnI (by omega)]; omega
          have b2 : 0 ≤ (nI (13 * r + (k + 1))).toInt ∧ (nI (13 * r + (k + 1))).toInt < (169 : Nat) := by rw [tnI (by omega)]; omega
          have b3 : 0 ≤ (nI (13 * (r + 1) + (k + 1))).toInt ∧ (nI (13 * (r + 1) + (k + 1))).toInt < (169 : Nat) := by rw [tnI (by omega)]; omega
          have t1 : vm 86 (13 * (r + 1) + k) = nI (lcs u v na nb p (q + 1)) := by
            rw [hd (r + 1) k (by omega) (by omega) (Or.inl (by omega)), show na - (r + 1) = p by omega, hq]
          have t2 : vm 86 (13 * r + (k + 1)) = nI (lcs u v na nb (p + 1) q) := by
            rw [hd r (k + 1) (by omega) (by omega) (Or.inr ⟨rfl, by omega⟩), show nb - (k + 1) = q by omega, hp]
          have t3 : vm 86 (13 * (r + 1) + (k + 1)) = nI (lcs u v na nb p q) := by
            rw [hd (r + 1) (k + 1) (by omega) (by omega) (Or.inl (by omega)), show na - (r + 1) = p by omega, show nb - (k + 1) = q by omega]
          have y1 := lcs_le (u := u) (v := v) (na := na) (nb := nb) p (q + 1)
          have y2 := lcs_le (u := u) (v := v) (na := na) (nb := nb) (p + 1) q
          have y3 := lcs_le (u := u) (v := v) (na := na) (nb := nb) p q
          have c1 : (nI (13 * (r + 1) + k)).toNatClampNeg = 13 * (r + 1) + k := nI_clamp (by omega)
          have c2 : (nI (13 * r + (k + 1))).toNatClampNeg = 13 * r + (k + 1) := nI_clamp (by omega)
          have c3 : (nI (13 * (r + 1) + (k + 1))).toNatClampNeg = 13 * (r + 1) + (k + 1) := nI_clamp (by omega)
          -- the greater of two, then the third
          have rest : ∀ k19 (w : Nat), w ≤ 1000 → fX10_findAlike_99 k7 k19 (nI a) (nI b) (nI r) (nI k) (nI w) vm = k19 (nI a) (nI b) (nI r) (nI k - 1) (j_up vm 86 (13 * r + k) (nI (if u r = v k then (if 1 + lcs u v na nb p q ≤ w then w else 1 + lcs u v na nb p q) else w))) := by
            intro k19 w hw
            rw [fX10_findAlike_99, whomAt_eq h5 (by omega), Option.bind_some, whomAt_eq h5' (by omega), Option.bind_some, hu r (by omega), hv k (by omega), x1, x3, if_inb b3, if_inb b3, c3, t3, show (1 : Int32) = nI 1 from rfl, nI_add]
            by_cases c : u r = v k
            · rw [if_pos c, if_pos c]
              by_cases cw : 1 + lcs u v na nb p q ≤ w
              · rw [if_pos (by rw [tle, tnI (by omega), tnI (by omega)]; omega), if_pos cw]
                exact put k7 k19 _
              · rw [if_neg (by rw [tle, tnI (by omega), tnI (by omega)]; omega), if_neg cw]
                exact put k7 k19 _
            · rw [if_neg c, if_neg c]
              exact put k7 k19 _
          rw [x1, if_inb b1, xc, x2, if_inb b2, if_inb b2, c1, c2, t1, t2, hp, hq, lcs_ss, e1, e2]
          by_cases cm : lcs u v na nb (p + 1) q ≤ lcs u v na nb p (q + 1)
          · rw [if_pos (by rw [tle, tnI (by omega), tnI (by omega)]; omega), rest _ _ (by omega)]
            by_cases c : u r = v k
            · have mx := lcs_max (u := u) (v := v) (na := na) (nb := nb) (p := p) (q := q) (by rw [e1, e2]; exact c)
              rw [if_pos c, if_pos c]
              by_cases cw : 1 + lcs u v na nb p q ≤ lcs u v na nb p (q + 1)
              · rw [if_pos cw, show lcs u v na nb p (q + 1) = 1 + lcs u v na nb p q by omega]
              · rw [if_neg cw]
            · rw [if_neg c, if_neg c, Nat.max_eq_left cm]
          · rw [if_neg (by rw [tle, tnI (by omega), tnI (by omega)]; omega), rest _ _ (by omega)]
            by_cases c : u r = v k
            · have mx := lcs_max (u := u) (v := v) (na := na) (nb := nb) (p := p) (q := q) (by rw [e1, e2]; exact c)
              rw [if_pos c, if_pos c]
              by_cases cw : 1 + lcs u v na nb p q ≤ lcs u v na nb (p + 1) q
              · rw [if_pos cw, show lcs u v na nb (p + 1) q = 1 + lcs u v na nb p q by omega]
              · rw [if_neg cw]
            · rw [if_neg c, if_neg c, Nat.max_eq_right (by omega)]
    obtain ⟨vm', a1, a2, a3⟩ := ih (j_up vm 86 (13 * r + k) (nI (lcs u v na nb (na - r) (nb - k)))) (by omega) (by rw [up_o (by decide)]; exact w1) (by rw [up_o (by decide)]; exact w2) (fun i hi => by rw [up_o (by decide)]; exact hu i hi) (fun i hi => by rw [up_o (by decide)]; exact hv i hi) (by
      intro i j hi hj hh
      by_cases c : i = r ∧ j = k
      · obtain ⟨rfl, rfl⟩ := c
        rw [up_s]
      · rw [up_i (by omega)]
        exact hd i j hi hj (by omega))
    refine ⟨vm', fun k7 F hF => ?_, a2, fun o i q => by rw [a3 o i q, up_o q]⟩
    obtain ⟨F, rfl⟩ : ∃ F', F = F' + 1 := ⟨F - 1, by omega⟩
    rw [nsub1 (by omega), cell]
    exact a1 k7 F (by omega)
theorem find_outer {a b na nb : Nat} {u v : Nat → Int32} (h5 : a < 5) (h5' : b < 5) (hna : na ≤ 12) (hnb : nb ≤ 12) : ∀ (r : Nat) (vm : VI), r ≤ na + 1 → vm 67 a = nI na → vm 67 b = nI nb → (∀ i, i < na → vm 68 (12 * a + i) = u i) → (∀ i, i < nb → vm 68 (12 * b + i) = v i) → (∀ i j, i ≤ na → j ≤ nb → r ≤ i → vm 86 (13 * i + j) = nI (lcs u v na nb (na - i) (nb - j))) → ∃ vm', (∀ F, r < F → fX10_findAlike_7 F (nI a) (nI b) (nI r - 1) vm = some vm') ∧ tabM vm' u v na nb ∧ ∀ o i, o ≠ 86 → vm' o i = vm o i := by
  intro r
  induction r with
  | zero =>
    intro vm q1 w1 w2 hu hv hd
    refine ⟨vm, fun F hF => ?_, fun i j hi hj => hd i j hi hj (by omega), fun _ _ _ => rfl⟩
    obtain ⟨F, rfl⟩ : ∃ F', F = F' + 1 := ⟨F - 1, by omega⟩
    rw [fX10_findAlike_7, if_pos (by decide)]
  | succ r ih =>
    intro vm q1 w1 w2 hu hv hd
    obtain ⟨vm1, same, b2, b3⟩ := find_inner h5 h5' hna hnb (u := u) (v := v) (r := r) (by omega) (nb + 1) vm (Nat.le_refl _) w1 w2 hu hv (fun i j hi hj hh => hd i j hi hj (by omega))
    obtain ⟨vm', a1, a2, a3⟩ := ih vm1 (by omega) (by rw [b3 _ _ (by decide)]; exact w1) (by rw [b3 _ _ (by decide)]; exact w2) (fun i hi => by rw [b3 _ _ (by decide)]; exact hu i hi) (fun i hi => by rw [b3 _ _ (by decide)]; exact hv i hi) b2
    refine ⟨vm', fun F hF => ?_, a2, fun o i q => by rw [a3 o i q, b3 o i q]⟩
    obtain ⟨F, rfl⟩ : ∃ F', F = F' + 1 := ⟨F - 1, by omega⟩
    have s := same (fX10_findAlike_7 F) FU (by rw [FU_eq]; omega)
    rw [nsub1 (by omega)] at s
    rw [nsub1 (by omega), fX10_findAlike_7, if_neg (by rw [tlt, l0, tnI (by omega)]; omega), if_inb (by rw [tnI (by omega)]; omega), nI_clamp (by omega), w2, s]
    exact a1 F (by omega)
theorem find_eq {vc vm : VI} {a b na nb : Nat} {u v : Nat → Int32} (ha : ordIs vc vm a na u) (hb : ordIs vc vm b nb v) : ∃ vm', fX10_findAlike (nI a) (nI b) vm = some vm' ∧ tabM vm' u v na nb ∧ ∀ o i, o ≠ 86 → vm' o i = vm o i := by
  have hna := ha.2.1
  have h5 := ha.1
  obtain ⟨vm', a1, a2, a3⟩ := find_outer ha.1 hb.1 ha.2.1 hb.2.1 (u := u) (v := v) (na + 1) vm (Nat.le_refl _) ha.2.2.2.1 hb.2.2.2.1 ha.2.2.2.2.2.1 hb.2.2.2.2.2.1 (fun i j hi hj hh => absurd hh (by omega))
  refine ⟨vm', ?_, a2, a3⟩
  unfold fX10_findAlike
  rw [if_inb (by rw [tnI (by omega)]; omega), nI_clamp (by omega), ha.2.2.2.1]
  have := a1 FU (by rw [FU_eq]; omega)
  rw [nsub1 (by omega)] at this
  exact this
/-- the k-th, both -/
theorem kth_both {vc vm : VI} {a b na nb k : Nat} {u v : Nat → Int32} (ha : ordIs vc vm a na u) (hb : ordIs vc vm b nb v) (tc : tabC vc u v na nb) (tm : tabM vm u v na nb) (hk : k < lcs u v na nb na nb) : ∀ (m n i j : Nat) (y : Int32), k - n = m → n ≤ k → i ≤ na → j ≤ nb → n + lcs u v na nb (na - i) (nb - j) = lcs u v na nb na nb → ∃ r, (∀ F, m + 1 < F → fX9_kthAlike_13 (99 + 5 * a) (99 + 5 * b) vc F (nI k) (nI i) (nI j) y (nI n) = some r) ∧ ∀ F, m < F → fX10_alike_66 F (nI k) (nI a) (nI b) (nI i) (nI j) (nI n) vm = some (r, vm) := by
  have hna := ha.2.1
  have hnb := hb.2.1
  have hle := lcs_le (u := u) (v := v) (na := na) (nb := nb) na nb
  intro m
  induction m with
  | zero =>
    intro n i j y q1 q2 hi hj hn
    have en : n = k := by omega
    subst en
    obtain ⟨p, i1, j1, s1, s2, s3, s4, s5, s6, s7, s8, s9, s10⟩ := least_both ha hb tc tm hi hj (by omega) (nI n) (nI n)
    refine ⟨nI p, fun F hF => ?_, fun F hF => ?_⟩
    · obtain ⟨F, rfl⟩ : ∃ F', F = F' + 2 := ⟨F - 2, by omega⟩
      rw [fX9_kthAlike_13, if_neg (by rw [tlt]; omega), if_neg (by rw [tle, l12, tnI (by omega)]; omega), s7, Option.bind_some, if_pos (by rw [tle, l0, tnI (by omega)]; omega), s8, Option.bind_some, s9, Option.bind_some, fX9_kthAlike_13, if_pos (by rw [nI_1, tlt, tnI (by omega), tnI (by omega)]; omega)]
    · obtain ⟨F, rfl⟩ : ∃ F', F = F' + 1 := ⟨F - 1, by omega⟩
      rw [fX10_alike_66, if_neg (by rw [tlt]; omega), s10, if_pos rfl]
  | succ m ih =>
    intro n i j y q1 q2 hi hj hn
    obtain ⟨p, i1, j1, s1, s2, s3, s4, s5, s6, s7, s8, s9, s10⟩ := least_both ha hb tc tm hi hj (by omega) (nI k) (nI n)
    obtain ⟨r, a1, a2⟩ := ih (n + 1) (i1 + 1) (j1 + 1) (nI p) (by omega) (by omega) (by omega) (by omega) (by omega)
    refine ⟨r, fun F hF => ?_, fun F hF => ?_⟩
    · obtain ⟨F, rfl⟩ : ∃ F', F = F' + 1 := ⟨F - 1, by omega⟩
      rw [fX9_kthAlike_13, if_neg (by rw [tlt, tnI (by omega), tnI (by omega)]; omega), if_neg (by rw [tle, l12, tnI (by omega)]; omega), s7, Option.bind_some, if_pos (by rw [tle, l0, tnI (by omega)]; omega), s8, Option.bind_some, s9, Option.bind_some, nI_1, nI_1, nI_1]
      exact a1 F (by omega)
    · obtain ⟨F, rfl⟩ : ∃ F', F = F' + 1 := ⟨F - 1, by omega⟩
      rw [fX10_alike_66, if_neg (by rw [tlt, tnI (by omega), tnI (by omega)]; omega), s10, if_neg (by rw [nI_inj (by omega) (by omega)]; omega), nI_1]
      exact a2 F (by omega)
theorem ord_of {ns j : Nat} {vi : VI} (h5 : ns ≤ 5) (hd : I_dust ns vi) (hj : j < ns) : ∃ n, ordIs vi vi j n (fun k => vi 68 (12 * j + k)) := by
  obtain ⟨n, d1, d2, d3, d4⟩ := hd j hj
  exact ⟨n, by omega, d1, d2, d3, fun k hk => (d4 k hk).1, fun k hk => rfl, fun k hk => (d4 k hk).2.2.1⟩
theorem ord_frame {vc vm vc' vm' : VI} {j n : Nat} {u : Nat → Int32} (h : ordIs vc vm j n u) (h1 : ∀ o i, 99 ≤ o → vc' o i = vc o i) (h2 : ∀ o i, 67 ≤ o → o ≤ 68 → vm' o i = vm o i) : ordIs vc' vm' j n u := by
  obtain ⟨k1, k2, k3, k4, k5, k6, k7⟩ := h
  exact ⟨k1, k2, (h1 _ _ (by omega)).trans k3, (h2 _ _ (by omega) (by omega)).trans k4, fun k hk => (h1 _ _ (by omega)).trans (k5 k hk), fun k hk => (h2 _ _ (by omega) (by omega)).trans (k6 k hk), k7⟩
theorem p_alike {ns : Nat} {vi : VI} (hn : I_num ns vi) (hd : I_dust ns vi) (x1 x2 : Int32) : ∃ r vi1, fX9_alike ns x1 x2 vi = some (r, vi1) ∧ ∃ vi2, fX10_alike x1 x2 vi1 = some (r, vi2) ∧ ∀ o i, o ≠ 22 → o ≠ 86 → vi2 o i = vi o i := by
  have h5 := hn.1
  unfold fX9_alike
  rcases ab_eq h5 hn.2.1 hn.2.2.1 x1 with ⟨a, b, ha, hb, e1, e2, e3, e4, e5⟩ | ⟨e3, e4, ⟨ra, e5⟩, ⟨rb, e6⟩⟩
  · rw [e4, e5]
    simp only [Option.bind_some, optS]
    rw [show 98 + 5 * a + 1 = 99 + 5 * a by omega, show 98 + 5 * b + 1 = 99 + 5 * b by omega]
    by_cases cm : -1 ≤ x2
    · rw [if_pos cm]
      obtain ⟨na, oa⟩ := ord_of h5 hd ha
      obtain ⟨nb, ob⟩ := ord_of h5 hd hb
      obtain ⟨v1, a1, a2, a3⟩ := measure_eq oa ob
      have ns1 : fX10_areSills x1 v1 = some true := by
        rcases ab_eq h5 (vi := vi) (vm := v1) hn.2.1 (by rw [a3 63 1 (by decide)]; exact hn.2.2.1) x1 with ⟨-, -, -, -, -, -, z, -, -⟩ | ⟨-, z, -⟩
        · exact z
        · rcases z with z | z
          · rw [e4] at z; exact absurd z (by simp)
          · rw [e5] at z; exact absurd z (by simp)
      have oa1 : ordIs v1 v1 a na (fun k => vi 68 (12 * a + k)) := ord_frame oa (fun o i q => a3 o i (by omega)) (fun o i q q' => a3 o i (by omega))
      have ob1 : ordIs v1 v1 b nb (fun k => vi 68 (12 * b + k)) := ord_frame ob (fun o i q => a3 o i (by omega)) (fun o i q q' => a3 o i (by omega))
      obtain ⟨v2, b1, b2, b3⟩ := find_eq oa1 ob1
      have oa2 : ordIs v1 v2 a na (fun k => vi 68 (12 * a + k)) := ord_frame oa1 (fun o i q => rfl) (fun o i q q' => b3 o i (by omega))
      have ob2 : ordIs v1 v2 b nb (fun k => vi 68 (12 * b + k)) := ord_frame ob1 (fun o i q => rfl) (fun o i q q' => b3 o i (by omega))
      have fr : ∀ o i, o ≠ 22 → o ≠ 86 → v2 o i = vi o i := fun o i q1 q2 => (b3 o i q2).trans (a3 o i q1)
      have hna := oa.2.1
      have hnb := ob.2.1
      obtain ⟨L, hL⟩ : ∃ L, L = lcs (fun k => vi 68 (12 * a + k)) (fun k => vi 68 (12 * b + k)) na nb na nb := ⟨_, rfl⟩
      have hle : L ≤ na := by rw [hL]; exact lcs_le na nb
      have t0 : v1 22 (0 * 13 + 0) = nI L := by rw [a2 0 0 (by omega) (by omega), hL]; rfl
      have t1 : v2 86 0 = nI L := by
        have := b2 0 0 (by omega) (by omega)
        rw [show 13 * 0 + 0 = 0 from rfl, Nat.sub_zero, Nat.sub_zero] at this
        rw [this, hL]
      rw [a1]
      simp only [Option.bind_some]
      rw [show (0 : Int32) = nI 0 from rfl, longest_eq v1 (by omega) (by omega), t0]
      simp only [Option.bind_some]
      unfold fX10_alike
      by_cases c0 : nI 0 ≤ x2
      · rw [if_pos c0]
        obtain ⟨k, hk, rfl⟩ := ex_nI (x := x2) (N := 2147483648) (by rw [tle, tnI (by omega)] at c0; omega) (by have := thi x2; omega) (by omega)
        by_cases ck : L ≤ k
        · rw [if_pos (by rw [tle, tnI (by omega), tnI (by omega)]; omega)]
          refine ⟨_, _, rfl, v2, ?_, fr⟩
          rw [ns1, e2, e1]
          simp only [Option.bind_some, if_true]
          rw [if_pos cm, b1, Option.bind_some, show (0 : Int32) = nI 0 from rfl, if_pos c0, show (nI 0).toNatClampNeg = 0 from rfl, t1, if_neg (by rw [tlt, tnI (by omega), tnI (by omega)]; omega)]
        · rw [if_neg (by rw [tle, tnI (by omega), tnI (by omega)]; omega)]
          obtain ⟨r, c1, c2⟩ := kth_both oa2 ob2 a2 b2 (k := k) (by rw [← hL]; omega) k 0 0 0 (-2) (by omega) (by omega) (by omega) (by omega) (by rw [Nat.sub_zero, Nat.sub_zero]; omega)
          unfold fX9_kthAlike
          have c1' := c1 FU (by rw [FU_eq]; omega)
          have c2' := c2 FU (by rw [FU_eq]; omega)
          rw [show (0 : Int32) = nI 0 from rfl, c1']
          refine ⟨r, v1, rfl, v2, ?_, fr⟩
          rw [ns1, e2, e1]
          simp only [Option.bind_some, if_true]
          rw [if_pos cm, b1, Option.bind_some, if_pos c0, show (nI 0).toNatClampNeg = 0 from rfl, t1, if_pos (by rw [tlt, tnI (by omega), tnI (by omega)]; omega), c2']
      · rw [if_neg c0]
        refine ⟨_, _, rfl, v2, ?_, fr⟩
        rw [ns1, e2, e1]
        simp only [Option.bind_some, if_true]
        rw [if_pos cm, b1, Option.bind_some, show (0 : Int32) = nI 0 from rfl, if_neg c0, show (nI 0).toNatClampNeg = 0 from rfl, t1]
    · rw [if_neg cm]
      refine ⟨-1, vi, rfl, vi, ?_, fun _ _ _ _ => rfl⟩
      unfold fX10_alike
      rw [e3]
      simp only [Option.bind_some, if_true]
      rw [if_neg cm]
  · refine ⟨-1, vi, ?_, vi, ?_, fun _ _ _ _ => rfl⟩
    · rcases e4 with e4 | e4
      · rw [e4, e6]
        cases rb <;> rfl
      · rw [e5, e4]
        cases ra <;> rfl
    · unfold fX10_alike
      rw [e3, Option.bind_some]
      rfl
