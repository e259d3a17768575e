/-! DUST -/
def I_dust (ns : Nat) (vi : VI) : Prop := ∀ j, j < ns → ∃ n : Nat, n ≤ 12 ∧ vi (99 + 5 * j) 2 = nI n ∧ vi 67 j = nI n ∧ ∀ k, k < n → vi (100 + 5 * j) k = vi 68 (12 * j + k) ∧ vi (101 + 5 * j) k = vi 69 (12 * j + k) ∧ rng (vi 68 (12 * j + k)) 0 5 ∧ rng (vi 69 (12 * j + k)) 1 99
theorem dust_frame {ns : Nat} {vi vi' : VI} (h : I_dust ns vi) (hf : ∀ o i, (o = 67 ∨ o = 68 ∨ o = 69 ∨ (99 ≤ o ∧ o % 5 = 4 ∧ i = 2) ∨ (100 ≤ o ∧ (o % 5 = 0 ∨ o % 5 = 1))) → vi' o i = vi o i) : I_dust ns vi' := by
  intro j hj
  obtain ⟨n, h1, h2, h3, h4⟩ := h j hj
  refine ⟨n, h1, (hf _ _ (by omega)).trans h2, (hf _ _ (by omega)).trans h3, fun k hk => ?_⟩
  rw [hf (100 + 5 * j) k (by omega), hf (101 + 5 * j) k (by omega), hf 68 _ (by omega), hf 69 _ (by omega)]
  exact h4 k hk
theorem tells_eq {vi : VI} {o n : Nat} (hn : n ≤ 12) (h : vi o 2 = nI n) (x w : Int32) : fX3_tells o x w vi = some (if 0 ≤ x.toInt ∧ x.toInt < n then (if w = 0 then vi (o + 1) x.toInt.toNat else vi (o + 2) x.toInt.toNat) else -2) := by
  unfold fX3_tells
  rw [h]
  simp only [tlt, l0, tnI (show n < 2147483648 by omega), tn]
  by_cases c : x.toInt < 0
  · rw [if_pos c, if_neg (by omega)]
  · rw [if_neg c]
    by_cases c2 : x.toInt < n
    · have b : 0 ≤ x.toInt ∧ x.toInt < (12 : Nat) := by omega
      have q : 0 ≤ x.toInt ∧ x.toInt < n := by omega
      simp only [if_pos c2, if_inb b, if_pos q]
      split <;> rfl
    · rw [if_neg c2, if_neg (by omega)]
theorem p_layer {ns : Nat} {vi : VI} (hn : I_num ns vi) (hd : I_dust ns vi) (x1 x2 x3 : Int32) : ∃ r, fX9_layer ns x1 x2 x3 vi = some r ∧ fX10_layer x1 x2 x3 vi = some r := by
  obtain ⟨h5, n1, n2, -⟩ := hn
  unfold fX9_layer fX10_layer
  rw [sillAt_eq h5 n1, isSill_eq h5 n2]
  simp only [Option.bind_some, within_eq, in_eq, decide_eq_true_eq, l0, l1]
  by_cases c : 0 ≤ x1.toInt ∧ x1.toInt < ns
  · simp only [if_pos c, optS]
    obtain ⟨j, hj, rfl⟩ := ex_nI c.1 c.2 (by omega)
    have cj : (nI j).toNatClampNeg = j := nI_clamp (by omega)
    have bj : 0 ≤ (nI j).toInt ∧ (nI j).toInt < (5 : Nat) := by omega
    obtain ⟨n, d1, d2, d3, d4⟩ := hd j hj
    simp only [cj, if_inb bj, d3]
    by_cases c2 : x2 < 0
    · simp only [if_pos c2]; exact ⟨_, rfl, rfl⟩
    · simp only [if_neg c2]
      by_cases c3 : 0 ≤ x3.toInt ∧ x3.toInt ≤ 1
      · simp only [if_pos c3]
        rw [show 98 + 5 * j + 1 = 99 + 5 * j by omega, tells_eq d1 d2]
        simp only [Option.bind_some]
        rw [tlt, l0] at c2
        by_cases c4 : x2.toInt < n
        · obtain ⟨k, hk, rfl⟩ := ex_nI (x := x2) (N := n) (by omega) c4 (by omega)
          have ek : (12 * nI j + nI k : Int32) = nI (12 * j + k) := by rw [show (12 : Int32) = nI 12 from rfl, pk_mul, nI_add]
          have bk : 0 ≤ (nI (12 * j + k)).toInt ∧ (nI (12 * j + k)).toInt < (60 : Nat) := by rw [tnI (by omega)]; omega
          have c5 : nI k < nI n := by rw [tlt, tnI (show n < 2147483648 by omega)]; exact c4
          obtain ⟨g1, g2, g3, g4⟩ := d4 k hk
          have e2 : (nI k).toInt.toNat = k := by rw [tnI (by omega)]; omega
          simp only [if_pos c5, ek, if_inb bk, nI_clamp (show 12 * j + k < 2 ^ 31 by omega), e2]
          rw [if_pos (by omega), show 99 + 5 * j + 1 = 100 + 5 * j by omega, show 99 + 5 * j + 2 = 101 + 5 * j by omega, g1, g2]
          split <;> exact ⟨_, rfl, rfl⟩
        · have c5 : ¬ x2 < nI n := by rw [tlt, tnI (by omega)]; exact c4
          rw [if_neg (by omega)]
          simp only [if_neg c5]
          exact ⟨_, rfl, rfl⟩
      · simp only [if_neg c3]; exact ⟨_, rfl, rfl⟩
  · simp only [if_neg c, optS]; exact ⟨_, rfl, rfl⟩
