/-! NUMBERS: fills, SILLS, forgetting -/
theorem fillI8 {x0 N : Nat} {x : Int32} (hN : N ≤ 20000) : ∀ (m i F : Nat) (vi : VI), N - i = m → m < F → i ≤ N → ∃ vi', fJ7_fill_031fb_5 x0 N F x (nI i) (nI N) vi = some vi' ∧ ∀ o k, vi' o k = if o = x0 ∧ i ≤ k ∧ k < N then x.toInt8.toInt32 else vi o k := by
  intro m
  induction m with
  | zero =>
    intro i F vi h1 h2 h3
    obtain ⟨F, rfl⟩ : ∃ F', F = F' + 1 := ⟨F - 1, by omega⟩
    rw [fJ7_fill_031fb_5, if_pos (by rw [tle, tnI (by omega), tnI (by omega)]; omega)]
    exact ⟨vi, rfl, fun o k => by rw [if_neg (by omega)]⟩
  | succ m ih =>
    intro i F vi h1 h2 h3
    obtain ⟨F, rfl⟩ : ∃ F', F = F' + 1 := ⟨F - 1, by omega⟩
    rw [fJ7_fill_031fb_5, if_neg (by rw [tle, tnI (by omega), tnI (by omega)]; omega), if_inb (by rw [tnI (by omega)]; omega), nI_1, nI_clamp (by omega)]
    obtain ⟨vi', e1, e2⟩ := ih (i + 1) F (j_up vi x0 i x.toInt8.toInt32) (by omega) (by omega) (by omega)
    refine ⟨vi', e1, fun o k => ?_⟩
    rw [e2, up_at]
    by_cases c : o = x0 ∧ i + 1 ≤ k ∧ k < N
    · rw [if_pos c, if_pos (by omega)]
    · rw [if_neg c]
      by_cases c2 : o = x0 ∧ k = i
      · rw [if_pos c2, if_pos (by omega)]
      · rw [if_neg c2, if_neg (by omega)]
theorem fillI {x0 N : Nat} {x : Int32} (hN : N ≤ 20000) : ∀ (m i F : Nat) (vi : VI), N - i = m → m < F → i ≤ N → ∃ vi', fJ7_fill_53178_5 x0 N F x (nI i) (nI N) vi = some vi' ∧ ∀ o k, vi' o k = if o = x0 ∧ i ≤ k ∧ k < N then x else vi o k := by
  intro m
  induction m with
  | zero =>
    intro i F vi h1 h2 h3
    obtain ⟨F, rfl⟩ : ∃ F', F = F' + 1 := ⟨F - 1, by omega⟩
    rw [fJ7_fill_53178_5, if_pos (by rw [tle, tnI (by omega), tnI (by omega)]; omega)]
    exact ⟨vi, rfl, fun o k => by rw [if_neg (by omega)]⟩
  | succ m ih =>
    intro i F vi h1 h2 h3
    obtain ⟨F, rfl⟩ : ∃ F', F = F' + 1 := ⟨F - 1, by omega⟩
    rw [fJ7_fill_53178_5, if_neg (by rw [tle, tnI (by omega), tnI (by omega)]; omega), if_inb (by rw [tnI (by omega)]; omega), nI_1, nI_clamp (by omega)]
    obtain ⟨vi', e1, e2⟩ := ih (i + 1) F (j_up vi x0 i x) (by omega) (by omega) (by omega)
    refine ⟨vi', e1, fun o k => ?_⟩
    rw [e2, up_at]
    by_cases c : o = x0 ∧ i + 1 ≤ k ∧ k < N
    · rw [if_pos c, if_pos (by omega)]
    · rw [if_neg c]
      by_cases c2 : o = x0 ∧ k = i
      · rw [if_pos c2, if_pos (by omega)]
      · rw [if_neg c2, if_neg (by omega)]
theorem fillI_eq {x0 N : Nat} {x : Int32} (hN : N ≤ 20000) (vi : VI) : ∃ vi', fJ7_fill_53178 x0 N x vi = some vi' ∧ ∀ o k, vi' o k = if o = x0 ∧ k < N then x else vi o k := by
  obtain ⟨vi', e1, e2⟩ := fillI (x0 := x0) (x := x) hN N 0 FU vi (by omega) (by rw [FU_eq]; omega) (by omega)
  refine ⟨vi', e1, fun o k => ?_⟩
  rw [e2]
  by_cases c : o = x0 ∧ k < N
  · rw [if_pos c, if_pos (by omega)]
  · rw [if_neg c, if_neg (by omega)]
theorem forget_eq (o : Nat) (vi : VI) : ∃ vi', fX7_forget o vi = some vi' ∧ ∀ a k, vi' a k = if a = o + 4 ∧ k < 780 then 0 else vi a k := by
  obtain ⟨vi', e1, e2⟩ := fillI8 (x0 := o + 4) (N := 780) (x := 0) (by omega) 780 0 FU vi (by omega) (by rw [FU_eq]; omega) (by omega)
  refine ⟨vi', ?_, fun a k => ?_⟩
  · unfold fX7_forget fJ7_fill_031fb
    rw [show (Int32.ofNat 780) = nI 780 from rfl, show (0 : Int32) = nI 0 from rfl] at *
    rw [e1]; rfl
  · rw [e2]
    by_cases c : a = o + 4 ∧ k < 780
    · rw [if_pos c, if_pos (by omega)]; rfl
    · rw [if_neg c, if_neg (by omega)]
/-- numbers, as the class and the model have them -/
def I_num (ns : Nat) (vi : VI) : Prop := ns ≤ 5 ∧ vi 0 1 = nI ns ∧ vi 63 1 = nI ns ∧ (∀ j, j < ns → vi (98 + 5 * j) 3 = vi 64 j ∧ vi (98 + 5 * j) 4 = vi 65 j ∧ rng (vi 64 j) 0 9 ∧ rng (vi 65 j) 0 9) ∧ (∀ p, p < 6 → vi 2 p = vi 66 p ∧ rng (vi 66 p) 0 9) ∧ vi 5 2 = vi 63 5 ∧ rng (vi 63 5) 0 3
def F_num (o i : Nat) : Prop := (o = 0 ∧ i = 1) ∨ (o = 63 ∧ i = 1) ∨ (98 ≤ o ∧ (i = 3 ∨ i = 4) ∧ (o - 98) % 5 = 0) ∨ o = 64 ∨ o = 65 ∨ o = 66 ∨ o = 2 ∨ (o = 5 ∧ i = 2) ∨ (o = 63 ∧ i = 5)
theorem num_frame {ns : Nat} {vi vi' : VI} (h : I_num ns vi) (hf : ∀ o i, F_num o i → vi' o i = vi o i) : I_num ns vi' := by
  obtain ⟨h1, h2, h3, h4, h5, h6, h7⟩ := h
  refine ⟨h1, ?_, ?_, fun j hj => ?_, fun p hp => ?_, ?_, ?_⟩
  · rw [hf _ _ (Or.inl ⟨rfl, rfl⟩)]; exact h2
  · rw [hf _ _ (Or.inr (Or.inl ⟨rfl, rfl⟩))]; exact h3
  · rw [hf _ _ (Or.inr (Or.inr (Or.inl ⟨by omega, Or.inl rfl, by omega⟩))), hf _ _ (Or.inr (Or.inr (Or.inl ⟨by omega, Or.inr rfl, by omega⟩))), hf 64 _ (by simp [F_num]), hf 65 _ (by simp [F_num])]
    exact h4 j hj
  · rw [hf 2 _ (by simp [F_num]), hf 66 _ (by simp [F_num])]; exact h5 p hp
  · rw [hf 5 2 (by simp [F_num]), hf 63 5 (by simp [F_num])]; exact h6
  · rw [hf 63 5 (by simp [F_num])]; exact h7
theorem sillAt_eq {ns : Nat} {vi : VI} (h5 : ns ≤ 5) (h : vi 0 1 = nI ns) (x : Int32) : fX9_sillAt ns x vi = some (if 0 ≤ x.toInt ∧ x.toInt < ns then some (98 + 5 * x.toNatClampNeg) else none) := by
  unfold fX9_sillAt
  rw [h]
  simp only [tlt, tle, l0, l5, tnI (show ns < 2147483648 by omega)]
  split
  · rw [if_neg (by omega)]
  · split
    · rw [if_neg (by omega)]
    · split
      · omega
      · rw [if_inb (by omega), if_pos (by omega)]
theorem sillAt_in {ns j : Nat} {vi : VI} (h5 : ns ≤ 5) (h : vi 0 1 = nI ns) (hj : j < ns) : fX9_sillAt ns (nI j) vi = some (some (98 + 5 * j)) := by
  rw [sillAt_eq h5 h, if_pos (by rw [tnI (by omega)]; omega), nI_clamp (by omega)]
theorem sillAt_out {ns : Nat} {vi : VI} {x : Int32} (h5 : ns ≤ 5) (h : vi 0 1 = nI ns) (hx : ¬ (0 ≤ x.toInt ∧ x.toInt < ns)) : fX9_sillAt ns x vi = some none := by
  rw [sillAt_eq h5 h, if_neg hx]
theorem isSill_eq {ns : Nat} {vi : VI} (h5 : ns ≤ 5) (h : vi 63 1 = nI ns) (x : Int32) : fX10_isSill x vi = some (decide (0 ≤ x.toInt ∧ x.toInt < ns)) := by
  unfold fX10_isSill
  have e : (nI ns - 1).toInt = (ns : Int) - 1 := by rw [tsub (by rw [tnI (by omega), l1]; omega) (by rw [tnI (by omega), l1]; omega), tnI (by omega), l1]
  rw [h, in_eq, Option.bind_some, e, l0]
  congr 1
  rw [decide_eq_decide]
  omega
theorem forgetAll_eq {ns : Nat} (h5 : ns ≤ 5) : ∀ (m j F : Nat) (vi : VI), ns - j = m → m < F → j ≤ ns → vi 0 1 = nI ns → ∃ vi', fX9_forgetAll_2 ns F (nI j) vi = some vi' ∧ ∀ o k, vi' o k = if (102 + 5 * j ≤ o ∧ o < 102 + 5 * ns ∧ o % 5 = 2) ∧ k < 780 then 0 else vi o k := by
  intro m
  induction m with
  | zero =>
    intro j F vi h1 h2 h3 h
    obtain ⟨F, rfl⟩ : ∃ F', F = F' + 1 := ⟨F - 1, by omega⟩
    rw [fX9_forgetAll_2, h, if_pos (by rw [tle, tnI (by omega), tnI (by omega)]; omega)]
    exact ⟨vi, rfl, fun o k => by rw [if_neg (by omega)]⟩
  | succ m ih =>
    intro j F vi h1 h2 h3 h
    obtain ⟨F, rfl⟩ : ∃ F', F = F' + 1 := ⟨F - 1, by omega⟩
    rw [fX9_forgetAll_2, h, if_neg (by rw [tle, tnI (by omega), tnI (by omega)]; omega), if_inb (by rw [tnI (by omega)]; omega), nI_1, nI_clamp (by omega)]
    obtain ⟨v1, e1, e2⟩ := forget_eq (98 + 5 * j) vi
    rw [e1, Option.bind_some]
    obtain ⟨v2, e3, e4⟩ := ih (j + 1) F v1 (by omega) (by omega) (by omega) (by rw [e2, if_neg (by omega), h])
    refine ⟨v2, e3, fun o k => ?_⟩
    rw [e4, e2]
    by_cases c : (102 + 5 * (j + 1) ≤ o ∧ o < 102 + 5 * ns ∧ o % 5 = 2) ∧ k < 780
    · rw [if_pos c, if_pos (by omega)]
    · rw [if_neg c]
      by_cases c2 : o = 98 + 5 * j + 4 ∧ k < 780
      · rw [if_pos c2, if_pos (by omega)]
      · rw [if_neg c2, if_neg (by omega)]
/-- what of the law one SILL's giving depends on, in the model -/
def LawSame (j : Nat) (vi vm : VI) : Prop := vi 64 j = vm 64 j ∧ vi 65 j = vm 65 j ∧ vi 63 5 = vm 63 5 ∧ vi 63 28 = vm 63 28 ∧ ∀ o i, 75 ≤ o → (o ≤ 79 ∧ ((o ≤ 76 ∧ i < 130) ∨ (o = 77 ∧ i = 0) ∨ (78 ≤ o ∧ i < 61))) → vi o i = vm o i
def I_cache (ns : Nat) (vi : VI) : Prop := ∀ j, j < ns → ∀ ly one much, ly ≤ 12 → one < 6 → much < 10 → vi (102 + 5 * j) ((ly * 6 + one) * 10 + much) = 0 ∨ (rng (vi (102 + 5 * j) ((ly * 6 + one) * 10 + much)) 1 10 ∧ ∀ vm, LawSame j vi vm → ∃ vm', fX10_laysBy (nI j) (nI one) (nI much) (nI ly) vm = some (vi (102 + 5 * j) ((ly * 6 + one) * 10 + much) - 1, vm') ∧ ∀ o i, o ≠ 80 → o ≠ 81 → vm' o i = vm o i)
theorem cache_frame {ns : Nat} {vi vi' : VI} (h : I_cache ns vi) (h1 : ∀ j, j < ns → LawSame j vi vi') (h2 : ∀ j i, j < ns → i < 780 → vi' (102 + 5 * j) i = vi (102 + 5 * j) i ∨ vi' (102 + 5 * j) i = 0) : I_cache ns vi' := by
  intro j hj ly one much hl ho hm
  rcases h2 j ((ly * 6 + one) * 10 + much) hj (by omega) with e | e
  · rw [e]
    rcases h j hj ly one much hl ho hm with g | ⟨g1, g2⟩
    · exact Or.inl g
    · refine Or.inr ⟨g1, fun vm hv => g2 vm ?_⟩
      obtain ⟨a1, a2, a3, a4, a5⟩ := h1 j hj
      obtain ⟨b1, b2, b3, b4, b5⟩ := hv
      exact ⟨a1.trans b1, a2.trans b2, a3.trans b3, a4.trans b4, fun o i p q => (a5 o i p q).trans (b5 o i p q)⟩
  · exact Or.inl e
