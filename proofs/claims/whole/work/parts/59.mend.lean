/-! CHANGES: mend, undo, redo -/
def I_chg (ns : Nat) (vi : VI) : Prop := ∃ d u : Nat, d + u ≤ 40 ∧ vi 42 4 = nI d ∧ vi 42 5 = nI (d + u) ∧ vi 63 9 = nI d ∧ vi 63 10 = nI u ∧ ∀ i, i < d + u → vi 43 i = vi 71 i ∧ vi 44 i = vi 70 i ∧ vi 45 i = vi 72 i ∧ vi 46 i = vi 73 i ∧ okN ns (vi 71 i) (vi 70 i) ∧ okV (vi 70 i) (vi 72 i) ∧ okV (vi 70 i) (vi 73 i)
theorem chg_frame {ns : Nat} {vi vi' : VI} (h : I_chg ns vi) (hf : ∀ o i, Ch o i ∨ (o = 42) → vi' o i = vi o i) : I_chg ns vi' := by
  obtain ⟨d, u, h1, h2, h3, h4, h5, h6⟩ := h
  refine ⟨d, u, h1, ?_, ?_, ?_, ?_, fun i hi => ?_⟩
  · rw [hf _ _ (Or.inr rfl)]; exact h2
  · rw [hf _ _ (Or.inr rfl)]; exact h3
  · rw [hf _ _ (Or.inl (by unfold Ch; omega))]; exact h4
  · rw [hf _ _ (Or.inl (by unfold Ch; omega))]; exact h5
  · have := h6 i hi
    rw [hf 43 i (Or.inl (by unfold Ch; omega)), hf 44 i (Or.inl (by unfold Ch; omega)), hf 45 i (Or.inl (by unfold Ch; omega)), hf 46 i (Or.inl (by unfold Ch; omega)), hf 70 i (Or.inl (by unfold Ch; omega)), hf 71 i (Or.inl (by unfold Ch; omega)), hf 72 i (Or.inl (by unfold Ch; omega)), hf 73 i (Or.inl (by unfold Ch; omega))]
    exact this
theorem okN_mono {ns ns' : Nat} (h : ns ≤ ns') {n w : Int32} (k : okN ns n w) : okN ns' n w := by
  rcases k with ⟨a, b, c⟩ | k | k
  · exact Or.inl ⟨a, b, by omega⟩
  · exact Or.inr (Or.inl k)
  · exact Or.inr (Or.inr k)
theorem chg_mono {ns ns' : Nat} (h : ns ≤ ns') {vi : VI} (k : I_chg ns vi) : I_chg ns' vi := by
  obtain ⟨d, u, h1, h2, h3, h4, h5, h6⟩ := k
  exact ⟨d, u, h1, h2, h3, h4, h5, fun i hi => ⟨(h6 i hi).1, (h6 i hi).2.1, (h6 i hi).2.2.1, (h6 i hi).2.2.2.1, okN_mono h (h6 i hi).2.2.2.2.1, (h6 i hi).2.2.2.2.2⟩⟩
theorem kn13 {vi : VI} {e : Nat} (h : vi 42 4 = nI e) (he : e < 40) (n w x v : Int32) : fX1_keepNew_13 n w x v vi = some (j_up (j_up (j_up (j_up (j_up (j_up vi 43 e n) 44 e w) 45 e x) 46 e v) 42 4 (nI (e + 1))) 42 5 (nI (e + 1))) := by
  unfold fX1_keepNew_13
  have b : inb (nI e) 40 = true := inb_t (by rw [tnI (by omega)]; omega)
  simp (disch := decide) only [up_o, up_s, h, b, if_true, nI_clamp (show e < 2 ^ 31 by omega), nI_1]
theorem keepNew_eq {vi : VI} {d : Nat} (h : vi 42 4 = nI d) (hd : d ≤ 40) (n w x v : Int32) : ∃ vi' e, fX1_keepNew n w x v vi = some vi' ∧ e = (if d < 40 then d else 39) ∧ vi' 42 4 = nI (e + 1) ∧ vi' 42 5 = nI (e + 1) ∧ vi' 43 e = n ∧ vi' 44 e = w ∧ vi' 45 e = x ∧ vi' 46 e = v ∧ (∀ o i, 43 ≤ o → o ≤ 46 → i < e → vi' o i = vi o (if d < 40 then i else i + 1)) ∧ ∀ o i, (o < 42 ∨ 46 < o) → vi' o i = vi o i := by
  unfold fX1_keepNew
  rw [h]
  by_cases c : d < 40
  · rw [if_pos (by rw [tlt, tnI (by omega), l40]; omega), kn13 h c]
    refine ⟨_, d, rfl, by rw [if_pos c], ?_, ?_, ?_, ?_, ?_, ?_, fun o i h1 h2 h3 => ?_, fun o i h1 => ?_⟩
    · simp (disch := decide) only [up_o, up_i, up_s]
    · simp (disch := decide) only [up_o, up_i, up_s]
    · simp (disch := decide) only [up_o, up_i, up_s]
    · simp (disch := decide) only [up_o, up_i, up_s]
    · simp (disch := decide) only [up_o, up_i, up_s]
    · simp (disch := decide) only [up_o, up_i, up_s]
    · rw [if_pos c, up_o (by omega), up_o (by omega), up_i (by omega), up_i (by omega), up_i (by omega), up_i (by omega)]
    · rw [up_o (by omega), up_o (by omega), up_o (by omega), up_o (by omega), up_o (by omega), up_o (by omega)]
  · rw [if_neg (by rw [tlt, tnI (by omega), l40]; omega)]
    have dr : ∃ v1, fX1_dropOldest vi = some v1 ∧ v1 42 4 = nI 39 ∧ (∀ o i, 43 ≤ o → o ≤ 46 → i < 39 → v1 o i = vi o (i + 1)) ∧ ∀ o i, (o < 42 ∨ 46 < o) → v1 o i = vi o i := by
      unfold fX1_dropOldest
      have b : cpok 1 0 39 40 40 = true := by decide
      simp only [b, if_true, show (1 : Int32).toNatClampNeg = 1 from rfl, show (0 : Int32).toNatClampNeg = 0 from rfl, show (39 : Int32).toNatClampNeg = 39 from rfl]
      refine ⟨_, rfl, up_s, fun o i h1 h2 h3 => ?_, fun o i h1 => ?_⟩
      · rw [up_o (by omega)]
        have e4 : o = 43 ∨ o = 44 ∨ o = 45 ∨ o = 46 := by omega
        rcases e4 with rfl | rfl | rfl | rfl
        · simp [j_row, va_cpy, h3, Nat.add_comm]
        · simp [j_row, va_cpy, h3, Nat.add_comm]
        · simp [j_row, va_cpy, h3, Nat.add_comm]
        · simp [j_row, va_cpy, h3, Nat.add_comm]
      · rw [up_o (by omega), j_row, if_neg (by omega), j_row, if_neg (by omega), j_row, if_neg (by omega), j_row, if_neg (by omega)]
    obtain ⟨v1, e1, e2, e3, e4⟩ := dr
    rw [e1, Option.bind_some, kn13 e2 (by omega)]
    refine ⟨_, 39, rfl, by rw [if_neg c], ?_, ?_, ?_, ?_, ?_, ?_, fun o i h1 h2 h3 => ?_, fun o i h1 => ?_⟩
    · simp (disch := decide) only [up_o, up_i, up_s]
    · simp (disch := decide) only [up_o, up_i, up_s]
    · simp (disch := decide) only [up_o, up_i, up_s]
    · simp (disch := decide) only [up_o, up_i, up_s]
    · simp (disch := decide) only [up_o, up_i, up_s]
    · simp (disch := decide) only [up_o, up_i, up_s]
    · rw [if_neg c, up_o (by omega), up_o (by omega), up_i (by omega), up_i (by omega), up_i (by omega), up_i (by omega)]
      exact e3 o i h1 h2 h3
    · rw [up_o (by omega), up_o (by omega), up_o (by omega), up_o (by omega), up_o (by omega), up_o (by omega)]
      exact e4 o i h1
theorem ch121 {vi : VI} {e : Nat} (h : vi 63 9 = nI e) (he : e < 40) (w n v x : Int32) : fX10_changes_121 w n v x vi = (fX10_lays1 w n v (j_up (j_up (j_up (j_up (j_up vi 70 e w) 71 e n) 72 e x) 73 e v) 63 9 (nI (e + 1)))).bind fun r => some (x, r) := by
  unfold fX10_changes_121
  have b : inb (nI e) 40 = true := inb_t (by rw [tnI (by omega)]; omega)
  simp (disch := decide) only [up_o, up_s, h, b, if_true, nI_clamp (show e < 2 ^ 31 by omega), nI_1]
theorem ch34 {w n v x : Int32} : ∀ (m k F : Nat) (vi : VI), 40 - k = m → m < F → 1 ≤ k → k ≤ 40 → vi 63 9 = nI 40 → ∃ vi', fX10_changes_34 F w n v x (nI k) vi = fX10_changes_121 w n v x vi' ∧ vi' 63 9 = nI 39 ∧ (∀ o i, 70 ≤ o → o ≤ 73 → i < 39 → vi' o i = if k - 1 ≤ i then vi o (i + 1) else vi o i) ∧ ∀ o i, (o < 70 ∨ 73 < o) → ¬ (o = 63 ∧ i = 9) → vi' o i = vi o i := by
  intro m
  induction m with
  | zero =>
    intro k F vi h1 h2 h3 h4 h5
    obtain ⟨F, rfl⟩ : ∃ F', F = F' + 1 := ⟨F - 1, by omega⟩
    rw [fX10_changes_34, if_pos (by rw [tle, tnI (by omega), l40]; omega), h5]
    refine ⟨_, rfl, ?_, fun o i q1 q2 q3 => ?_, fun o i q1 q2 => ?_⟩
    · rw [up_s]; rfl
    · rw [up_o (by omega), if_neg (by omega)]
    · rw [up_at, if_neg q2]
  | succ m ih =>
    intro k F vi h1 h2 h3 h4 h5
    obtain ⟨F, rfl⟩ : ∃ F', F = F' + 1 := ⟨F - 1, by omega⟩
    have e : (nI k - 1 : Int32) = nI (k - 1) := by
      rw [teq, tsub (by rw [tnI (by omega), l1]; omega) (by rw [tnI (by omega), l1]; omega), tnI (by omega), l1, tnI (by omega)]; omega
    have b1 : inb (nI k) 40 = true := inb_t (by rw [tnI (by omega)]; omega)
    have b2 : inb (nI (k - 1)) 40 = true := inb_t (by rw [tnI (by omega)]; omega)
    rw [fX10_changes_34, if_neg (by rw [tle, tnI (by omega), l40]; omega)]
    simp (disch := decide) only [e, b1, b2, if_true, nI_clamp (show k < 2 ^ 31 by omega), nI_clamp (show k - 1 < 2 ^ 31 by omega), up_o, nI_1]
    obtain ⟨v1, e1, e2, e3, e4⟩ := ih (k + 1) F (j_up (j_up (j_up (j_up vi 70 (k - 1) (vi 70 k)) 71 (k - 1) (vi 71 k)) 72 (k - 1) (vi 72 k)) 73 (k - 1) (vi 73 k)) (by omega) (by omega) (by omega) (by omega) (by rw [up_o (by omega), up_o (by omega), up_o (by omega), up_o (by omega)]; exact h5)
    refine ⟨v1, e1, e2, fun o i q1 q2 q3 => ?_, fun o i q1 q2 => ?_⟩
    · rw [e3 o i q1 q2 q3]
      have wr : ∀ i', (j_up (j_up (j_up (j_up vi 70 (k - 1) (vi 70 k)) 71 (k - 1) (vi 71 k)) 72 (k - 1) (vi 72 k)) 73 (k - 1) (vi 73 k)) o i' = if i' = k - 1 then vi o k else vi o i' := by
        intro i'
        have e4 : o = 70 ∨ o = 71 ∨ o = 72 ∨ o = 73 := by omega
        rcases e4 with rfl | rfl | rfl | rfl <;> simp [up_at]
      rw [wr, wr]
      by_cases c : k + 1 - 1 ≤ i
      · rw [if_pos c, if_neg (by omega), if_pos (by omega)]
      · rw [if_neg c]
        by_cases c2 : i = k - 1
        · rw [if_pos c2, if_pos (by omega), c2, show k - 1 + 1 = k by omega]
        · rw [if_neg c2, if_neg (by omega)]
    · rw [e4 o i q1 q2, up_o (by omega), up_o (by omega), up_o (by omega), up_o (by omega)]
