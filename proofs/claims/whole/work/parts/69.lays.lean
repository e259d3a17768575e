/-! lays; whom and how much a LOOKING tells -/
theorem whom_eq {x : Int32} (h : 0 ≤ x.toInt ∧ x.toInt ≤ 65) : ∃ w : Nat, w < 6 ∧ fX9_whomOf x = some (nI w) ∧ fX10_whomIn x = some (nI w) := by
  obtain ⟨k, hk, rfl⟩ := ex_nI (x := x) (N := 66) h.1 (by omega) (by omega)
  unfold fX9_whomOf fX10_whomIn
  have : ∀ k : Nat, k < 66 → ∃ w : Nat, w < 6 ∧ (if 60 ≤ nI k then some (nI k - 60) else some (nI k / 10)) = some (nI w) := by
    intro k hk
    refine ⟨if 60 ≤ k then k - 60 else k / 10, by split <;> omega, ?_⟩
    revert k
    decide
  obtain ⟨w, w1, w2⟩ := this k hk
  exact ⟨w, w1, w2, w2⟩
