/-! DAYS: still owed -/
theorem ok17 : OK17 INV := sorry
