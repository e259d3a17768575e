/-! DAYS: still owed -/
theorem ok17 : OK17 INV := sorry
theorem ok19 : OK19 INV := sorry
