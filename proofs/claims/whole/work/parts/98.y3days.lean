/-! DAYS: still owed -/
theorem ok16 : OK16 INV := sorry
theorem ok17 : OK17 INV := sorry
theorem ok18 : OK18 INV := sorry
theorem ok19 : OK19 INV := sorry
