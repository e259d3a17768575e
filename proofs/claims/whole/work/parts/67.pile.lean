/-! the class's dust and the model's pile -/
def DP (vc : VI) (o : Nat) (vm : VI) (n : Nat) : Prop := n ≤ 12 ∧ vc o 2 = nI n ∧ vm 63 30 = nI n ∧ ∀ k, k < n → vc (o + 1) k = vm 82 k ∧ vc (o + 2) k = vm 83 k ∧ rng (vm 82 k) 0 5 ∧ rng (vm 83 k) 1 99
theorem layNow17 {j n : Nat} (hj : j < 5) (hn : n ≤ 12) : ∀ (m k F : Nat) (vm : VI), n - k = m → m < F → k ≤ n → vm 63 30 = nI n → ∃ vm', fX10_layNow_17 F (nI j) (nI k) vm = some vm' ∧ (∀ i, k ≤ i → i < n → vm' 82 i = vm 68 (12 * j + i) ∧ vm' 83 i = vm 69 (12 * j + i)) ∧ (∀ i, i < k → vm' 82 i = vm 82 i ∧ vm' 83 i = vm 83 i) ∧ ∀ o i, o ≠ 82 → o ≠ 83 → vm' o i = vm o i := by
  intro m
  induction m with
  | zero =>
    intro k F vm h1 h2 h3 h
    obtain ⟨F, rfl⟩ : ∃ F', F = F' + 1 := ⟨F - 1, by omega⟩
    rw [fX10_layNow_17, h, if_pos (by rw [tle, tnI (by omega), tnI (by omega)]; omega)]
    exact ⟨vm, rfl, fun i a b => absurd a (by omega), fun i a => ⟨rfl, rfl⟩, fun _ _ _ _ => rfl⟩
  | succ m ih =>
    intro k F vm h1 h2 h3 h
    obtain ⟨F, rfl⟩ : ∃ F', F = F' + 1 := ⟨F - 1, by omega⟩
    have ek : (12 * nI j + nI k : Int32) = nI (12 * j + k) := by rw [show (12 : Int32) = nI 12 from rfl, pk_mul, nI_add]
    have bk : 0 ≤ (nI (12 * j + k)).toInt ∧ (nI (12 * j + k)).toInt < (60 : Nat) := by rw [tnI (by omega)]; omega
    have b13 : 0 ≤ (nI k).toInt ∧ (nI k).toInt < (13 : Nat) := by rw [tnI (by omega)]; omega
    rw [fX10_layNow_17, h, if_neg (by rw [tle, tnI (by omega), tnI (by omega)]; omega), ek, if_inb bk, if_inb b13, if_inb bk, if_inb b13, nI_1, nI_clamp (show k < 2 ^ 31 by omega), nI_clamp (show 12 * j + k < 2 ^ 31 by omega), up_o (show (69 : Nat) ≠ 82 by decide)]
    obtain ⟨vm', e1, e2, e3, e4⟩ := ih (k + 1) F (j_up (j_up vm 82 k (vm 68 (12 * j + k))) 83 k (vm 69 (12 * j + k))) (by omega) (by omega) (by omega) (by rw [up_o (by decide), up_o (by decide)]; exact h)
    refine ⟨vm', e1, fun i a b => ?_, fun i a => ?_, fun o i a b => by rw [e4 o i a b, up_o b, up_o a]⟩
    · by_cases c : i = k
      · subst c
        obtain ⟨f1, f2⟩ := e3 i (by omega)
        rw [f1, f2, up_o (by decide), up_s, up_s]; exact ⟨rfl, rfl⟩
      · obtain ⟨f1, f2⟩ := e2 i (by omega) b
        rw [f1, f2, up_o (by decide), up_o (by decide), up_o (by decide), up_o (by decide)]; exact ⟨rfl, rfl⟩
    · obtain ⟨f1, f2⟩ := e3 i (by omega)
      rw [f1, f2, up_o (by decide), up_i (by omega), up_i (by omega), up_o (by decide)]; exact ⟨rfl, rfl⟩
theorem layNow_eq {j n : Nat} {vm : VI} (hj : j < 5) (hn : n ≤ 12) (h : vm 67 j = nI n) : ∃ vm', fX10_layNow (nI j) vm = some vm' ∧ vm' 63 29 = nI j ∧ vm' 63 30 = nI n ∧ (∀ i, i < n → vm' 82 i = vm 68 (12 * j + i) ∧ vm' 83 i = vm 69 (12 * j + i)) ∧ ∀ o i, o ≠ 82 → o ≠ 83 → ¬ (o = 63 ∧ (i = 29 ∨ i = 30)) → vm' o i = vm o i := by
  unfold fX10_layNow
  rw [if_inb (by rw [tnI (by omega)]; omega), nI_clamp (by omega), up_o (show (67 : Nat) ≠ 63 by decide), h]
  obtain ⟨vm', e1, e2, e3, e4⟩ := layNow17 hj hn n 0 FU (j_up (j_up vm 63 29 (nI j)) 63 30 (nI n)) (by omega) (by rw [FU_eq]; omega) (by omega) up_s
  refine ⟨vm', e1, ?_, ?_, fun i hi => ?_, fun o i a b c => ?_⟩
  · rw [e4 63 29 (by decide) (by decide), up_i (by decide), up_s]
  · rw [e4 63 30 (by decide) (by decide), up_s]
  · obtain ⟨f1, f2⟩ := e2 i (by omega) hi
    rw [f1, f2, up_o (by decide), up_o (by decide), up_o (by decide), up_o (by decide)]; exact ⟨rfl, rfl⟩
  · rw [e4 o i a b, up_at, if_neg (by omega), up_at, if_neg (by omega)]
/-- how thick all is, from the k-th on -/
theorem thick_sum {vc : VI} {o n : Nat} (hn : n ≤ 12) (h : vc o 2 = nI n) (ht : ∀ k, k < n → rng (vc (o + 2) k) 1 99) : ∀ (m k s : Nat), n - k = m → k ≤ n → s ≤ 99 * k → ∃ s' : Nat, s + m ≤ s' ∧ s' ≤ 99 * n ∧ (∀ F, m < F → fX3_thickFrom_10 o vc F (nI s) (nI k) = some (nI s')) ∧ ∀ (F : Nat) (vm : VI), m < F → vm 63 30 = nI n → (∀ k, k < n → vc (o + 2) k = vm 83 k) → fX10_allThick_4 vm F (nI s) (nI k) = some (nI s') := by
  intro m
  induction m with
  | zero =>
    intro k s h1 h2 h3
    have c : nI n ≤ nI k := by rw [tle, tnI (by omega), tnI (by omega)]; omega
    refine ⟨s, by omega, by omega, fun F hF => ?_, fun F vm hF hv hk => ?_⟩
    · obtain ⟨F, rfl⟩ : ∃ F', F = F' + 1 := ⟨F - 1, by omega⟩
      rw [fX3_thickFrom_10, h, if_pos c]
    · obtain ⟨F, rfl⟩ : ∃ F', F = F' + 1 := ⟨F - 1, by omega⟩
      rw [fX10_allThick_4, hv, if_pos c]
  | succ m ih =>
    intro k s h1 h2 h3
    have c : ¬ nI n ≤ nI k := by rw [tle, tnI (by omega), tnI (by omega)]; omega
    have ck : (nI k).toNatClampNeg = k := nI_clamp (by omega)
    obtain ⟨t1, t2⟩ := ht k (by omega)
    obtain ⟨t, htn, et⟩ := ex_nI (x := vc (o + 2) k) (N := 100) (by omega) (by omega) (by omega)
    rw [et, tnI (by omega)] at t1
    obtain ⟨s', a1, a2, a3, a4⟩ := ih (k + 1) (s + t) (by omega) (by omega) (by omega)
    refine ⟨s', by omega, a2, fun F hF => ?_, fun F vm hF hv hk => ?_⟩
    · obtain ⟨F, rfl⟩ : ∃ F', F = F' + 1 := ⟨F - 1, by omega⟩
      rw [fX3_thickFrom_10, h, if_neg c, if_inb (by rw [tnI (by omega)]; omega), ck, et, nI_add, nI_1]
      exact a3 F (by omega)
    · obtain ⟨F, rfl⟩ : ∃ F', F = F' + 1 := ⟨F - 1, by omega⟩
      rw [fX10_allThick_4, hv, if_neg c, if_inb (by rw [tnI (by omega)]; omega), ck, ← hk k (by omega), et, nI_add, nI_1]
      exact a4 F vm (by omega) hv hk
theorem allThick_both {vc vm : VI} {o n : Nat} (h : DP vc o vm n) : ∃ s : Nat, n ≤ s ∧ s ≤ 99 * n ∧ fX3_allThick o vc = some (nI s) ∧ fX10_allThick vm = some (nI s) := by
  obtain ⟨h1, h2, h3, h4⟩ := h
  obtain ⟨s, a1, a2, a3, a4⟩ := thick_sum (vc := vc) (o := o) h1 h2 (fun k hk => by rw [(h4 k hk).2.1]; exact (h4 k hk).2.2.2) n 0 0 (by omega) (by omega) (by omega)
  refine ⟨s, by omega, a2, ?_, ?_⟩
  · unfold fX3_allThick fX3_thickFrom
    rw [if_pos (by decide)]
    have := a3 FU (by rw [FU_eq]; omega)
    rw [show (0 : Int32) = nI 0 from rfl, this]; rfl
  · unfold fX10_allThick
    exact a4 FU vm (by rw [FU_eq]; omega) h3 (fun k hk => (h4 k hk).2.1)
/-- of what the model keeps of a SILL, a pile is made that is like the class's dust -/
theorem layNow_DP {ns j : Nat} {vi vm : VI} (hd : I_dust ns vi) (h5 : ns ≤ 5) (hj : j < ns) (hv : ∀ o i, o = 67 ∨ o = 68 ∨ o = 69 → vm o i = vi o i) : ∃ n vm', fX10_layNow (nI j) vm = some vm' ∧ DP vi (99 + 5 * j) vm' n ∧ vm' 63 29 = nI j ∧ ∀ o i, o ≠ 82 → o ≠ 83 → ¬ (o = 63 ∧ (i = 29 ∨ i = 30)) → vm' o i = vm o i := by
  obtain ⟨n, d1, d2, d3, d4⟩ := hd j hj
  obtain ⟨vm', e1, e2, e3, e4, e5⟩ := layNow_eq (j := j) (n := n) (vm := vm) (by omega) d1 (by rw [hv 67 j (by omega)]; exact d3)
  refine ⟨n, vm', e1, ⟨d1, d2, e3, fun k hk => ?_⟩, e2, e5⟩
  obtain ⟨f1, f2⟩ := e4 k hk
  obtain ⟨g1, g2, g3, g4⟩ := d4 k hk
  rw [f1, f2, hv 68 _ (by omega), hv 69 _ (by omega), show 99 + 5 * j + 1 = 100 + 5 * j by omega, show 99 + 5 * j + 2 = 101 + 5 * j by omega]
  exact ⟨g1, g2, g3, g4⟩
