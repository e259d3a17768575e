/-! who is READ where -/
theorem readOf_both {ns j : Nat} {vi : VI} (h5 : ns ≤ 5) (hd : I_dust ns vi) (hj : j < ns) : ∃ b, b < 64 ∧ fX3_readBits (98 + 5 * j + 1) vi = some (nI b) ∧ ∀ vm, (∀ o i, 67 ≤ o → o ≤ 69 → vm o i = vi o i) → ∃ vm', fX10_readOf (nI j) vm = some (nI b, vm') ∧ ∀ o i, ¬ WQ o i → vm' o i = vm o i := by
  obtain ⟨n, vm1, a1, a2, a3, a4⟩ := layNow_DP hd h5 hj (vm := vi) (fun _ _ _ => rfl)
  obtain ⟨b, b1, -, b2, b3⟩ := readBits_both a2
  refine ⟨b, b1, by rw [show 98 + 5 * j + 1 = 99 + 5 * j by omega]; exact b2, fun vm hv => ?_⟩
  obtain ⟨n', vm', c1, c2, c3, c4⟩ := layNow_DP hd h5 hj (vm := vm) (fun o i q => hv o i (by omega) (by omega))
  obtain ⟨b', -, -, d2, d3⟩ := readBits_both c2
  refine ⟨vm', ?_, fun o i q => c4 o i (by unfold WQ at q; omega) (by unfold WQ at q; omega) (by unfold WQ at q; omega)⟩
  unfold fX10_readOf
  rw [c1, Option.bind_some, d3, Option.bind_some]
  have := Option.some.inj (d2.symm.trans b2)
  rw [this]
theorem reads {ns : Nat} {vi : VI} (h5 : ns ≤ 5) (hd : I_dust ns vi) : ∃ B : Nat → Nat, ∀ j, j < ns → B j < 64 ∧ fX3_readBits (98 + 5 * j + 1) vi = some (nI (B j)) ∧ ∀ vm, (∀ o i, 67 ≤ o → o ≤ 69 → vm o i = vi o i) → ∃ vm', fX10_readOf (nI j) vm = some (nI (B j), vm') ∧ ∀ o i, ¬ WQ o i → vm' o i = vm o i := by
  refine ⟨fun j => if h : j < ns then (readOf_both h5 hd h).choose else 0, fun j hj => ?_⟩
  simp only [dif_pos hj]
  exact (readOf_both h5 hd hj).choose_spec
theorem hides_loop {ns : Nat} {vi : VI} (h5 : ns ≤ 5) (n1 : vi 0 1 = nI ns) (n2 : vi 63 1 = nI ns) (hd : I_dust ns vi) (x : Int32) : ∀ (m k : Nat) (y : Int32) (vm : VI), ns - k = m → k ≤ ns → (∀ o i, ¬ WQ o i → vm o i = vi o i) → ∃ r vm', (∀ F, m < F → fX9_sillsThatRead_4 ns vi F x y (nI k) = some r) ∧ (∀ F, m < F → fX10_hides_4 F x y (nI k) vm = some (r, vm')) ∧ ∀ o i, ¬ WQ o i → vm' o i = vi o i := by
  obtain ⟨B, hB⟩ := reads h5 hd
  intro m
  induction m with
  | zero =>
    intro k y vm q1 q2 q3
    have : k = ns := by omega
    subst this
    have c : nI k ≤ nI k := by rw [tle]; omega
    refine ⟨y, vm, fun F hF => ?_, fun F hF => ?_, q3⟩
    · obtain ⟨F, rfl⟩ : ∃ F', F = F' + 1 := ⟨F - 1, by omega⟩
      rw [fX9_sillsThatRead_4, n1, if_pos c]
    · obtain ⟨F, rfl⟩ : ∃ F', F = F' + 1 := ⟨F - 1, by omega⟩
      rw [fX10_hides_4, q3 63 1 (by unfold WQ; omega), n2, if_pos c]
  | succ m ih =>
    intro k y vm q1 q2 q3
    have c : ¬ nI ns ≤ nI k := by rw [tle, tnI (by omega), tnI (by omega)]; omega
    have bk : 0 ≤ (nI k).toInt ∧ (nI k).toInt < ns := by rw [tnI (by omega)]; omega
    have ck : (nI k).toNatClampNeg = k := nI_clamp (by omega)
    obtain ⟨b1, b2, b3⟩ := hB k (by omega)
    obtain ⟨vm1, b4, b5⟩ := b3 vm (fun o i w1 w2 => q3 o i (by unfold WQ; omega))
    have fr1 : ∀ o i, ¬ WQ o i → vm1 o i = vi o i := fun o i q => (b5 o i q).trans (q3 o i q)
    by_cases cz : (nI (B k) &&& x) = 0
    · obtain ⟨r, vm', a1, a2, a3⟩ := ih (k + 1) y vm1 (by omega) (by omega) fr1
      refine ⟨r, vm', fun F hF => ?_, fun F hF => ?_, a3⟩
      · obtain ⟨F, rfl⟩ : ∃ F', F = F' + 1 := ⟨F - 1, by omega⟩
        rw [fX9_sillsThatRead_4, n1, if_neg c, if_inb bk, ck, b2, Option.bind_some, if_pos cz, fX9_sillsThatRead_35, nI_1]
        exact a1 F (by omega)
      · obtain ⟨F, rfl⟩ : ∃ F', F = F' + 1 := ⟨F - 1, by omega⟩
        rw [fX10_hides_4, q3 63 1 (by unfold WQ; omega), n2, if_neg c, b4, Option.bind_some, if_pos cz, fX10_hides_28, nI_1]
        exact a2 F (by omega)
    · obtain ⟨r, vm', a1, a2, a3⟩ := ih (k + 1) (y ||| ((1 : Int32) <<< (nI k &&& 31))) vm1 (by omega) (by omega) fr1
      refine ⟨r, vm', fun F hF => ?_, fun F hF => ?_, a3⟩
      · obtain ⟨F, rfl⟩ : ∃ F', F = F' + 1 := ⟨F - 1, by omega⟩
        rw [fX9_sillsThatRead_4, n1, if_neg c, if_inb bk, ck, b2, Option.bind_some, if_neg cz, fX9_sillsThatRead_35, nI_1]
        exact a1 F (by omega)
      · obtain ⟨F, rfl⟩ : ∃ F', F = F' + 1 := ⟨F - 1, by omega⟩
        rw [fX10_hides_4, q3 63 1 (by unfold WQ; omega), n2, if_neg c, b4, Option.bind_some, if_neg cz, fX10_hides_28, nI_1]
        exact a2 F (by omega)
theorem tells_loop {ns p : Nat} {vi : VI} (h5 : ns ≤ 5) (n1 : vi 0 1 = nI ns) (n2 : vi 63 1 = nI ns) (hd : I_dust ns vi) (hp : p < 6) : ∀ (m k : Nat) (y : Int32) (vm : VI), ns - k = m → k ≤ ns → (∀ o i, ¬ WQ o i → vm o i = vi o i) → ∃ r vm', (∀ F, m < F → fX9_sillsThatRead_4 ns vi F ((1 : Int32) <<< (nI p &&& 31)) y (nI k) = some r) ∧ (∀ F, m < F → fX10_tellsOf_13 F (nI p) y (nI k) vm = some (r, vm')) ∧ ∀ o i, ¬ WQ o i → vm' o i = vi o i := by
  obtain ⟨B, hB⟩ := reads h5 hd
  intro m
  induction m with
  | zero =>
    intro k y vm q1 q2 q3
    have : k = ns := by omega
    subst this
    have c : nI k ≤ nI k := by rw [tle]; omega
    refine ⟨y, vm, fun F hF => ?_, fun F hF => ?_, q3⟩
    · obtain ⟨F, rfl⟩ : ∃ F', F = F' + 1 := ⟨F - 1, by omega⟩
      rw [fX9_sillsThatRead_4, n1, if_pos c]
    · obtain ⟨F, rfl⟩ : ∃ F', F = F' + 1 := ⟨F - 1, by omega⟩
      rw [fX10_tellsOf_13, q3 63 1 (by unfold WQ; omega), n2, if_pos c]
  | succ m ih =>
    intro k y vm q1 q2 q3
    have c : ¬ nI ns ≤ nI k := by rw [tle, tnI (by omega), tnI (by omega)]; omega
    have bk : 0 ≤ (nI k).toInt ∧ (nI k).toInt < ns := by rw [tnI (by omega)]; omega
    have ck : (nI k).toNatClampNeg = k := nI_clamp (by omega)
    obtain ⟨b1, b2, b3⟩ := hB k (by omega)
    obtain ⟨vm1, b4, b5⟩ := b3 vm (fun o i w1 w2 => q3 o i (by unfold WQ; omega))
    have fr1 : ∀ o i, ¬ WQ o i → vm1 o i = vi o i := fun o i q => (b5 o i q).trans (q3 o i q)
    have eb := bit_at (B k) b1 p hp
    by_cases cb : B k / 2 ^ p % 2 = 0
    · have cz : (nI (B k) &&& ((1 : Int32) <<< (nI p &&& 31))) = 0 := (bit_and (B k) b1 p hp).mpr cb
      obtain ⟨r, vm', a1, a2, a3⟩ := ih (k + 1) y vm1 (by omega) (by omega) fr1
      refine ⟨r, vm', fun F hF => ?_, fun F hF => ?_, a3⟩
      · obtain ⟨F, rfl⟩ : ∃ F', F = F' + 1 := ⟨F - 1, by omega⟩
        rw [fX9_sillsThatRead_4, n1, if_neg c, if_inb bk, ck, b2, Option.bind_some, if_pos cz, fX9_sillsThatRead_35, nI_1]
        exact a1 F (by omega)
      · obtain ⟨F, rfl⟩ : ∃ F', F = F' + 1 := ⟨F - 1, by omega⟩
        rw [fX10_tellsOf_13, q3 63 1 (by unfold WQ; omega), n2, if_neg c, b4, Option.bind_some, eb, cb, if_neg (by decide), fX10_tellsOf_40, nI_1]
        exact a2 F (by omega)
    · have cz : ¬ (nI (B k) &&& ((1 : Int32) <<< (nI p &&& 31))) = 0 := fun q => cb ((bit_and (B k) b1 p hp).mp q)
      have cb1 : B k / 2 ^ p % 2 = 1 := by omega
      obtain ⟨r, vm', a1, a2, a3⟩ := ih (k + 1) (y ||| ((1 : Int32) <<< (nI k &&& 31))) vm1 (by omega) (by omega) fr1
      refine ⟨r, vm', fun F hF => ?_, fun F hF => ?_, a3⟩
      · obtain ⟨F, rfl⟩ : ∃ F', F = F' + 1 := ⟨F - 1, by omega⟩
        rw [fX9_sillsThatRead_4, n1, if_neg c, if_inb bk, ck, b2, Option.bind_some, if_neg cz, fX9_sillsThatRead_35, nI_1]
        exact a1 F (by omega)
      · obtain ⟨F, rfl⟩ : ∃ F', F = F' + 1 := ⟨F - 1, by omega⟩
        rw [fX10_tellsOf_13, q3 63 1 (by unfold WQ; omega), n2, if_neg c, b4, Option.bind_some, eb, cb1, if_pos t11, fX10_tellsOf_40, nI_1]
        exact a2 F (by omega)
/-- a call that only asks: the class leaves all, the model what it thinks with -/
def Asks (vi : VI) (C : Option Int32) (M : Option (Int32 × VI)) : Prop := ∃ r, C = some r ∧ ∃ vi2, M = some (r, vi2) ∧ ∀ o i, ¬ WQ o i → vi2 o i = vi o i
theorem p_tellsOf {ns : Nat} {vi : VI} (hn : I_num ns vi) (hd : I_dust ns vi) (x1 : Int32) : Asks vi (fX9_tellsOf ns x1 vi) (fX10_tellsOf x1 vi) := by
  have h5 := hn.1
  have n1 := hn.2.1
  have n2 := hn.2.2.1
  unfold Asks fX9_tellsOf fX10_tellsOf
  rw [one9_eq, one10_eq]
  simp only [Option.bind_some, decide_eq_true_eq]
  by_cases c : 0 ≤ x1.toInt ∧ x1.toInt ≤ 5
  · rw [if_pos c, if_pos c]
    obtain ⟨p, hp, rfl⟩ := ex_nI (x := x1) (N := 6) c.1 (by omega) (by omega)
    obtain ⟨r, vm', a1, a2, a3⟩ := tells_loop h5 n1 n2 hd hp ns 0 0 vi (by omega) (by omega) (fun _ _ _ => rfl)
    unfold fX9_sillsThatRead
    rw [show (0 : Int32) = nI 0 from rfl] at *
    rw [a1 FU (by rw [FU_eq]; omega), a2 FU (by rw [FU_eq]; omega)]
    exact ⟨r, rfl, vm', rfl, a3⟩
  · rw [if_neg c, if_neg c]
    exact ⟨_, rfl, vi, rfl, fun _ _ _ => rfl⟩
theorem readAll_loop {ns t : Nat} {vi : VI} (h5 : ns ≤ 5) (n1 : vi 0 1 = nI ns) (n2 : vi 63 1 = nI ns) (hd : I_dust ns vi) (ht : t < 32) : ∀ (m k : Nat) (y : Int32) (vm : VI), ns - k = m → k ≤ ns → (∀ o i, ¬ WQ o i → vm o i = vi o i) → ∃ r vm', (∀ F, m < F → fX9_readOf_4 ns vi F (nI t) y (nI k) = some r) ∧ (∀ F, m < F → fX10_readOfAll_4 F (nI t) y (nI k) vm = some (r, vm')) ∧ ∀ o i, ¬ WQ o i → vm' o i = vi o i := by
  obtain ⟨B, hB⟩ := reads h5 hd
  intro m
  induction m with
  | zero =>
    intro k y vm q1 q2 q3
    have : k = ns := by omega
    subst this
    have c : nI k ≤ nI k := by rw [tle]; omega
    refine ⟨y, vm, fun F hF => ?_, fun F hF => ?_, q3⟩
    · obtain ⟨F, rfl⟩ : ∃ F', F = F' + 1 := ⟨F - 1, by omega⟩
      rw [fX9_readOf_4, n1, if_pos c]
    · obtain ⟨F, rfl⟩ : ∃ F', F = F' + 1 := ⟨F - 1, by omega⟩
      rw [fX10_readOfAll_4, q3 63 1 (by unfold WQ; omega), n2, if_pos c]
  | succ m ih =>
    intro k y vm q1 q2 q3
    have c : ¬ nI ns ≤ nI k := by rw [tle, tnI (by omega), tnI (by omega)]; omega
    have bk : 0 ≤ (nI k).toInt ∧ (nI k).toInt < ns := by rw [tnI (by omega)]; omega
    have ck : (nI k).toNatClampNeg = k := nI_clamp (by omega)
    obtain ⟨b1, b2, b3⟩ := hB k (by omega)
    obtain ⟨vm1, b4, b5⟩ := b3 vm (fun o i w1 w2 => q3 o i (by unfold WQ; omega))
    have fr1 : ∀ o i, ¬ WQ o i → vm1 o i = vi o i := fun o i q => (b5 o i q).trans (q3 o i q)
    have eb := bit_at t (by omega) k (by omega)
    by_cases cb : t / 2 ^ k % 2 = 0
    · obtain ⟨r, vm', a1, a2, a3⟩ := ih (k + 1) y vm (by omega) (by omega) q3
      refine ⟨r, vm', fun F hF => ?_, fun F hF => ?_, a3⟩
      · obtain ⟨F, rfl⟩ : ∃ F', F = F' + 1 := ⟨F - 1, by omega⟩
        rw [fX9_readOf_4, n1, if_neg c, eb, cb, if_pos t00, fX9_readOf_35, nI_1]
        exact a1 F (by omega)
      · obtain ⟨F, rfl⟩ : ∃ F', F = F' + 1 := ⟨F - 1, by omega⟩
        rw [fX10_readOfAll_4, q3 63 1 (by unfold WQ; omega), n2, if_neg c, eb, cb, if_neg (by decide), fX10_readOfAll_29, nI_1]
        exact a2 F (by omega)
    · have cb1 : t / 2 ^ k % 2 = 1 := by omega
      obtain ⟨r, vm', a1, a2, a3⟩ := ih (k + 1) (y ||| nI (B k)) vm1 (by omega) (by omega) fr1
      refine ⟨r, vm', fun F hF => ?_, fun F hF => ?_, a3⟩
      · obtain ⟨F, rfl⟩ : ∃ F', F = F' + 1 := ⟨F - 1, by omega⟩
        rw [fX9_readOf_4, n1, if_neg c, eb, cb1, if_neg (by decide), if_inb bk, ck, b2, Option.bind_some, fX9_readOf_35, nI_1]
        exact a1 F (by omega)
      · obtain ⟨F, rfl⟩ : ∃ F', F = F' + 1 := ⟨F - 1, by omega⟩
        rw [fX10_readOfAll_4, q3 63 1 (by unfold WQ; omega), n2, if_neg c, eb, cb1, if_pos t11, b4, Option.bind_some, fX10_readOfAll_29, nI_1]
        exact a2 F (by omega)
theorem pow_ns : ∀ n, n ≤ 5 → ((1 : Int32) <<< (nI n &&& 31)) = nI (2 ^ n) ∧ 2 ^ n ≤ 32 := by
  intro n hn
  have : n = 0 ∨ n = 1 ∨ n = 2 ∨ n = 3 ∨ n = 4 ∨ n = 5 := by omega
  rcases this with rfl | rfl | rfl | rfl | rfl | rfl <;> decide
theorem fewest_loop {ns : Nat} {vi : VI} (h5 : ns ≤ 5) (n1 : vi 0 1 = nI ns) (n2 : vi 63 1 = nI ns) (hd : I_dust ns vi) (x w : Int32) (hw : w = 0 ∨ w = 1) : ∀ (m k : Nat) (b : Int32) (vm : VI), 2 ^ ns - k = m → k ≤ 2 ^ ns → (b = -2 ∨ ∃ t, t < 32 ∧ b = nI t) → (∀ o i, ¬ WQ o i → vm o i = vi o i) → ∃ b' vm', (∀ F, m < F → fX9_fewestThatTell_5 ns vi F x b (nI k) = some b') ∧ (b' = -2 ∨ ∃ t, t < 32 ∧ b' = nI t) ∧ (∀ F, m < F → fX10_fewest_38 F x w b (nI k) vm = if b' < 0 then some (b', vm') else if w = 1 then some (b', vm') else (fX10_bitsOf b').bind fun r3 => some (r3, vm')) ∧ ∀ o i, ¬ WQ o i → vm' o i = vi o i := by
  obtain ⟨p1, p2⟩ := pow_ns ns h5
  intro m
  induction m with
  | zero =>
    intro k b vm q1 q2 qb q3
    have : k = 2 ^ ns := by omega
    subst this
    have c : nI (2 ^ ns) ≤ nI (2 ^ ns) := by rw [tle]; omega
    refine ⟨b, vm, fun F hF => ?_, qb, fun F hF => ?_, q3⟩
    · obtain ⟨F, rfl⟩ : ∃ F', F = F' + 1 := ⟨F - 1, by omega⟩
      rw [fX9_fewestThatTell_5, n1, p1, if_pos c]
    · obtain ⟨F, rfl⟩ : ∃ F', F = F' + 1 := ⟨F - 1, by omega⟩
      rw [fX10_fewest_38, q3 63 1 (by unfold WQ; omega), n2, p1, if_pos c]
      rfl
  | succ m ih =>
    intro k b vm q1 q2 qb q3
    have c : ¬ nI (2 ^ ns) ≤ nI k := by rw [tle, tnI (by omega), tnI (by omega)]; omega
    obtain ⟨r, vm1, a1, a2, a3⟩ := readAll_loop h5 n1 n2 hd (t := k) (by omega) ns 0 0 vm (by omega) (by omega) q3
    have ra : fX9_readOf ns (nI k) vi = some r := by
      unfold fX9_readOf
      exact a1 FU (by rw [FU_eq]; omega)
    have rm : fX10_readOfAll (nI k) vm = some (r, vm1) := by
      unfold fX10_readOfAll
      exact a2 FU (by rw [FU_eq]; omega)
    -- taking k, and leaving what is best
    have take : ∃ b' vm', (∀ F, m < F → fX9_fewestThatTell_5 ns vi F x (nI k) (nI (k + 1)) = some b') ∧ (b' = -2 ∨ ∃ t, t < 32 ∧ b' = nI t) ∧ (∀ F, m < F → fX10_fewest_38 F x w (nI k) (nI (k + 1)) vm1 = if b' < 0 then some (b', vm') else if w = 1 then some (b', vm') else (fX10_bitsOf b').bind fun r3 => some (r3, vm')) ∧ ∀ o i, ¬ WQ o i → vm' o i = vi o i := ih (k + 1) (nI k) vm1 (by omega) (by omega) (Or.inr ⟨k, by omega, rfl⟩) a3
    have leave := ih (k + 1) b vm1 (by omega) (by omega) qb a3
    by_cases cs : (x &&& (r ^^^ (-1))) = 0
    · rcases qb with hb | ⟨t, ht, hb⟩
      · obtain ⟨b', vm', e1, e2, e3, e4⟩ := take
        refine ⟨b', vm', fun F hF => ?_, e2, fun F hF => ?_, e4⟩
        · obtain ⟨F, rfl⟩ : ∃ F', F = F' + 1 := ⟨F - 1, by omega⟩
          rw [fX9_fewestThatTell_5, n1, p1, if_neg c, if_pos (by rw [hb]; decide), fX9_fewestThatTell_30, fX9_fewestThatTell_35, if_neg (by decide), ra, Option.bind_some, if_pos cs, fX9_fewestThatTell_56, nI_1]
          exact e1 F (by omega)
        · obtain ⟨F, rfl⟩ : ∃ F', F = F' + 1 := ⟨F - 1, by omega⟩
          rw [fX10_fewest_38, q3 63 1 (by unfold WQ; omega), n2, p1, if_neg c, rm, Option.bind_some, if_pos cs, if_pos (by rw [hb]; decide), fX10_fewest_78, fX10_fewest_81, nI_1]
          exact e3 F (by omega)
      · have nb : ¬ b < 0 := by rw [hb, tlt, tnI (by omega), l0]; omega
        have pk := popC k (by omega)
        have pt := popC t (by omega)
        have mk := popM k (by omega)
        have mt := popM t (by omega)
        have hp1 := pop_le k
        have hp2 := pop_le t
        by_cases cp : nI (popN t) ≤ nI (popN k)
        · obtain ⟨b', vm', e1, e2, e3, e4⟩ := leave
          refine ⟨b', vm', fun F hF => ?_, e2, fun F hF => ?_, e4⟩
          · obtain ⟨F, rfl⟩ : ∃ F', F = F' + 1 := ⟨F - 1, by omega⟩
            rw [fX9_fewestThatTell_5, n1, p1, if_neg c, if_neg nb, pk, Option.bind_some, hb, pt, Option.bind_some, if_pos cp, fX9_fewestThatTell_35, if_pos rfl, fX9_fewestThatTell_56, nI_1, ← hb]
            exact e1 F (by omega)
          · obtain ⟨F, rfl⟩ : ∃ F', F = F' + 1 := ⟨F - 1, by omega⟩
            rw [fX10_fewest_38, q3 63 1 (by unfold WQ; omega), n2, p1, if_neg c, rm, Option.bind_some, if_pos cs, if_neg nb, mk, Option.bind_some, hb, mt, Option.bind_some, if_pos cp, fX10_fewest_81, nI_1, ← hb]
            exact e3 F (by omega)
        · obtain ⟨b', vm', e1, e2, e3, e4⟩ := take
          refine ⟨b', vm', fun F hF => ?_, e2, fun F hF => ?_, e4⟩
          · obtain ⟨F, rfl⟩ : ∃ F', F = F' + 1 := ⟨F - 1, by omega⟩
            rw [fX9_fewestThatTell_5, n1, p1, if_neg c, if_neg nb, pk, Option.bind_some, hb, pt, Option.bind_some, if_neg cp, fX9_fewestThatTell_30, fX9_fewestThatTell_35, if_neg (by decide), ra, Option.bind_some, if_pos cs, fX9_fewestThatTell_56, nI_1]
            exact e1 F (by omega)
          · obtain ⟨F, rfl⟩ : ∃ F', F = F' + 1 := ⟨F - 1, by omega⟩
            rw [fX10_fewest_38, q3 63 1 (by unfold WQ; omega), n2, p1, if_neg c, rm, Option.bind_some, if_pos cs, if_neg nb, mk, Option.bind_some, hb, mt, Option.bind_some, if_neg cp, fX10_fewest_78, fX10_fewest_81, nI_1]
            exact e3 F (by omega)
    · obtain ⟨b', vm', e1, e2, e3, e4⟩ := leave
      refine ⟨b', vm', fun F hF => ?_, e2, fun F hF => ?_, e4⟩
      · obtain ⟨F, rfl⟩ : ∃ F', F = F' + 1 := ⟨F - 1, by omega⟩
        have go : fX9_fewestThatTell_30 ns vi (fX9_fewestThatTell_5 ns vi F) x b (nI k) = fX9_fewestThatTell_5 ns vi F x b (nI (k + 1)) := by
          rw [fX9_fewestThatTell_30, fX9_fewestThatTell_35, if_neg (by decide), ra, Option.bind_some, if_neg cs, fX9_fewestThatTell_56, nI_1]
        have skip : fX9_fewestThatTell_35 ns vi (fX9_fewestThatTell_5 ns vi F) x b (nI k) 0 = fX9_fewestThatTell_5 ns vi F x b (nI (k + 1)) := by
          rw [fX9_fewestThatTell_35, if_pos rfl, fX9_fewestThatTell_56, nI_1]
        rw [fX9_fewestThatTell_5, n1, p1, if_neg c, go, skip]
        rcases qb with hb | ⟨t, ht, hb⟩
        · rw [if_pos (by rw [hb]; decide)]
          exact e1 F (by omega)
        · rw [if_neg (by rw [hb, tlt, tnI (by omega), l0]; omega), popC k (by omega), Option.bind_some, hb, popC t (by omega), Option.bind_some, ← hb, e1 F (by omega)]
          split <;> rfl
      · obtain ⟨F, rfl⟩ : ∃ F', F = F' + 1 := ⟨F - 1, by omega⟩
        rw [fX10_fewest_38, q3 63 1 (by unfold WQ; omega), n2, p1, if_neg c, rm, Option.bind_some, if_neg cs, fX10_fewest_81, nI_1]
        exact e3 F (by omega)
theorem p_fewest {ns : Nat} {vi : VI} (hn : I_num ns vi) (hd : I_dust ns vi) (x1 x2 : Int32) : Asks vi (fX9_fewest ns x1 x2 vi) (fX10_fewest x1 x2 vi) := by
  have h5 := hn.1
  have n1 := hn.2.1
  have n2 := hn.2.2.1
  unfold Asks fX9_fewest fX10_fewest
  rw [within_eq, in_eq, within_eq, in_eq]
  simp only [Option.bind_some, decide_eq_true_eq, l0, l63, l2]
  by_cases c : 0 ≤ x1.toInt ∧ x1.toInt ≤ 63
  · rw [if_pos c, if_pos c]
    by_cases c2 : 0 ≤ x2.toInt ∧ x2.toInt ≤ 2
    · rw [if_pos c2, if_pos c2]
      by_cases d2 : x2 = 2
      · rw [if_pos d2, if_pos d2]
        obtain ⟨r, vm', a1, a2, a3⟩ := hides_loop h5 n1 n2 hd x1 ns 0 0 vi (by omega) (by omega) (fun _ _ _ => rfl)
        unfold fX9_sillsThatRead fX10_hides
        have b1 := a1 FU (by rw [FU_eq]; omega)
        have b2 := a2 FU (by rw [FU_eq]; omega)
        rw [show nI 0 = (0 : Int32) from rfl] at b1 b2
        rw [b1, b2]
        exact ⟨r, rfl, vm', rfl, a3⟩
      · rw [if_neg d2, if_neg d2]
        have hw : x2 = 0 ∨ x2 = 1 := by
          rw [teq, l2] at d2
          rw [teq, teq, l0, l1]
          omega
        have p2 := (pow_ns ns h5).2
        obtain ⟨b, vm', a1, a2, a3, a4⟩ := fewest_loop h5 n1 n2 hd x1 x2 hw (2 ^ ns) 0 (-2) vi (Nat.sub_zero _) (Nat.zero_le _) (Or.inl rfl) (fun _ _ _ => rfl)
        have b1 := a1 FU (by rw [FU_eq]; omega)
        have b2 := a3 FU (by rw [FU_eq]; omega)
        rw [show nI 0 = (0 : Int32) from rfl] at b1 b2
        unfold fX9_fewestThatTell
        rw [b1, b2, Option.bind_some]
        rcases a2 with hb | ⟨t, ht, hb⟩
        · have q : b < 0 := by rw [hb]; decide
          rw [if_pos q, if_pos q]
          refine ⟨b, ?_, vm', rfl, a4⟩
          split <;> rfl
        · have nb : ¬ b < 0 := by rw [hb, tlt, tnI (by omega), l0]; omega
          rw [if_neg nb, if_neg nb, hb, popC t (by omega), popM t (by omega), Option.bind_some, Option.bind_some]
          rcases hw with rfl | rfl
          · rw [if_pos rfl, if_neg (by decide)]
            exact ⟨_, rfl, vm', rfl, a4⟩
          · rw [if_neg (by decide), if_pos rfl]
            exact ⟨_, rfl, vm', rfl, a4⟩
    · rw [if_neg c2, if_neg c2]
      exact ⟨_, rfl, vi, rfl, fun _ _ _ => rfl⟩
  · rw [if_neg c, if_neg c]
    exact ⟨_, rfl, vi, rfl, fun _ _ _ => rfl⟩
theorem p_corner {ns : Nat} {vi : VI} (hn : I_num ns vi) (hd : I_dust ns vi) : Asks vi (fX9_corner ns vi) (fX10_corner vi) := by
  have h5 := hn.1
  have n1 := hn.2.1
  have n2 := hn.2.2.1
  obtain ⟨B, hB⟩ := reads h5 hd
  have key : ∀ (m k : Nat) (b y : Int32) (vm : VI), ns - k = m → k ≤ ns → ((b = -2 ∧ y = -1) ∨ ∃ t, t < ns ∧ b = nI t ∧ y = nI (popN (B t))) → (∀ o i, ¬ WQ o i → vm o i = vi o i) → ∃ r vm', (∀ F, m < F → fX9_corner_7 ns vi F b y (nI k) = some r) ∧ (∀ F, m < F → fX10_corner_5 F b (nI k) vm = some (r, vm')) ∧ ∀ o i, ¬ WQ o i → vm' o i = vi o i := by
    intro m
    induction m with
    | zero =>
      intro k b y vm q1 q2 qb q3
      have : k = ns := by omega
      subst this
      have c : nI k ≤ nI k := by rw [tle]; omega
      refine ⟨b, vm, fun F hF => ?_, fun F hF => ?_, q3⟩
      · obtain ⟨F, rfl⟩ : ∃ F', F = F' + 1 := ⟨F - 1, by omega⟩
        rw [fX9_corner_7, n1, if_pos c]
      · obtain ⟨F, rfl⟩ : ∃ F', F = F' + 1 := ⟨F - 1, by omega⟩
        rw [fX10_corner_5, q3 63 1 (by unfold WQ; omega), n2, if_pos c]
    | succ m ih =>
      intro k b y vm q1 q2 qb q3
      have c : ¬ nI ns ≤ nI k := by rw [tle, tnI (by omega), tnI (by omega)]; omega
      have bk : 0 ≤ (nI k).toInt ∧ (nI k).toInt < ns := by rw [tnI (by omega)]; omega
      have ck : (nI k).toNatClampNeg = k := nI_clamp (by omega)
      obtain ⟨b1, b2, b3⟩ := hB k (by omega)
      have hpk := pop_le (B k)
      rcases qb with ⟨hb, hy⟩ | ⟨t, ht, hb, hy⟩
      · obtain ⟨r, vm', a1, a2, a3⟩ := ih (k + 1) (nI k) (nI (popN (B k))) vm (by omega) (by omega) (Or.inr ⟨k, by omega, rfl, rfl⟩) q3
        refine ⟨r, vm', fun F hF => ?_, fun F hF => ?_, a3⟩
        · obtain ⟨F, rfl⟩ : ∃ F', F = F' + 1 := ⟨F - 1, by omega⟩
          rw [fX9_corner_7, n1, if_neg c, if_inb bk, ck, b2, Option.bind_some, popC _ b1, Option.bind_some, if_neg (by rw [hy, tle, tnI (by omega), lm1]; omega), fX9_corner_43, nI_1]
          exact a1 F (by omega)
        · obtain ⟨F, rfl⟩ : ∃ F', F = F' + 1 := ⟨F - 1, by omega⟩
          rw [fX10_corner_5, q3 63 1 (by unfold WQ; omega), n2, if_neg c, if_pos (by rw [hb]; decide), fX10_corner_36, fX10_corner_38, nI_1]
          exact a2 F (by omega)
      · have nb : ¬ b < 0 := by rw [hb, tlt, tnI (by omega), l0]; omega
        obtain ⟨t1, t2, t3⟩ := hB t ht
        obtain ⟨vm1, e1, e2⟩ := b3 vm (fun o i w1 w2 => q3 o i (by unfold WQ; omega))
        have fr1 : ∀ o i, ¬ WQ o i → vm1 o i = vi o i := fun o i q => (e2 o i q).trans (q3 o i q)
        obtain ⟨vm2, e3, e4⟩ := t3 vm1 (fun o i w1 w2 => fr1 o i (by unfold WQ; omega))
        have fr2 : ∀ o i, ¬ WQ o i → vm2 o i = vi o i := fun o i q => (e4 o i q).trans (fr1 o i q)
        by_cases cp : nI (popN (B k)) ≤ nI (popN (B t))
        · obtain ⟨r, vm', a1, a2, a3⟩ := ih (k + 1) b y vm2 (by omega) (by omega) (Or.inr ⟨t, ht, hb, hy⟩) fr2
          refine ⟨r, vm', fun F hF => ?_, fun F hF => ?_, a3⟩
          · obtain ⟨F, rfl⟩ : ∃ F', F = F' + 1 := ⟨F - 1, by omega⟩
            rw [fX9_corner_7, n1, if_neg c, if_inb bk, ck, b2, Option.bind_some, popC _ b1, Option.bind_some, if_pos (by rw [hy]; exact cp), fX9_corner_43, nI_1]
            exact a1 F (by omega)
          · obtain ⟨F, rfl⟩ : ∃ F', F = F' + 1 := ⟨F - 1, by omega⟩
            rw [fX10_corner_5, q3 63 1 (by unfold WQ; omega), n2, if_neg c, if_neg nb, e1, Option.bind_some, popM _ b1, Option.bind_some, hb, e3, Option.bind_some, popM _ t1, Option.bind_some, if_pos cp, fX10_corner_38, nI_1, ← hb]
            exact a2 F (by omega)
        · obtain ⟨r, vm', a1, a2, a3⟩ := ih (k + 1) (nI k) (nI (popN (B k))) vm2 (by omega) (by omega) (Or.inr ⟨k, by omega, rfl, rfl⟩) fr2
          refine ⟨r, vm', fun F hF => ?_, fun F hF => ?_, a3⟩
          · obtain ⟨F, rfl⟩ : ∃ F', F = F' + 1 := ⟨F - 1, by omega⟩
            rw [fX9_corner_7, n1, if_neg c, if_inb bk, ck, b2, Option.bind_some, popC _ b1, Option.bind_some, if_neg (by rw [hy]; exact cp), fX9_corner_43, nI_1]
            exact a1 F (by omega)
          · obtain ⟨F, rfl⟩ : ∃ F', F = F' + 1 := ⟨F - 1, by omega⟩
            rw [fX10_corner_5, q3 63 1 (by unfold WQ; omega), n2, if_neg c, if_neg nb, e1, Option.bind_some, popM _ b1, Option.bind_some, hb, e3, Option.bind_some, popM _ t1, Option.bind_some, if_neg cp, fX10_corner_36, fX10_corner_38, nI_1]
            exact a2 F (by omega)
  obtain ⟨r, vm', a1, a2, a3⟩ := key ns 0 (-2) (-1) vi (by omega) (by omega) (Or.inl ⟨rfl, rfl⟩) (fun _ _ _ => rfl)
  exact ⟨r, a1 FU (by rw [FU_eq]; omega), vm', a2 FU (by rw [FU_eq]; omega), a3⟩
