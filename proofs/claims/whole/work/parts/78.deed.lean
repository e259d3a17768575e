/-! IN DEED: look, blow, sweep -/
theorem keep_loop {j n : Nat} (hj : j < 5) (hn : n ≤ 12) : ∀ (m k : Nat) (vm : VI), n - k = m → k ≤ n → vm 63 29 = nI j → vm 63 30 = nI n → ∃ vm', (∀ F, m < F → fX10_keepSill_15 F (nI k) vm = some vm') ∧ (∀ i, k ≤ i → i < n → vm' 68 (12 * j + i) = vm 82 i ∧ vm' 69 (12 * j + i) = vm 83 i) ∧ ∀ o i, ¬ ((o = 68 ∨ o = 69) ∧ 12 * j + k ≤ i ∧ i < 12 * j + 12) → vm' o i = vm o i := by
  intro m
  induction m with
  | zero =>
    intro k vm h1 h2 h29 h30
    refine ⟨vm, fun F hF => ?_, fun i a b => absurd a (by omega), fun _ _ _ => rfl⟩
    obtain ⟨F, rfl⟩ : ∃ F', F = F' + 1 := ⟨F - 1, by omega⟩
    rw [fX10_keepSill_15, h30, if_pos (by rw [tle, tnI (by omega), tnI (by omega)]; omega)]
  | succ m ih =>
    intro k vm h1 h2 h29 h30
    have ek : (12 * nI j + nI k : Int32) = nI (12 * j + k) := by rw [show (12 : Int32) = nI 12 from rfl, pk_mul, nI_add]
    have bk : 0 ≤ (nI (12 * j + k)).toInt ∧ (nI (12 * j + k)).toInt < (60 : Nat) := by rw [tnI (by omega)]; omega
    have b13 : 0 ≤ (nI k).toInt ∧ (nI k).toInt < (13 : Nat) := by rw [tnI (by omega)]; omega
    have c1 : (nI k).toNatClampNeg = k := nI_clamp (by omega)
    have c2 : (nI (12 * j + k)).toNatClampNeg = 12 * j + k := nI_clamp (by omega)
    obtain ⟨vm', e1, e2, e3⟩ := ih (k + 1) (j_up (j_up vm 68 (12 * j + k) (vm 82 k)) 69 (12 * j + k) (vm 83 k)) (by omega) (by omega) (by rw [up_o (by decide), up_o (by decide)]; exact h29) (by rw [up_o (by decide), up_o (by decide)]; exact h30)
    refine ⟨vm', fun F hF => ?_, fun i a b => ?_, fun o i q => ?_⟩
    · obtain ⟨F, rfl⟩ : ∃ F', F = F' + 1 := ⟨F - 1, by omega⟩
      rw [fX10_keepSill_15, h30, if_neg (by rw [tle, tnI (by omega), tnI (by omega)]; omega)]
      have u : ∀ (x : Int32) (i : Nat), (j_up vm 68 (12 * j + k) x) 63 i = vm 63 i := fun x i => up_o (by decide)
      have u2 : ∀ (x : Int32) (i : Nat), (j_up vm 68 (12 * j + k) x) 83 i = vm 83 i := fun x i => up_o (by decide)
      simp only [h29, ek, c1, c2, u, u2, if_inb b13, if_inb bk, nI_1]
      exact e1 F (by omega)
    · by_cases ci : i = k
      · subst ci
        rw [e3 68 _ (by omega), e3 69 _ (by omega), up_o (show (68 : Nat) ≠ 69 by decide), up_s, up_s]
        exact ⟨rfl, rfl⟩
      · obtain ⟨f1, f2⟩ := e2 i (by omega) b
        rw [f1, f2, up_o (by decide), up_o (by decide), up_o (by decide), up_o (by decide)]
        exact ⟨rfl, rfl⟩
    · rw [e3 o i (by omega), up_at, if_neg (by omega), up_at, if_neg (by omega)]
theorem keep_eq {j n : Nat} {vm : VI} (hj : j < 5) (hn : n ≤ 12) (h29 : vm 63 29 = nI j) (h30 : vm 63 30 = nI n) : ∃ vm', fX10_keepSill vm = some vm' ∧ vm' 67 j = nI n ∧ (∀ i, i < n → vm' 68 (12 * j + i) = vm 82 i ∧ vm' 69 (12 * j + i) = vm 83 i) ∧ ∀ o i, ¬ (o = 67 ∧ i = j) → ¬ ((o = 68 ∨ o = 69) ∧ 12 * j ≤ i ∧ i < 12 * j + 12) → vm' o i = vm o i := by
  unfold fX10_keepSill
  rw [h29, if_inb (by rw [tnI (by omega)]; omega), nI_clamp (by omega), h30]
  obtain ⟨vm', e1, e2, e3⟩ := keep_loop hj hn n 0 (j_up vm 67 j (nI n)) (by omega) (by omega) (by rw [up_o (by decide)]; exact h29) (by rw [up_o (by decide)]; exact h30)
  refine ⟨vm', e1 FU (by rw [FU_eq]; omega), ?_, fun i hi => ?_, fun o i q1 q2 => ?_⟩
  · rw [e3 67 j (by omega), up_s]
  · obtain ⟨f1, f2⟩ := e2 i (by omega) hi
    rw [f1, f2, up_o (by decide), up_o (by decide)]
    exact ⟨rfl, rfl⟩
  · rw [e3 o i (by omega), up_at, if_neg q1]
/-- dust, of two states -/
def I_dust2 (ns : Nat) (vc vm : VI) : Prop := ∀ j, j < ns → ∃ n : Nat, n ≤ 12 ∧ vc (99 + 5 * j) 2 = nI n ∧ vm 67 j = nI n ∧ ∀ k, k < n → vc (100 + 5 * j) k = vm 68 (12 * j + k) ∧ vc (101 + 5 * j) k = vm 69 (12 * j + k) ∧ rng (vm 68 (12 * j + k)) 0 5 ∧ rng (vm 69 (12 * j + k)) 1 99
theorem layNow_DP2 {ns j : Nat} {vc vm : VI} (hd : I_dust2 ns vc vm) (h5 : ns ≤ 5) (hj : j < ns) : ∃ n vm', fX10_layNow (nI j) vm = some vm' ∧ DP vc (99 + 5 * j) vm' n ∧ vm' 63 29 = nI j ∧ ∀ o i, o ≠ 82 → o ≠ 83 → ¬ (o = 63 ∧ (i = 29 ∨ i = 30)) → vm' o i = vm o i := by
  obtain ⟨n, d1, d2, d3, d4⟩ := hd j hj
  obtain ⟨vm', e1, e2, e3, e4, e5⟩ := layNow_eq (j := j) (n := n) (vm := vm) (by omega) d1 d3
  refine ⟨n, vm', e1, ⟨d1, d2, e3, fun k hk => ?_⟩, e2, e5⟩
  obtain ⟨f1, f2⟩ := e4 k hk
  obtain ⟨g1, g2, g3, g4⟩ := d4 k hk
  rw [f1, f2, show 99 + 5 * j + 1 = 100 + 5 * j by omega, show 99 + 5 * j + 2 = 101 + 5 * j by omega]
  exact ⟨g1, g2, g3, g4⟩
/-- one SILL is kept anew -/
theorem keep_dust {ns j n : Nat} {vc vc' vm vm1 : VI} (h5 : ns ≤ 5) (hd : I_dust2 ns vc vm) (hj : j < ns) (h : DP vc' (99 + 5 * j) vm1 n) (h29 : vm1 63 29 = nI j) (hc : ∀ a i, (99 ≤ a ∧ a ≠ 99 + 5 * j ∧ a % 5 = 4 ∧ i = 2) ∨ (100 ≤ a ∧ a ≠ 100 + 5 * j ∧ a ≠ 101 + 5 * j ∧ (a % 5 = 0 ∨ a % 5 = 1)) → vc' a i = vc a i) (hm : ∀ a i, 67 ≤ a → a ≤ 69 → vm1 a i = vm a i) : ∃ vm2, fX10_keepSill vm1 = some vm2 ∧ I_dust2 ns vc' vm2 ∧ ∀ o i, ¬ (67 ≤ o ∧ o ≤ 69) → vm2 o i = vm1 o i := by
  obtain ⟨h1, h2, h3, h4⟩ := h
  obtain ⟨vm2, e1, e2, e3, e4⟩ := keep_eq (j := j) (n := n) (by omega) h1 h29 h3
  refine ⟨vm2, e1, fun t ht => ?_, fun o i q => e4 o i (by omega) (by omega)⟩
  by_cases c : t = j
  · subst c
    refine ⟨n, h1, h2, e2, fun k hk => ?_⟩
    obtain ⟨f1, f2⟩ := e3 k hk
    obtain ⟨g1, g2, g3, g4⟩ := h4 k hk
    rw [f1, f2, show 100 + 5 * t = 99 + 5 * t + 1 by omega, show 101 + 5 * t = 99 + 5 * t + 2 by omega]
    exact ⟨g1, g2, g3, g4⟩
  · obtain ⟨n', d1, d2, d3, d4⟩ := hd t ht
    refine ⟨n', d1, (hc _ _ (by omega)).trans d2, by rw [e4 67 t (by omega) (by omega), hm 67 t (by omega) (by omega)]; exact d3, fun k hk => ?_⟩
    rw [hc (100 + 5 * t) k (by omega), hc (101 + 5 * t) k (by omega), e4 68 _ (by omega) (by omega), e4 69 _ (by omega) (by omega), hm 68 _ (by omega) (by omega), hm 69 _ (by omega) (by omega)]
    exact d4 k hk
/-- places that the class writes in deed; the model -/
def WD (a i : Nat) : Prop := (a = 5 ∧ i = 5) ∨ a = 7 ∨ a = 8 ∨ (99 ≤ a ∧ (a % 5 = 0 ∨ a % 5 = 1 ∨ a % 5 = 2 ∨ (a % 5 = 4 ∧ i = 2)))
def WN (a i : Nat) : Prop := WQ a i ∨ (67 ≤ a ∧ a ≤ 69)
def T2 (ns : Nat) (vc vm : VI) : Prop := I_law vc ∧ I_num ns vc ∧ I_cache ns vc ∧ (∀ j, j < ns → LawSame j vc vm) ∧ I_dust2 ns vc vm ∧ (∀ p, p < 6 → vm 66 p = vc 66 p) ∧ vm 63 1 = nI ns
theorem thicker_eq {n one : Nat} {much : Int32} {vm : VI} (hn : n ≤ 12) (h30 : vm 63 30 = nI n) : fX10_thickerBy (nI one) much vm = fX10_thickerBy_37 (nI one) much (if n ≠ 0 ∧ vm 82 (n - 1) = nI one then vm 83 (n - 1) else 0) vm := by
  unfold fX10_thickerBy fX10_thickerBy_36
  rw [h30]
  by_cases c : n = 0
  · subst c
    rw [if_pos (by decide), if_neg (fun q => q.1 rfl)]
  · obtain ⟨k, rfl⟩ : ∃ k, n = k + 1 := ⟨n - 1, by omega⟩
    have b : 0 ≤ (nI k).toInt ∧ (nI k).toInt < (13 : Nat) := by rw [tnI (by omega)]; omega
    rw [if_neg (by rw [tle, tnI (by omega), l0]; omega), nsub1 (by omega), if_inb b, nI_clamp (by omega), show k + 1 - 1 = k from rfl]
    by_cases c2 : vm 82 k = nI one
    · rw [if_pos c2, if_inb b, if_pos ⟨c, c2⟩]
    · rw [if_neg c2, if_neg (fun q => c2 q.2)]
theorem look_step {ns j : Nat} {vc vm : VI} (hj : j < ns) (h : T2 ns vc vm) {x : Int32} (hx : 0 ≤ x.toInt ∧ x.toInt ≤ 65) : ∃ (w u : Int32) (g : Int32) (vc' vm1 vm2 vm3 : VI), fX9_whomOf x = some w ∧ fX9_muchOf x vc = some u ∧ fX7_layOn (98 + 5 * j) (98 + 5 * j + 1) w u vc = some (g, vc') ∧ fX10_layNow (nI j) vm = some vm1 ∧ fX10_whomIn x = some w ∧ fX10_muchIn x vm1 = some u ∧ fX10_thickerBy w u vm1 = some (g, vm2) ∧ fX10_keepSill vm2 = some vm3 ∧ T2 ns vc' vm3 ∧ (∀ a i, ¬ WD a i → vc' a i = vc a i) ∧ ∀ a i, ¬ WN a i → vm3 a i = vm a i := by
  obtain ⟨k1, k2, k3, k4, k5, k6, k7⟩ := h
  have h5 := k2.1
  obtain ⟨n, vm1, a1, a2, a3, a4⟩ := layNow_DP2 k5 h5 hj
  have frm1 : ∀ a i, ¬ WQ a i → vm1 a i = vm a i := fun a i q => a4 a i (by unfold WQ at q; omega) (by unfold WQ at q; omega) (by unfold WQ at q; omega)
  obtain ⟨w, hw, w1, w2⟩ := whom_eq hx
  have m66 : ∀ p, p < 6 → vm1 66 p = vc 66 p := fun p hp => (frm1 66 p (by unfold WQ; omega)).trans (k6 p hp)
  obtain ⟨u, hu, u1, u2⟩ := much_eq (vi := vc) (vm := vm1) k2.2.2.2.2.1 m66 hx
  have ho : okO (99 + 5 * j) := Or.inr ⟨by omega, by omega⟩
  have hR : R1 ns j (99 + 5 * j) vc vm1 n := ⟨k1, k2, k3, same_wm (k4 j hj) frm1, a2, a3, m66⟩
  obtain ⟨l, g, vc', vm2, n', l9, b1, b2, b3, -, b4, b5, -, -, b6, b7⟩ := lay_both hj ho hR hw hu
  have frc : ∀ a i, ¬ WD a i → vc' a i = vc a i := fun a i q => b6 a i (by unfold WD at q; unfold WL; omega)
  have frm2 : ∀ a i, ¬ WQ a i → vm2 a i = vm a i := fun a i q => (b7 a i q).trans (frm1 a i q)
  obtain ⟨r1, r2, r3, r4, r5, r6, r7⟩ := b3
  obtain ⟨vm3, d1, d2, d3⟩ := keep_dust h5 k5 hj r5 r6 (fun a i q => b6 a i (by unfold WL; omega)) (fun a i q1 q2 => frm2 a i (by unfold WQ; omega))
  have frm3 : ∀ a i, ¬ WN a i → vm3 a i = vm a i := fun a i q => (d3 a i (by unfold WN at q; omega)).trans (frm2 a i fun z => q (Or.inl z))
  refine ⟨nI w, nI u, g, vc', vm1, vm2, vm3, w1, u1, by rw [show 98 + 5 * j + 1 = 99 + 5 * j by omega]; exact b1, a1, w2, u2, ?_, d1, ⟨r1, r2, r3, fun t ht => ?_, d2, fun p hp => ?_, (frm3 63 1 (by unfold WN WQ; omega)).trans k7⟩, frc, frm3⟩
  · rw [thicker_eq a2.1 a2.2.2.1, fX10_thickerBy_37, b2, Option.bind_some]
    by_cases c : l = 0
    · subst c
      rw [b4 rfl]
      rfl
    · obtain ⟨n0, e1, e2⟩ := b5 c
      have hn' := r5.1
      have e30 : vm2 63 30 = nI n' := r5.2.2.1
      subst e1
      simp only [e30, nsub1 (show n0 < 100000 by omega), nI_clamp (show n0 < 2 ^ 31 by omega)]
      rw [if_neg (by rw [teq, tnI (by omega), l0]; omega), if_inb (by rw [tnI (by omega)]; omega), e2]
  · have := k4 t ht
    refine ⟨?_, ?_, ?_, ?_, fun a i p q => ?_⟩
    · rw [frc 64 t (by unfold WD; omega), frm3 64 t (by unfold WN WQ; omega)]; exact this.1
    · rw [frc 65 t (by unfold WD; omega), frm3 65 t (by unfold WN WQ; omega)]; exact this.2.1
    · rw [frc 63 5 (by unfold WD; omega), frm3 63 5 (by unfold WN WQ; omega)]; exact this.2.2.1
    · rw [frc 63 28 (by unfold WD; omega), frm3 63 28 (by unfold WN WQ; omega)]; exact this.2.2.2.1
    · rw [frc a i (by unfold WD; omega), frm3 a i (by unfold WN WQ; omega)]; exact this.2.2.2.2 a i p q
  · rw [frm3 66 p (by unfold WN WQ; omega), k6 p hp, frc 66 p (by unfold WD; omega)]
theorem look_loop {ns : Nat} {x : Int32} (hx : 0 ≤ x.toInt ∧ x.toInt ≤ 65) : ∀ (m k : Nat) (y : Int32) (vc vm : VI), ns - k = m → k ≤ ns → T2 ns vc vm → ∃ r vc' vm', (∀ F, m < F → fX9_look_13 ns F x y (nI k) vc = some (r, j_up (j_up vc' 23 0 (vc' 23 0 + 1)) 23 1 (vc' 23 1 + r))) ∧ (∀ F, m < F → fX10_look_16 F x y (nI k) vm = some (r, j_up (j_up vm' 87 0 (vm' 87 0 + 1)) 87 1 (vm' 87 1 + r))) ∧ T2 ns vc' vm' ∧ (∀ a i, ¬ WD a i → vc' a i = vc a i) ∧ ∀ a i, ¬ WN a i → vm' a i = vm a i := by
  intro m
  induction m with
  | zero =>
    intro k y vc vm q1 q2 q3
    have : k = ns := by omega
    subst this
    have c : nI k ≤ nI k := by rw [tle]; omega
    have n1 : vc 0 1 = nI k := q3.2.1.2.1
    have n2 : vm 63 1 = nI k := q3.2.2.2.2.2.2
    refine ⟨y, vc, vm, fun F hF => ?_, fun F hF => ?_, q3, fun _ _ _ => rfl, fun _ _ _ => rfl⟩
    · obtain ⟨F, rfl⟩ : ∃ F', F = F' + 1 := ⟨F - 1, by omega⟩
      rw [fX9_look_13, n1, if_pos c]
      simp only [show (0 : Int32).toNatClampNeg = 0 from rfl, show (1 : Int32).toNatClampNeg = 1 from rfl]
      rw [up_i (show (1 : Nat) ≠ 0 by decide)]
    · obtain ⟨F, rfl⟩ : ∃ F', F = F' + 1 := ⟨F - 1, by omega⟩
      rw [fX10_look_16, n2, if_pos c]
      simp only [show (0 : Int32).toNatClampNeg = 0 from rfl, show (1 : Int32).toNatClampNeg = 1 from rfl]
      rw [up_i (show (1 : Nat) ≠ 0 by decide)]
  | succ m ih =>
    intro k y vc vm q1 q2 q3
    have h5 := q3.2.1.1
    have n1 : vc 0 1 = nI ns := q3.2.1.2.1
    have n2 : vm 63 1 = nI ns := q3.2.2.2.2.2.2
    have c : ¬ nI ns ≤ nI k := by rw [tle, tnI (by omega), tnI (by omega)]; omega
    have bk : 0 ≤ (nI k).toInt ∧ (nI k).toInt < ns := by rw [tnI (by omega)]; omega
    have ck : (nI k).toNatClampNeg = k := nI_clamp (by omega)
    obtain ⟨w, u, g, vc1, vm1, vm2, vm3, e1, e2, e3, e4, e5, e6, e7, e8, e9, e10, e11⟩ := look_step (j := k) (by omega) q3 hx
    obtain ⟨r, vc', vm', a1, a2, a3, a4, a5⟩ := ih (k + 1) (y + g) vc1 vm3 (by omega) (by omega) e9
    refine ⟨r, vc', vm', fun F hF => ?_, fun F hF => ?_, a3, fun a i q => (a4 a i q).trans (e10 a i q), fun a i q => (a5 a i q).trans (e11 a i q)⟩
    · obtain ⟨F, rfl⟩ : ∃ F', F = F' + 1 := ⟨F - 1, by omega⟩
      rw [fX9_look_13, n1, if_neg c, if_inb bk, ck, e1, Option.bind_some, e2, Option.bind_some, e3, Option.bind_some, nI_1]
      exact a1 F (by omega)
    · obtain ⟨F, rfl⟩ : ∃ F', F = F' + 1 := ⟨F - 1, by omega⟩
      rw [fX10_look_16, n2, if_neg c, e4, Option.bind_some, e5, Option.bind_some, e6, Option.bind_some, e7, Option.bind_some, e8, Option.bind_some, nI_1]
      exact a2 F (by omega)
/-- what a deed leaves -/
def LeftD (ns : Nat) (vi vc vm vm' : VI) : Prop := I_cache ns vc ∧ I_dust2 ns vc vm' ∧ (∀ k, k < 5 → vc 23 k = vm' 87 k) ∧ (∀ a i, ¬ WD a i → a ≠ 23 → vc a i = vi a i) ∧ ∀ a i, ¬ WN a i → a ≠ 87 → vm' a i = vm a i
def Deed (ns : Nat) (vi : VI) (C : Option (Int32 × VI)) (M : VI → Option (Int32 × VI)) : Prop := ∃ r vi1, C = some (r, vi1) ∧ ∃ vi2, M vi1 = some (r, vi2) ∧ I_cache ns vi2 ∧ I_dust ns vi2 ∧ I_led vi2 ∧ ∀ o i, ¬ WD o i → ¬ WN o i → o ≠ 23 → o ≠ 87 → vi2 o i = vi o i
theorem deed_of {ns : Nat} {vi : VI} {C : Option (Int32 × VI)} {M : VI → Option (Int32 × VI)} (h : ∀ vm, Agree vi vm → ∃ r vc' vm', C = some (r, vc') ∧ M vm = some (r, vm') ∧ LeftD ns vi vc' vm vm') : Deed ns vi C M := by
  obtain ⟨r, vi1, e1, vi2, e2, g1, g2, g3, g4, g5⟩ := two (Q := fun a b c => LeftD ns vi a b c) fun vm hv => by
    obtain ⟨r, vc', vm', f1, f2, f3⟩ := h vm hv
    exact ⟨r, vc', vm', f1, f2, fun o i q1 q2 _ => f3.2.2.2.1 o i (by unfold WD; omega) (by omega), f3⟩
  refine ⟨r, vi1, e1, vi2, e2, cache_plain g1 fun a i q => g5 a i (by unfold WN WQ; omega) (by omega), fun j hj => ?_, fun k hk => ?_, fun o i q1 q2 q3 q4 => (g5 o i q2 q4).trans (g4 o i q1 q3)⟩
  · obtain ⟨n, d1, d2, d3, d4⟩ := g2 j hj
    refine ⟨n, d1, (g5 _ _ (by unfold WN WQ; omega) (by omega)).trans d2, d3, fun k hk => ?_⟩
    rw [g5 (100 + 5 * j) k (by unfold WN WQ; omega) (by omega), g5 (101 + 5 * j) k (by unfold WN WQ; omega) (by omega)]
    exact d4 k hk
  · rw [g5 23 k (by unfold WN WQ; omega) (by omega)]
    exact g3 k hk
theorem dust2_of {ns : Nat} {vi vm : VI} (hd : I_dust ns vi) (hv : Agree vi vm) : I_dust2 ns vi vm := by
  intro j hj
  obtain ⟨n, d1, d2, d3, d4⟩ := hd j hj
  refine ⟨n, d1, d2, (ag hv _ _ (by omega)).trans d3, fun k hk => ?_⟩
  rw [ag hv 68 _ (by omega), ag hv 69 _ (by omega)]
  exact d4 k hk
theorem led_ag {vi vm : VI} (h : I_led vi) (hv : Agree vi vm) : ∀ k, k < 5 → vi 23 k = vm 87 k := fun k hk => by rw [ag hv 87 k (by omega)]; exact h k hk
theorem deed_same {ns : Nat} {vi : VI} {C : Option (Int32 × VI)} {M : VI → Option (Int32 × VI)} {r : Int32} (hc : I_cache ns vi) (hd : I_dust ns vi) (hl : I_led vi) (h1 : C = some (r, vi)) (h2 : ∀ vm, Agree vi vm → M vm = some (r, vm)) : Deed ns vi C M := deed_of fun vm hv => ⟨r, vi, vm, h1, h2 vm hv, hc, dust2_of hd hv, led_ag hl hv, fun _ _ _ _ => rfl, fun _ _ _ _ => rfl⟩
theorem p_look {ns : Nat} {vi : VI} (hl : I_law vi) (hn : I_num ns vi) (hc : I_cache ns vi) (hd : I_dust ns vi) (hg : I_led vi) (x1 : Int32) : Deed ns vi (fX9_look ns x1 vi) (fX10_look x1) := by
  have h5 := hn.1
  unfold fX9_look
  rw [looking9_eq]
  simp only [Option.bind_some, decide_eq_true_eq]
  by_cases c : 0 ≤ x1.toInt ∧ x1.toInt ≤ 65
  · rw [if_pos c]
    refine deed_of fun vm hv => ?_
    have t2 : T2 ns vi vm := ⟨hl, hn, hc, fun j _ => ⟨(ag hv _ _ (by omega)).symm, (ag hv _ _ (by omega)).symm, (ag hv _ _ (by omega)).symm, (ag hv _ _ (by omega)).symm, fun o i p q => (ag hv o i (by omega)).symm⟩, dust2_of hd hv, fun p _ => ag hv 66 p (by omega), (ag hv 63 1 (by omega)).trans hn.2.2.1⟩
    obtain ⟨r, vc', vm', a1, a2, a3, a4, a5⟩ := look_loop c ns 0 0 vi vm (by omega) (by omega) t2
    have b1 := a1 FU (by rw [FU_eq]; omega)
    have b2 := a2 FU (by rw [FU_eq]; omega)
    rw [show nI 0 = (0 : Int32) from rfl] at b1 b2
    refine ⟨r, j_up (j_up vc' 23 0 (vc' 23 0 + 1)) 23 1 (vc' 23 1 + r), j_up (j_up vm' 87 0 (vm' 87 0 + 1)) 87 1 (vm' 87 1 + r), b1, ?_, cache_plain a3.2.2.1 fun a i q => ?_, fun j hj => ?_, fun k hk => ?_, fun a i q1 q2 => ?_, fun a i q1 q2 => ?_⟩
    · unfold fX10_look
      rw [in_eq]
      simp only [Option.bind_some, decide_eq_true_eq, l0, l65, if_pos c]
      exact b2
    · rw [up_o (by omega), up_o (by omega)]
    · obtain ⟨n, d1, d2, d3, d4⟩ := a3.2.2.2.2.1 j hj
      refine ⟨n, d1, by rw [up_o (by omega), up_o (by omega)]; exact d2, by rw [up_o (by omega), up_o (by omega)]; exact d3, fun k hk => ?_⟩
      simp only [up_o (show 100 + 5 * j ≠ 23 by omega), up_o (show 101 + 5 * j ≠ 23 by omega), up_o (show (68 : Nat) ≠ 87 by omega), up_o (show (69 : Nat) ≠ 87 by omega)]
      exact d4 k hk
    · have e : ∀ k, k < 5 → vc' 23 k = vm' 87 k := fun k hk => by
        rw [a4 23 k (by unfold WD; omega), a5 87 k (by unfold WN WQ; omega)]
        exact led_ag hg hv k hk
      by_cases k1 : k = 1
      · rw [k1, up_s, up_s, e 1 (by omega)]
      · rw [up_i k1, up_i k1]
        by_cases k0 : k = 0
        · rw [k0, up_s, up_s, e 0 (by omega)]
        · rw [up_i k0, up_i k0]; exact e k hk
    · rw [up_o q2, up_o q2]; exact a4 a i q1
    · rw [up_o q2, up_o q2]; exact a5 a i q1
  · rw [if_neg c]
    refine deed_same (r := -1) hc hd hg rfl fun vm hv => ?_
    unfold fX10_look
    rw [in_eq]
    simp only [Option.bind_some, decide_eq_true_eq, l0, l65, if_neg c]
theorem p_blow {ns : Nat} {vi : VI} (hn : I_num ns vi) (hc : I_cache ns vi) (hd : I_dust ns vi) (hg : I_led vi) (x1 x2 : Int32) : Deed ns vi (fX9_blow ns x1 x2 vi) (fX10_blow x1 x2) := by
  have h5 := hn.1
  have n1 := hn.2.1
  have n2 := hn.2.2.1
  unfold fX9_blow
  rw [sillAt_eq h5 n1]
  simp only [Option.bind_some, within_eq, decide_eq_true_eq, l99]
  by_cases c1 : 0 ≤ x1.toInt ∧ x1.toInt < ns
  · by_cases c2 : 0 ≤ x2.toInt ∧ x2.toInt ≤ 99
    · obtain ⟨j, hj, rfl⟩ := ex_nI c1.1 c1.2 (by omega)
      obtain ⟨l, hl, rfl⟩ := ex_nI (x := x2) (N := 100) c2.1 (by omega) (by omega)
      rw [if_pos c1, nI_clamp (by omega)]
      simp only [optS, if_pos c2]
      refine deed_of fun vm hv => ?_
      obtain ⟨n, vm1, a1, a2, a3, a4⟩ := layNow_DP2 (dust2_of hd hv) h5 hj
      obtain ⟨r, vc', vm2, n', -, b1, b2, b3, b4, b5⟩ := take_both a2 (show l ≤ 99 by omega)
      have f2 : ∀ a i, ¬ WQ a i → vm2 a i = vm a i := fun a i q => (b5 a i (by unfold WQ at q; omega) (by unfold WQ at q; omega)).trans (a4 a i (by unfold WQ at q; omega) (by unfold WQ at q; omega) (by unfold WQ at q; omega))
      obtain ⟨vm3, d1, d2, d3⟩ := keep_dust h5 (dust2_of hd hv) hj b3 ((b5 63 29 (by omega) (by omega)).trans a3) (fun a i q => b4 a i (by omega) (by omega)) (fun a i q1 q2 => f2 a i (by unfold WQ; omega))
      have f3 : ∀ a i, ¬ WN a i → vm3 a i = vm a i := fun a i q => (d3 a i (by unfold WN at q; omega)).trans (f2 a i fun z => q (Or.inl z))
      refine ⟨r, j_up vc' 23 2 (vc' 23 2 + r), j_up vm3 87 2 (vm3 87 2 + r), ?_, ?_, cache_plain hc fun a i q => ?_, fun t ht => ?_, fun k hk => ?_, fun a i q1 q2 => ?_, fun a i q1 q2 => ?_⟩
      · rw [show 98 + 5 * j + 1 = 99 + 5 * j by omega, b1]; rfl
      · unfold fX10_blow
        rw [isSill_eq h5 (agree_ns n2 hv)]
        simp only [Option.bind_some, in_eq, decide_eq_true_eq, l99, l0, if_pos c1, if_pos c2]
        rw [a1, Option.bind_some, b2]
        simp only [Option.bind_some]
        rw [d1]
        rfl
      · rw [up_o (by omega), b4 a i (by omega) (by omega)]
      · obtain ⟨n0, e1, e2, e3, e4⟩ := d2 t ht
        refine ⟨n0, e1, by rw [up_o (by omega)]; exact e2, by rw [up_o (by omega)]; exact e3, fun k hk => ?_⟩
        rw [up_o (by omega), up_o (by omega), up_o (by omega), up_o (by omega)]
        exact e4 k hk
      · have e : ∀ k, k < 5 → vc' 23 k = vm3 87 k := fun k hk => by
          rw [b4 23 k (by omega) (by omega), f3 87 k (by unfold WN WQ; omega)]
          exact led_ag hg hv k hk
        by_cases k1 : k = 2
        · rw [k1, up_s, up_s, e 2 (by omega)]
        · rw [up_i k1, up_i k1]; exact e k hk
      · rw [up_o q2]; exact b4 a i (by unfold WD at q1; omega) (by unfold WD at q1; omega)
      · rw [up_o q2]; exact f3 a i q1
    · refine deed_same (r := -1) hc hd hg ?_ fun vm hv => ?_
      · rw [if_pos c1]
        simp only [optS, if_neg c2]
      · unfold fX10_blow
        rw [isSill_eq h5 (agree_ns n2 hv)]
        simp only [Option.bind_some, in_eq, decide_eq_true_eq, l99, l0, if_pos c1, if_neg c2]
  · refine deed_same (r := -1) hc hd hg ?_ fun vm hv => ?_
    · rw [if_neg c1]; rfl
    · unfold fX10_blow
      rw [isSill_eq h5 (agree_ns n2 hv)]
      simp only [Option.bind_some, decide_eq_true_eq, if_neg c1]
theorem p_sweep {ns : Nat} {vi : VI} (hn : I_num ns vi) (hc : I_cache ns vi) (hd : I_dust ns vi) (hg : I_led vi) (x1 : Int32) : Deed ns vi (fX9_sweep ns x1 vi) (fX10_sweep x1) := by
  have h5 := hn.1
  have n1 := hn.2.1
  have n2 := hn.2.2.1
  have z3 : (3 : Int32).toNatClampNeg = 3 := rfl
  have z4 : (4 : Int32).toNatClampNeg = 4 := rfl
  unfold fX9_sweep
  rw [sillAt_eq h5 n1]
  simp only [Option.bind_some]
  by_cases c1 : 0 ≤ x1.toInt ∧ x1.toInt < ns
  · obtain ⟨j, hj, rfl⟩ := ex_nI c1.1 c1.2 (by omega)
    rw [if_pos c1, nI_clamp (by omega)]
    simp only [optS]
    refine deed_of fun vm hv => ?_
    obtain ⟨n, vm1, a1, a2, a3, a4⟩ := layNow_DP2 (dust2_of hd hv) h5 hj
    obtain ⟨s, -, -, s1, s2⟩ := allThick_both a2
    have f1 : ∀ a i, ¬ WQ a i → vm1 a i = vm a i := fun a i q => a4 a i (by unfold WQ at q; omega) (by unfold WQ at q; omega) (by unfold WQ at q; omega)
    have e : ∀ k, k < 5 → vi 23 k = vm1 87 k := fun k hk => by
      rw [f1 87 k (by unfold WQ; omega)]
      exact led_ag hg hv k hk
    rw [show 98 + 5 * j + 1 = 99 + 5 * j by omega, s1]
    simp only [Option.bind_some, z3, z4]
    refine ⟨nI s, _, j_up (j_up (j_up vm1 67 j 0) 87 3 (vm1 87 3 + nI s)) 87 4 (vm1 87 4 + 1), rfl, ?_, cache_plain hc fun a i q => ?_, fun t ht => ?_, fun k hk => ?_, fun a i q1 q2 => ?_, fun a i q1 q2 => ?_⟩
    · unfold fX10_sweep
      rw [isSill_eq h5 (agree_ns n2 hv)]
      simp only [Option.bind_some, decide_eq_true_eq, if_pos c1]
      rw [a1, Option.bind_some, s2, Option.bind_some, if_inb (by omega), nI_clamp (by omega)]
      simp only [z3, z4]
      rw [up_i (show (4 : Nat) ≠ 3 by decide), up_o (show (87 : Nat) ≠ 67 by decide), up_o (show (87 : Nat) ≠ 67 by decide)]
    · rw [up_o (by omega), up_o (by omega), up_at, if_neg (by omega)]
    · by_cases c : t = j
      · subst c
        refine ⟨0, by omega, by rw [up_o (by omega), up_o (by omega), up_s]; rfl, by rw [up_o (by omega), up_o (by omega), up_s]; rfl, fun k hk => absurd hk (by omega)⟩
      · obtain ⟨n0, d1, d2, d3, d4⟩ := dust2_of hd hv t ht
        refine ⟨n0, d1, by rw [up_o (by omega), up_o (by omega), up_o (by omega)]; exact d2, by rw [up_o (by omega), up_o (by omega), up_i c, f1 67 t (by unfold WQ; omega)]; exact d3, fun k hk => ?_⟩
        rw [up_o (show 100 + 5 * t ≠ 23 by omega), up_o (show 100 + 5 * t ≠ 23 by omega), up_o (show 100 + 5 * t ≠ 99 + 5 * j by omega), up_o (show 101 + 5 * t ≠ 23 by omega), up_o (show 101 + 5 * t ≠ 23 by omega), up_o (show 101 + 5 * t ≠ 99 + 5 * j by omega), up_o (show (68 : Nat) ≠ 87 by omega), up_o (show (68 : Nat) ≠ 87 by omega), up_o (show (68 : Nat) ≠ 67 by omega), up_o (show (69 : Nat) ≠ 87 by omega), up_o (show (69 : Nat) ≠ 87 by omega), up_o (show (69 : Nat) ≠ 67 by omega), f1 68 _ (by unfold WQ; omega), f1 69 _ (by unfold WQ; omega)]
        exact d4 k hk
    · rw [up_i (show (4 : Nat) ≠ 3 by decide), up_o (show (23 : Nat) ≠ 99 + 5 * j by omega), up_o (show (23 : Nat) ≠ 99 + 5 * j by omega)]
      by_cases k4 : k = 4
      · rw [k4, up_s, up_s, e 4 (by omega)]
      · rw [up_i k4, up_i k4]
        by_cases k3 : k = 3
        · rw [k3, up_s, up_s, e 3 (by omega)]
        · rw [up_i k3, up_i k3, up_o (show (23 : Nat) ≠ 99 + 5 * j by omega), up_o (show (87 : Nat) ≠ 67 by decide)]; exact e k hk
    · rw [up_o q2, up_o q2, up_at, if_neg (by unfold WD at q1; omega)]
    · rw [up_o q2, up_o q2, up_o (by unfold WN at q1; omega)]; exact f1 a i fun z => q1 (Or.inl z)
  · refine deed_same (r := -1) hc hd hg ?_ fun vm hv => ?_
    · rw [if_neg c1]; rfl
    · unfold fX10_sweep
      rw [isSill_eq h5 (agree_ns n2 hv)]
      simp only [Option.bind_some, decide_eq_true_eq, if_neg c1]
